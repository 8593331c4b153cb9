/-! THE CLASS: Reader, more lines -/
theorem s_X8_readPlaces {M : aM} {W : aW} {Q : Int → aM → aW → Prop} {tp : Int → Int} {n c a : Int} {G : Lnd} (n0 : 0 ≤ n) (n1 : n ≤ 600) (hk : cty c) (hS : rdS tp n c a G M) (ht : tK tp n a ≠ 13) (k1 : ∀ x e N, frD c M N → rdF N x (tS tp n e) → (rdPls tp n G a) = flt tp n x e → Q 0 N W) (k2 : ∀ b H N, frD c M N → rdS tp n c b H N → a < b → (rdPls tp n G a) = Sum.inr (b, H) → Q 1 N W) : CallI 90 [vR 20] (M, W) Q := by
  have hc := ct_rng hk
  have key : ∀ (k : Nat) (i b : Int) (H : Lnd) (N : aM), 0 ≤ i → i + k = 11 → a < b → i ≤ (H 0 0) → frD c M N → rdS tp n c b H N → rdPls tp n G a = rdPl tp n k H b → Xs 90 (27, [some (some (vR 20)), some (some (vI i))], [], (N, W)) (QI Q) := by
    intro k
    induction k with
    | zero =>
      intro i b H N i0 ik hb hi hf S e
      refine k_X8_readPlaces_27 _ _ _ _ ?_
      exact ⟨by omega, fun _ => k2 b H N hf S hb (by rw [e]; rfl), fun q => by omega⟩
    | succ k ih =>
      intro i b H N i0 ik hb hi hf S e
      have hw := S.pw
      have hN := hw.1.N; unfold wfN at hN
      have r1 := tK_rng tp n b
      have v1 := tV_rng (tp := tp) n0 b
      have es : rdPl tp n (k + 1) H b = if tK tp n b ≠ 10 then Sum.inr (b, H) else if 10 ≤ (H 0 0) then flt tp n 2 b else if 0 ≤ fnd (H 9) (tV tp n b) ((H 0 0)) then flt tp n 3 b else rdPl tp n k (addP H (tV tp n b)) (b + 1) := rfl
      rw [es] at e
      have e0 : N c 0 = (H 0 0) := S.cl.1 0
      refine k_X8_readPlaces_27 _ _ _ _ ?_
      rw [S.i9, S.i7, e0]
      refine ⟨by omega, fun q => by omega, fun _ => ⟨by omega, fun q => ?_, fun q => ⟨ct_o hk, by omega, fun q2 => ⟨ct_o hk, ?_⟩, fun q2 => ?_⟩⟩⟩
      · rw [if_pos q] at e
        exact k2 b H N hf S hb e
      · rw [if_neg q, if_neg (by omega)] at e
        have e25 : (N 25) = H 9 := funext S.nm.1
        refine s_X8_numberOf (L := 10) rfl rfl hN.1.1 hN.1.2 (by decide) (fun j j0 j1 => ?_) (by rw [S.i10]; omega) ?_
        · rw [S.nm.1 j]; have := hw.2.2.1 j j0 j1; omega
        · rw [e25, S.i10, S.i7, e0]
          have fr := fnd_rng (H 9) (tV tp n b) ((H 0 0)) hN.1.1
          have u7 : up_ N 25 ((H 0 0)) (tV tp n b) 20 7 = c := by rw [up_b _ _ _ _ (by decide)]; exact S.i7
          have u0 : up_ N 25 ((H 0 0)) (tV tp n b) c 0 = (H 0 0) := by rw [up_b _ _ _ _ (by omega)]; exact e0
          rw [u7, u0]
          have u8 : up_ (up_ N 25 ((H 0 0)) (tV tp n b)) c 0 ((H 0 0) + 1) 20 8 = b := by rw [up_b _ _ _ _ (by omega), up_b _ _ _ _ (by decide)]; exact S.i8
          rw [u8]
          refine ⟨by omega, fun g => ⟨ct_o hk, by omega, ct_o hk, ct_o hk, ?_⟩, fun g => ?_⟩
          · rw [if_neg (by omega)] at e
            have S' : rdS tp n c b (addP H (tV tp n b)) (up_ (up_ N 25 ((H 0 0)) (tV tp n b)) c 0 ((H 0 0) + 1)) := by
              refine S.gr hk (fun x j q1 q2 q3 => by rw [up_b _ _ _ _ (by omega), up_b _ _ _ _ q2]) ?_ ⟨fun j => ?_, fun j => ?_⟩ (addP_W hw q2 v1.1 v1.2)
              · exact ((S.cl.off hk (by decide)).hi (by decide)).up0
              · have z1 : up_ (up_ N 25 ((H 0 0)) (tV tp n b)) c 0 ((H 0 0) + 1) 25 j = up_ N 25 ((H 0 0)) (tV tp n b) 25 j := up_b _ _ _ _ (by omega)
                have z2 : addP H (tV tp n b) 9 j = up_ H 9 ((H 0 0)) (tV tp n b) 9 j := up_b _ _ _ _ (by decide)
                rw [z1, z2]
                by_cases x : j = (H 0 0)
                · rw [x, up_s, up_s]
                · rw [up_j _ _ _ x, up_j _ _ _ x]; exact S.nm.1 j
              · unfold addP; rw [up_b _ _ _ _ (by omega), up_b _ _ _ _ (by decide), up_b _ _ _ _ (by decide), up_b _ _ _ _ (by decide)]; exact S.nm.2 j
            have ff : frD c N (up_ (up_ N 25 ((H 0 0)) (tV tp n b)) c 0 ((H 0 0) + 1)) := fun x j q1 q2 q3 q4 => by rw [up_b _ _ _ _ (by omega), up_b _ _ _ _ q2]
            refine t_move n0 n1 hk S' rfl (by omega) (fun N2 f2 S2 => ?_)
            refine ih (i + 1) (b + 1) (addP H (tV tp n b)) N2 (by omega) (by omega) (by omega) ?_ (frD_tr hf (frD_tr ff (frD_20 f2))) S2 e
            have : ((addP H (tV tp n b)) 0 0) = (H 0 0) + 1 := up_s _ _ _ _
            omega
          · rw [if_pos (by omega)] at e
            exact t_fail n0 n1 hk S (fun N2 f2 t2 => ⟨by decide, k1 3 b N2 (frD_tr hf (frD_20 f2)) t2 e⟩)
      · rw [if_neg q, if_pos (by omega)] at e
        exact t_fail n0 n1 hk S (fun N2 f2 t2 => ⟨by decide, k1 2 b N2 (frD_tr hf (frD_20 f2)) t2 e⟩)
  have hN := hS.pw.1.N; unfold wfN at hN
  refine e_X8_readPlaces _ _ _ ?_
  rw [hS.i8]
  refine t_move n0 n1 hk hS rfl ht (fun N1 f1 S1 => ?_)
  have r1 := tK_rng tp n (a + 1)
  rw [S1.i9]
  refine ⟨by omega, fun g => ?_, fun g => ?_⟩
  · exact key 11 0 (a + 1) G N1 (by decide) (by decide) (by omega) hN.1.1 (frD_20 f1) S1 (by unfold rdPls; rw [if_neg (by omega)])
  · exact t_fail n0 n1 hk S1 (fun N2 f2 t2 => ⟨by decide, k1 1 (a + 1) N2 (frD_20 (fr20_tr f1 f2)) t2 (by unfold rdPls; rw [if_pos g])⟩)
theorem s_X8_readDoubts {M M0 : aM} {W : aW} {Q : Int → aM → aW → Prop} {tp : Int → Int} {n c a b p q h : Int} {G : Lnd} (n0 : 0 ≤ n) (n1 : n ≤ 600) (hk : cty c) (hS : rdS tp n c b G M) (hab : a < b) (hf : frD c M0 M) (hR : (G 0 2) < 24) (p0 : 0 ≤ p) (p1 : p < (G 0 0)) (q0 : 0 ≤ q) (q1 : q < (G 0 0)) (hpq : p ≠ q) (hb : (G 4 (p * 10 + q)) < 0) (h0 : 1 ≤ h) (h1 : h ≤ 99) (k1 : ∀ x e N, frD c M0 N → rdF N x (tS tp n e) → rdD1 tp n G p q h b = flt tp n x e → Q 0 N W) (k2 : ∀ b' H N, frD c M0 N → rdS tp n c b' H N → a < b' → rdD1 tp n G p q h b = Sum.inr (b', H) → Q 1 N W) : CallI 93 [vR 20, vI p, vI q, vI h] (M, W) Q := by
  have hw := hS.pw
  have hN := hw.1.N; unfold wfN at hN
  have hc := ct_rng hk
  have last : ∀ (N : aM) (z d e w : Int), frD c M0 N → rdS tp n c z G N → a < z → 0 ≤ d → d ≤ 9 → -1 ≤ e → e < (G 0 1) → 0 ≤ w → w ≤ 99 → (¬ (0 < d ∨ 0 ≤ e) → w = 0) → ((0 < d ∨ 0 ≤ e) → (G 0 3) < 6) → rdD1 tp n G p q h b = Sum.inr (z, addR G p q h d e w) → Xs 93 (150, [some (some (vR 20)), some (some (vI p)), some (some (vI q)), some (some (vI h)), some (some (vI d)), some (some (vI e)), some (some (vI w))], [], (N, W)) (QI Q) := by
    intro N z d e w f S hz d0 d1 e0 e1 w0 w1 hw0 hD er
    refine k_X8_readDoubts_150 _ _ _ _ _ _ _ _ _ ?_
    rw [S.i7]
    refine ⟨ct_o hk, s_X3_addRoad hk S.cl hw.1 hR hD p0 (by omega) q0 (by omega) hpq (by omega) (by omega) (fun K a1 a2 => k2 z (addR G p q h d e w) K (frD_tr f (fun x j q1 q2 q3 q4 => a1 x j q4)) (S.gr hk (fun x j q1 q2 q3 => a1 x j q1) a2 (rdN_k S.nm (fun j => addR_r (by decide) (by decide) (by decide) (by decide) (by decide)) (fun j => addR_r (by decide) (by decide) (by decide) (by decide) (by decide)) (fun j => a1 25 j (by omega)) (fun j => a1 26 j (by omega))) (addR_W hw hR hD p0 p1 q0 q1 hpq hb h0 h1 d0 d1 e0 e1 w0 w1 hw0)) hz er)⟩
  have st3 : ∀ (N : aM) (z d e : Int), frD c M0 N → rdS tp n c z G N → a < z → 0 ≤ d → d ≤ 9 → -1 ≤ e → e < (G 0 1) → ((0 < d ∨ 0 ≤ e) → (G 0 3) < 6) → rdD1 tp n G p q h b = rdD3 tp n G p q h d e z → Xs 93 (107, [some (some (vR 20)), some (some (vI p)), some (some (vI q)), some (some (vI h)), some (some (vI d)), some (some (vI e)), some (some (vI 0))], [], (N, W)) (QI Q) := by
    intro N z d e f S hz d0 d1 e0 e1 hD er
    have r1 := tK_rng tp n z
    unfold rdD3 at er
    have wt : (0 < d ∨ 0 ≤ e) → tK tp n z = 5 → CallV 88 [vR 20, vI (z + 1)] (N, W) (fun M1 W2 => CallI 102 [vR 20, vI 99] (M1, W2) (fun r M3 W4 => inI r ∧ ((r ≥ 0 → Xs 93 (150, [some (some (vR 20)), some (some (vI p)), some (some (vI q)), some (some (vI h)), some (some (vI d)), some (some (vI e)), some (some (vI r))], [], (M3, W4)) (QI Q)) ∧ (¬ r ≥ 0 → Q 0 M3 W4)))) := by
      intro g g5
      rw [if_pos ⟨g5, g⟩] at er
      refine t_move n0 n1 hk S rfl (by omega) (fun N1 f1 S1 => ?_)
      refine t_takeNumber n0 n1 hk S1 (by decide) (fun x N3 f3 t3 e3 => ⟨by decide, fun y => absurd y (by decide), fun _ => k1 x (z + 1) N3 (frD_tr f (frD_20 (fr20_tr f1 f3))) t3 (by rw [er, e3])⟩) (fun w N3 w0 w1 f3 S3 e3 => ⟨by omega, fun _ => ?_, fun y => absurd y (by omega)⟩)
      rw [show z + 1 + 1 = z + 2 by omega] at S3
      exact last N3 (z + 2) d e w (frD_tr f (frD_20 (fr20_tr f1 f3))) S3 (by omega) d0 d1 e0 e1 (by omega) w1 (fun y => absurd g y) hD (by rw [er, e3])
    have no : ¬ (tK tp n z = 5 ∧ (0 < d ∨ 0 ≤ e)) → Xs 93 (150, [some (some (vR 20)), some (some (vI p)), some (some (vI q)), some (some (vI h)), some (some (vI d)), some (some (vI e)), some (some (vI 0))], [], (N, W)) (QI Q) := fun g => by
      rw [if_neg g] at er
      exact last N z d e 0 f S hz d0 d1 e0 e1 (by decide) (by decide) (fun _ => rfl) hD er
    refine k_X8_readDoubts_107 _ _ _ _ _ _ _ _ _ ?_
    rw [S.i9, S.i8]
    refine ⟨by omega, fun g => no (fun y => g y.1), fun g => ⟨by omega, fun g2 => wt (Or.inl g2) (by omega), fun g2 => ⟨by omega, fun g3 => no (fun y => by omega), fun g3 => wt (Or.inr (by omega)) (by omega)⟩⟩⟩
  have st2 : ∀ (N : aM) (z d : Int), frD c M0 N → rdS tp n c z G N → a < z → 0 ≤ d → d ≤ 9 → (0 < d → (G 0 3) < 6) → (tK tp n z = 4 → (G 0 3) < 6) → rdD1 tp n G p q h b = rdD2 tp n G p q h d z → Xs 93 (76, [some (some (vR 20)), some (some (vI p)), some (some (vI q)), some (some (vI h)), some (some (vI d)), some (some (vI (-1))), some (some (vI 0))], [], (N, W)) (QI Q) := by
    intro N z d f S hz d0 d1 hD h4 er
    have r1 := tK_rng tp n z
    unfold rdD2 at er
    refine k_X8_readDoubts_76 _ _ _ _ _ _ _ _ _ ?_
    rw [S.i9, S.i8]
    refine ⟨by omega, fun g => ?_, fun g => ?_⟩
    · rw [if_neg g] at er
      exact st3 N z d (-1) f S hz d0 d1 (by decide) (by omega) (fun y => hD (by omega)) er
    · have g4 : tK tp n z = 4 := Decidable.not_not.mp g
      rw [if_pos g4] at er
      refine t_move n0 n1 hk S rfl (by omega) (fun N1 f1 S1 => ?_)
      refine t_takeCause n0 n1 hk S1 (fun x N3 f3 t3 e3 => ⟨by decide, fun y => absurd y (by decide), fun _ => k1 x (z + 1) N3 (frD_tr f (frD_20 (fr20_tr f1 f3))) t3 (by rw [er, e3])⟩) (fun w N3 w0 w1 f3 S3 e3 => ⟨by omega, fun _ => ?_, fun y => absurd y (by omega)⟩)
      rw [show z + 1 + 1 = z + 2 by omega] at S3
      exact st3 N3 (z + 2) d w (frD_tr f (frD_20 (fr20_tr f1 f3))) S3 (by omega) d0 d1 (by omega) w1 (fun _ => h4 g4) (by rw [er, e3])
  have st1 : ((tK tp n b = 3 ∨ tK tp n b = 4) → (G 0 3) < 6) → Xs 93 (43, [some (some (vR 20)), some (some (vI p)), some (some (vI q)), some (some (vI h)), some (some (vI 0)), some (some (vI (-1))), some (some (vI 0))], [], (M, W)) (QI Q) := by
    intro hD
    have r1 := tK_rng tp n b
    have er : rdD1 tp n G p q h b = if tK tp n b = 3 then numK tp n 9 (b + 1) (fun d => rdD2 tp n G p q h d (b + 2)) else rdD2 tp n G p q h 0 b := by
      unfold rdD1
      rw [if_neg]
      intro y
      have := hD y.1
      omega
    refine k_X8_readDoubts_43 _ _ _ _ _ _ _ _ _ ?_
    rw [hS.i9, hS.i8]
    refine ⟨by omega, fun g => ?_, fun g => ?_⟩
    · rw [if_neg g] at er
      exact st2 M b 0 hf hS hab (by decide) (by decide) (fun y => absurd y (by decide)) (fun y => hD (Or.inr y)) er
    · have g3 : tK tp n b = 3 := Decidable.not_not.mp g
      rw [if_pos g3] at er
      refine t_move n0 n1 hk hS rfl (by omega) (fun N1 f1 S1 => ?_)
      refine t_takeNumber n0 n1 hk S1 (by decide) (fun x N3 f3 t3 e3 => ⟨by decide, fun y => absurd y (by decide), fun _ => k1 x (b + 1) N3 (frD_tr hf (frD_20 (fr20_tr f1 f3))) t3 (by rw [er, e3])⟩) (fun w N3 w0 w1 f3 S3 e3 => ⟨by omega, fun _ => ?_, fun y => absurd y (by omega)⟩)
      rw [show b + 1 + 1 = b + 2 by omega] at S3
      exact st2 N3 (b + 2) w (frD_tr hf (frD_20 (fr20_tr f1 f3))) S3 (by omega) (by omega) w1 (fun _ => hD (Or.inl g3)) (fun _ => hD (Or.inl g3)) (by rw [er, e3])
  have full : (tK tp n b = 3 ∨ tK tp n b = 4) → 6 ≤ (G 0 3) → CallI 89 [vR 20, vI 2] (M, W) (fun r M1 W2 => (r = 0 ∨ r = 1) ∧ Q r M1 W2) := fun g g2 =>
    t_fail n0 n1 hk hS (fun N f2 t2 => ⟨by decide, k1 2 b N (frD_tr hf (frD_20 f2)) t2 (by unfold rdD1; rw [if_pos ⟨g, g2⟩])⟩)
  have r1 := tK_rng tp n b
  have e3 : M c 3 = (G 0 3) := hS.cl.1 3
  refine e_X8_readDoubts _ _ _ _ _ _ ?_
  rw [hS.i9, hS.i7, e3]
  refine ⟨by omega, fun g => ⟨ct_o hk, by omega, fun g2 => st1 (fun _ => g2), fun g2 => full (Or.inl g) (by omega)⟩, fun g => ⟨by omega, fun g2 => st1 (fun y => by omega), fun g2 => ⟨ct_o hk, by omega, fun g3 => st1 (fun _ => g3), fun g3 => full (Or.inr (by omega)) (by omega)⟩⟩⟩
