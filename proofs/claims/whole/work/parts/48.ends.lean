/-! THE CLASS: Reader, the two ends; empty -/
theorem rdS.e0 {tp : Int → Int} {n c a x p : Int} {G : Lnd} {M : aM} (h : rdS tp n c a G M) (hk : cty c) (hx : x = 6 ∨ x = 7) (p0 : 0 ≤ p) (p1 : p < (G 0 0)) : rdS tp n c a (up_ G 0 x p) (up_ M c x p) := by
  have hc := ct_rng hk
  exact h.gr hk (fun b j q1 q2 q3 => up_b _ _ _ _ (by omega)) h.cl.up0 (rdN_k h.nm (fun j => up_b _ _ _ _ (by decide)) (fun j => up_b _ _ _ _ (by decide)) (fun j => up_b _ _ _ _ (by omega)) (fun j => up_b _ _ _ _ (by omega))) (setE_W h.pw hx p0 p1)
theorem s_X8_readStart {M : aM} {W : aW} {Q : Int → aM → aW → Prop} {tp : Int → Int} {n c a : Int} {G : Lnd} (n0 : 0 ≤ n) (n1 : n ≤ 600) (hk : cty c) (hS : rdS tp n c a G M) (ht : tK tp n a ≠ 13) (k1 : ∀ x e N, frD c M N → rdF N x (tS tp n e) → (rdEnd tp n 6 G a) = flt tp n x e → Q 0 N W) (k2 : ∀ b H N, frD c M N → rdS tp n c b H N → a < b → (rdEnd tp n 6 G a) = Sum.inr (b, H) → Q 1 N W) : CallI 96 [vR 20] (M, W) Q := by
  have hw := hS.pw
  have hN := hw.1.N; unfold wfN at hN
  have hc := ct_rng hk
  have e2 : M c 6 = (G 0 6) := hS.cl.1 6
  refine e_X8_readStart _ _ _ ?_
  rw [hS.i7, e2, hS.i8]
  refine ⟨ct_o hk, by omega, fun g => ?_, fun g => ?_⟩
  · have er : rdEnd tp n 6 G a = plcK tp n G (a + 1) (fun p => Sum.inr (a + 2, up_ G 0 6 p)) := by unfold rdEnd; rw [if_neg (by omega)]
    rw [er] at k1 k2
    refine t_move n0 n1 hk hS rfl ht (fun N1 f1 S1 => ?_)
    rw [S1.i7]
    refine t_takePlace n0 n1 hk S1 (fun x N f t e => ?_) (fun l N2 p0 p1 f2 S2 ep => ?_)
    · have h7 : up_ N c 6 (-1) 20 7 = c := by rw [up_b _ _ _ _ (by omega), f.2]; exact S1.i7
      rw [h7, up_s]
      refine ⟨ct_o hk, ct_o hk, by decide, fun _ => ⟨by decide, k1 x (a + 1) _ (frD_tr (frD_20 (fr20_tr f1 f)) (frD_up _ (by omega) (by omega))) ?_ (by rw [e])⟩, fun y => absurd (show (-1 : Int) < 0 by decide) y⟩
      unfold rdF; rw [up_b _ _ _ _ (by omega), up_b _ _ _ _ (by omega)]; exact t
    · rw [ep] at k2
      rw [show a + 1 + 1 = a + 2 by omega] at S2
      have h7 : up_ N2 c 6 l 20 7 = c := by rw [up_b _ _ _ _ (by omega)]; exact S2.i7
      rw [h7, up_s]
      refine ⟨ct_o hk, ct_o hk, by omega, fun y => absurd y (by omega), fun _ => ⟨by decide, k2 (a + 2) _ _ (frD_tr (frD_20 (fr20_tr f1 f2)) (frD_up _ (by omega) (by omega))) (S2.e0 hk (Or.inl rfl) p0 p1) (by omega) rfl⟩⟩
  · exact t_fail n0 n1 hk hS (fun N f t => ⟨by decide, k1 3 a N (frD_20 f) t (by unfold rdEnd; rw [if_pos (by omega)])⟩)
theorem s_X8_readGoal {M : aM} {W : aW} {Q : Int → aM → aW → Prop} {tp : Int → Int} {n c a : Int} {G : Lnd} (n0 : 0 ≤ n) (n1 : n ≤ 600) (hk : cty c) (hS : rdS tp n c a G M) (ht : tK tp n a ≠ 13) (k1 : ∀ x e N, frD c M N → rdF N x (tS tp n e) → (rdEnd tp n 7 G a) = flt tp n x e → Q 0 N W) (k2 : ∀ b H N, frD c M N → rdS tp n c b H N → a < b → (rdEnd tp n 7 G a) = Sum.inr (b, H) → Q 1 N W) : CallI 97 [vR 20] (M, W) Q := by
  have hw := hS.pw
  have hN := hw.1.N; unfold wfN at hN
  have hc := ct_rng hk
  have e2 : M c 7 = (G 0 7) := hS.cl.1 7
  refine e_X8_readGoal _ _ _ ?_
  rw [hS.i7, e2, hS.i8]
  refine ⟨ct_o hk, by omega, fun g => ?_, fun g => ?_⟩
  · have er : rdEnd tp n 7 G a = plcK tp n G (a + 1) (fun p => Sum.inr (a + 2, up_ G 0 7 p)) := by unfold rdEnd; rw [if_neg (by omega)]
    rw [er] at k1 k2
    refine t_move n0 n1 hk hS rfl ht (fun N1 f1 S1 => ?_)
    rw [S1.i7]
    refine t_takePlace n0 n1 hk S1 (fun x N f t e => ?_) (fun l N2 p0 p1 f2 S2 ep => ?_)
    · have h7 : up_ N c 7 (-1) 20 7 = c := by rw [up_b _ _ _ _ (by omega), f.2]; exact S1.i7
      rw [h7, up_s]
      refine ⟨ct_o hk, ct_o hk, by decide, fun _ => ⟨by decide, k1 x (a + 1) _ (frD_tr (frD_20 (fr20_tr f1 f)) (frD_up _ (by omega) (by omega))) ?_ (by rw [e])⟩, fun y => absurd (show (-1 : Int) < 0 by decide) y⟩
      unfold rdF; rw [up_b _ _ _ _ (by omega), up_b _ _ _ _ (by omega)]; exact t
    · rw [ep] at k2
      rw [show a + 1 + 1 = a + 2 by omega] at S2
      have h7 : up_ N2 c 7 l 20 7 = c := by rw [up_b _ _ _ _ (by omega)]; exact S2.i7
      rw [h7, up_s]
      refine ⟨ct_o hk, ct_o hk, by omega, fun y => absurd y (by omega), fun _ => ⟨by decide, k2 (a + 2) _ _ (frD_tr (frD_20 (fr20_tr f1 f2)) (frD_up _ (by omega) (by omega))) (S2.e0 hk (Or.inr rfl) p0 p1) (by omega) rfl⟩⟩
  · exact t_fail n0 n1 hk hS (fun N f t => ⟨by decide, k1 3 a N (frD_20 f) t (by unfold rdEnd; rw [if_pos (by omega)])⟩)
