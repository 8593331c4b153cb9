/-! THE CLASS: Reader, the last lines -/
theorem s_X8_readRoad {M : aM} {W : aW} {Q : Int → aM → aW → Prop} {tp : Int → Int} {n c a : Int} {G : Lnd} (n0 : 0 ≤ n) (n1 : n ≤ 600) (hk : cty c) (hS : rdS tp n c a G M) (ht : tK tp n a ≠ 13) (k1 : ∀ x e N, frD c M N → rdF N x (tS tp n e) → (rdRoa tp n G a) = flt tp n x e → Q 0 N W) (k2 : ∀ b H N, frD c M N → rdS tp n c b H N → a < b → (rdRoa tp n G a) = Sum.inr (b, H) → Q 1 N W) : CallI 92 [vR 20] (M, W) Q := by
  have hw := hS.pw
  have hN := hw.1.N; unfold wfN at hN
  have e2 : M c 2 = (G 0 2) := hS.cl.1 2
  refine e_X8_readRoad _ _ _ ?_
  rw [hS.i7, e2, hS.i8]
  refine ⟨ct_o hk, by omega, fun g => ?_, fun g => ?_⟩
  · have er : rdRoa tp n G a = plcK tp n G (a + 1) (fun p => plcK tp n G (a + 2) (fun q => if p = q ∨ 0 ≤ (G 4 (p * 10 + q)) then flt tp n 3 (a + 2) else numK tp n 99 (a + 3) (fun h => rdD1 tp n G p q h (a + 4)))) := by unfold rdRoa; rw [if_neg (by omega)]
    rw [er] at k1 k2
    refine t_move n0 n1 hk hS rfl ht (fun N1 f1 S1 => ?_)
    refine t_takePlace n0 n1 hk S1 (fun x N f t e => ⟨by decide, fun y => absurd y (by decide), fun _ => k1 x (a + 1) N (frD_20 (fr20_tr f1 f)) t (by rw [e])⟩) (fun p N2 p0 p1 f2 S2 ep => ⟨by omega, fun _ => ?_, fun y => absurd y (by omega)⟩)
    rw [ep] at k1 k2
    rw [show a + 1 + 1 = a + 2 by omega] at S2
    have f12 := fr20_tr f1 f2
    refine t_place n0 n1 hk S2 (fun x N f t e => ⟨by decide, fun y => absurd y (by decide), fun _ => k1 x (a + 2) N (frD_20 (fr20_tr f12 f)) t (by rw [e])⟩) (fun q q0 q1 hq10 eq => ⟨by omega, fun _ => ⟨by omega, fun g1 => ?_, fun g1 => ?_⟩, fun y => absurd y (by omega)⟩)
    · rw [eq, if_pos (Or.inl g1)] at k1
      exact t_fail n0 n1 hk S2 (fun N f t => ⟨by decide, k1 3 (a + 2) N (frD_20 (fr20_tr f12 f)) t rfl⟩)
    · rw [eq] at k1 k2
      rw [S2.i7]
      have e4 : N2 (c + 4) (p * 10 + q) = (G 4 (p * 10 + q)) := S2.cl.2.2.2.2.1 _
      have hb := hw.1.btw_lt p0 (show p < 10 by omega) q0 (show q < 10 by omega)
      rw [e4, S2.i8]
      refine ⟨ct_o hk, ⟨ct_a4 hk, by omega, by rw [ct_l4 hk]; omega⟩, by omega, fun g2 => ?_, fun g2 => ?_⟩
      · rw [if_neg (by omega)] at k1 k2
        refine t_move n0 n1 hk S2 rfl (by omega) (fun N3 f3 S3 => ?_)
        rw [show a + 2 + 1 = a + 3 by omega] at S3
        have f13 := fr20_tr f12 f3
        refine t_takeNumber n0 n1 hk S3 (by decide) (fun x N f t e => ⟨by decide, fun _ => ⟨by decide, k1 x (a + 3) N (frD_20 (fr20_tr f13 f)) t (by rw [e])⟩, fun y => absurd (show (-1 : Int) ≤ 0 by decide) y⟩) (fun h N4 h0 h1 f4 S4 eh => ⟨by omega, fun y => absurd y (by omega), fun _ => ?_⟩)
        rw [eh] at k1 k2
        rw [show a + 3 + 1 = a + 4 by omega] at S4
        refine s_X8_readDoubts (M0 := M) (a := a) n0 n1 hk S4 (by omega) (frD_20 (fr20_tr f13 f4)) g p0 p1 q0 q1 g1 g2 h0 h1 (fun x e N f t er => ⟨by decide, fun _ => ⟨by decide, k1 x e N f t er⟩, fun y => absurd rfl y⟩) (fun b H N f S hb er => ⟨by decide, fun y => absurd y (by decide), fun _ => ⟨by decide, k2 b H N f S hb er⟩⟩)
      · rw [if_pos (Or.inr (by omega))] at k1
        exact t_fail n0 n1 hk S2 (fun N f t => ⟨by decide, k1 3 (a + 2) N (frD_20 (fr20_tr f12 f)) t rfl⟩)
  · exact t_fail n0 n1 hk hS (fun N f t => ⟨by decide, k1 2 a N (frD_20 f) t (by unfold rdRoa; rw [if_pos (by omega)])⟩)
theorem s_X8_readSight {M : aM} {W : aW} {Q : Int → aM → aW → Prop} {tp : Int → Int} {n c a : Int} {G : Lnd} (n0 : 0 ≤ n) (n1 : n ≤ 600) (hk : cty c) (hS : rdS tp n c a G M) (ht : tK tp n a ≠ 13) (k1 : ∀ x e N, frD c M N → rdF N x (tS tp n e) → (rdSee tp n G a) = flt tp n x e → Q 0 N W) (k2 : ∀ b H N, frD c M N → rdS tp n c b H N → a < b → (rdSee tp n G a) = Sum.inr (b, H) → Q 1 N W) : CallI 94 [vR 20] (M, W) Q := by
  have hw := hS.pw
  have hN := hw.1.N; unfold wfN at hN
  have hc := ct_rng hk
  have e2 : M c 4 = G 0 4 := hS.cl.1 4
  have h4 := hw.2.1
  refine e_X8_readSight _ _ _ ?_
  rw [hS.i7, e2, hS.i8]
  refine ⟨ct_o hk, by omega, fun g => ?_, fun g => ?_⟩
  · have er : rdSee tp n G a = plcK tp n G (a + 1) (fun l => dbtK tp n G (a + 2) (fun d => Sum.inr (a + 4, addS G l d))) := by unfold rdSee; rw [if_neg (by omega)]
    rw [er] at k1 k2
    refine t_move n0 n1 hk hS rfl ht (fun N1 f1 S1 => ?_)
    refine t_takePlace n0 n1 hk S1 (fun x N f t e => ⟨by decide, fun y => absurd y (by decide), fun _ => k1 x (a + 1) N (frD_20 (fr20_tr f1 f)) t (by rw [e])⟩) (fun l N2 p0 p1 f2 S2 ep => ⟨by omega, fun _ => ?_, fun y => absurd y (by omega)⟩)
    rw [ep] at k1 k2
    rw [show a + 1 + 1 = a + 2 by omega] at S2
    have f12 := fr20_tr f1 f2
    refine t_takeDoubtful n0 n1 hk S2 (fun x b N f t e => ⟨by decide, fun y => absurd y (by decide), fun _ => k1 x b N (frD_20 (fr20_tr f12 f)) t (by rw [e])⟩) (fun d N3 d0 d1 f3 S3 ed => ⟨by omega, fun _ => ?_, fun y => absurd y (by omega)⟩)
    rw [ed] at k1 k2
    rw [show a + 2 + 2 = a + 4 by omega] at S3
    have f13 := fr20_tr f12 f3
    rw [S3.i7]
    have sl := hw.1.sn64 p0 (show l < 10 by omega)
    have p64 := p2_le d0 (show d ≤ 6 by omega)
    have pl : p2_ d < 64 := by
      have := p2_mo (i := d) (d := 5) d0 (by omega) (by decide)
      have : p2_ 5 = 32 := rfl
      omega
    rw [show N3 (c + 5) l = (G 5 l) from S3.cl.2.2.2.2.2.1 l, shl_e d0 (by omega), or_e sl.1 sl.2 (by omega) pl]
    rw [show up_ N3 (c + 5) l (sOr ((G 5 l)) (p2_ d)) 20 7 = c by rw [up_b _ _ _ _ (by omega)]; exact S3.i7]
    rw [show up_ N3 (c + 5) l (sOr ((G 5 l)) (p2_ d)) c 4 = G 0 4 by rw [up_b _ _ _ _ (by omega)]; exact S3.cl.1 4]
    refine ⟨ct_o hk, ⟨ct_a5 hk, by omega, by rw [ct_l5 hk]; omega⟩, ⟨ct_a5 hk, by omega, by rw [ct_l5 hk]; omega⟩, ct_o hk, ct_o hk, k2 (a + 4) (addS G l d) _ (fun x j q1 q2 q3 q4 => ?_) (S3.gr hk (fun x j q1 q2 q3 => ?_) ?_ (rdN_k S3.nm (fun j => ?_) (fun j => ?_) (fun j => ?_) (fun j => ?_)) (addS_W hw g p0 p1 d0 d1)) (by omega) rfl⟩
    · rw [up_b _ _ _ _ (by omega), up_b _ _ _ _ (by omega)]; exact f13.1 x j q1
    · rw [up_b _ _ _ _ (by omega), up_b _ _ _ _ (by omega)]
    · exact (((S3.cl.up (r := 5) (i := l) (v := oBit ((G 5 l)) d)).hi (by decide)).hi (by decide)).up0
    · unfold addS; rw [up_b _ _ _ _ (by decide), up_b _ _ _ _ (by decide), up_b _ _ _ _ (by decide), up_b _ _ _ _ (by decide)]
    · unfold addS; rw [up_b _ _ _ _ (by decide), up_b _ _ _ _ (by decide), up_b _ _ _ _ (by decide), up_b _ _ _ _ (by decide)]
    · rw [up_b _ _ _ _ (by omega), up_b _ _ _ _ (by omega)]
    · rw [up_b _ _ _ _ (by omega), up_b _ _ _ _ (by omega)]
  · exact t_fail n0 n1 hk hS (fun N f t => ⟨by decide, k1 2 a N (frD_20 f) t (by unfold rdSee; rw [if_pos (by omega)])⟩)
theorem s_X8_readInn {M : aM} {W : aW} {Q : Int → aM → aW → Prop} {tp : Int → Int} {n c a : Int} {G : Lnd} (n0 : 0 ≤ n) (n1 : n ≤ 600) (hk : cty c) (hS : rdS tp n c a G M) (ht : tK tp n a ≠ 13) (k1 : ∀ x e N, frD c M N → rdF N x (tS tp n e) → (rdInn tp n G a) = flt tp n x e → Q 0 N W) (k2 : ∀ b H N, frD c M N → rdS tp n c b H N → a < b → (rdInn tp n G a) = Sum.inr (b, H) → Q 1 N W) : CallI 95 [vR 20] (M, W) Q := by
  have hw := hS.pw
  have hN := hw.1.N; unfold wfN at hN
  have hc := ct_rng hk
  have e2 : M c 5 = (G 0 5) := hS.cl.1 5
  refine e_X8_readInn _ _ _ ?_
  rw [hS.i7, e2, hS.i8]
  refine ⟨ct_o hk, by omega, fun g => ?_, fun g => ?_⟩
  · have er : rdInn tp n G a = plcK tp n G (a + 1) (fun l => dbtK tp n G (a + 2) (fun d => numK tp n 99 (a + 4) (fun t => Sum.inr (a + 5, addW G l d t)))) := by unfold rdInn; rw [if_neg (by omega)]
    rw [er] at k1 k2
    refine t_move n0 n1 hk hS rfl ht (fun N1 f1 S1 => ?_)
    refine t_takePlace n0 n1 hk S1 (fun x N f t e => ⟨by decide, fun y => absurd y (by decide), fun _ => k1 x (a + 1) N (frD_20 (fr20_tr f1 f)) t (by rw [e])⟩) (fun l N2 p0 p1 f2 S2 ep => ⟨by omega, fun _ => ?_, fun y => absurd y (by omega)⟩)
    rw [ep] at k1 k2
    rw [show a + 1 + 1 = a + 2 by omega] at S2
    have f12 := fr20_tr f1 f2
    refine t_takeDoubtful n0 n1 hk S2 (fun x b N f t e => ⟨by decide, fun y => absurd y (by decide), fun _ => k1 x b N (frD_20 (fr20_tr f12 f)) t (by rw [e])⟩) (fun d N3 d0 d1 f3 S3 ed => ⟨by omega, fun _ => ?_, fun y => absurd y (by omega)⟩)
    rw [ed] at k1 k2
    rw [show a + 2 + 2 = a + 4 by omega] at S3
    have f13 := fr20_tr f12 f3
    refine t_takeNumber n0 n1 hk S3 (by decide) (fun x N f t e => ⟨by decide, fun y => absurd y (by decide), fun _ => k1 x (a + 4) N (frD_20 (fr20_tr f13 f)) t (by rw [e])⟩) (fun h N4 h0 h1 f4 S4 eh => ⟨by omega, fun _ => ?_, fun y => absurd y (by omega)⟩)
    rw [eh] at k1 k2
    rw [show a + 4 + 1 = a + 5 by omega] at S4
    rw [S4.i7]
    have kp : ∀ j b, 8 < b → addW G l d h b j = G b j := fun j b hb => by unfold addW; rw [up_b _ _ _ _ (by omega), up_b _ _ _ _ (by omega), up_b _ _ _ _ (by omega), up_b _ _ _ _ (by omega)]
    refine ⟨ct_o hk, s_X3_addWord hk S4.cl hw.1 g (fun K a1 a2 => k2 (a + 5) (addW G l d h) K (fun x j q1 q2 q3 q4 => by rw [a1 x j q4]; exact (fr20_tr f13 f4).1 x j q1) (S4.gr hk (fun x j q1 q2 q3 => a1 x j q1) a2 (rdN_k S4.nm (fun j => kp j 9 (by decide)) (fun j => kp j 10 (by decide)) (fun j => a1 25 j (by omega)) (fun j => a1 26 j (by omega))) (addW_W hw g p0 p1 d0 d1 h0 h1)) (by omega) rfl)⟩
  · exact t_fail n0 n1 hk hS (fun N f t => ⟨by decide, k1 2 a N (frD_20 f) t (by unfold rdInn; rw [if_pos (by omega)])⟩)
