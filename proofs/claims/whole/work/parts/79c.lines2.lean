/-! THE REFERENCE: causes, sights, inns, roads read -/
theorem u_cause {M : aM} {W : aW} {Q : Int → aM → aW → Prop} {tp : Int → Int} {n a : Int} {G : Lnd} (hS : rdR tp n a G M) (ht : tK tp n a ≠ 13) (k1 : ∀ x e N, frJ M N → rdW N x (tS tp n e) → (rdCau tp n G a) = flt tp n x e → Q 0 N W) (k2 : ∀ b H N, frJ M N → rdR tp n b H N → a < b → (rdCau tp n G a) = Sum.inr (b, H) → Q 1 N W) : CallI 170 [vR 86] (M, W) Q := by
  have hp := hS.p
  have hNN := hp.1.N; unfold wfN at hNN
  have e9 : M 89 9 = (G 0 1) := hS.g.1 1 (by decide) (by decide)
  unfold rdCau at k1 k2
  refine e_X12_causeRead _ _ _ ?_
  rw [e9]
  refine ⟨by omega, fun hlt => u_take hS ht (fun N fN hN => ?_), fun hge => u_wrong hS (fun K fK wK => ⟨Or.inl rfl, k1 2 a K fK wK (by rw [if_pos (by omega)])⟩)⟩
  have hk0 := tK_rng tp n (a + 1)
  have e8 : N 86 8 = kdR (tK tp n (a + 1)) := hN.T.2.2.1
  have hkr := kdR_rng (tK tp n (a + 1))
  rw [e8]
  refine ⟨by omega, fun he => ?_, fun hne => u_wrong hN (fun K fK wK => ⟨Or.inl rfl, k1 1 (a + 1) K (frJ_tr (frJ_L fN) fK) wK (by rw [if_neg (by omega), if_pos (fun y => hne ((kd2 hk0.1).mpr y))])⟩)⟩
  have h10 := (kd2 hk0.1).mp he
  have hnm := hN.T.2.2.2.2.1 h10
  have hf := fnd_rng (G 10) (tV tp n (a + 1)) ((G 0 1)) (by omega)
  refine u_causeBy hN.g hp hnm ⟨by omega, fun hneg v ev => ?_, fun hpos => u_wrong hN (fun K fK wK => ⟨Or.inl rfl, k1 3 (a + 1) K (frJ_tr (frJ_L fN) fK) wK (by rw [if_neg (by omega), if_neg (fun y => y h10), if_pos (by omega)])⟩)⟩
  rw [ev]
  refine u_take hN (by omega) (fun L fL hL => u_number hL (by decide) (by decide) (fun f K fK wK hk => ⟨by decide, fun y => absurd rfl y, fun _ => k1 f (a + 1 + 1) K (frJ_tr (frJ_L fN) (frJ_tr (frJ_L fL) fK)) wK ?_⟩) (fun o o0 o1 eo h11 hk => ⟨by decide, fun _ => ?_, fun y => absurd (by decide) y⟩))
  · rw [if_neg (by omega), if_neg (fun y => y h10), if_neg (by omega), show a + 2 = a + 1 + 1 by omega]; exact hk _
  · have c9 : L 89 9 = (G 0 1) := hL.g.1 1 (by decide) (by decide)
    have c9' : ∀ v, up_ L 91 (2 + (G 0 1)) v 89 9 = (G 0 1) := fun v => by rw [up_b _ _ _ _ (by decide)]; exact c9
    have c9o : ∀ v, up_ L 91 (2 + (G 0 1)) v 86 9 = o := fun v => by rw [up_b _ _ _ _ (by decide)]; exact eo
    have c9'' : ∀ v u, up_ (up_ L 91 (2 + (G 0 1)) v) 92 (2 + (G 0 1)) u 89 9 = (G 0 1) := fun v u => by rw [up_b _ _ _ _ (by decide)]; exact c9' v
    rw [c9, c9', c9o, c9'']
    have hvr := tV_rng (tp := tp) hS.L.1.1 (a + 1)
    have hg : rdG (addC G (tV tp n (a + 1)) o) (up_ (up_ (up_ L 91 (2 + (G 0 1)) (N 86 9)) 92 (2 + (G 0 1)) o) 89 9 ((G 0 1) + 1)) := by
      obtain ⟨g1, g2, g3, g4, g5, g6, g7⟩ := hL.g
      have e : ∀ b j, b ≠ 91 → b ≠ 92 → ¬ (b = 89 ∧ j = 9) → up_ (up_ (up_ L 91 (2 + (G 0 1)) (N 86 9)) 92 (2 + (G 0 1)) o) 89 9 ((G 0 1) + 1) b j = L b j := fun b j c1 c2 c3 => by rw [show ∀ K : aM, up_ K 89 9 ((G 0 1) + 1) b j = K b j from fun K => if_neg c3, up_b _ _ _ _ c2, up_b _ _ _ _ c1]
      refine ⟨fun j j0 j1 => ?_, fun i i0 i1 => ?_, fun i i0 i1 => ?_, fun r f r0 r1 f0 f1 => ?_, fun d d0 d1 => ?_, fun s s0 s1 => ?_, fun w w0 w1 => ?_⟩
      · by_cases c : j = 1
        · subst c; rw [show (8 : Int) + 1 = 9 from rfl, up_s]; rfl
        · rw [e _ _ (by decide) (by decide) (by omega), g1 j j0 j1]
          exact (up_j _ _ _ c).symm
      · rw [e _ _ (by decide) (by decide) (by omega)]; exact g2 i i0 i1
      · have i1' : i < (G 0 1) + 1 := i1
        have eA : addC G (tV tp n (a + 1)) o 10 i = up_ G 10 ((G 0 1)) (tV tp n (a + 1)) 10 i := rfl
        have eB : addC G (tV tp n (a + 1)) o 1 i = up_ (up_ G 10 ((G 0 1)) (tV tp n (a + 1))) 1 ((G 0 1)) o 1 i := rfl
        rw [eA, eB, up_b _ _ _ (b := 91) _ (by decide), up_b _ _ _ (b := 91) _ (by decide), up_b _ _ _ (b := 92) _ (by decide)]
        by_cases c : i = (G 0 1)
        · subst c; rw [up_s, up_s, up_s, up_s]; exact ⟨hnm, rfl⟩
        · rw [up_j _ _ _ c, up_j _ _ _ (show 2 + i ≠ 2 + (G 0 1) by omega), up_j _ _ _ (show 2 + i ≠ 2 + (G 0 1) by omega), up_j _ _ _ c, up_b _ _ _ (b := 92) _ (by decide), up_b _ _ _ (b := 1) _ (by decide)]; exact g3 i i0 (by omega)
      · rw [e _ _ (by decide) (by decide) (by omega)]; exact g4 r f r0 r1 f0 f1
      · rw [e _ _ (by decide) (by decide) (by omega)]; exact g5 d d0 d1
      · rw [e 95 _ (by decide) (by decide) (by omega), e 95 _ (by decide) (by decide) (by omega)]; exact g6 s s0 s1
      · rw [e 96 _ (by decide) (by decide) (by omega), e 96 _ (by decide) (by decide) (by omega), e 96 _ (by decide) (by decide) (by omega)]; exact g7 w w0 w1
    have hR := hL.gr (H := addC G (tV tp n (a + 1)) o) (N := up_ (up_ (up_ L 91 (2 + (G 0 1)) (N 86 9)) 92 (2 + (G 0 1)) o) 89 9 ((G 0 1) + 1)) (fun b j c => by rw [up_b _ _ _ _ (by omega), up_b _ _ _ _ (by omega), up_b _ _ _ _ (by omega)]) hg (addC_W hp (by omega) hvr.1 hvr.2 o0 o1) (snI_C hS.s _ _)
    have fR : frJ L (up_ (up_ (up_ L 91 (2 + (G 0 1)) (N 86 9)) 92 (2 + (G 0 1)) o) 89 9 ((G 0 1) + 1)) := frJ_tr (frJ_up (by unfold dfC; omega)) (frJ_tr (frJ_up (by unfold dfC; omega)) (frJ_up (by unfold dfC; omega)))
    refine ⟨by omega, by omega, u_take hR (by omega) (fun R fR2 hR2 => k2 (a + 1 + 1 + 1) _ R (frJ_tr (frJ_L fN) (frJ_tr (frJ_L fL) (frJ_tr fR (frJ_L fR2)))) hR2 (by omega) ?_)⟩
    rw [if_neg (by omega), if_neg (fun y => y h10), if_neg (by omega), show a + 2 = a + 1 + 1 by omega, hk, show a + 3 = a + 1 + 1 + 1 by omega]
theorem dbtN_e {G : Lnd} {p q : Int} (h : 0 ≤ (G 4 (p * 10 + q))) : dbtN G p q = (G 2 (((G 4 (p * 10 + q))) * 7 + 6)) := if_neg (by omega)
theorem u_seen {M : aM} {W : aW} {Q : Int → aM → aW → Prop} {tp : Int → Int} {n a : Int} {G : Lnd} (hS : rdR tp n a G M) (ht : tK tp n a ≠ 13) (k1 : ∀ x e N, frJ M N → rdW N x (tS tp n e) → (∀ K : Int → Int → PRes, plcK tp n G (a + 1) (fun l => dbtK tp n G (a + 2) (K l)) = flt tp n x e) → Q (-1) N W) (k2 : ∀ l d N, 0 ≤ l → l < (G 0 0) → 0 ≤ d → d < (G 0 3) → frJ M N → rdR tp n (a + 4) G N → (∀ K : Int → Int → PRes, plcK tp n G (a + 1) (fun l => dbtK tp n G (a + 2) (K l)) = K l d) → Q (6 * l + d) N W) : CallI 173 [vR 86] (M, W) Q := by
  have hp := hS.p
  have hNN := hp.1.N; unfold wfN at hNN
  have hw := hp.1
  refine e_X12_seenRead _ _ _ ?_
  refine u_take hS ht (fun N fN hN => u_spot hN (fun f K fK wK hk => ⟨by decide, fun y => absurd rfl y, fun _ => k1 f (a + 1) K (frJ_tr (frJ_L fN) fK) wK (fun C => hk _)⟩) (fun l K l0 l1 fK hK e19 h10 hk => ⟨by decide, fun _ v ev => ?_, fun y => absurd (by decide) y⟩))
  rw [ev, e19]
  refine u_take hK (by omega) (fun N2 fN2 hN2 => u_spot hN2 (fun f K2 fK2 wK2 hk2 => ⟨by decide, fun y => absurd rfl y, fun _ => k1 f (a + 1 + 1) K2 (frJ_tr (frJ_L fN) (frJ_tr fK (frJ_tr (frJ_L fN2) fK2))) wK2 (fun C => ?_)⟩) (fun p K2 p0 p1 fK2 hK2 e19b h10b hk2 => ⟨by decide, fun _ v2 ev2 => ?_, fun y => absurd (by decide) y⟩))
  · rw [hk]; unfold dbtK; rw [show a + 2 = a + 1 + 1 by omega, hk2]
  rw [ev2, e19b]
  have fr2 := frJ_tr (frJ_L fN) (frJ_tr fK (frJ_tr (frJ_L fN2) fK2))
  refine u_take hK2 (by omega) (fun N3 fN3 hN3 => u_spot hN3 (fun f K3 fK3 wK3 hk3 => ⟨by decide, fun y => absurd rfl y, fun _ => k1 f (a + 1 + 1 + 1) K3 (frJ_tr fr2 (frJ_tr (frJ_L fN3) fK3)) wK3 (fun C => ?_)⟩) (fun q K3 q0 q1 fK3 hK3 e19c h10c hk3 => ⟨by decide, fun _ => ?_, fun y => absurd (by decide) y⟩))
  · rw [hk]; unfold dbtK; rw [show a + 2 = a + 1 + 1 by omega, hk2, hk3]
  rw [e19c]
  have fr3 := frJ_tr fr2 (frJ_tr (frJ_L fN3) fK3)
  have all : ∀ C : Int → Int → PRes, plcK tp n G (a + 1) (fun l => dbtK tp n G (a + 2) (C l)) = if dbtN G p q < 0 then flt tp n 4 (a + 1 + 1 + 1) else C l (dbtN G p q) := fun C => by
    rw [hk]; unfold dbtK; rw [show a + 2 = a + 1 + 1 by omega, hk2, hk3]
  have hbl := hw.btw_lt (p := p) (q := q) p0 (by omega) q0 (by omega)
  refine u_roadBetween hK3.g hp p0 p1 q0 q1 ⟨by omega, fun hneg => u_wrong hK3 (fun L fL wL => k1 4 (a + 1 + 1 + 1) L (frJ_tr fr3 fL) wL (fun C => ?_)), fun hpos => ?_⟩
  · rw [all]
    have : dbtN G p q = -1 := if_pos hneg
    rw [this, if_pos (by decide)]
  · have hR := hw.R ((G 4 (p * 10 + q))) (by omega) hbl.2
    have h6 := hK3.g.2.2.2.1 ((G 4 (p * 10 + q))) 6 (by omega) hbl.2 (by decide) (by decide)
    have hd := dbtN_e (G := G) (p := p) (q := q) (by omega)
    rw [h6]
    refine ⟨by omega, by omega, fun hge => u_take hK3 (by omega) (fun L fL hL => ?_), fun hlt => u_wrong hK3 (fun L fL wL => k1 4 (a + 1 + 1 + 1) L (frJ_tr fr3 fL) wL (fun C => ?_))⟩
    · have h6' := hL.g.2.2.2.1 ((G 4 (p * 10 + q))) 6 (by omega) hbl.2 (by decide) (by decide)
      rw [h6']
      refine ⟨by omega, k2 l _ L l0 l1 hge (by omega) (frJ_tr fr3 (frJ_L fL)) ?_ (fun C => ?_)⟩
      · rw [show a + 4 = a + 1 + 1 + 1 + 1 by omega]; exact hL
      · rw [all, hd, if_neg (by omega)]
    · rw [all, hd, if_pos (by omega)]
theorem u_sees {M : aM} {W : aW} {Q : Int → aM → aW → Prop} {tp : Int → Int} {n a : Int} {G : Lnd} (hS : rdR tp n a G M) (ht : tK tp n a ≠ 13) (k1 : ∀ x e N, frJ M N → rdW N x (tS tp n e) → (rdSee tp n G a) = flt tp n x e → Q 0 N W) (k2 : ∀ b H N, frJ M N → rdR tp n b H N → a < b → (rdSee tp n G a) = Sum.inr (b, H) → Q 1 N W) : CallI 174 [vR 86] (M, W) Q := by
  have hp := hS.p
  have hNN := hp.1.N; unfold wfN at hNN
  have h4 := hp.2.1
  have e12 : M 89 12 = G 0 4 := hS.g.1 4 (by decide) (by decide)
  unfold rdSee at k1 k2
  refine e_X12_seesRead _ _ _ ?_
  rw [e12]
  refine ⟨by omega, fun hlt => u_seen hS ht (fun z e N fN wN hk => ⟨by decide, fun y => absurd y (by decide), fun _ => k1 z e N fN wN ?_⟩) (fun l d N l0 l1 d0 d1 fN hN hk => ⟨by omega, fun _ v ev => ?_, fun y => absurd (show 6 * l + d ≥ 0 by omega) y⟩), fun hge => u_wrong hS (fun K fK wK => ⟨Or.inl rfl, k1 2 a K fK wK (by rw [if_pos (by omega)])⟩)⟩
  · rw [if_neg (by omega)]; exact hk (fun l d => Sum.inr (a + 4, addS G l d))
  · have c12 : N 89 12 = G 0 4 := hN.g.1 4 (by decide) (by decide)
    rw [c12] at ev
    have td : Int.tdiv (6 * l + d) 6 = l := by rw [Int.tdiv_eq_ediv_of_nonneg (by omega)]; omega
    have tm : Int.tmod (6 * l + d) 6 = d := by rw [Int.tmod_eq_emod_of_nonneg (by omega)]; omega
    have c12' : up_ (up_ N 95 v l) 95 (v + 1) d 89 12 = G 0 4 := by rw [up_b _ _ _ _ (by decide), up_b _ _ _ _ (by decide)]; exact c12
    rw [td, tm, c12']
    have hg : rdG (addS G l d) (up_ (up_ (up_ N 95 v l) 95 (v + 1) d) 89 12 (G 0 4 + 1)) := by
      obtain ⟨g1, g2, g3, g4, g5, g6, g7⟩ := hN.g
      have e : ∀ b j, b ≠ 95 → ¬ (b = 89 ∧ j = 12) → up_ (up_ (up_ N 95 v l) 95 (v + 1) d) 89 12 (G 0 4 + 1) b j = N b j := fun b j c1 c3 => by rw [show ∀ K : aM, up_ K 89 12 (G 0 4 + 1) b j = K b j from fun K => if_neg c3, up_b _ _ _ _ c1, up_b _ _ _ _ c1]
      have a0 : ∀ j, j ≠ 4 → addS G l d 0 j = G 0 j := fun j hj => by rw [addS_0, if_neg hj]
      refine ⟨fun j j0 j1 => ?_, fun i i0 i1 => ?_, fun i i0 i1 => ?_, fun r f r0 r1 f0 f1 => ?_, fun d' d0' d1' => ?_, fun s s0 s1 => ?_, fun w w0 w1 => ?_⟩
      · by_cases c : j = 4
        · subst c; rw [show (8 : Int) + 4 = 12 from rfl, up_s, addS_0, if_pos rfl]
        · rw [e _ _ (by decide) (by omega), a0 j c]; exact g1 j j0 j1
      · rw [a0 0 (by decide)] at i1; rw [e _ _ (by decide) (by omega), addS_r (by decide) (by decide) (by decide)]; exact g2 i i0 i1
      · rw [a0 1 (by decide)] at i1; rw [e 91 _ (by decide) (by omega), e 92 _ (by decide) (by omega), addS_r (by decide) (by decide) (by decide), addS_r (by decide) (by decide) (by decide)]; exact g3 i i0 i1
      · rw [a0 2 (by decide)] at r1; rw [e _ _ (by decide) (by omega), addS_r (by decide) (by decide) (by decide)]; exact g4 r f r0 r1 f0 f1
      · rw [a0 3 (by decide)] at d1'; rw [e _ _ (by decide) (by omega), addS_r (by decide) (by decide) (by decide)]; exact g5 d' d0' d1'
      · rw [addS_0, if_pos rfl] at s1
        rw [addS_11, addS_11, up_b _ _ _ (a := 89) _ (by decide), up_b _ _ _ (a := 89) _ (by decide)]
        by_cases c : s = G 0 4
        · rw [if_neg (by omega), if_pos (by omega), if_pos (by omega), show 16 + 2 * s = v by omega, show v + 1 = v + 1 from rfl, up_s, up_j _ _ _ (by omega), up_s]; exact ⟨rfl, rfl⟩
        · rw [if_neg (by omega), if_neg (by omega), if_neg (by omega), if_neg (by omega), up_j _ _ _ (by omega), up_j _ _ _ (by omega), up_j _ _ _ (by omega), up_j _ _ _ (by omega)]; exact g6 s s0 (by omega)
      · rw [a0 5 (by decide)] at w1
        rw [e 96 _ (by decide) (by omega), e 96 _ (by decide) (by omega), e 96 _ (by decide) (by omega), addS_r (by decide) (by decide) (by decide), addS_r (by decide) (by decide) (by decide), addS_r (by decide) (by decide) (by decide)]; exact g7 w w0 w1
    have hR := hN.gr (H := addS G l d) (N := up_ (up_ (up_ N 95 v l) 95 (v + 1) d) 89 12 (G 0 4 + 1)) (fun b j c => by rw [up_b _ _ _ _ (by omega), up_b _ _ _ _ (by omega), up_b _ _ _ _ (by omega)]) hg (addS_W hp (by omega) l0 l1 d0 d1) (snI_S hp hS.s l0 l1 d0 d1)
    refine ⟨⟨by omega, by decide, by decide⟩, by omega, ⟨by omega, by decide, by decide⟩, by omega, k2 (a + 4) _ _ (frJ_tr fN (frJ_tr (frJ_up (by unfold dfC; omega)) (frJ_tr (frJ_up (by unfold dfC; omega)) (frJ_up (by unfold dfC; omega))))) hR (by omega) ?_⟩
    rw [if_neg (by omega)]; exact hk (fun l d => Sum.inr (a + 4, addS G l d))
theorem u_inn {M : aM} {W : aW} {Q : Int → aM → aW → Prop} {tp : Int → Int} {n a : Int} {G : Lnd} (hS : rdR tp n a G M) (ht : tK tp n a ≠ 13) (k1 : ∀ x e N, frJ M N → rdW N x (tS tp n e) → (rdInn tp n G a) = flt tp n x e → Q 0 N W) (k2 : ∀ b H N, frJ M N → rdR tp n b H N → a < b → (rdInn tp n G a) = Sum.inr (b, H) → Q 1 N W) : CallI 175 [vR 86] (M, W) Q := by
  have hp := hS.p
  have hNN := hp.1.N; unfold wfN at hNN
  have e13 : M 89 13 = (G 0 5) := hS.g.1 5 (by decide) (by decide)
  unfold rdInn at k1 k2
  refine e_X12_innRead _ _ _ ?_
  rw [e13]
  refine ⟨by omega, fun hlt => u_seen hS ht (fun z e N fN wN hk => ⟨by decide, fun y => absurd y (by decide), fun _ => k1 z e N fN wN ?_⟩) (fun l d N l0 l1 d0 d1 fN hN hk => ⟨by omega, fun _ => u_number hN (by decide) (by decide) (fun f K fK wK hk2 => ⟨by decide, fun y => absurd rfl y, fun _ => k1 f (a + 4) K (frJ_tr fN fK) wK ?_⟩) (fun o o0 o1 eo h11 hk2 => ⟨by decide, fun _ v ev => ?_, fun y => absurd (by decide) y⟩), fun y => absurd (show 6 * l + d ≥ 0 by omega) y⟩), fun hge => u_wrong hS (fun K fK wK => ⟨Or.inl rfl, k1 2 a K fK wK (by rw [if_pos (by omega)])⟩)⟩
  · rw [if_neg (by omega)]; exact hk (fun l d => numK tp n 99 (a + 4) (fun t => Sum.inr (a + 5, addW G l d t)))
  · rw [if_neg (by omega), hk (fun l d => numK tp n 99 (a + 4) (fun t => Sum.inr (a + 5, addW G l d t)))]; exact hk2 _
  · have c13 : N 89 13 = (G 0 5) := hN.g.1 5 (by decide) (by decide)
    rw [c13] at ev
    have td : Int.tdiv (6 * l + d) 6 = l := by rw [Int.tdiv_eq_ediv_of_nonneg (by omega)]; omega
    have tm : Int.tmod (6 * l + d) 6 = d := by rw [Int.tmod_eq_emod_of_nonneg (by omega)]; omega
    have c9 : up_ (up_ N 96 v l) 96 (v + 1) d 86 9 = o := by rw [up_b _ _ _ _ (by decide), up_b _ _ _ _ (by decide)]; exact eo
    have c13' : up_ (up_ (up_ N 96 v l) 96 (v + 1) d) 96 (v + 2) o 89 13 = (G 0 5) := by rw [up_b _ _ _ _ (by decide), up_b _ _ _ _ (by decide), up_b _ _ _ _ (by decide)]; exact c13
    rw [td, tm, c9, c13']
    have hg : rdG (addW G l d o) (up_ (up_ (up_ (up_ N 96 v l) 96 (v + 1) d) 96 (v + 2) o) 89 13 ((G 0 5) + 1)) := by
      obtain ⟨g1, g2, g3, g4, g5, g6, g7⟩ := hN.g
      have e : ∀ b j, b ≠ 96 → ¬ (b = 89 ∧ j = 13) → up_ (up_ (up_ (up_ N 96 v l) 96 (v + 1) d) 96 (v + 2) o) 89 13 ((G 0 5) + 1) b j = N b j := fun b j c1 c3 => by rw [show ∀ K : aM, up_ K 89 13 ((G 0 5) + 1) b j = K b j from fun K => if_neg c3, up_b _ _ _ _ c1, up_b _ _ _ _ c1, up_b _ _ _ _ c1]
      refine ⟨fun j j0 j1 => ?_, fun i i0 i1 => ?_, fun i i0 i1 => ?_, fun r f r0 r1 f0 f1 => ?_, fun d' d0' d1' => ?_, fun s s0 s1 => ?_, fun w w0 w1 => ?_⟩
      · by_cases c : j = 5
        · subst c; rw [show (8 : Int) + 5 = 13 from rfl, up_s]; rfl
        · rw [e _ _ (by decide) (by omega), g1 j j0 j1]
          exact (up_j _ _ _ c).symm
      · rw [e _ _ (by decide) (by omega)]; exact g2 i i0 i1
      · rw [e 91 _ (by decide) (by omega), e 92 _ (by decide) (by omega)]; exact g3 i i0 i1
      · rw [e _ _ (by decide) (by omega)]; exact g4 r f r0 r1 f0 f1
      · rw [e _ _ (by decide) (by omega)]; exact g5 d' d0' d1'
      · rw [e 95 _ (by decide) (by omega), e 95 _ (by decide) (by omega)]; exact g6 s s0 s1
      · have w1' : w < (G 0 5) + 1 := w1
        have eA : addW G l d o 6 w = up_ G 6 ((G 0 5)) l 6 w := rfl
        have eB : addW G l d o 7 w = up_ (up_ G 6 ((G 0 5)) l) 7 ((G 0 5)) d 7 w := rfl
        have eC : addW G l d o 8 w = up_ (up_ (up_ G 6 ((G 0 5)) l) 7 ((G 0 5)) d) 8 ((G 0 5)) o 8 w := rfl
        rw [eA, eB, eC, up_b _ _ _ (a := 89) _ (by decide), up_b _ _ _ (a := 89) _ (by decide), up_b _ _ _ (a := 89) _ (by decide)]
        by_cases c : w = (G 0 5)
        · subst c
          rw [show 18 + 3 * (G 0 5) = v by omega, up_s, up_s, up_s, up_s, up_j _ _ _ (show v ≠ v + 2 by omega), up_j _ _ _ (show v ≠ v + 1 by omega), up_s, up_j _ _ _ (show v + 1 ≠ v + 2 by omega), up_s]; exact ⟨rfl, rfl, rfl⟩
        · rw [up_j _ _ _ c, up_j _ _ _ c, up_j _ _ _ c, up_b _ _ _ (b := 7) _ (by decide), up_b _ _ _ (b := 8) _ (by decide), up_b _ _ _ (b := 8) _ (by decide), up_j _ _ _ (show 18 + 3 * w ≠ v + 2 by omega), up_j _ _ _ (show 18 + 3 * w ≠ v + 1 by omega), up_j _ _ _ (show 18 + 3 * w ≠ v by omega), up_j _ _ _ (show 18 + 3 * w + 1 ≠ v + 2 by omega), up_j _ _ _ (show 18 + 3 * w + 1 ≠ v + 1 by omega), up_j _ _ _ (show 18 + 3 * w + 1 ≠ v by omega), up_j _ _ _ (show 18 + 3 * w + 2 ≠ v + 2 by omega), up_j _ _ _ (show 18 + 3 * w + 2 ≠ v + 1 by omega), up_j _ _ _ (show 18 + 3 * w + 2 ≠ v by omega)]; exact g7 w w0 (by omega)
    have hR := hN.gr (H := addW G l d o) (N := up_ (up_ (up_ (up_ N 96 v l) 96 (v + 1) d) 96 (v + 2) o) 89 13 ((G 0 5) + 1)) (fun b j c => by rw [up_b _ _ _ _ (by omega), up_b _ _ _ _ (by omega), up_b _ _ _ _ (by omega), up_b _ _ _ _ (by omega)]) hg (addW_W hp (by omega) l0 l1 d0 d1 o0 o1) (snI_W hS.s _ _ _)
    have fR : frJ N (up_ (up_ (up_ (up_ N 96 v l) 96 (v + 1) d) 96 (v + 2) o) 89 13 ((G 0 5) + 1)) := frJ_tr (frJ_up (by unfold dfC; omega)) (frJ_tr (frJ_up (by unfold dfC; omega)) (frJ_tr (frJ_up (by unfold dfC; omega)) (frJ_up (by unfold dfC; omega))))
    refine ⟨⟨by omega, by decide, by decide⟩, by omega, ⟨by omega, by decide, by decide⟩, by omega, by omega, u_take hR (by omega) (fun L fL hL => k2 (a + 4 + 1) _ L (frJ_tr fN (frJ_tr fR (frJ_L fL))) hL (by omega) ?_)⟩
    rw [if_neg (by omega), hk (fun l d => numK tp n 99 (a + 4) (fun t => Sum.inr (a + 5, addW G l d t))), hk2, show a + 5 = a + 4 + 1 by omega]
