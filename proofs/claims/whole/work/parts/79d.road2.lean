/-! THE REFERENCE: roads read; lines -/
theorem u_isKey {M : aM} {W : aW} {Q : Int → aM → aW → Prop} {tp : Int → Int} {n a : Int} {G : Lnd} (hS : rdR tp n a G M) {z : Int} (z0 : 0 ≤ z) (z9 : z ≤ 9) (y1 : tK tp n a = z → Q 1 M W) (y0 : tK tp n a ≠ z → Q 0 M W) : CallI 162 [vR 86, vI z] (M, W) Q := by
  have hk0 := tK_rng tp n a
  have e8 : M 86 8 = kdR (tK tp n a) := hS.T.2.2.1
  have hkr := kdR_rng (tK tp n a)
  refine e_X12_isKey _ _ _ _ ?_
  rw [e8]
  refine ⟨by omega, fun hne => ⟨Or.inl rfl, y0 (fun e => hne ((kd1 hk0.1).mpr (by omega)))⟩, fun heq => ?_⟩
  have h9 := (kd1 hk0.1).mp (Classical.byContradiction heq)
  rw [hS.T.2.2.2.1 h9]
  exact ⟨by omega, fun hne => ⟨Or.inl rfl, y0 hne⟩, fun he => ⟨Or.inr rfl, y1 (Classical.byContradiction he)⟩⟩
theorem u_room {M : aM} {W : aW} {Q : Int → aM → aW → Prop} {tp : Int → Int} {n a : Int} {G : Lnd} (hS : rdR tp n a G M) (y1 : (G 0 3) < 6 → Q 1 M W) (y0 : 6 ≤ (G 0 3) → ∀ N, frJ M N → rdW N 2 (tS tp n a) → Q 0 N W) : CallI 171 [vR 86] (M, W) Q := by
  have hNN := hS.p.1.N; unfold wfN at hNN
  have e : M 89 11 = (G 0 3) := hS.g.1 3 (by decide) (by decide)
  refine e_X12_isDoubtRoom _ _ _ ?_
  rw [e]
  exact ⟨by omega, fun hlt => ⟨Or.inr rfl, y1 hlt⟩, fun hge => u_wrong hS (fun N fN wN => ⟨by decide, fun _ => ⟨Or.inl rfl, y0 (by omega) N fN wN⟩, fun y => absurd rfl y⟩)⟩
/-- the road that is being read -/
def roI (G : Lnd) (p q h d e w : Int) (M : aM) : Prop := M 93 (168 + 7 * (G 0 2)) = p ∧ M 93 (168 + 7 * (G 0 2) + 1) = q ∧ M 93 (168 + 7 * (G 0 2) + 2) = h ∧ M 93 (168 + 7 * (G 0 2) + 3) = d ∧ M 93 (168 + 7 * (G 0 2) + 4) = e ∧ M 93 (168 + 7 * (G 0 2) + 5) = w ∧ M 93 (168 + 7 * (G 0 2) + 6) = -1
theorem roI.of {G : Lnd} {p q h d e w : Int} {M N : aM} (hr : roI G p q h d e w M) (f : ∀ j, N 93 j = M 93 j) : roI G p q h d e w N := by
  unfold roI at hr ⊢
  rw [f, f, f, f, f, f, f]; exact hr
/-- slots behind the last road are free to write -/
theorem rdR.u93 {tp : Int → Int} {n a : Int} {G : Lnd} {M : aM} (h : rdR tp n a G M) {i v : Int} (hi : 168 + 7 * (G 0 2) ≤ i) : rdR tp n a G (up_ M 93 i v) := by
  have e : ∀ b j, b ≠ 93 → up_ M 93 i v b j = M b j := fun b j c => up_b _ _ _ _ c
  obtain ⟨g1, g2, g3, g4, g5, g6, g7⟩ := h.g
  exact h.gr (fun b j c => e b j (by omega)) ⟨fun j j0 j1 => by rw [e _ _ (by decide)]; exact g1 j j0 j1, fun j j0 j1 => by rw [e _ _ (by decide)]; exact g2 j j0 j1, fun j j0 j1 => by rw [e 91 _ (by decide), e 92 _ (by decide)]; exact g3 j j0 j1, fun r f r0 r1 f0 f1 => by rw [up_j _ _ _ (by omega)]; exact g4 r f r0 r1 f0 f1, fun j j0 j1 => by rw [e _ _ (by decide)]; exact g5 j j0 j1, fun j j0 j1 => by rw [e 95 _ (by decide), e 95 _ (by decide)]; exact g6 j j0 j1, fun j j0 j1 => by rw [e 96 _ (by decide), e 96 _ (by decide), e 96 _ (by decide)]; exact g7 j j0 j1⟩ h.p h.s
theorem frJ_93 {M : aM} {i v : Int} (h : 168 ≤ i) : frJ M (up_ M 93 i v) := frJ_up (by unfold dfC; omega)
theorem u_road353 {M M0 : aM} {W : aW} {Q : Int → aM → aW → Prop} {tp : Int → Int} {n a b p q h d e w z1 z3 : Int} {G : Lnd} (hS : rdR tp n b G M) (hf : frJ M0 M) (hab : a < b) (hR : (G 0 2) < 24) (p0 : 0 ≤ p) (p1 : p < (G 0 0)) (q0 : 0 ≤ q) (q1 : q < (G 0 0)) (hpq : p ≠ q) (hb : (G 4 (p * 10 + q)) < 0) (h0 : 1 ≤ h) (h1 : h ≤ 99) (d0 : 0 ≤ d) (d1 : d ≤ 9) (e0 : -1 ≤ e) (e1 : e < (G 0 1)) (w0 : 0 ≤ w) (w1 : w ≤ 99) (hro : roI G p q h d e w M) (hz : (z3 = 0 ∧ d = 0 ∧ e = -1 ∧ w = 0) ∨ (z3 = 1 ∧ (0 < d ∨ 0 ≤ e) ∧ (G 0 3) < 6)) (k2 : ∀ N, frJ M0 N → rdR tp n b (addR G p q h d e w) N → Q 1 N W) : Xs 172 (353, [some (some (vR 86)), some (some (vI z1)), some (some (vI (168 + 7 * (G 0 2)))), some (some (vI z3))], [], (M, W)) (QI Q) := by
  have hp := hS.p
  have hNN := hp.1.N; unfold wfN at hNN
  obtain ⟨g1, g2, g3, g4, g5, g6, g7⟩ := hS.g
  have e10 : M 89 10 = (G 0 2) := g1 2 (by decide) (by decide)
  have e11 : M 89 11 = (G 0 3) := g1 3 (by decide) (by decide)
  have hpw : pW (addR G p q h d e w) := addR_W hp hR (fun c => by omega) p0 p1 q0 q1 hpq hb h0 h1 d0 d1 e0 e1 w0 w1 (fun c => by omega)
  have hsn : snI (addR G p q h d e w) := snI_R hp hS.s (fun c => by omega) p0 p1 q0 q1
  obtain ⟨r0, r1, r2, r3, r4, r5, r6⟩ := hro
  -- all but the last slot and what a doubt adds
  have fin : ∀ N : aM, frJ M0 N → (∀ b j, b ≠ 93 → b ≠ 94 → ¬ (b = 89 ∧ (j = 10 ∨ j = 11)) → N b j = M b j) → (∀ j, j ≠ 168 + 7 * (G 0 2) + 6 → N 93 j = M 93 j) → N 93 (168 + 7 * (G 0 2) + 6) = (if 0 < d ∨ 0 ≤ e then (G 0 3) else -1) → N 89 10 = (G 0 2) + 1 → N 89 11 = (if 0 < d ∨ 0 ≤ e then (G 0 3) + 1 else (G 0 3)) → (∀ j, N 94 j = if j = 6 + (G 0 3) ∧ (0 < d ∨ 0 ≤ e) then (G 0 2) else M 94 j) → Q 1 N W := by
    intro N fN eo e93 e936 eR eD e94
    refine k2 N fN (hS.gr (fun b j c => eo b j (by omega) (by omega) (by omega)) ⟨fun j j0 j1 => ?_, fun i i0 i1 => ?_, fun i i0 i1 => ?_, fun r f s0 s1 f0 f1 => ?_, fun k k0 k1 => ?_, fun s s0 s1 => ?_, fun s s0 s1 => ?_⟩ hpw hsn)
    · rw [addR_0]
      by_cases c : j = 2
      · subst c; rw [if_pos rfl]; exact eR
      · rw [if_neg c]
        by_cases c3 : j = 3
        · subst c3
          rw [show (8 : Int) + 3 = 11 from rfl, eD]
          by_cases cd : 0 < d ∨ 0 ≤ e
          · rw [if_pos cd, if_pos ⟨rfl, cd⟩]
          · rw [if_neg cd, if_neg (fun y => cd y.2)]
        · rw [if_neg (fun y => c3 y.1), eo _ _ (by decide) (by decide) (by omega)]; exact g1 j j0 j1
    · rw [addR_0, if_neg (by decide), if_neg (by omega)] at i1
      rw [eo _ _ (by decide) (by decide) (by omega), addR_r (by decide) (by decide) (by decide) (by decide) (by decide)]; exact g2 i i0 i1
    · rw [addR_0, if_neg (by decide), if_neg (by omega)] at i1
      rw [eo 91 _ (by decide) (by decide) (by omega), eo 92 _ (by decide) (by decide) (by omega), addR_r (by decide) (by decide) (by decide) (by decide) (by decide), addR_r (by decide) (by decide) (by decide) (by decide) (by decide)]; exact g3 i i0 i1
    · rw [addR_0, if_pos rfl] at s1
      rw [addR_2]
      by_cases c : r = (G 0 2)
      · subst c
        have ei : ∀ z : Int, 168 + 7 * (G 0 2) + z = 168 + 7 * (G 0 2) + z := fun _ => rfl
        rcases (show f = 0 ∨ f = 1 ∨ f = 2 ∨ f = 3 ∨ f = 4 ∨ f = 5 ∨ f = 6 by omega) with c | c | c | c | c | c | c <;> subst c
        · rw [if_neg (by omega), if_neg (by omega), if_neg (by omega), if_neg (by omega), if_neg (by omega), if_neg (by omega), if_pos rfl, e93 _ (by omega), show 168 + 7 * (G 0 2) + 0 = 168 + 7 * (G 0 2) by omega]; exact r0
        · rw [if_neg (by omega), if_neg (by omega), if_neg (by omega), if_neg (by omega), if_neg (by omega), if_pos rfl, e93 _ (by omega)]; exact r1
        · rw [if_neg (by omega), if_neg (by omega), if_neg (by omega), if_neg (by omega), if_pos rfl, e93 _ (by omega)]; exact r2
        · rw [if_neg (by omega), if_neg (by omega), if_neg (by omega), if_pos rfl, e93 _ (by omega)]; exact r3
        · rw [if_neg (by omega), if_neg (by omega), if_pos rfl, e93 _ (by omega)]; exact r4
        · rw [if_neg (by omega), if_pos rfl, e93 _ (by omega)]; exact r5
        · rw [if_pos rfl]; exact e936
      · rw [if_neg (by omega), if_neg (by omega), if_neg (by omega), if_neg (by omega), if_neg (by omega), if_neg (by omega), if_neg (by omega), e93 _ (by omega)]; exact g4 r f s0 (by omega) f0 f1
    · rw [addR_0, if_neg (by decide)] at k1
      rw [addR_3, e94]
      by_cases cd : 0 < d ∨ 0 ≤ e
      · rw [if_pos ⟨rfl, cd⟩] at k1
        by_cases c : k = (G 0 3)
        · subst c; rw [if_pos ⟨rfl, cd⟩, if_pos ⟨rfl, cd⟩]
        · rw [if_neg (by omega), if_neg (by omega)]; exact g5 k k0 (by omega)
      · rw [if_neg (fun y => cd y.2)] at k1
        rw [if_neg (fun y => cd y.2), if_neg (fun y => cd y.2)]; exact g5 k k0 k1
    · rw [addR_0, if_neg (by decide), if_neg (by omega)] at s1
      rw [eo 95 _ (by decide) (by decide) (by omega), eo 95 _ (by decide) (by decide) (by omega), addR_r (by decide) (by decide) (by decide) (by decide) (by decide), addR_r (by decide) (by decide) (by decide) (by decide) (by decide)]; exact g6 s s0 s1
    · rw [addR_0, if_neg (by decide), if_neg (by omega)] at s1
      rw [eo 96 _ (by decide) (by decide) (by omega), eo 96 _ (by decide) (by decide) (by omega), eo 96 _ (by decide) (by decide) (by omega), addR_r (by decide) (by decide) (by decide) (by decide) (by decide), addR_r (by decide) (by decide) (by decide) (by decide) (by decide), addR_r (by decide) (by decide) (by decide) (by decide) (by decide)]; exact g7 s s0 s1
  refine k_X12_roadRead_353 _ _ _ _ _ _ ?_
  refine ⟨by omega, fun hz0 => ?_, fun hz1 => ?_⟩
  · have nd : ¬ (0 < d ∨ 0 ≤ e) := by omega
    refine k_X12_roadRead_406 _ _ _ _ _ _ ?_
    rw [e10]
    refine fin _ (frJ_tr hf (frJ_up (by unfold dfC; omega))) (fun b j c1 c2 c3 => by unfold up_; exact if_neg (by omega)) (fun j c => up_b _ _ _ _ (by decide)) (by rw [up_b _ _ _ _ (by decide), if_neg nd]; exact r6) (up_s _ _ _ _) (by rw [up_j _ _ _ (by decide), if_neg nd]; exact e11) (fun j => by rw [up_b _ _ _ _ (by decide), if_neg (fun y => nd y.2)])
  · have yd : 0 < d ∨ 0 ≤ e := by omega
    have a11 : up_ M 93 (168 + 7 * (G 0 2) + 6) ((G 0 3)) 89 11 = (G 0 3) := by rw [up_b _ _ _ _ (by decide)]; exact e11
    have a10 : up_ M 93 (168 + 7 * (G 0 2) + 6) ((G 0 3)) 89 10 = (G 0 2) := by rw [up_b _ _ _ _ (by decide)]; exact e10
    have b11 : up_ (up_ M 93 (168 + 7 * (G 0 2) + 6) ((G 0 3))) 94 (6 + (G 0 3)) ((G 0 2)) 89 11 = (G 0 3) := by rw [up_b _ _ _ _ (by decide)]; exact a11
    rw [e11, a11, a10, b11]
    refine ⟨by omega, by omega, ?_⟩
    have c10 : up_ (up_ (up_ M 93 (168 + 7 * (G 0 2) + 6) ((G 0 3))) 94 (6 + (G 0 3)) ((G 0 2))) 89 11 ((G 0 3) + 1) 89 10 = (G 0 2) := by rw [up_j _ _ _ (by decide), up_b _ _ _ _ (by decide)]; exact a10
    refine k_X12_roadRead_406 _ _ _ _ _ _ ?_
    rw [c10]
    refine fin _ (frJ_tr hf (frJ_tr (frJ_93 (by omega)) (frJ_tr (frJ_up (by unfold dfC; omega)) (frJ_tr (frJ_up (by unfold dfC; omega)) (frJ_up (by unfold dfC; omega)))))) (fun b j c1 c2 c3 => ?_) (fun j c => ?_) ?_ (up_s _ _ _ _) ?_ (fun j => ?_)
    · rw [show ∀ K : aM, up_ K 89 10 ((G 0 2) + 1) b j = K b j from fun K => if_neg (by omega), show ∀ K : aM, up_ K 89 11 ((G 0 3) + 1) b j = K b j from fun K => if_neg (by omega), up_b _ _ _ _ c2, up_b _ _ _ _ c1]
    · rw [up_b _ _ _ _ (by decide), up_b _ _ _ _ (by decide), up_b _ _ _ _ (by decide), up_j _ _ _ c]
    · rw [up_b _ _ _ _ (by decide), up_b _ _ _ _ (by decide), up_b _ _ _ _ (by decide), up_s, if_pos yd]
    · rw [up_j _ _ _ (by decide), up_s, if_pos yd]
    · rw [up_b _ _ _ _ (by decide), up_b _ _ _ _ (by decide)]
      by_cases c : j = 6 + (G 0 3)
      · rw [c, up_s, if_pos ⟨rfl, yd⟩]
      · rw [up_j _ _ _ c, up_b _ _ _ _ (by decide), if_neg (fun y => c y.1)]
theorem u_road309 {M M0 : aM} {W : aW} {Q : Int → aM → aW → Prop} {tp : Int → Int} {n a b p q h d e z1 z3 : Int} {G : Lnd} {R : PRes} (hS : rdR tp n b G M) (hf : frJ M0 M) (hab : a < b) (hR : (G 0 2) < 24) (p0 : 0 ≤ p) (p1 : p < (G 0 0)) (q0 : 0 ≤ q) (q1 : q < (G 0 0)) (hpq : p ≠ q) (hb : (G 4 (p * 10 + q)) < 0) (h0 : 1 ≤ h) (h1 : h ≤ 99) (d0 : 0 ≤ d) (d1 : d ≤ 9) (e0 : -1 ≤ e) (e1 : e < (G 0 1)) (hro : roI G p q h d e 0 M) (hz : (z3 = 0 ∧ d = 0 ∧ e = -1) ∨ (z3 = 1 ∧ (0 < d ∨ 0 ≤ e) ∧ (G 0 3) < 6)) (hRe : R = rdD3 tp n G p q h d e b)
    (k1 : ∀ x e N, frJ M0 N → rdW N x (tS tp n e) → R = flt tp n x e → Q 0 N W) (k2 : ∀ b H N, frJ M0 N → rdR tp n b H N → a < b → R = Sum.inr (b, H) → Q 1 N W) : Xs 172 (309, [some (some (vR 86)), some (some (vI z1)), some (some (vI (168 + 7 * (G 0 2)))), some (some (vI z3))], [], (M, W)) (QI Q) := by
  have hp := hS.p
  have hNN := hp.1.N; unfold wfN at hNN
  unfold rdD3 at hRe
  have none : ¬ (tK tp n b = 5 ∧ (0 < d ∨ 0 ≤ e)) → Xs 172 (353, [some (some (vR 86)), some (some (vI z1)), some (some (vI (168 + 7 * (G 0 2)))), some (some (vI z3))], [], (M, W)) (QI Q) := fun hno => by
    rw [if_neg hno] at hRe
    exact u_road353 (w := 0) hS hf hab hR p0 p1 q0 q1 hpq hb h0 h1 d0 d1 e0 e1 (by decide) (by decide) hro (by omega) (fun N fN hN => k2 b _ N fN hN hab hRe)
  refine k_X12_roadRead_309 _ _ _ _ _ _ ?_
  refine u_isKey hS (by decide) (by decide) (fun h5 => ⟨by decide, fun y => absurd y (by decide), fun _ => ⟨by omega, fun hz0 => none (fun y => by omega), fun hz1 => ?_⟩⟩) (fun h5 => ⟨by decide, fun _ => none (fun y => h5 y.1), fun y => absurd rfl y⟩)
  have yd : 0 < d ∨ 0 ≤ e := by omega
  rw [if_pos ⟨h5, yd⟩] at hRe
  refine u_take hS (by omega) (fun N fN hN => u_number hN (by decide) (by decide) (fun f K fK wK hk => ⟨by decide, fun y => absurd rfl y, fun _ => k1 f (b + 1) K (frJ_tr hf (frJ_tr (frJ_L fN) fK)) wK (by rw [hRe]; exact hk _)⟩) (fun w w0 w1 ew h11 hk => ⟨by decide, fun _ => ⟨by omega, ?_⟩, fun y => absurd (by decide) y⟩))
  rw [ew]
  have hN2 := hN.u93 (i := 168 + 7 * (G 0 2) + 5) (v := w) (by omega)
  refine u_take hN2 (by omega) (fun L fL hL => u_road353 (w := w) hL (frJ_tr hf (frJ_tr (frJ_L fN) (frJ_tr (frJ_93 (by omega)) (frJ_L fL)))) (show a < b + 1 + 1 by omega) hR p0 p1 q0 q1 hpq hb h0 h1 d0 d1 e0 e1 (by omega) w1 ?_ (by omega) (fun K fK hK => k2 (b + 1 + 1) _ K fK hK (by omega) ?_))
  · unfold roI at hro ⊢
    have e93 : ∀ j, j ≠ 168 + 7 * (G 0 2) + 5 → L 93 j = M 93 j := fun j c => by rw [fL _ _ (by omega), up_j _ _ _ c, fN _ _ (by omega)]
    rw [e93 _ (by omega), e93 _ (by omega), e93 _ (by omega), e93 _ (by omega), e93 _ (by omega), e93 (168 + 7 * (G 0 2) + 6) (by omega), fL _ _ (by omega), up_s]
    exact ⟨hro.1, hro.2.1, hro.2.2.1, hro.2.2.2.1, hro.2.2.2.2.1, rfl, hro.2.2.2.2.2.2⟩
  · rw [hRe, hk, show b + 2 = b + 1 + 1 by omega]
theorem u_road252 {M M0 : aM} {W : aW} {Q : Int → aM → aW → Prop} {tp : Int → Int} {n a b p q h d z1 z3 : Int} {G : Lnd} {R : PRes} (hS : rdR tp n b G M) (hf : frJ M0 M) (hab : a < b) (hR : (G 0 2) < 24) (p0 : 0 ≤ p) (p1 : p < (G 0 0)) (q0 : 0 ≤ q) (q1 : q < (G 0 0)) (hpq : p ≠ q) (hb : (G 4 (p * 10 + q)) < 0) (h0 : 1 ≤ h) (h1 : h ≤ 99) (d0 : 0 ≤ d) (d1 : d ≤ 9) (hro : roI G p q h d (-1) 0 M) (hD6 : (G 0 3) < 6) (h4 : tK tp n b = 4) (hRe : R = rdD2 tp n G p q h d b)
    (k1 : ∀ x e N, frJ M0 N → rdW N x (tS tp n e) → R = flt tp n x e → Q 0 N W) (k2 : ∀ b H N, frJ M0 N → rdR tp n b H N → a < b → R = Sum.inr (b, H) → Q 1 N W) : Xs 172 (252, [some (some (vR 86)), some (some (vI z1)), some (some (vI (168 + 7 * (G 0 2)))), some (some (vI z3))], [], (M, W)) (QI Q) := by
  have hp := hS.p
  have hNN := hp.1.N; unfold wfN at hNN
  unfold rdD2 at hRe
  rw [if_pos h4] at hRe
  refine k_X12_roadRead_252 _ _ _ _ _ _ ?_
  refine u_take hS (by omega) (fun N fN hN => ?_)
  have hk0 := tK_rng tp n (b + 1)
  have e8 : N 86 8 = kdR (tK tp n (b + 1)) := hN.T.2.2.1
  have hkr := kdR_rng (tK tp n (b + 1))
  rw [e8]
  refine ⟨by omega, fun he => ?_, fun hne => u_wrong hN (fun K fK wK => ⟨Or.inl rfl, k1 1 (b + 1) K (frJ_tr hf (frJ_tr (frJ_L fN) fK)) wK (by rw [hRe]; unfold cauK; rw [if_pos (fun y => hne ((kd2 hk0.1).mpr y))])⟩)⟩
  have h10 := (kd2 hk0.1).mp he
  have hnm := hN.T.2.2.2.2.1 h10
  have hfr := fnd_rng (G 10) (tV tp n (b + 1)) ((G 0 1)) (by omega)
  refine u_causeBy hN.g hp hnm ?_
  rw [up_s]
  have hN2 := hN.u93 (i := 168 + 7 * (G 0 2) + 4) (v := fnd (G 10) (tV tp n (b + 1)) ((G 0 1))) (by omega)
  have f2 := frJ_tr hf (frJ_tr (frJ_L fN) (frJ_93 (M := N) (i := 168 + 7 * (G 0 2) + 4) (v := fnd (G 10) (tV tp n (b + 1)) ((G 0 1))) (by omega)))
  refine ⟨by omega, by omega, by omega, fun hge => u_take hN2 (by omega) (fun L fL hL => u_road309 (e := fnd (G 10) (tV tp n (b + 1)) ((G 0 1))) (R := R) hL (frJ_tr f2 (frJ_L fL)) (show a < b + 1 + 1 by omega) hR p0 p1 q0 q1 hpq hb h0 h1 d0 d1 (by omega) (by omega) ?_ (Or.inr ⟨rfl, Or.inr hge, hD6⟩) ?_ k1 k2), fun hlt => u_wrong hN2 (fun K fK wK => ⟨Or.inl rfl, k1 4 (b + 1) K (frJ_tr f2 fK) wK (by rw [hRe]; unfold cauK; rw [if_neg (fun y => y h10), if_pos (by omega)])⟩)⟩
  · unfold roI at hro ⊢
    have e93 : ∀ j, j ≠ 168 + 7 * (G 0 2) + 4 → L 93 j = M 93 j := fun j c => by rw [fL _ _ (by omega), up_j _ _ _ c, fN _ _ (by omega)]
    rw [e93 _ (by omega), e93 _ (by omega), e93 _ (by omega), e93 _ (by omega), e93 (168 + 7 * (G 0 2) + 5) (by omega), e93 (168 + 7 * (G 0 2) + 6) (by omega), fL _ _ (by omega), up_s]
    exact ⟨hro.1, hro.2.1, hro.2.2.1, hro.2.2.2.1, rfl, hro.2.2.2.2.2.1, hro.2.2.2.2.2.2⟩
  · rw [hRe]; unfold cauK; rw [if_neg (fun y => y h10), if_neg (by omega), show b + 2 = b + 1 + 1 by omega]
theorem u_road231 {M M0 : aM} {W : aW} {Q : Int → aM → aW → Prop} {tp : Int → Int} {n a b p q h d z1 z3 : Int} {G : Lnd} {R : PRes} (hS : rdR tp n b G M) (hf : frJ M0 M) (hab : a < b) (hR : (G 0 2) < 24) (p0 : 0 ≤ p) (p1 : p < (G 0 0)) (q0 : 0 ≤ q) (q1 : q < (G 0 0)) (hpq : p ≠ q) (hb : (G 4 (p * 10 + q)) < 0) (h0 : 1 ≤ h) (h1 : h ≤ 99) (d0 : 0 ≤ d) (d1 : d ≤ 9) (hro : roI G p q h d (-1) 0 M) (hz : (z3 = 0 ∧ d = 0) ∨ (z3 = 1 ∧ 0 < d ∧ (G 0 3) < 6)) (hRe : R = if z3 = 0 ∧ tK tp n b = 4 ∧ 6 ≤ (G 0 3) then flt tp n 2 b else rdD2 tp n G p q h d b)
    (k1 : ∀ x e N, frJ M0 N → rdW N x (tS tp n e) → R = flt tp n x e → Q 0 N W) (k2 : ∀ b H N, frJ M0 N → rdR tp n b H N → a < b → R = Sum.inr (b, H) → Q 1 N W) : Xs 172 (231, [some (some (vR 86)), some (some (vI z1)), some (some (vI (168 + 7 * (G 0 2)))), some (some (vI z3))], [], (M, W)) (QI Q) := by
  refine k_X12_roadRead_231 _ _ _ _ _ _ ?_
  refine u_isKey hS (by decide) (by decide) (fun h4 => ⟨by decide, fun y => absurd y (by decide), fun _ => ⟨by omega, fun hz1 => ?_, fun hz0 => u_room hS (fun hD6 => ⟨by decide, fun _ => ?_, fun y => absurd (by decide) y⟩) (fun hD6 N fN wN => ⟨by decide, fun y => absurd rfl y, fun _ => k1 2 b N (frJ_tr hf fN) wN (by rw [hRe, if_pos ⟨Classical.byContradiction hz0, h4, hD6⟩])⟩)⟩⟩) (fun h4 => ⟨by decide, fun _ => ?_, fun y => absurd rfl y⟩)
  · rw [if_neg (fun y => hz1 y.1)] at hRe
    exact u_road252 hS hf hab hR p0 p1 q0 q1 hpq hb h0 h1 d0 d1 hro (by omega) h4 hRe k1 k2
  · rw [if_neg (fun y => by omega)] at hRe
    exact u_road252 hS hf hab hR p0 p1 q0 q1 hpq hb h0 h1 d0 d1 hro hD6 h4 hRe k1 k2
  · have hNN := hS.p.1.N; unfold wfN at hNN
    rw [if_neg (fun y => h4 y.2.1)] at hRe
    unfold rdD2 at hRe
    rw [if_neg h4] at hRe
    exact u_road309 (e := -1) hS hf hab hR p0 p1 q0 q1 hpq hb h0 h1 d0 d1 (by decide) (by omega) hro (by omega) hRe k1 k2
theorem u_road {M : aM} {W : aW} {Q : Int → aM → aW → Prop} {tp : Int → Int} {n a : Int} {G : Lnd} (hS : rdR tp n a G M) (ht : tK tp n a ≠ 13) (k1 : ∀ x e N, frJ M N → rdW N x (tS tp n e) → (rdRoa tp n G a) = flt tp n x e → Q 0 N W) (k2 : ∀ b H N, frJ M N → rdR tp n b H N → a < b → (rdRoa tp n G a) = Sum.inr (b, H) → Q 1 N W) : CallI 172 [vR 86] (M, W) Q := by
  have hp := hS.p
  have hNN := hp.1.N; unfold wfN at hNN
  have hw := hp.1
  have e10 : M 89 10 = (G 0 2) := hS.g.1 2 (by decide) (by decide)
  refine e_X12_roadRead _ _ _ ?_
  rw [e10]
  refine ⟨by omega, fun hlt => ?_, fun hge => u_wrong hS (fun K fK wK => ⟨Or.inl rfl, k1 2 a K fK wK (by unfold rdRoa; rw [if_pos (by omega)])⟩)⟩
  have r1 : rdRoa tp n G a = plcK tp n G (a + 1) (fun p => plcK tp n G (a + 2) (fun q => if p = q ∨ 0 ≤ (G 4 (p * 10 + q)) then flt tp n 3 (a + 2) else numK tp n 99 (a + 3) (fun h => rdD1 tp n G p q h (a + 4)))) := by unfold rdRoa; rw [if_neg (by omega)]
  refine u_take hS ht (fun N fN hN => u_spot hN (fun f K fK wK hk => ⟨by decide, fun y => absurd rfl y, fun _ => k1 f (a + 1) K (frJ_tr (frJ_L fN) fK) wK (by rw [r1]; exact hk _)⟩) (fun p K p0 p1 fK hK e19 h10 hk => ⟨by decide, fun _ v ev => ?_, fun y => absurd (by decide) y⟩))
  rw [ev, e19]
  have r2 : rdRoa tp n G a = plcK tp n G (a + 1 + 1) (fun q => if p = q ∨ 0 ≤ (G 4 (p * 10 + q)) then flt tp n 3 (a + 2) else numK tp n 99 (a + 3) (fun h => rdD1 tp n G p q h (a + 4))) := by rw [r1, hk, show a + 2 = a + 1 + 1 by omega]
  refine u_take hK (by omega) (fun N2 fN2 hN2 => u_spot hN2 (fun f K2 fK2 wK2 hk2 => ⟨by decide, fun y => absurd rfl y, fun _ => k1 f (a + 1 + 1) K2 (frJ_tr (frJ_L fN) (frJ_tr fK (frJ_tr (frJ_L fN2) fK2))) wK2 (by rw [r2]; exact hk2 _)⟩) (fun q K2 q0 q1 fK2 hK2 e19b h10b hk2 => ⟨by decide, fun _ => ?_, fun y => absurd (by decide) y⟩))
  have fr2 := frJ_tr (frJ_L fN) (frJ_tr fK (frJ_tr (frJ_L fN2) fK2))
  have r3 : rdRoa tp n G a = if p = q ∨ 0 ≤ (G 4 (p * 10 + q)) then flt tp n 3 (a + 1 + 1) else numK tp n 99 (a + 1 + 1 + 1) (fun h => rdD1 tp n G p q h (a + 4)) := by rw [r2, hk2, show a + 2 = a + 1 + 1 by omega, show a + 3 = a + 1 + 1 + 1 by omega]
  have hbl := hw.btw_lt (p := p) (q := q) p0 (by omega) q0 (by omega)
  rw [e19b]
  refine ⟨by omega, fun heq => u_wrong hK2 (fun L fL wL => ⟨Or.inl rfl, k1 3 (a + 1 + 1) L (frJ_tr fr2 fL) wL (by rw [r3, if_pos (Or.inl heq.symm)])⟩), fun hne => u_roadBetween hK2.g hp p0 p1 q0 q1 ⟨by omega, fun hneg v18 e18 => ?_, fun hpos => u_wrong hK2 (fun L fL wL => ⟨Or.inl rfl, k1 3 (a + 1 + 1) L (frJ_tr fr2 fL) wL (by rw [r3, if_pos (Or.inr (by omega))])⟩)⟩⟩
  have r4 : rdRoa tp n G a = numK tp n 99 (a + 1 + 1 + 1) (fun h => rdD1 tp n G p q h (a + 4)) := by rw [r3, if_neg (fun y => by rcases y with y | y <;> omega)]
  have c10 : K2 89 10 = (G 0 2) := hK2.g.1 2 (by decide) (by decide)
  have c19 : up_ K2 93 (168 + 7 * (G 0 2)) p 86 19 = q := by rw [up_b _ _ _ _ (by decide)]; exact e19b
  rw [c10] at e18
  rw [e18, c19]
  have hA := (hK2.u93 (i := 168 + 7 * (G 0 2)) (v := p) (by omega)).u93 (i := 168 + 7 * (G 0 2) + 1) (v := q) (by omega)
  have fA := frJ_tr fr2 (frJ_tr (frJ_93 (M := K2) (i := 168 + 7 * (G 0 2)) (v := p) (by omega)) (frJ_93 (i := 168 + 7 * (G 0 2) + 1) (v := q) (by omega)))
  refine ⟨by omega, by omega, u_take hA (by omega) (fun N3 fN3 hN3 => u_number hN3 (by decide) (by decide) (fun f K3 fK3 wK3 hk3 => ⟨by decide, fun y => absurd rfl y, fun _ => k1 f (a + 1 + 1 + 1) K3 (frJ_tr fA (frJ_tr (frJ_L fN3) fK3)) wK3 (by rw [r4]; exact hk3 _)⟩) (fun h h0 h1 eh h11 hk3 => ⟨by decide, fun _ => ⟨by omega, by omega, by omega, by omega, by omega, ?_⟩, fun y => absurd (by decide) y⟩))⟩
  rw [eh]
  have r5 : rdRoa tp n G a = rdD1 tp n G p q h (a + 1 + 1 + 1 + 1) := by rw [r4, hk3, show a + 4 = a + 1 + 1 + 1 + 1 by omega]
  have hB := ((((hN3.u93 (i := 168 + 7 * (G 0 2) + 2) (v := h) (by omega)).u93 (i := 168 + 7 * (G 0 2) + 3) (v := 0) (by omega)).u93 (i := 168 + 7 * (G 0 2) + 4) (v := -1) (by omega)).u93 (i := 168 + 7 * (G 0 2) + 5) (v := 0) (by omega)).u93 (i := 168 + 7 * (G 0 2) + 6) (v := -1) (by omega)
  have fB := frJ_tr fA (frJ_tr (frJ_L fN3) (frJ_tr (frJ_93 (M := N3) (i := 168 + 7 * (G 0 2) + 2) (v := h) (by omega)) (frJ_tr (frJ_93 (i := 168 + 7 * (G 0 2) + 3) (v := 0) (by omega)) (frJ_tr (frJ_93 (i := 168 + 7 * (G 0 2) + 4) (v := -1) (by omega)) (frJ_tr (frJ_93 (i := 168 + 7 * (G 0 2) + 5) (v := 0) (by omega)) (frJ_93 (i := 168 + 7 * (G 0 2) + 6) (v := -1) (by omega)))))))
  refine u_take hB (by omega) (fun N4 fN4 hN4 => ?_)
  have hro : roI G p q h 0 (-1) 0 N4 := by
    have g : ∀ j, N4 93 j = up_ (up_ (up_ (up_ (up_ N3 93 (168 + 7 * (G 0 2) + 2) h) 93 (168 + 7 * (G 0 2) + 3) 0) 93 (168 + 7 * (G 0 2) + 4) (-1)) 93 (168 + 7 * (G 0 2) + 5) 0) 93 (168 + 7 * (G 0 2) + 6) (-1) 93 j := fun j => fN4 _ _ (by omega)
    have g3 : ∀ j, N3 93 j = up_ (up_ K2 93 (168 + 7 * (G 0 2)) p) 93 (168 + 7 * (G 0 2) + 1) q 93 j := fun j => fN3 _ _ (by omega)
    unfold roI
    rw [g, g, g, g, g, g, g]
    refine ⟨?_, ?_, ?_, ?_, ?_, ?_, up_s _ _ _ _⟩
    · rw [up_j _ _ _ (by omega), up_j _ _ _ (by omega), up_j _ _ _ (by omega), up_j _ _ _ (by omega), up_j _ _ _ (by omega), g3, up_j _ _ _ (by omega), up_s]
    · rw [up_j _ _ _ (by omega), up_j _ _ _ (by omega), up_j _ _ _ (by omega), up_j _ _ _ (by omega), up_j _ _ _ (by omega), g3, up_s]
    · rw [up_j _ _ _ (by omega), up_j _ _ _ (by omega), up_j _ _ _ (by omega), up_j _ _ _ (by omega), up_s]
    · rw [up_j _ _ _ (by omega), up_j _ _ _ (by omega), up_j _ _ _ (by omega), up_s]
    · rw [up_j _ _ _ (by omega), up_j _ _ _ (by omega), up_s]
    · rw [up_j _ _ _ (by omega), up_s]
  have fC := frJ_tr fB (frJ_L fN4)
  have hbn : (G 4 (p * 10 + q)) < 0 := hneg
  unfold rdD1 at r5
  refine u_isKey hN4 (by decide) (by decide) (fun h3 => ⟨by decide, fun y => absurd y (by decide), fun _ => u_room hN4 (fun hD6 => ⟨by decide, fun _ => ?_, fun y => absurd (by decide) y⟩) (fun hD6 L fL wL => ⟨by decide, fun y => absurd rfl y, fun _ => k1 2 (a + 1 + 1 + 1 + 1) L (frJ_tr fC fL) wL (by rw [r5, if_pos ⟨Or.inl h3, hD6⟩])⟩)⟩) (fun h3 => ⟨by decide, fun _ => ?_, fun y => absurd rfl y⟩)
  · rw [if_neg (fun y => by omega), if_pos h3] at r5
    refine u_take hN4 (by omega) (fun N5 fN5 hN5 => u_number hN5 (by decide) (by decide) (fun f K5 fK5 wK5 hk5 => ⟨by decide, fun y => absurd rfl y, fun _ => k1 f (a + 1 + 1 + 1 + 1 + 1) K5 (frJ_tr fC (frJ_tr (frJ_L fN5) fK5)) wK5 (by rw [r5]; exact hk5 _)⟩) (fun d d0 d1 ed h11d hk5 => ⟨by decide, fun _ => ⟨by omega, ?_⟩, fun y => absurd (by decide) y⟩))
    rw [ed]
    have hN6 := hN5.u93 (i := 168 + 7 * (G 0 2) + 3) (v := d) (by omega)
    refine u_take hN6 (by omega) (fun L fL hL => u_road231 (d := d) (R := rdRoa tp n G a) hL (frJ_tr fC (frJ_tr (frJ_L fN5) (frJ_tr (frJ_93 (by omega)) (frJ_L fL)))) (show a < a + 1 + 1 + 1 + 1 + 1 + 1 by omega) (by omega) p0 p1 q0 q1 (fun y => hne y.symm) hbn h0 h1 (by omega) d1 ?_ (Or.inr ⟨rfl, by omega, hD6⟩) ?_ k1 k2)
    · unfold roI at hro ⊢
      have e93 : ∀ j, j ≠ 168 + 7 * (G 0 2) + 3 → L 93 j = N4 93 j := fun j c => by rw [fL _ _ (by omega), up_j _ _ _ c, fN5 _ _ (by omega)]
      rw [e93 _ (by omega), e93 _ (by omega), e93 _ (by omega), e93 (168 + 7 * (G 0 2) + 4) (by omega), e93 (168 + 7 * (G 0 2) + 5) (by omega), e93 (168 + 7 * (G 0 2) + 6) (by omega), fL _ _ (by omega), up_s]
      exact ⟨hro.1, hro.2.1, hro.2.2.1, rfl, hro.2.2.2.2.1, hro.2.2.2.2.2.1, hro.2.2.2.2.2.2⟩
    · rw [if_neg (fun y => absurd y.1 (by decide)), r5, hk5, show a + 1 + 1 + 1 + 1 + 2 = a + 1 + 1 + 1 + 1 + 1 + 1 by omega]
  · refine u_road231 (d := 0) (R := rdRoa tp n G a) hN4 fC (show a < a + 1 + 1 + 1 + 1 by omega) (by omega) p0 p1 q0 q1 (fun y => hne y.symm) hbn h0 h1 (by decide) (by decide) hro (Or.inl ⟨rfl, rfl⟩) ?_ k1 k2
    rw [r5]
    by_cases c : tK tp n (a + 1 + 1 + 1 + 1) = 4 ∧ 6 ≤ (G 0 3)
    · rw [if_pos ⟨Or.inr c.1, c.2⟩, if_pos ⟨rfl, c⟩]
    · rw [if_neg (fun y => by rcases y with ⟨y1 | y1, y2⟩ <;> omega), if_neg h3, if_neg (fun y => c y.2)]
