/-! THE REFERENCE: land -/
theorem u_keep {M : aM} {W : aW} {Q : aM → aW → Prop} {G : Lnd} (hg : rdG G M) (hp : pW G) (hs : snI G)
    (h : ∀ N, (∀ b j, ¬ (89 ≤ b ∧ b ≤ 103) → b ≠ 107 → b ≠ 113 → ¬ (b = 86 ∧ (j = 22 ∨ j = 23 ∨ j = 41 ∨ j = 43 ∨ j = 54)) → N b j = M b j) → rfG G N → rfW G N → hopI G N → rfB G N → rfU G N → rfF G N → rpM G (dNew G) N → rjM G 0 0 0 (fun _ => 0) (fun _ => 0) (fun _ => 0) N → Q N W) : CallV 182 [vR 86] (M, W) Q := by
  have hw := hp.1
  have hN := hw.N; unfold wfN at hN
  have ht := thrG hw
  obtain ⟨g1, g2, g3, g4, g5, g6, g7⟩ := hg
  refine e_X12_keep _ _ _ ?_
  refine kp_2 (fun A1 f1 e1 => kp_31 (fun A2 f2 _ => kp_60 (fun A3 f3 e3 => kp_101 (fun A4 f4 e4 => kp_132 (fun A5 f5 e5 => kp_161 (fun A6 f6 e6 => kp_190 (fun A7 f7 e7 => ?_)))))))
  have hC : rfC G A7 := by
    refine ⟨fun j j0 j1 => ?_, fun c c0 c1 => ?_, fun r f r0 r1 q0 q1 => ?_, fun d d0 d1 => ?_, fun s s0 s1 => ?_, fun w w0 w1 => ?_⟩
    · rw [f7 _ _ (by decide), f6 _ _ (by decide), f5 _ _ (by decide), f4 _ _ (by decide), f3 _ _ (by decide) (by decide), f2 _ _ (by decide), e1 j j0 j1]; exact g1 j j0 j1
    · rw [f7 _ _ (by decide), f6 _ _ (by decide), f5 _ _ (by decide), f4 _ _ (by decide), e3 c c0 (by omega), f2 _ _ (by decide), f1 _ _ (by decide)]; exact (g3 c c0 c1).2
    · rw [f7 _ _ (by decide), f6 _ _ (by decide), f5 _ _ (by decide), e4 (7 * r + f) (by omega) (by omega), f3 _ _ (by decide) (by decide), f2 _ _ (by decide), f1 _ _ (by decide), show 168 + (7 * r + f) = 168 + 7 * r + f by omega]; exact g4 r f r0 r1 q0 q1
    · rw [f7 _ _ (by decide), f6 _ _ (by decide), e5 d d0 (by omega), f4 _ _ (by decide), f3 _ _ (by decide) (by decide), f2 _ _ (by decide), f1 _ _ (by decide)]; exact g5 d d0 d1
    · have h4 := hp.2.1
      rw [f7 _ _ (by decide), f7 _ _ (by decide), e6 (2 * s) (by omega) (by omega), e6 (2 * s + 1) (by omega) (by omega), f5 _ _ (by decide), f5 _ _ (by decide), f4 _ _ (by decide), f4 _ _ (by decide), f3 _ _ (by decide) (by decide), f3 _ _ (by decide) (by decide), f2 _ _ (by decide), f2 _ _ (by decide), f1 _ _ (by decide), f1 _ _ (by decide), show 16 + (2 * s + 1) = 16 + 2 * s + 1 by omega]; exact g6 s s0 s1
    · have a : ∀ j, 0 ≤ j → j < 18 → A7 96 j = M 96 (18 + j) := fun j j0 j1 => by rw [e7 j j0 j1, f6 _ _ (by decide), f5 _ _ (by decide), f4 _ _ (by decide), f3 _ _ (by decide) (by decide), f2 _ _ (by decide), f1 _ _ (by decide)]
      rw [a _ (by omega) (by omega), a _ (by omega) (by omega), a _ (by omega) (by omega), show 18 + (3 * w + 1) = 18 + 3 * w + 1 by omega, show 18 + (3 * w + 2) = 18 + 3 * w + 2 by omega]; exact g7 w w0 w1
  have fA : ∀ b j, ¬ (89 ≤ b ∧ b ≤ 96) → A7 b j = M b j := fun b j c => by
    rw [f7 _ _ (by omega), f6 _ _ (by omega), f5 _ _ (by omega), f4 _ _ (by omega), f3 _ _ (by omega) (by omega), f2 _ _ (by omega), f1 _ _ (by omega)]
  refine kp_219 (fun A8 f8 e8 => kp_240 (fun A9 f9 e9 => kp_261 (G := G) (hC.of (fun b j a b' => by rw [f9 _ _ (by omega), f8 _ _ (by omega)])) hp (fun j j0 j1 => by rw [f9 _ _ (by decide)]; exact e8 j j0 j1) e9 (fun B1 d2 b1 bB1 sB1 => ?_)))
  have hC1 : rfC G B1 := hC.of (fun b j a b' => by rw [b1 _ _ (by omega) (by omega), f9 _ _ (by omega), f8 _ _ (by omega)])
  refine kp_399 hC1 hp hs sB1 (fun B2 b2 e97 e22 e23 => ?_)
  have hC2 : rfC G B2 := hC1.of (fun b j a b' => b2 _ _ (by omega) (by omega))
  refine kp_460 hw (hC2.1 3 (by decide) (by decide)) e23 (fun B3 b3 d3B e23' => ?_)
  have hC3 : rfC G B3 := hC2.of (fun b j a b' => b3 _ _ (by omega) (by omega))
  refine kp_518 hw (hC3.1 3 (by decide) (by decide)) d3B e23' (fun B4 x1 d3 b4 tB4 e43 e41 e54 => kp_587 (fun B5 b5 e107 => kp_607 (fun B6 b6 e113 => ?_)))
  have hC6 : rfC G B6 := hC3.of (fun b j a b' => by rw [b6 _ _ (by omega), b5 _ _ (by omega), b4 _ _ (by omega) (by omega)])
  obtain ⟨c1, c2, c3, c4, c5, c6⟩ := id hC6
  have h6 : ∀ b j, b ≠ 113 → b ≠ 107 → b ≠ 100 → ¬ (b = 86 ∧ (j = 43 ∨ j = 41 ∨ j = 54)) → B6 b j = B3 b j := fun b j a1 a2 a3 a4 => by rw [b6 _ _ a1, b5 _ _ a2, b4 _ _ a3 a4]
  have hG6 : rfG G B6 := by
    refine ⟨hw, ⟨c1 0 (by decide) (by decide), c1 1 (by decide) (by decide), c1 2 (by decide) (by decide), c1 3 (by decide) (by decide), c1 5 (by decide) (by decide), c1 6 (by decide) (by decide), c1 7 (by decide) (by decide)⟩, c2, c3, c4, c6, fun p q p0 p1 q0 q1 => ?_, fun p p0 p1 => ?_, ⟨?_, ?_⟩, fun i i0 i1 => ?_, tB4.of (fun j => by rw [b6 _ _ (by decide), b5 _ _ (by decide)])⟩
    · rw [h6 _ _ (by decide) (by decide) (by decide) (by omega), b3 _ _ (by decide) (by omega), b2 _ _ (by decide) (by omega), bB1 p q p0 p1 q0 q1]
      rcases hw.B.1 p q p0 p1 q0 q1 with c | c
      · rw [if_neg (by omega), c]
      · rw [if_pos ⟨c.1, c.2.1⟩]
    · rw [h6 _ _ (by decide) (by decide) (by decide) (by omega), b3 _ _ (by decide) (by omega)]; exact e97 p p0 p1
    · rw [h6 _ _ (by decide) (by decide) (by decide) (by decide), b3 _ _ (by decide) (by decide)]; exact e22
    · rw [h6 _ _ (by decide) (by decide) (by decide) (by decide)]; exact e23'
    · rw [h6 _ _ (by decide) (by decide) (by decide) (by omega)]; exact d3B i i0 i1
  refine s_X12_layWeights hG6 (fun B7 g7' hW7 => ?_)
  have t107 : ∀ j, 0 ≤ j → j < 3 → B7 107 j = 0 := fun j j0 j1 => by rw [g7' _ _ (by decide), b6 _ _ (by decide)]; exact e107 j j0 j1
  refine h B7 (fun b j q1 q2 q3 q4 => ?_) (hG6.of (fun b j c => g7' b j (by unfold inG at c; omega))) hW7 (fun k x p k0 k1 x0 x1 p0 p1 => Or.inl ?_) (Or.inl (t107 0 (by decide) (by decide))) (Or.inl (t107 1 (by decide) (by decide))) (Or.inl (t107 2 (by decide) (by decide))) ⟨dNew_ok hw, ⟨?_, fun i i0 i1 => ?_⟩, ?_, fun i i0 i1 => ?_⟩ ⟨?_, Or.inl rfl, fun q => absurd q (by decide)⟩
  · rw [g7' _ _ (by omega), h6 _ _ q3 q2 (by omega) (by omega), b3 _ _ (by omega) (by omega), b2 _ _ (by omega) (by omega), b1 _ _ (by omega) (by omega), f9 _ _ (by omega), f8 _ _ (by omega)]
    exact fA b j (by omega)
  · rw [g7' _ _ (by decide)]; exact e113 _ (by omega) (by omega)
  · rw [g7' _ _ (by decide), b6 _ _ (by decide), b5 _ _ (by decide)]; exact e41
  · have i1' : i < 0 := i1
    omega
  · rw [g7' _ _ (by decide), b6 _ _ (by decide), b5 _ _ (by decide)]; exact e43
  · have i1' : i < 0 := i1
    omega
  · rw [g7' _ _ (by decide), b6 _ _ (by decide), b5 _ _ (by decide)]; exact e54
theorem rdAll_S (tp : Int → Int) (n : Int) (k : Nat) (G : Lnd) (a l : Int) : rdAll tp n (k + 1) G a l = if tK tp n a = 13 then Sum.inr (l, G) else match rdSt tp n (rdLn tp n G a) with
    | Sum.inl f => Sum.inl f
    | Sum.inr s => rdAll tp n k s.2 s.1 (l + 1) := rfl
theorem r_land {Q : Int → aM → aW → Prop} {M : aM} {W : aW} {G : Lnd} {D : Int → Int → Int} {on w n tn fk fp : Int} {wp wh wk tp : Int → Int} {x : Int} {G0 : Lnd} (h : rfS G D on w n wp wh wk tn tp fk fp M) (hi : inI x) (hb : ∀ i, 0 ≤ i → i < tn → -128 ≤ tp i ∧ tp i ≤ 127) (k1 : x < 0 ∨ tn < x → ∀ N, frK M N → rfS G D on w n wp wh wk tn tp fk fp N → Q (-2) N W) (k2 : 0 ≤ x → x ≤ tn → pW G0 → emZ G0 → ∀ f e, rdLand tp x G0 = Sum.inl (f, e) → ∀ N, frK M N → rfS G D on w n wp wh wk 0 tp f e N → Q (-1) N W) (k3 : 0 ≤ x → x ≤ tn → pW G0 → emZ G0 → ∀ l H, rdLand tp x G0 = Sum.inr (l, H) → ∀ N, frK M N → rfS H (dNew H) 0 0 0 (fun _ => 0) (fun _ => 0) (fun _ => 0) 0 tp 0 (-1) N → Q l N W) (hp0 : pW G0) (hz0 : emZ G0) : CallI 178 [vR 86, vI x] (M, W) Q := by
  have h2 := h.thr (v := 0)
  have fr := frK_thr M 0
  obtain ⟨t1, t2, t3⟩ := h2.2.2.2.2.2.2.1
  have hrw := h2.2.2.2.2.2.2.2.2
  refine e_X12_land _ _ _ _ ?_
  generalize up_ M 86 2 0 = M1 at *
  rw [t2]
  refine ⟨hi, fun hneg => k1 (Or.inl hneg) M1 fr h2, fun hpos => ⟨by omega, fun hle => ?_, fun hgt => k1 (Or.inr (by omega)) M1 fr h2⟩⟩
  -- how far the memory has changed
  have fin1 : ∀ N : aM, frJ (up_ M1 86 1 0) N → ∀ f e, rdW N f e → rdLand tp x G0 = Sum.inl (f, e) → Q (-1) N W := fun N fN f e wN hr => by
    obtain ⟨h1, h2', h3, ⟨h4, h5, h6⟩, h7, h8, h9, ⟨h10, h11⟩, h12⟩ := id h2
    have ht := h1.t; have hn := h1.n
    have hq : thr_ ((G 0 3)) ≤ 729 ∧ (G 0 0) ≤ 10 := by omega
    have e0 : ∀ b j, ¬ dfC b j → ¬ (b = 86 ∧ j = 1) → N b j = M1 b j := fun b j c1 c2 => by rw [fN b j c1]; exact if_neg c2
    refine k2 (by omega) hle hp0 hz0 f e hr N (frK_tr fr (fun b j c => e0 b j (by unfold dfC; omega) (by omega))) ?_
    exact ⟨h1.of (fun b j c => e0 b j (by unfold inG at c; unfold dfC; omega) (by unfold inG at c; omega)), h2'.of (fun b j c => e0 b j (by unfold dfC; omega) (by omega)), h3.of (fun j => e0 113 j (by unfold dfC; omega) (by omega)), ⟨h4.of hq (fun b j c => e0 b j (by unfold dfC; omega) (by omega)), h5.of hq (fun b j c => e0 b j (by unfold dfC; omega) (by omega)), h6.of hq (fun b j c => e0 b j (by unfold dfC; omega) (by omega))⟩, h7.of (fun b j c => e0 b j (by unfold dfC; omega) (by omega)), h8.of (fun b j c => e0 b j (by unfold dfC; omega) (by omega)), ⟨by omega, by rw [fN _ _ (by unfold dfC; omega)]; exact up_s _ _ _ _, fun i i0 i1 => by omega⟩, wN, h12.of (fun j => e0 88 j (by unfold dfC; omega) (by omega))⟩
  have fin2 : ∀ (N : aM) (H : Lnd) (l : Int), frJ (up_ M1 86 1 0) N → N 86 4 = 0 → N 86 5 = -1 → rdG H N → pW H → snI H → rdLand tp x G0 = Sum.inr (l, H) → CallV 182 [vR 86] (N, W) (fun M1 W2 => Q l M1 W2) := fun N H l fN e4 e5 gN pN sN hr => by
    refine u_keep gN pN sN (fun K fK hG hW hI hB hU hF hp hj => ?_)
    have e0 : ∀ b j, ¬ dfC b j → ¬ (b = 86 ∧ j = 1) → N b j = M1 b j := fun b j c1 c2 => by rw [fN b j c1]; exact if_neg c2
    refine k3 (by omega) hle hp0 hz0 l H hr K (frK_tr fr (fun b j c => by rw [fK b j (by omega) (by omega) (by omega) (by omega)]; exact e0 b j (by unfold dfC; omega) (by omega))) ⟨hG, hW, hI, ⟨hB, hU, hF⟩, hp, hj, ⟨by omega, ?_, fun i i0 i1 => by omega⟩, ⟨?_, ?_⟩, hrw.of (fun j => ?_)⟩
    · rw [fK _ _ (by decide) (by decide) (by decide) (by decide), fN _ _ (by unfold dfC; omega)]; exact up_s _ _ _ _
    · rw [fK _ _ (by decide) (by decide) (by decide) (by decide)]; exact e4
    · rw [fK _ _ (by decide) (by decide) (by decide) (by decide)]; exact e5
    · rw [fK _ _ (by decide) (by decide) (by decide) (by omega)]; exact e0 _ _ (by unfold dfC; omega) (by omega)
  have l55 : ∀ (k : Nat) (H : Lnd) (a l : Int) (N : aM), frJ (up_ M1 86 1 0) N → rdR tp x a H N → l ≤ a → x + 1 ≤ l + k → rdAll tp x k H a l = rdLand tp x G0 → Xs 178 (55, [some (some (vR 86)), some (some (vI x)), some (some (vI l))], [], (N, W)) (QI Q) := by
    intro k
    induction k with
    | zero =>
      intro H a l N fN hN hla hk he
      have := rdA_le (tp := tp) (n := x) (by omega) hN.A
      omega
    | succ k ih =>
      intro H a l N fN hN hla hk he
      have hk0 := tK_rng tp x a
      have e8 : N 86 8 = kdR (tK tp x a) := hN.T.2.2.1
      have hkr := kdR_rng (tK tp x a)
      rw [rdAll_S] at he
      refine k_X12_land_55 _ _ _ _ _ ?_
      rw [e8]
      refine ⟨by omega, fun hz => ?_, fun hnz => ?_⟩
      · have h13 := (kd0 hk0.1).mp hz
        rw [if_pos h13] at he
        exact fin2 N H l fN hN.z.1 hN.z.2 hN.g hN.p hN.s he.symm
      · have h13 : tK tp x a ≠ 13 := fun q => hnz ((kd0 hk0.1).mpr q)
        rw [if_neg h13] at he
        refine u_line hN h13 (fun f e K fK wK hk' => ⟨by decide, fun y => absurd rfl y, fun _ => ?_⟩) (fun b H' K fK hK hab hk' => ⟨by decide, fun _ => ?_, fun y => absurd (by decide) y⟩)
        · rw [hk'] at he
          exact fin1 K (frJ_tr fN fK) f (tS tp x e) wK he.symm
        · rw [hk'] at he
          exact ih H' b (l + 1) K (frJ_tr fN fK) hK (by omega) (by omega) he
  refine u_plain (fun P fP eP e14 e15 => ?_)
  have hPe : ∀ b j, ¬ (b = 89 ∧ 8 ≤ j ∧ j ≤ 15) → P b j = up_ (up_ (up_ (up_ (up_ M1 86 6 x) 86 1 0) 86 4 0) 86 5 (-1)) 86 7 0 b j := fP
  have p6 : P 86 6 = x := by rw [hPe _ _ (by decide), up_j _ _ _ (by decide), up_j _ _ _ (by decide), up_j _ _ _ (by decide), up_j _ _ _ (by decide), up_s]
  have p7 : P 86 7 = 0 := by rw [hPe _ _ (by decide), up_s]
  have p4 : P 86 4 = 0 := by rw [hPe _ _ (by decide), up_j _ _ _ (by decide), up_j _ _ _ (by decide), up_s]
  have p5 : P 86 5 = -1 := by rw [hPe _ _ (by decide), up_j _ _ _ (by decide), up_s]
  have po : ∀ b j, b ≠ 86 → ¬ (b = 89 ∧ 8 ≤ j ∧ j ≤ 15) → P b j = M1 b j := fun b j c1 c2 => by rw [hPe _ _ c2, up_b _ _ _ _ c1, up_b _ _ _ _ c1, up_b _ _ _ _ c1, up_b _ _ _ _ c1, up_b _ _ _ _ c1]
  have pJ : frJ (up_ M1 86 1 0) P := fun b j c => by
    have c2 : ¬ (b = 89 ∧ 8 ≤ j ∧ j ≤ 15) := fun q => c (by unfold dfC; omega)
    rw [hPe _ _ c2]
    have q7 : ¬ (b = 86 ∧ j = 7) := fun q => c (by unfold dfC; omega)
    have q5 : ¬ (b = 86 ∧ j = 5) := fun q => c (by unfold dfC; omega)
    have q4 : ¬ (b = 86 ∧ j = 4) := fun q => c (by unfold dfC; omega)
    have q6 : ¬ (b = 86 ∧ j = 6) := fun q => c (by unfold dfC; omega)
    unfold up_
    rw [if_neg q7, if_neg q5, if_neg q4, if_neg q6]
  have hLP : lxS tp x P := ⟨by omega, fun i i0 i1 => hb i i0 (by omega), p6, fun i i0 i1 => by rw [po _ _ (by decide) (by omega)]; exact t3 i i0 (by omega), hrw.of (fun j => po _ _ (by decide) (by omega))⟩
  refine s_X12_take (a := 0) hLP p7 (by decide) (by omega) (tS_0 tp x) (fun N fN tN => ?_)
  have e89 : ∀ j, 0 ≤ j → j < 8 → N 89 (8 + j) = G0 0 j := fun j j0 j1 => by
    rw [fN _ _ (by omega)]
    by_cases c : j < 6
    · rw [eP _ (by omega) (by omega), hz0.1 j j0 c]
    · rcases (show j = 6 ∨ j = 7 by omega) with e | e <;> subst e
      · rw [show (8 : Int) + 6 = 14 from rfl, e14, hz0.2.1]
      · rw [show (8 : Int) + 7 = 15 from rfl, e15, hz0.2.2]
  have z0 := hz0.1 0 (by decide) (by decide)
  have z1 := hz0.1 1 (by decide) (by decide)
  have z2 := hz0.1 2 (by decide) (by decide)
  have z3 := hz0.1 3 (by decide) (by decide)
  have z4 := hz0.1 4 (by decide) (by decide)
  have z5 := hz0.1 5 (by decide) (by decide)
  have hg : rdG G0 N := ⟨e89, fun i i0 i1 => by omega, fun i i0 i1 => by omega, fun r f r0 r1 => by omega, fun d d0 d1 => by omega, fun s s0 s1 => by omega, fun s s0 s1 => by omega⟩
  have hR : rdR tp x 0 G0 N := ⟨fN.L hLP, ⟨Int.le_refl 0, fun q => by omega⟩, tN, hg, hp0, snI_0 hp0 hz0, ⟨by rw [fN _ _ (by decide)]; exact p4, by rw [fN _ _ (by decide)]; exact p5⟩⟩
  exact l55 (x + 1).toNat G0 0 0 N (frJ_tr pJ (frJ_L fN)) hR (Int.le_refl 0) (by omega) rfl
