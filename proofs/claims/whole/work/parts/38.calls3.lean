/-! THE CLASS's calls: ring, bell, worth, scout, keep, edge, walks -/
noncomputable def aRing (G : Lnd) (D : Int → Int → Int) (kk : Int) : Int := if 0 ≤ kk ∧ 0 ≤ (G 0 6) ∧ 0 ≤ (G 0 7) then rgF G D kk else -1
theorem c_ring {Q : Int → aM → aW → Prop} {M : aM} {W : aW} {G : Lnd} {D : Int → Int → Int} {c on w n tn fk fp L : Int} {wp wh wk tp : Int → Int} {x : Int} (h : clS c G D on w n wp wh wk tn tp fk fp L M W) (hi : inI x) (k : ∀ N, frC M N → clS c G D on w n wp wh wk tn tp fk fp L N W → Q (aRing G D x) N W) : CallI 136 [vR 0, vI x] (M, W) Q := by
  obtain ⟨⟨h4, -⟩, hP, hS, hA, -, hL, hJ, -⟩ := id h
  have hw := hP.2.2.1
  have kk := k M (frC_refl M) h
  unfold aRing at k kk
  refine e_X11_ring _ _ _ _ ?_
  rw [h4]
  refine ⟨hi, fun hneg => ?_, fun hpos => ⟨ct_o hP.1, s_X3_hasEnds hP.1 hP.2.1 hw (fun r hr => ⟨by omega, fun hnz => ?_, fun hz => ?_⟩)⟩⟩
  · rw [if_neg (by omega)] at kk; exact kk
  · rw [if_pos (by omega)] at k
    refine s_X7_ringPlace hP (clD_of hw hS hL (by decide) (by decide) (fun hh => absurd hh (by decide))) (planOK_of hw hL.1 (by decide) (by decide)) (by omega) (by omega) hi (fun N hag => ?_)
    exact k N (frC_ag hag (by decide)) (h.part (fun b j b1 b2 b3 b4 b5 => hag b j (by omega)) (hA.of (fun b j b1 b2 => hag b j (by omega))) (hL.of (fun b j hb => hag b j (by omega))) (hJ.of (fun b j b1 b2 => hag b j (by omega))))
  · rw [if_neg (by omega)] at kk; exact kk
noncomputable def aBell (G : Lnd) (t : Int) : Int := if 0 ≤ t ∧ t ≤ 48 ∧ 0 ≤ (G 0 6) ∧ 0 ≤ (G 0 7) then BL G 0 ((G 0 6)) t else -1
theorem c_bell {Q : Int → aM → aW → Prop} {M : aM} {W : aW} {G : Lnd} {D : Int → Int → Int} {c on w n tn fk fp L : Int} {wp wh wk tp : Int → Int} {t : Int} (h : clS c G D on w n wp wh wk tn tp fk fp L M W) (hi : inI t) (k : ∀ N W' L', frC M N → wR W W' L L' → clS c G D on w n wp wh wk tn tp fk fp L' N W' → Q (aBell G t) N W') : CallL 137 [vR 0, vI t] (M, W) Q := by
  obtain ⟨⟨h4, h5⟩, hP, hS, hA, ⟨b1, b2, b3, b4⟩, hL, hJ, hT, h10, h11⟩ := id h
  have hw := hP.2.2.1
  have kk := k M W L (frC_refl M) (Or.inl ⟨rfl, rfl⟩) h
  unfold aBell at k kk
  refine e_X11_bell _ _ _ _ ?_
  rw [h4]
  refine ⟨hi, fun hneg => ?_, fun hpos => ⟨by omega, fun hgt => ?_, fun hle => ⟨ct_o hP.1, s_X3_hasEnds hP.1 hP.2.1 hw (fun r hr => ⟨by omega, fun hnz => ?_, fun hz => ?_⟩)⟩⟩⟩
  · rw [if_neg (by omega)] at kk; exact kk
  · rw [if_neg (by omega)] at kk; exact kk
  · rw [if_pos (by omega)] at k
    rw [h4]
    refine s_X1_mostBy hP b2 b3 b1 (by omega) (by omega) (by omega) b4 (fun N W' L' hR hS' hN hfr => ?_)
    have hsz : 126 ≤ W'.2.2.1 := by
      rcases hR with ⟨e, -⟩ | ⟨e, -⟩
      · rw [e]; exact b3
      · rw [e]; show 126 ≤ W.2.2.1 + 1; omega
    have e : ∀ b j, b < 78 ∨ (82 ≤ b ∧ b < 126) → N b j = M b j := fun b j hb => hfr b j (by omega) (by omega)
    exact k N W' L' (fun b j a1 a2 => e b j (by omega)) hR ⟨⟨by rw [e _ _ (by omega)]; exact h4, by rw [e _ _ (by omega)]; exact h5⟩, hP.of (fun b j hb => e b j (by unfold inP at hb; omega)), hS.of (fun b j hb => e b j (by omega)), hA.of (fun b j a1 a2 => e b j (by omega)), ⟨Or.inr ⟨hN.1, hN.2.1, hN.2.2.1⟩, hS', hsz, fun _ => hN.2.2.2⟩, hL.of (fun b j hb => e b j (by omega)), hJ.of (fun b j a1 a2 => e b j (by omega)), hT.of (fun b j hb => e b j (by omega)), by rw [e _ _ (by omega)]; exact h10, by rw [e _ _ (by omega)]; exact h11⟩
  · rw [if_neg (by omega)] at kk; exact kk
noncomputable def aWorth (G : Lnd) (d : Int) : Int := if 0 ≤ d ∧ d < (G 0 3) ∧ 0 ≤ (G 0 6) ∧ 0 ≤ (G 0 7) then woG G d else -1
theorem c_worth {Q : Int → aM → aW → Prop} {M : aM} {W : aW} {G : Lnd} {D : Int → Int → Int} {c on w n tn fk fp L : Int} {wp wh wk tp : Int → Int} {d : Int} (h : clS c G D on w n wp wh wk tn tp fk fp L M W) (hi : inI d) (k : ∀ N, frC M N → clS c G D on w n wp wh wk tn tp fk fp L N W → Q (aWorth G d) N W) : CallL 138 [vR 0, vI d] (M, W) Q := by
  obtain ⟨⟨h4, -⟩, hP, hS, hA, -, hL, hJ, -⟩ := id h
  have hw := hP.2.2.1
  have kk := k M (frC_refl M) h
  unfold aWorth at k kk
  refine e_X11_worth _ _ _ _ ?_
  rw [h4]
  refine ⟨ct_o hP.1, s_X3_hasDoubtful hP.1 hP.2.1 hw hi (fun r2 hr2 => ⟨by omega, fun hz2 => ?_, fun hz2 => ?_⟩)⟩
  · rw [if_neg (by omega)] at kk; exact kk
  · rw [h4]
    refine ⟨ct_o hP.1, s_X3_hasEnds hP.1 hP.2.1 hw (fun r hr => ⟨by omega, fun hnz => ?_, fun hz => ?_⟩)⟩
    · rw [if_pos (by omega)] at k
      refine s_X7_prepare hP hS (by decide) (by decide) (fun hh => absurd hh (by decide)) (fun N hpr hSN h1 => ?_)
      have hst := h.prep hpr hSN
      exact s_X0_worthOf (hpr.P hP) hst.2.2.2.1.1 (best_of hSN (h1 (by decide))) (by omega) (by omega) (by omega) (k N (frC_pr hpr) hst)
    · rw [if_neg (by omega)] at kk; exact kk
noncomputable def aScout (G : Lnd) (x what : Int) : Int := if 0 ≤ x ∧ x ≤ 99 ∧ 0 ≤ what ∧ what ≤ 1 ∧ 0 ≤ (G 0 6) ∧ 0 ≤ (G 0 7) then laF G x what else -1
theorem c_scout {Q : Int → aM → aW → Prop} {M : aM} {W : aW} {G : Lnd} {D : Int → Int → Int} {c on w n tn fk fp L : Int} {wp wh wk tp : Int → Int} {x what : Int} (h : clS c G D on w n wp wh wk tn tp fk fp L M W) (hi : inI x) (hj : inI what) (k : ∀ N, frC M N → clS c G D on w n wp wh wk tn tp fk fp L N W → Q (aScout G x what) N W) : CallL 139 [vR 0, vI x, vI what] (M, W) Q := by
  obtain ⟨⟨h4, -⟩, hP, hS, hA, -, hL, hJ, -⟩ := id h
  have hw := hP.2.2.1
  have kk := k M (frC_refl M) h
  unfold aScout at k kk
  refine e_X11_scout _ _ _ _ _ ?_
  rw [h4]
  refine ⟨hi, fun h1 => ?_, fun h1 => ⟨by omega, fun h2 => ?_, fun h2 => ⟨by omega, fun h3 => ?_, fun h3 => ⟨by omega, fun h5 => ?_, fun h5 => ⟨ct_o hP.1, s_X3_hasEnds hP.1 hP.2.1 hw (fun r hr => ⟨by omega, fun hnz => ?_, fun hz => ?_⟩)⟩⟩⟩⟩⟩
  · rw [if_neg (by omega)] at kk; exact kk
  · rw [if_neg (by omega)] at kk; exact kk
  · rw [if_neg (by omega)] at kk; exact kk
  · rw [if_neg (by omega)] at kk; exact kk
  · rw [if_pos (by omega)] at k
    refine s_X7_prepare hP hS (by decide) (by decide) (fun hh => absurd hh (by decide)) (fun N hpr hSN h1' => ?_)
    have hst := h.prep hpr hSN
    exact s_X0_lookAhead (hpr.P hP) hst.2.2.2.1.1 (best_of hSN (h1' (by decide))) (by omega) (by omega) (by omega) hj (k N (frC_pr hpr) hst)
  · rw [if_neg (by omega)] at kk; exact kk
noncomputable def aKeep (G : Lnd) (d : Int) : Int := if 0 ≤ d ∧ d < (G 0 3) ∧ 0 ≤ (G 0 6) ∧ 0 ≤ (G 0 7) then kpF G d else -1
theorem adF_fr {M N : aM} (h : adF M N) : ∀ b j, b < 65 ∨ 77 ≤ b ∨ b = 65 ∨ b = 69 ∨ b = 72 → N b j = M b j := fun b j hb => h b j (by omega) (by omega) (by omega) (by omega)
theorem c_keep {Q : Int → aM → aW → Prop} {M : aM} {W : aW} {G : Lnd} {D : Int → Int → Int} {c on w n tn fk fp L : Int} {wp wh wk tp : Int → Int} {d : Int} (h : clS c G D on w n wp wh wk tn tp fk fp L M W) (hi : inI d) (k : ∀ N, frC M N → clS c G D on w n wp wh wk tn tp fk fp L N W → Q (aKeep G d) N W) : CallL 140 [vR 0, vI d] (M, W) Q := by
  obtain ⟨⟨h4, -⟩, hP, hS, hA, -, hL, hJ, -⟩ := id h
  have hw := hP.2.2.1
  have kk := k M (frC_refl M) h
  unfold aKeep at k kk
  refine e_X11_keep _ _ _ _ ?_
  rw [h4]
  refine ⟨ct_o hP.1, s_X3_hasDoubtful hP.1 hP.2.1 hw hi (fun r2 hr2 => ⟨by omega, fun hz2 => ?_, fun hz2 => ?_⟩)⟩
  · rw [if_neg (by omega)] at kk; exact kk
  · rw [h4]
    refine ⟨ct_o hP.1, s_X3_hasEnds hP.1 hP.2.1 hw (fun r hr => ⟨by omega, fun hnz => ?_, fun hz => ?_⟩)⟩
    · rw [if_pos (by omega)] at k
      obtain ⟨a7, a69, a8, a70, a71⟩ := hA
      refine s_X0_keptOpen hP a7 a69 (by omega) (by omega) (by omega) (a70 d (by omega) (by omega)) (fun N hN e70 hj hj1 => ?_)
      have e := adF_fr hN
      refine k N (fun b j b1 b2 => e b j (by omega)) (h.part (fun b j b1 b2 b3 b4 b5 => e b j (by omega)) ⟨by rw [e _ _ (by omega)]; exact a7, fun q q0 q1 => by rw [e _ _ (by omega)]; exact a69 q q0 q1, ?_, fun q q0 q1 => ?_, fun q q0 q1 => by rw [hj1]; exact a71 q q0 q1⟩ (hL.of (fun b j hb => e b j (by omega))) (hJ.of (fun b j b1 b2 => e b j (by omega))))
      · rw [e 65 8 (by omega), e 65 9 (by omega)]
        rcases a8 with q | ⟨q1, q2, q3⟩
        · exact Or.inl q
        · exact Or.inr ⟨q1, q2, fun i i0 i1 => by rw [e _ _ (by omega)]; exact q3 i i0 i1⟩
      · by_cases he : q = d
        · rw [he]; exact Or.inr e70
        · rw [hj q he]; exact a70 q q0 q1
    · rw [if_neg (by omega)] at kk; exact kk
noncomputable def aEdge (G : Lnd) (d : Int) : Int := if 0 ≤ d ∧ d < (G 0 3) ∧ (G 2 ((G 3 d) * 7 + 3)) ≠ 0 ∧ 0 ≤ (G 0 6) ∧ 0 ≤ (G 0 7) then egF G d else -1
theorem c_edge {Q : Int → aM → aW → Prop} {M : aM} {W : aW} {G : Lnd} {D : Int → Int → Int} {c on w n tn fk fp L : Int} {wp wh wk tp : Int → Int} {d : Int} (h : clS c G D on w n wp wh wk tn tp fk fp L M W) (hi : inI d) (k : ∀ N, frC M N → clS c G D on w n wp wh wk tn tp fk fp L N W → Q (aEdge G d) N W) : CallI 141 [vR 0, vI d] (M, W) Q := by
  obtain ⟨⟨h4, -⟩, hP, hS, hA, -, hL, hJ, -⟩ := id h
  have hw := hP.2.2.1
  have kk := k M (frC_refl M) h
  unfold aEdge at k kk
  refine e_X11_edge _ _ _ _ ?_
  rw [h4]
  refine ⟨ct_o hP.1, s_X3_hasDoubtful hP.1 hP.2.1 hw hi (fun r2 hr2 => ⟨by omega, fun hz2 => ?_, fun hz2 => ?_⟩)⟩
  · rw [if_neg (by omega)] at kk; exact kk
  · have hD := hw.D d (by omega) (by omega)
    have hR := hw.R _ hD.1 hD.2.1
    rw [h4]
    refine ⟨ct_o hP.1, s_X3_doubtOf hP.1 hP.2.1 hw (by omega) (by omega) ⟨by omega, fun hz3 => ?_, fun hz3 => ?_⟩⟩
    · rw [if_neg (fun q => q.2.2.1 hz3)] at kk; exact kk
    · rw [h4]
      refine ⟨ct_o hP.1, s_X3_hasEnds hP.1 hP.2.1 hw (fun r hr => ⟨by omega, fun hnz => ?_, fun hz => ?_⟩)⟩
      · rw [if_pos (by omega)] at k
        refine s_X7_prepare hP hS (by decide) (by decide) (fun hh => absurd hh (by decide)) (fun M2 hpr hSN h1 => ?_)
        have hst := h.prep hpr hSN
        have hb := best_of hSN (h1 (by decide))
        obtain ⟨-, hP2, -, ⟨a7, a69, a8, a70, a71⟩, -, hL2, hJ2, -⟩ := id hst
        refine s_X0_edgeOf hP2 a7 a69 hb (by omega) (by omega) (by omega) (a71 d (by omega) (by omega)) (fun N hN e71 hj hj1 => ?_)
        have e := adF_fr hN
        refine k N (frC_tr (frC_pr hpr) (fun b j b1 b2 => e b j (by omega))) (hst.part (fun b j b1 b2 b3 b4 b5 => e b j (by omega)) ⟨by rw [e _ _ (by omega)]; exact a7, fun q q0 q1 => by rw [e _ _ (by omega)]; exact a69 q q0 q1, ?_, fun q q0 q1 => by rw [hj1]; exact a70 q q0 q1, fun q q0 q1 => ?_⟩ (hL2.of (fun b j hb => e b j (by omega))) (hJ2.of (fun b j b1 b2 => e b j (by omega))))
        · rw [e 65 8 (by omega), e 65 9 (by omega)]
          rcases a8 with q | ⟨q1, q2, q3⟩
          · exact Or.inl q
          · exact Or.inr ⟨q1, q2, fun i i0 i1 => by rw [e _ _ (by omega)]; exact q3 i i0 i1⟩
        · by_cases he : q = d
          · rw [he]; exact Or.inr e71
          · rw [hj q he]; exact a71 q q0 q1
      · rw [if_neg (by omega)] at kk; exact kk
-- walks
theorem clS.walk {c : Int} {G : Lnd} {D : Int → Int → Int} {on w n : Int} {wp wh wk : Int → Int} {tn : Int} {tp : Int → Int} {fk fp L : Int} {M N : aM} {W : aW} {on' w' n' : Int} {wp' wh' wk' : Int → Int} (h : clS c G D on w n wp wh wk tn tp fk fp L M W) (hag : ag 82 85 M N) (hj : joM G on' w' n' wp' wh' wk' N) : clS c G D on' w' n' wp' wh' wk' tn tp fk fp L N W :=
  h.part (fun b j b1 b2 b3 b4 b5 => hag b j (by omega)) (h.2.2.2.1.of (fun b j b1 b2 => hag b j (by omega))) (h.2.2.2.2.2.1.of (fun b j hb => hag b j (by omega))) hj
theorem c_begin {Q : Int → aM → aW → Prop} {M : aM} {W : aW} {G : Lnd} {D : Int → Int → Int} {c on w n tn fk fp L : Int} {wp wh wk tp : Int → Int} {x : Int} (h : clS c G D on w n wp wh wk tn tp fk fp L M W) (hi : inI x) (k1 : ¬ (0 ≤ x ∧ 0 ≤ (G 0 6) ∧ 0 ≤ (G 0 7)) → ∀ N, frC M N → clS c G D on w n wp wh wk tn tp fk fp L N W → Q 0 N W) (k2 : 0 ≤ x ∧ 0 ≤ (G 0 6) ∧ 0 ≤ (G 0 7) → ∀ N, frC M N → clS c G D 1 (drW G x) 0 (fun _ => (G 0 6)) (fun _ => 0) (fun _ => lrn 0 ((G 5 ((G 0 6)))) (drW G x)) tn tp fk fp L N W → Q 1 N W) : CallI 142 [vR 0, vI x] (M, W) Q := by
  obtain ⟨⟨h4, -⟩, hP, hS, hA, -, hL, hJ, -⟩ := id h
  have hw := hP.2.2.1
  refine e_X11_begin _ _ _ _ ?_
  rw [h4]
  refine ⟨hi, fun hneg => ?_, fun hpos => ⟨ct_o hP.1, s_X3_hasEnds hP.1 hP.2.1 hw (fun r hr => ⟨by omega, fun hnz => ?_, fun hz => ?_⟩)⟩⟩
  · first | exact k1 (by omega) M (frC_refl M) h | exact ⟨Or.inl rfl, k1 (by omega) M (frC_refl M) h⟩
  · rw [h4]
    refine s_X5_setOut hP.1 hP.2.1 hw hP.2.2.2.1 (by omega) (by omega) (by omega) (fun N hag hJN => ?_)
    first | exact k2 (by omega) N (frC_ag hag (by decide)) (h.walk hag hJN) | exact ⟨Or.inr rfl, k2 (by omega) N (frC_ag hag (by decide)) (h.walk hag hJN)⟩
  · first | exact k1 (by omega) M (frC_refl M) h | exact ⟨Or.inl rfl, k1 (by omega) M (frC_refl M) h⟩
def goQ (G : Lnd) (on n : Int) (wp wk : Int → Int) (q : Int) : Prop := (0 ≤ q ∧ q < (G 0 0)) ∧ on = 1 ∧ n < 100 ∧ wp n ≠ (G 0 7) ∧ 0 < pas G (wp n) q (wk n)
theorem c_go {Q : Int → aM → aW → Prop} {M : aM} {W : aW} {G : Lnd} {D : Int → Int → Int} {c on w n tn fk fp L : Int} {wp wh wk tp : Int → Int} {q : Int} (h : clS c G D on w n wp wh wk tn tp fk fp L M W) (hi : inI q) (k1 : ¬ goQ G on n wp wk q → ∀ N, frC M N → clS c G D on w n wp wh wk tn tp fk fp L N W → Q (-1) N W) (k2 : goQ G on n wp wk q → ∀ N, frC M N → clS c G D 1 w (n + 1) (upF wp (n + 1) q) (upF wh (n + 1) (wh n + pas G (wp n) q (wk n))) (upF wk (n + 1) (lrn (wk n) ((G 5 q)) w)) tn tp fk fp L N W → Q (wh n + pas G (wp n) q (wk n)) N W) : CallI 143 [vR 0, vI q] (M, W) Q := by
  obtain ⟨⟨h4, -⟩, hP, hS, hA, -, hL, hJ, -⟩ := id h
  have hw := hP.2.2.1
  refine e_X11_go _ _ _ _ ?_
  rw [h4]
  refine ⟨ct_o hP.1, s_X3_hasPlace hP.1 hP.2.1 hw hi (fun r hr => ⟨by omega, fun hz => k1 (fun t => by have := t.1; omega) M (frC_refl M) h, fun hz => ?_⟩)⟩
  rw [h4]
  refine s_X5_travel hP.1 hP.2.1 hw hP.2.2.2.1 hJ (by omega) (by omega) (fun hno => k1 (fun t => ?_) M (frC_refl M) h) (fun a1 a2 a3 a4 N hag hJN => k2 ⟨by omega, a1, a2, a3, a4⟩ N (frC_ag hag (by decide)) (h.walk hag hJN))
  obtain ⟨-, t1, t2, t3, t4⟩ := t
  rcases hno with e | e | e | e
  · omega
  · omega
  · exact t3 e
  · omega
def buQ (G : Lnd) (on n : Int) (wp wk : Int → Int) (d : Int) : Prop := (0 ≤ d ∧ d < (G 0 5)) ∧ on = 1 ∧ n < 100 ∧ wp n ≠ (G 0 7) ∧ (G 6 d = wp n ∧ dg (wk n) (G 7 d) = 0)
theorem c_buy {Q : Int → aM → aW → Prop} {M : aM} {W : aW} {G : Lnd} {D : Int → Int → Int} {c on w n tn fk fp L : Int} {wp wh wk tp : Int → Int} {d : Int} (h : clS c G D on w n wp wh wk tn tp fk fp L M W) (hi : inI d) (k1 : ¬ buQ G on n wp wk d → ∀ N, frC M N → clS c G D on w n wp wh wk tn tp fk fp L N W → Q (-1) N W) (k2 : buQ G on n wp wk d → ∀ N, frC M N → clS c G D 1 w (n + 1) (upF wp (n + 1) (wp n)) (upF wh (n + 1) (wh n + G 8 d)) (upF wk (n + 1) (lrn (wk n) (p2_ (G 7 d)) w)) tn tp fk fp L N W → Q (bt w (G 7 d) + 1) N W) : CallI 144 [vR 0, vI d] (M, W) Q := by
  obtain ⟨⟨h4, -⟩, hP, hS, hA, -, hL, hJ, -⟩ := id h
  have hw := hP.2.2.1
  have hN := hw.N; unfold wfN at hN
  refine e_X11_buy _ _ _ _ ?_
  rw [h4, hP.2.1.1]
  refine ⟨hi, fun hneg => k1 (fun t => by have := t.1; omega) M (frC_refl M) h, fun hpos => ⟨ct_o hP.1, by omega, fun hge => k1 (fun t => by have := t.1; omega) M (frC_refl M) h, fun hlt => ?_⟩⟩
  refine s_X5_hear hP.1 hP.2.1 hw hP.2.2.2.1 hJ (by omega) (by omega) (fun hno => k1 (fun t => ?_) M (frC_refl M) h) (fun a1 a2 a3 a4 N hag hJN => k2 ⟨by omega, a1, a2, a3, a4⟩ N (frC_ag hag (by decide)) (h.walk hag hJN))
  obtain ⟨-, t1, t2, t3, t4⟩ := t
  rcases hno with e | e | e | e
  · omega
  · omega
  · exact t3 e
  · exact e t4
theorem c_back {Q : Int → aM → aW → Prop} {M : aM} {W : aW} {G : Lnd} {D : Int → Int → Int} {c on w n tn fk fp L : Int} {wp wh wk tp : Int → Int} (h : clS c G D on w n wp wh wk tn tp fk fp L M W) (k1 : ¬ (on = 1 ∧ n ≠ 0) → ∀ N, frC M N → clS c G D on w n wp wh wk tn tp fk fp L N W → Q (-1) N W) (k2 : on = 1 ∧ n ≠ 0 → ∀ N, frC M N → clS c G D 1 w (n - 1) wp wh wk tn tp fk fp L N W → Q (n - 1) N W) : CallI 145 [vR 0] (M, W) Q := by
  obtain ⟨-, hP, hS, hA, -, hL, hJ, -⟩ := id h
  refine e_X11_back _ _ _ ?_
  refine s_X5_undo hJ (fun hno => k1 (by omega) M (frC_refl M) h) (fun a1 a2 N hag hJN => k2 (by omega) N (frC_ag hag (by decide)) (h.walk hag hJN))
theorem c_walk {Q : Int → aM → aW → Prop} {M : aM} {W : aW} {G : Lnd} {D : Int → Int → Int} {c on w n tn fk fp L : Int} {wp wh wk tp : Int → Int} {what : Int} (h : clS c G D on w n wp wh wk tn tp fk fp L M W) (hi : inI what) (k : ∀ N, frC M N → clS c G D on w n wp wh wk tn tp fk fp L N W → Q (teF G on w n wp wh wk what) N W) : CallI 146 [vR 0, vI what] (M, W) Q := by
  obtain ⟨⟨h4, -⟩, hP, hS, hA, -, hL, hJ, -⟩ := id h
  refine e_X11_walk _ _ _ _ ?_
  rw [h4]
  exact s_X5_tell hP.1 hP.2.1 hP.2.2.1 hJ hi (k M (frC_refl M) h)
