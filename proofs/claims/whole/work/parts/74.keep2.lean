/-! THE REFERENCE's calls: keep, edge -/
def frT (M N : aM) : Prop := ∀ b j, ¬ scR b j → b ≠ 103 → N b j = M b j
theorem frT_refl (M : aM) : frT M M := fun _ _ _ _ => rfl
theorem frT_tr {M N K : aM} (h1 : frT M N) (h2 : frT N K) : frT M K := fun b j a1 a2 => (h2 b j a1 a2).trans (h1 b j a1 a2)
theorem frT.G {G : Lnd} {M N : aM} (h : frT M N) (hG : rfG G M) : rfG G N := hG.of (fun b j c => by unfold inG at c; exact h b j (by unfold scR; omega) (by omega))
theorem frT_K {M N : aM} (h : frT M N) : frK M N := fun b j c => h b j (by unfold scR; omega) (by omega)
theorem frT_ag {lo hi : Int} {M N : aM} (h : ag lo hi M N) (hl : ∀ b j, lo ≤ b → b ≤ hi → scR b j ∨ b = 103) : frT M N := fun b j c1 c2 => h b j (by
  refine Classical.byContradiction (fun hno => ?_)
  rcases hl b j (by omega) (by omega) with q | q
  · exact c1 q
  · exact c2 q)
theorem frT_V {M N : aM} (h : frV 3 M N) : frT M N := fun b j c1 c2 => by
  by_cases h5 : b = 105 ∨ b = 106
  · have := h.2 j (by unfold scR at c1; omega)
    rcases h5 with e | e
    · rw [e]; exact this.1
    · rw [e]; exact this.2
  · unfold scR at c1
    exact h.1 b j (by omega) (by omega) (by omega) (by omega) (by omega)
theorem rfS.ow {G : Lnd} {D : Int → Int → Int} {on w n tn fk fp : Int} {wp wh wk tp : Int → Int} {M N : aM} (h : rfS G D on w n wp wh wk tn tp fk fp M) (e : frT M N) (hW : rfW G N) : rfS G D on w n wp wh wk tn tp fk fp N := by
  have hS : rfS G D on w n wp wh wk tn tp fk fp (fun b j => if b = 103 then M b j else N b j) := h.sc (fun b j c => by
    show (if b = 103 then M b j else N b j) = M b j
    split
    · rfl
    · rename_i d; exact e b j c d)
  obtain ⟨h1, -, h3, ⟨h4, h5, h6⟩, h7, h8, h9, ⟨h10, h11⟩, h12⟩ := hS
  have ht := h1.t; have hn := h1.n
  have hq : thr_ ((G 0 3)) ≤ 729 ∧ (G 0 0) ≤ 10 := by omega
  have e2 : ∀ b j, b ≠ 103 → N b j = (fun b j => if b = 103 then M b j else N b j) b j := fun b j c => (if_neg c).symm
  exact ⟨h1.of (fun b j c => by unfold inG at c; exact e2 b j (by omega)), hW, h3.of (fun j => e2 113 j (by decide)), ⟨h4.of hq (fun b j c => e2 b j (by omega)), h5.of hq (fun b j c => e2 b j (by omega)), h6.of hq (fun b j c => e2 b j (by omega))⟩, h7.of (fun b j c => e2 b j (by omega)), h8.of (fun b j c => e2 b j (by omega)), h9.of (fun b j c => e2 b j (by omega)), ⟨by rw [e2 _ _ (by decide)]; exact h10, by rw [e2 _ _ (by decide)]; exact h11⟩, h12.of (fun j => e2 88 j (by decide))⟩
theorem rfS.told {G : Lnd} {D : Int → Int → Int} {on w n tn fk fp : Int} {wp wh wk tp : Int → Int} {M N : aM} (h : rfS G D on w n wp wh wk tn tp fk fp M) (e : frT M N) : ∀ w, 0 ≤ w → w < p2_ ((G 0 3)) → N 101 w = wtG G w := fun w w0 w1 => by rw [e _ _ (by unfold scR; omega) (by decide)]; exact h.Wt.1 w w0 w1
theorem r_keep {Q : Int → aM → aW → Prop} {M : aM} {W : aW} {G : Lnd} {D : Int → Int → Int} {on w n tn fk fp : Int} {wp wh wk tp : Int → Int} {d : Int} (h : rfS G D on w n wp wh wk tn tp fk fp M) (hi : inI d) (k : ∀ N, frK M N → rfS G D on w n wp wh wk tn tp fk fp N → Q (aKeep G d) N W) : CallL 256 [vR 86, vI d] (M, W) Q := by
  have kk := k _ (frK_thr M 0) h.thr
  have h2 := h.thr (v := 0)
  have hw := h2.G.W
  have hn := h2.G.n
  have ht := h2.G.t
  have fr := frK_thr M 0
  unfold aKeep at k kk
  refine e_X12_keep_ _ _ _ _ ?_
  generalize up_ M 86 2 0 = M1 at *
  have l26 : (0 ≤ d ∧ d < (G 0 3)) → 0 ≤ (G 0 6) → 0 ≤ (G 0 7) → ∀ (m : Nat) (x : Int) (d3 : aL) (N : aM), 0 ≤ x → x ≤ p2_ ((G 0 3)) → (p2_ ((G 0 3)) - x).toNat = m → frT M1 N → (∀ y, 0 ≤ y → y < x → N 102 y = kpW (wtG G) d y) → Xs 256 (26, [some (some (vR 86)), some (some (vI d)), some (some (vI x)), d3], [], (N, W)) (QL Q) := by
    intro hd hs hg m
    rw [if_pos ⟨hd.1, hd.2, hs, hg⟩] at k
    induction m with
    | zero =>
      intro x d3 N x0 x1 hm fN e102
      have ex : x = p2_ ((G 0 3)) := by omega
      rw [ex] at e102
      have hu := uO_kp hw hd.1 hd.2
      have hl := uO_lik hw hu
      have hpos := kp_pos hw hd.1 hd.2
      have hB := VB_B hw hl
      have hV := VV_is hw 1 (fun _ => 0) hl
      have hb := (hB 0 (by decide) (by omega) hpos ((G 0 6)) hs (by omega)).1
      refine k_X12_keep__26 _ _ _ _ _ _ ?_
      rw [(fN.G h2.G).o22]
      refine ⟨by omega, fun _ => s_X12_layLikely (u := kpW (wtG G) d) (fN.G h2.G) e102 (fun K gK eK => ?_), fun hlt => by omega⟩
      have fK : frT N K := frT_ag gK (fun b j a1 a2 => Or.inr (by omega))
      refine s_X12_layValues (lik := lk (kpW (wtG G) d) ((G 0 3))) (en := fun _ => 0) ((frT_tr fN fK).G h2.G) hg (by decide) (by decide) (Or.inr rfl) hl eK enO_0 enL_0 (fun y => absurd y (by decide)) (fun _ _ => rfl) (fun L fL dL => ?_)
      have fL' := frT_tr fN (frT_tr fK (frT_V fL))
      have gL := fL'.G h2.G
      rw [gL.N.2.2.2.2.2.1]
      refine s_X12_arrives (lik := lk (kpW (wtG G) d) ((G 0 3))) (v := VV G 1 (lk (kpW (wtG G) d) ((G 0 3))) (fun _ => 0)) gL (by decide) (by decide) (Or.inr rfl) hl (fun y y0 y1 => by rw [fL.1 103 _ (by decide) (by decide) (by decide) (by decide) (by decide)]; exact eK y y0 y1) hB (VB_S hw hl hs (by omega)) hs (by omega) (by decide) (by omega) hpos (fun s s0 => rows_cp hw dL hs (by omega) (by decide) (by omega)) ?_
      refine s_X12_useAsTold gL (h2.told fL') (fun R gR hR => s_X12_told (by omega) ?_)
      have fR := frT_tr fL' (frT_ag gR (fun b j a1 a2 => by unfold scR; omega))
      exact k R (frK_tr fr (frT_K fR)) (h2.ow fR hR)
    | succ m ih =>
      intro x d3 N x0 x1 hm fN e102
      have hp := p2_lt hw hd.1 hd.2
      have hkp := kp_e x0 (show x < 64 by omega) hd.1 (show d < 6 by omega)
      have hfl := bt_flip (show 0 ≤ (G 0 3) by omega) (by omega) x0 (show x < p2_ ((G 0 3)) by omega) hd.1 hd.2
      have hb := bt_cs x d
      have put : ∀ v d3, v = kpW (wtG G) d x → Xs 256 (26, [some (some (vR 86)), some (some (vI d)), some (some (vI (x + 1))), d3], [], (up_ N 102 x v, W)) (QL Q) := fun v d3 ev => by
        refine ih (x + 1) _ _ (by omega) (by omega) (by omega) (frT_tr fN (fun b j c1 c2 => up_b _ _ _ _ (by unfold scR at c1; omega))) (fun y y0 y1 => ?_)
        by_cases e : y = x
        · rw [e, up_s]; exact ev
        · rw [up_j _ _ _ e]; exact e102 y y0 (by omega)
      refine k_X12_keep__26 _ _ _ _ _ _ ?_
      rw [(fN.G h2.G).o22, bit_e x0 (by omega) hd.1 (by omega), shl_e hd.1 (by omega), hkp.2.2, h2.told fN x x0 (by omega)]
      refine ⟨by omega, fun hge => by omega, fun _ => ⟨by omega, fun hne => ?_, fun heq => ⟨by omega, put _ _ ?_⟩⟩⟩
      · have h0 : bt x d = 0 := by omega
        have hl2 := hfl.1 h0
        rw [h0, show p2_ d * (1 - 0) = p2_ d by omega, h2.told fN (x + p2_ d) (by omega) hl2.1]
        refine ⟨by omega, by omega, by omega, put _ _ ?_⟩
        unfold kpW; rw [if_neg (by omega)]
      · unfold kpW; rw [if_pos (by omega)]
  refine s_X12_isDoubtful h2.G hi (fun r hr => ⟨by omega, fun q => ?_, fun q => s_X12_hasEnds h2.G (fun r2 hr2 => ⟨by omega, fun q2 => l26 (by omega) (by omega) (by omega) _ 0 _ M1 (by decide) (by omega) rfl (frT_refl _) (fun y y0 y1 => by omega), fun q2 => ?_⟩)⟩)
  · rw [if_neg (by omega)] at kk; exact kk
  · rw [if_neg (by omega)] at kk; exact kk
theorem lrn_0 {r w : Int} : lrn 0 r w = tld r w := ds_ext (fun i i0 i6 => by
  rw [dg0 i0 i6]
  by_cases c : bt r i = 1
  · rw [if_pos ⟨rfl, c⟩, if_pos c]
  · rw [if_neg (fun a => c a.2), if_neg c])
theorem tld_and {r w : Int} : tld r (sAnd w r) = tld r w := ds_ext (fun i i0 i6 => by
  by_cases c : bt r i = 1
  · rw [if_pos c, if_pos c, bt_sAnd i0 i6]
    have := bt_cs w i
    split <;> omega
  · rw [if_neg c, if_neg c])
theorem sub_and {r w : Int} : sDif (sAnd w r) r = 0 := bt_ext (sDif_rng _ _).1 (sDif_rng _ _).2 (by decide) (by decide) (fun i i0 i6 => by
  rw [bt_sDif i0 i6, bt_sAnd i0 i6, bt_hi (k := 0) (d := 0) (by decide) (by decide) (by decide) i0 i6]
  refine if_neg (fun a => ?_)
  have h1 := a.1
  rw [if_neg (fun c => by omega)] at h1
  exact absurd h1 (by decide))
/-- an edge: some world within sight where the plan turns -/
def edB (G : Lnd) (lik : Int → Int) (w : Int) : Prop := sDif w ((G 5 ((G 0 6)))) = 0 ∧ aoB G lik w = true
theorem ao_ed {G : Lnd} (hw : WF G) (hs : 0 ≤ (G 0 6)) {lik : Int → Int} : aoF G lik = true ↔ ∃ w : Int, 0 ≤ w ∧ w < p2_ ((G 0 3)) ∧ edB G lik w := by
  have hN := hw.N; unfold wfN at hN
  have h64 := p2_lt64 hw
  have hsn := hw.S.1 ((G 0 6)) hs (by omega)
  unfold aoF
  rw [decide_eq_true_eq]
  constructor
  · intro h
    rcases fst_cs (aoB G lik) ((G 5 ((G 0 6))) + 1).toNat with ⟨a, -⟩ | ⟨a1, a2, a3, -⟩
    · omega
    · generalize fst_ (aoB G lik) ((G 5 ((G 0 6))) + 1).toNat = w at *
      have hr := sAnd_rng w ((G 5 ((G 0 6))))
      have hle := sub_le hr.1 hr.2 hsn.1 (by omega) (sub_and (r := (G 5 ((G 0 6)))) (w := w))
      refine ⟨sAnd w ((G 5 ((G 0 6)))), hr.1, by omega, sub_and, ?_⟩
      unfold aoB at a3 ⊢
      rw [tld_and]; exact a3
  · intro ⟨w, w0, w1, h1, h2⟩
    have hle := sub_le w0 (by omega) hsn.1 (by omega) h1
    rcases fst_cs (aoB G lik) ((G 5 ((G 0 6))) + 1).toNat with ⟨a, b⟩ | ⟨a1, -⟩
    · rw [b w w0 (by omega)] at h2; exact absurd h2 (by decide)
    · exact a1
/-- what is done at the start in a world, as edge keeps it -/
noncomputable def dsF (G : Lnd) (w : Int) : Int := if sDif w ((G 5 ((G 0 6)))) = 0 ∧ 0 < lkG G (tld ((G 5 ((G 0 6)))) w) then AA G 1 (lkG G) (fun _ => 0) (tld ((G 5 ((G 0 6)))) w) ((G 0 6)) + 10 else 0
def edX (G : Lnd) (lik : Int → Int) (y : Int) : Prop := ∃ z : Int, 0 ≤ z ∧ z < y ∧ edB G lik z
theorem edX_i {G : Lnd} {lik : Int → Int} {y z : Int} (z0 : 0 ≤ z) (z1 : z < y) (h : edB G lik z) : edX G lik y := ⟨z, z0, z1, h⟩
theorem r_edge {Q : Int → aM → aW → Prop} {M : aM} {W : aW} {G : Lnd} {D : Int → Int → Int} {on w n tn fk fp : Int} {wp wh wk tp : Int → Int} {d : Int} (h : rfS G D on w n wp wh wk tn tp fk fp M) (hi : inI d) (k : ∀ N, frK M N → rfS G D on w n wp wh wk tn tp fk fp N → Q (aEdge G d) N W) : CallI 257 [vR 86, vI d] (M, W) Q := by
  have kk := k _ (frK_thr M 0) h.thr
  have h2 := h.thr (v := 0)
  have hw := h2.G.W
  have hn := h2.G.n
  have ht := h2.G.t
  have fr := frK_thr M 0
  unfold aEdge at k kk
  refine e_X12_edge _ _ _ _ ?_
  generalize up_ M 86 2 0 = M1 at *
  have main : (0 ≤ d ∧ d < (G 0 3)) → 0 ≤ (G 0 6) → 0 ≤ (G 0 7) → (G 2 ((G 3 d) * 7 + 3)) ≠ 0 → ∀ N, frP M1 N → rfS G D on w n wp wh wk tn tp fk fp N → rowsD G 0 1 (lkG G) (VB G) N → ∀ d4 d5 d6 : aL, Xs 257 (55, [some (some (vR 86)), some (some (vI d)), some (some (vI ((G 0 6)))), some (some (vI 0)), d4, d5, d6], [], (N, W)) (QI Q) := by
    intro hd hs hg hne N fN hN dN d4 d5 d6
    rw [if_pos ⟨hd.1, hd.2, hne, hs, hg⟩] at k
    have hGN := hN.G
    have hD := hw.D d hd.1 hd.2
    have hR := hw.R (G 3 d) hD.1 hD.2.1
    have hsn := hw.S.1 ((G 0 6)) hs (by omega)
    have d0 : 1 ≤ (G 2 ((G 3 d) * 7 + 3)) ∧ (G 2 ((G 3 d) * 7 + 3)) ≤ 9 := by omega
    generalize hdd : (G 2 ((G 3 d) * 7 + 3)) = dd at *
    have hAr : ∀ (lik : Int → Int) (k : Int), -2 ≤ AA G 1 lik (fun _ => 0) k ((G 0 6)) ∧ AA G 1 lik (fun _ => 0) k ((G 0 6)) < 200 := fun lik k => AA_rng hw hs (by omega)
    have hds : ∀ w, 0 ≤ dsF G w ∧ dsF G w ≤ 210 := fun w => by
      have := hAr (lkG G) (tld ((G 5 ((G 0 6)))) w)
      unfold dsF; split <;> omega
    have l148 : ∀ (m : Nat) (nn : Int) (d4 d5 d6 : aL) (K : aM), dd + 1 ≤ nn → nn ≤ 11 → (11 - nn).toNat = m → frT N K → rfS G D on w n wp wh wk tn tp fk fp K → (∀ y, 0 ≤ y → y < p2_ ((G 0 3)) → K 121 y = dsF G y) → (∀ j, 0 ≤ j → j < nn - dd - 1 → egB G d dd j = false) → Xs 257 (148, [some (some (vR 86)), some (some (vI d)), some (some (vI ((G 0 6)))), some (some (vI nn)), d4, d5, d6], [], (K, W)) (QI Q) := by
      intro m
      induction m with
      | zero =>
        intro nn d4 d5 d6 K n0 n1 hm fK hK e121 hno
        have := k K (frK_tr fr (frK_tr (frK_P fN) (frT_K fK))) hK
        unfold egF at this
        rw [hdd, fst_no _ (fun j j0 j1 => hno j j0 (by omega)), if_neg (by decide)] at this
        refine k_X12_edge_148 _ _ _ _ _ _ _ _ _ ?_
        exact ⟨by omega, fun _ => this, fun hlt => by omega⟩
      | succ m ih =>
        intro nn d4 d5 d6 K n0 n1 hm fK hK e121 hno
        have hu := uO_wt hw (o := d) (od := nn) ⟨by omega, by omega⟩
        have hl := uO_lik hw hu
        have hB := VB_B hw hl
        have egb : egB G d dd (nn - dd - 1) = aoF G (lk (wt G d nn) ((G 0 3))) := by
          unfold egB; rw [show dd + 1 + (nn - dd - 1) = nn by omega]
        generalize hlk : lk (wt G d nn) ((G 0 3)) = lik at *
        refine k_X12_edge_148 _ _ _ _ _ _ _ _ _ ?_
        refine ⟨by omega, fun hge => by omega, fun _ => s_X12_layUse hK.G hi ⟨by omega, by omega⟩ (fun q eq q0 q1 => by rw [eq, hdd]; omega) (fun L gL eL1 eL2 => ?_)⟩
        rw [hlk] at eL2
        have fL : frT K L := frT_ag gL (fun b j a1 a2 => by unfold scR; omega)
        refine s_X12_layValues (lik := lik) (en := fun _ => 0) (fL.G hK.G) hg (by decide) (by decide) (Or.inr rfl) hl eL2 enO_0 enL_0 (fun y => absurd y (by decide)) (fun _ _ => rfl) (fun R fR dR => ?_)
        have fR' := frT_tr fL (frT_V fR)
        have gR := fR'.G hK.G
        have r103 : ∀ y, 0 ≤ y → y < thr_ ((G 0 3)) → R 103 y = lik y := fun y y0 y1 => by rw [fR.1 103 _ (by decide) (by decide) (by decide) (by decide) (by decide)]; exact eL2 y y0 y1
        have r121 : ∀ y, 0 ≤ y → y < p2_ ((G 0 3)) → R 121 y = dsF G y := fun y y0 y1 => by rw [fR.1 121 _ (by decide) (by decide) (by decide) (by decide) (by decide), gL _ _ (by omega)]; exact e121 y y0 y1
        have l172 : ∀ (n : Nat) (x4 y : Int) (d6 : aL), 0 ≤ y → y ≤ p2_ ((G 0 3)) → (p2_ ((G 0 3)) - y).toNat = n → ((x4 = 0 ∧ ∀ z, 0 ≤ z → z < y → ¬ edB G lik z) ∨ (x4 = 1 ∧ edX G lik y)) → Xs 257 (172, [some (some (vR 86)), some (some (vI d)), some (some (vI ((G 0 6)))), some (some (vI nn)), some (some (vI x4)), some (some (vI y)), d6], [], (R, W)) (QI Q) := by
          intro n
          induction n with
          | zero =>
            intro x4 y d6 y0 y1 hnm hx4
            have ey : y = p2_ ((G 0 3)) := by omega
            rw [ey] at hx4
            refine k_X12_edge_172 _ _ _ _ _ _ _ _ _ ?_
            rw [gR.o22]
            refine ⟨by omega, fun _ => s_X12_useAsTold gR (hK.told fR') (fun S gS hS => ?_), fun hlt => by omega⟩
            have fS := frT_tr fR' (frT_ag gS (fun b j a1 a2 => by unfold scR; omega))
            have hSS := hK.ow fS hS
            refine ⟨by omega, fun hz => ?_, fun hnz => ?_⟩
            · refine ih (nn + 1) _ _ _ S (by omega) (by omega) (by omega) (frT_tr fK fS) hSS (fun z z0 z1 => by rw [gS _ _ (by omega)]; exact r121 z z0 z1) (fun j j0 j1 => ?_)
              by_cases e : j = nn - dd - 1
              · rw [e, egb]
                cases ha : aoF G lik with
                | false => rfl
                | true =>
                  obtain ⟨z, z0, z1, z2⟩ := (ao_ed hw hs).mp ha
                  rcases hx4 with ⟨-, c⟩ | ⟨c, -⟩
                  · exact absurd z2 (c z z0 z1)
                  · omega
              · exact hno j j0 (by omega)
            · have ha : aoF G lik = true := by
                rcases hx4 with ⟨c, -⟩ | ⟨-, c⟩
                · exact absurd c hnz
                · exact (ao_ed hw hs).mpr c
              have hfe : fst_ (egB G d dd) (10 - dd).toNat = nn - dd - 1 := fst_eq _ (by omega) (by omega) (by rw [egb]; exact ha) (fun j j0 j1 => hno j j0 j1)
              have := k S (frK_tr fr (frK_tr (frK_P fN) (frT_K (frT_tr fK fS)))) hSS
              unfold egF at this
              rw [hdd, hfe, if_pos (by omega), show dd + 1 + (nn - dd - 1) = nn by omega] at this
              exact this
          | succ n ihn =>
            intro x4 y d6 y0 y1 hnm hx4
            have hlr := tld_rng ((G 5 ((G 0 6)))) y
            have htl := tld_lt hw (w := y) hsn.1 hsn.2
            have hlb := hl.1 (tld ((G 5 ((G 0 6)))) y) hlr.1 htl
            have hA1 := hAr lik (tld ((G 5 ((G 0 6)))) y)
            have hd1 := hds y
            have yes : ∀ d6 : aL, edB G lik y ∨ x4 ≠ 0 → Xs 257 (172, [some (some (vR 86)), some (some (vI d)), some (some (vI ((G 0 6)))), some (some (vI nn)), some (some (vI 1)), some (some (vI (y + 1))), d6], [], (R, W)) (QI Q) := fun d6 hy => by
              refine ihn _ _ _ (by omega) (by omega) (by omega) (Or.inr ⟨rfl, ?_⟩)
              rcases hy with c | c
              · exact edX_i y0 (by omega) c
              · rcases hx4 with ⟨q, -⟩ | ⟨-, q⟩
                · exact absurd q c
                · obtain ⟨z, z0, z1, z2⟩ := q
                  exact edX_i z0 (Int.lt_trans z1 (Int.lt_succ y)) z2
            have noo : ∀ d6 : aL, ¬ edB G lik y → x4 = 0 → Xs 257 (172, [some (some (vR 86)), some (some (vI d)), some (some (vI ((G 0 6)))), some (some (vI nn)), some (some (vI 0)), some (some (vI (y + 1))), d6], [], (R, W)) (QI Q) := fun d6 hy hx => by
              refine ihn _ _ _ (by omega) (by omega) (by omega) (Or.inl ⟨rfl, fun z z0 z1 => ?_⟩)
              by_cases e : z = y
              · rw [e]; exact hy
              · rcases hx4 with ⟨-, q⟩ | ⟨q, -⟩
                · exact q z z0 (by omega)
                · omega
            have edc : edB G lik y ↔ (0 < dsF G y ∧ 0 < lik (tld ((G 5 ((G 0 6)))) y) ∧ AA G 1 lik (fun _ => 0) (tld ((G 5 ((G 0 6)))) y) ((G 0 6)) + 10 ≠ dsF G y) := by
              have hA0 := hAr (lkG G) (tld ((G 5 ((G 0 6)))) y)
              unfold edB aoB dsF
              rw [Bool.and_eq_true, Bool.and_eq_true, decide_eq_true_eq, decide_eq_true_eq, decide_eq_true_eq]
              constructor
              · intro ⟨a1, ⟨a2, a3⟩, a4⟩
                rw [if_pos ⟨a1, a2⟩]
                exact ⟨by omega, a3, by omega⟩
              · intro ⟨b1, b2, b3⟩
                by_cases c : sDif y ((G 5 ((G 0 6)))) = 0 ∧ 0 < lkG G (tld ((G 5 ((G 0 6)))) y)
                · rw [if_pos c] at b1 b3
                  exact ⟨c.1, ⟨c.2, b2⟩, by omega⟩
                · rw [if_neg c] at b1; exact absurd b1 (by decide)
            refine k_X12_edge_172 _ _ _ _ _ _ _ _ _ ?_
            rw [gR.o22]
            refine ⟨by omega, fun hge => by omega, fun _ => s_X12_learns gR hs (by omega) (by decide) (by decide) y0 (by omega) ?_⟩
            rw [lrn_0, r121 y y0 (by omega), r103 _ hlr.1 htl]
            refine ⟨by omega, fun hx => yes _ (Or.inr hx), fun hx => ⟨by omega, by omega, fun hle => noo _ (fun a => by have := (edc.mp a).1; omega) (Classical.byContradiction hx), fun hgt => ⟨by omega, by omega, fun hle2 => noo _ (fun a => by have := (edc.mp a).2.1; omega) (Classical.byContradiction hx), fun hgt2 => ?_⟩⟩⟩
            have hrow := (dR (tld ((G 5 ((G 0 6)))) y) hlr.1 htl (by omega) ((G 0 6)) hs (by omega) (by rw [← lrn_0]; exact lrn_fm)).2
            rw [show (21870 : Int) + 10 * tld ((G 5 ((G 0 6)))) y + (G 0 6) = 7290 * 3 + 10 * tld ((G 5 ((G 0 6)))) y + (G 0 6) by omega, hrow]
            have hrow2 : actS G 1 lik (VV G 1 lik (fun _ => 0)) (tld ((G 5 ((G 0 6)))) y) ((G 0 6)) = AA G 1 lik (fun _ => 0) (tld ((G 5 ((G 0 6)))) y) ((G 0 6)) := rfl
            rw [hrow2]
            exact ⟨by omega, by omega, by omega, fun he => noo _ (fun a => (edc.mp a).2.2 he) (Classical.byContradiction hx), fun hne => yes _ (Or.inl (edc.mpr ⟨by omega, by omega, hne⟩))⟩
        exact l172 _ 0 0 _ (by decide) (by omega) rfl (Or.inl ⟨rfl, fun z z0 z1 => by omega⟩)
    have l55 : ∀ (m : Nat) (y : Int) (d4 d5 d6 : aL) (K : aM), 0 ≤ y → y ≤ p2_ ((G 0 3)) → (p2_ ((G 0 3)) - y).toNat = m → ag 121 121 N K → (∀ z, 0 ≤ z → z < y → K 121 z = dsF G z) → Xs 257 (55, [some (some (vR 86)), some (some (vI d)), some (some (vI ((G 0 6)))), some (some (vI y)), d4, d5, d6], [], (K, W)) (QI Q) := by
      intro m
      induction m with
      | zero =>
        intro y d4 d5 d6 K y0 y1 hm gK e121
        have ey : y = p2_ ((G 0 3)) := by omega
        rw [ey] at e121
        have fK : frT N K := frT_ag gK (fun b j a1 a2 => by unfold scR; omega)
        have hK : rfS G D on w n wp wh wk tn tp fk fp K := hN.sc (fun b j c => gK b j (by unfold scR at c; omega))
        refine k_X12_edge_55 _ _ _ _ _ _ _ _ _ ?_
        rw [hK.G.o22, hK.G.d94 hd.1 hd.2, hK.G.r93 hD.1 hD.2.1 (by decide) (by decide), hdd]
        refine ⟨by omega, fun _ => ⟨by omega, by omega, fun v ev => ?_⟩, fun hlt => by omega⟩
        rw [ev]
        exact l148 _ (dd + 1) _ _ _ K (by omega) (by omega) rfl fK hK e121 (fun j j0 j1 => by omega)
      | succ m ih =>
        intro y d4 d5 d6 K y0 y1 hm gK e121
        have hK : rfS G D on w n wp wh wk tn tp fk fp K := hN.sc (fun b j c => gK b j (by unfold scR at c; omega))
        have hdr := sDif_rng y ((G 5 ((G 0 6))))
        have hlr := tld_rng ((G 5 ((G 0 6)))) y
        have htl := tld_lt hw (w := y) hsn.1 hsn.2
        have hlb := lkG_rng hw (tld ((G 5 ((G 0 6)))) y)
        have put : ∀ v d4 d5 d6, v = dsF G y → Xs 257 (55, [some (some (vR 86)), some (some (vI d)), some (some (vI ((G 0 6)))), some (some (vI (y + 1))), d4, d5, d6], [], (up_ K 121 y v, W)) (QI Q) := fun v d4 d5 d6 ev => by
          refine ih (y + 1) _ _ _ _ (by omega) (by omega) (by omega) (ag_tr gK (ag_up _ (by decide) (by decide))) (fun z z0 z1 => ?_)
          by_cases e : z = y
          · rw [e, up_s]; exact ev
          · rw [up_j _ _ _ e]; exact e121 z z0 (by omega)
        refine k_X12_edge_55 _ _ _ _ _ _ _ _ _ ?_
        rw [hK.G.o22, hK.G.s97 hs (by omega), dif_e y0 (by omega) hsn.1 (by omega)]
        refine ⟨by omega, fun hge => by omega, fun _ => ⟨by omega, by omega, fun hnz => ⟨by omega, put _ _ _ _ ?_⟩, fun hz => s_X12_learns hK.G hs (by omega) (by decide) (by decide) y0 (by omega) ?_⟩⟩
        · unfold dsF; rw [if_neg (fun a => hnz a.1)]
        · rw [lrn_0, hK.Wt.2 _ hlr.1 htl]
          refine ⟨by omega, by omega, fun hle => ⟨by omega, put _ _ _ _ ?_⟩, fun hgt => s_X12_learns hK.G hs (by omega) (by decide) (by decide) y0 (by omega) ?_⟩
          · unfold dsF; rw [if_neg (fun a => by omega)]
          · rw [lrn_0]
            refine ⟨by omega, by omega, put _ _ _ _ ?_⟩
            have hrow := (dN (tld ((G 5 ((G 0 6)))) y) hlr.1 htl (by omega) ((G 0 6)) hs (by omega) (by rw [← lrn_0]; exact lrn_fm)).2
            rw [show (7290 : Int) * 0 + 10 * tld ((G 5 ((G 0 6)))) y + (G 0 6) = 10 * tld ((G 5 ((G 0 6)))) y + (G 0 6) by omega] at hrow
            rw [gK _ _ (by omega), hrow]
            unfold dsF; rw [if_pos ⟨Classical.byContradiction hz, by omega⟩]; rfl
    exact l55 _ 0 _ _ _ N (by decide) (by omega) rfl (ag_refl _ _ _) (fun z z0 z1 => by omega)
  refine s_X12_isDoubtful h2.G hi (fun r hr => ⟨by omega, fun q => ?_, fun q => ?_⟩)
  · rw [if_neg (by omega)] at kk; exact kk
  · have hD := hw.D d (by omega) (by omega)
    have hR := hw.R (G 3 d) hD.1 hD.2.1
    rw [h2.G.d94 (by omega) (by omega), h2.G.r93 hD.1 hD.2.1 (by decide) (by decide)]
    refine ⟨by omega, by omega, by omega, fun hz => ?_, fun hnz => s_X12_hasEnds h2.G (fun r2 hr2 => ⟨by omega, fun q2 => s_X12_lay0 h2 (by omega) (fun N fN hN dN v ev => ?_), fun q2 => ?_⟩)⟩
    · rw [if_neg (by omega)] at kk; exact kk
    · rw [ev, hN.G.N.2.2.2.2.2.1]
      exact main (by omega) (by omega) (by omega) hnz N fN hN dN _ _ _
    · rw [if_neg (by omega)] at kk; exact kk
