/-! THE REFERENCE: FAIR -/
/-- what laying the third table may change -/
def frLm (M N : aM) : Prop := (∀ b j, b ≠ 104 → b ≠ 105 → b ≠ 106 → ¬ (108 ≤ b ∧ b ≤ 112) → N b j = M b j) ∧ ∀ j, (j < 14580 ∨ 21870 ≤ j) → N 105 j = M 105 j ∧ N 106 j = M 106 j
theorem frLm_refl (M : aM) : frLm M M := ⟨fun _ _ _ _ _ _ => rfl, fun _ _ => ⟨rfl, rfl⟩⟩
theorem frLm_tr {M N K : aM} (h1 : frLm M N) (h2 : frLm N K) : frLm M K := ⟨fun b j a1 a2 a3 a4 => (h2.1 b j a1 a2 a3 a4).trans (h1.1 b j a1 a2 a3 a4), fun j hj => ⟨(h2.2 j hj).1.trans (h1.2 j hj).1, (h2.2 j hj).2.trans (h1.2 j hj).2⟩⟩
theorem frLm.P {M N : aM} (h : frLm M N) : frP M N := fun b j a c => h.1 b j (by omega) (by omega) (by omega) (by omega)
theorem s_X12_layLimits {M : aM} {W : aW} {Q : aM → aW → Prop} {G : Lnd} {a b less : Int} (hG : rfG G M) (hg0 : 0 ≤ (G 0 7)) (hs : 0 ≤ (G 0 6)) (hW : rfW G M) (a0 : 0 ≤ a) (a1 : a ≤ 19800) (b0 : 1 ≤ b) (b1 : b ≤ 1980) (hl : less = 0 ∨ (less = 1 ∧ 1 ≤ a ∧ ∀ w, 0 ≤ w → w < p2_ ((G 0 3)) → 0 < wtG G w → 1 ≤ KW G w)) (hK : ∀ w, 0 ≤ w → w < p2_ ((G 0 3)) → 0 < wtG G w → 0 ≤ KW G w)
    (h : ∀ N, frLm M N → rowsD G 2 0 (lkG G) (VF G (eFr G a b less)) N → Q N W) : CallV 223 [vR 86, vL a, vL b, vI less] (M, W) Q := by
  have hn := hG.n
  have ht := hG.t
  have hw := hG.W
  have key : ∀ (n : Nat) (x6 : Int) (d7 d8 d9 : aL) (N : aM), 0 ≤ x6 → x6 ≤ p2_ ((G 0 3)) → (p2_ ((G 0 3)) - x6).toNat = n → (∀ b j, b ≠ 104 → b ≠ 108 → N b j = M b j) → (∀ w, 0 ≤ w → w < x6 → 0 < wtG G w → N 108 w = eFr G a b less w) → Xs 223 (3, [some (some (vR 86)), some (some (vL a)), some none, some (some (vL b)), some none, some (some (vI less)), some (some (vI x6)), d7, d8, d9], [], (N, W)) (QV Q) := by
    intro n; induction n using Nat.strongRecOn with
    | _ n ih =>
      intro x6 d7 d8 d9 N h0 h1 hn2 hf hi
      have hGN : rfG G N := hG.of (fun b j hb => hf b j (by unfold inG at hb; omega) (by unfold inG at hb; omega))
      refine k_X12_layLimits_3 _ _ _ _ _ _ _ _ _ _ ?_
      rw [hGN.o22]
      refine ⟨by omega, fun hge => ?_, fun hlt => ?_⟩
      · have he : ∀ w, -100000000 ≤ eFr G a b less w ∧ eFr G a b less w ≤ 100000000 := fun w => eFr_rng hw (fun _ _ => hs) a0 a1 (by omega) (by omega)
        refine s_X12_layTerm (e := eFr G a b less) hGN (fun k k0 k1 => by rw [hf 103 _ (by decide) (by decide)]; exact hW.2 k k0 k1) (fun w w0 w1 hWw => ⟨hi w w0 (by omega) hWw, he w⟩) (fun K agK hK2 => ?_)
        have hGK := hGN.ag agK (by decide)
        refine s_X12_layValues (lik := lkG G) (en := enF G a b less) hGK hg0 (by decide) (by decide) (Or.inl rfl) (lkG_ok hw) (fun k k0 k1 => by rw [agK _ _ (by decide), hf 103 _ (by decide) (by decide)]; exact hW.2 k k0 k1) (enF_ok hw (fun _ _ => hs) a0 a1 (by omega) (by omega)) (enL_G hw (fun w _ _ _ => he w)) (fun _ k k0 k1 hl => hK2 k k0 k1 hl) (fun z => absurd rfl z) (fun J fJ dJ => h J ⟨fun b j c1 c2 c3 c4 => ?_, fun j hj => ?_⟩ dJ)
        · rw [fJ.1 b j c2 c3 (by omega) (by omega) (by omega), agK b j (by omega)]; exact hf b j c1 (by omega)
        · have := fJ.2 j (by omega)
          rw [this.1, this.2, agK _ _ (by decide), agK _ _ (by decide), hf 105 _ (by decide) (by decide), hf 106 _ (by decide) (by decide)]; exact ⟨rfl, rfl⟩
      · have hWn := wtG_nn hw x6
        have hWl := wtG_le hw h0 (show x6 < p2_ ((G 0 3)) by omega)
        have e101 : N 101 x6 = wtG G x6 := by rw [hf _ _ (by decide) (by decide)]; exact hW.1 x6 h0 (by omega)
        have nxt : ∀ (d7 d8 d9 : aL) (K : aM) (y : Int), ag 104 104 N K → (0 < wtG G x6 → y = eFr G a b less x6) → Xs 223 (3, [some (some (vR 86)), some (some (vL a)), some none, some (some (vL b)), some none, some (some (vI less)), some (some (vI (x6 + 1))), d7, d8, d9], [], ((up_ K 108 x6 y), W)) (QV Q) := fun d7 d8 d9 K y agK hy => by
          refine ih (p2_ ((G 0 3)) - (x6 + 1)).toNat (by omega) (x6 + 1) _ _ _ _ (by omega) (by omega) rfl (fun b j c1 c2 => by rw [up_b _ _ _ _ c2, agK b j (by omega)]; exact hf b j c1 c2) (fun w w0 w1 hWw => ?_)
          by_cases e : w = x6
          · subst e; rw [up_s]; exact hy hWw
          · rw [up_j _ _ _ e, agK _ _ (by decide)]; exact hi w w0 (by omega) hWw
        rw [e101]
        refine ⟨by omega, by omega, fun hne => ?_, fun he => ?_⟩
        · have hk0 := hK x6 h0 (by omega) (by omega)
          have hkr := KW_rng hw (w := x6) hs
          refine s_X12_knowingOf hGN hs h0 (by omega) (fun K agK => ⟨by omega, fun v8 e8 => ⟨by omega, fun q => ?_, fun q => ?_⟩⟩)
          · have z1 : 0 ≤ v8 := by rw [e8]; exact Int.mul_nonneg a0 hk0
            have z2 : v8 ≤ 19800 * 1980 := by rw [e8]; exact Int.le_trans (Int.mul_le_mul_of_nonneg_right a1 hk0) (Int.mul_le_mul_of_nonneg_left hkr.2 (by decide))
            refine ⟨⟨by omega, by omega, by omega⟩, by omega, nxt _ _ _ K _ agK (fun _ => ?_)⟩
            unfold eFr
            rw [if_neg (by omega)]
            by_cases c : a ≤ 0
            · have ea : a = 0 := by omega
              rw [if_pos c, e8, ea, Int.zero_mul, Int.zero_tdiv]; rfl
            · rw [if_neg c, q, ← e8, Int.sub_zero]
          · obtain ⟨l1, l2, l3⟩ : less = 1 ∧ 1 ≤ a ∧ ∀ w, 0 ≤ w → w < p2_ ((G 0 3)) → 0 < wtG G w → 1 ≤ KW G w := by
              rcases hl with c | c
              · exact absurd c q
              · exact c
            have hk1 := l3 x6 h0 (by omega) (by omega)
            have z1 : 1 ≤ v8 := by rw [e8]; exact Int.le_trans (by omega) (Int.mul_le_mul l2 hk1 (by decide) (by omega))
            have z2 : v8 ≤ 19800 * 1980 := by rw [e8]; exact Int.le_trans (Int.mul_le_mul_of_nonneg_right a1 hk0) (Int.mul_le_mul_of_nonneg_left hkr.2 (by decide))
            refine ⟨⟨by omega, by omega, by omega⟩, by omega, nxt _ _ _ K _ agK (fun _ => ?_)⟩
            have e1 := eFr_1 (G := G) (w := x6) l2 b0 hk1
            rw [l1]
            rw [← e8] at e1
            rw [Int.tdiv_eq_ediv_of_nonneg (by omega), show v8 + b - 1 = (v8 - 1) + b * 1 by omega, Int.add_mul_ediv_left _ _ (by omega)]
            omega
        · refine ⟨by decide, fun v9 e9 => ⟨by omega, fun q => ⟨⟨by omega, by omega, by omega⟩, by omega, nxt _ _ _ N _ (ag_refl _ _ _) (fun c => by omega)⟩, fun q => ⟨⟨by omega, by omega, by omega⟩, by omega, nxt _ _ _ N _ (ag_refl _ _ _) (fun c => by omega)⟩⟩⟩
  refine e_X12_layLimits _ _ _ _ _ _ ?_
  exact key _ 0 _ _ _ M (by decide) (by omega) rfl (fun _ _ _ _ => rfl) (fun w a b => by omega)
def faR (G : Lnd) (M : aM) : Prop := ∀ k, 0 ≤ k → k < thr_ ((G 0 3)) → 0 < lkG G k → ∀ p, 0 ≤ p → p < (G 0 0) → fm_ k ((G 5 p)) < 0 → M 106 (7290 * 2 + 10 * k + p) = D2 G (k * 10 + p)
def rfF (G : Lnd) (M : aM) : Prop := M 107 2 = 0 ∨ (M 107 2 = 1 ∧ faR G M)
theorem rows_D {G : Lnd} {sl : Int} {a b less : Int} {D : Int → Int → Int} {M : aM} (h : rowsD G sl 0 (lkG G) (VF G (eFr G a b less)) M) (hs : sl = 0 ∨ sl = 1 ∨ sl = 2) (hP : (G 0 0) ≤ 10) (hD : D sl = ixF (AA G 0 (lkG G) (enF G a b less))) : rfD G D sl M := by
  refine ⟨fun _ k k0 k1 hl p p0 p1 hf => ?_, fun q => by omega, fun q => by omega⟩
  rw [(h k k0 k1 hl p p0 p1 hf).2, hD, ixF_e _ p0 (by omega)]
  rfl
theorem lk0_pos {G : Lnd} (hw : WF G) : 0 < lkG G 0 := by
  have h64 := p2_lt64 hw
  obtain ⟨w, a, b, c⟩ := su_pos _ (fun i _ _ => wtG_nn hw i) (wt_pos hw (o := -1) (od := 0) (by decide))
  exact lkG_pos hw a (by omega) c (by rw [agB_iff]; exact fun i i0 i6 => Or.inl (dg0 i0 i6))
theorem VF_B {G : Lnd} (hw : WF G) (hs : 0 ≤ (G 0 6)) {a b less : Int} (a0 : 0 ≤ a) (a1 : a ≤ 19800) (l0 : 0 ≤ less) (l1 : less ≤ 1) : vB G (lkG G) (VF G (eFr G a b less)) := VV_B hw (lkG_ok hw) (enF_ok hw (fun _ _ => hs) a0 a1 l0 l1)
theorem VF_S {G : Lnd} (hw : WF G) (hs : 0 ≤ (G 0 6)) {a b less : Int} (a0 : 0 ≤ a) (a1 : a ≤ 19800) (l0 : 0 ≤ less) (l1 : less ≤ 1) {p : Int} (p0 : 0 ≤ p) (p1 : p < (G 0 0)) : vS G 0 (lkG G) (VF G (eFr G a b less)) p := vS_of hw (lkG_ok hw) (VV_is hw 0 _ (lkG_ok hw)) (enL_G hw (fun w _ _ _ => eFr_rng hw (fun _ _ => hs) a0 a1 l0 l1)) p0 p1
/-- what comes in at a place, once a table is laid -/
theorem rows_cp {G : Lnd} (hw : WF G) {sl sm k p s : Int} {lik : Int → Int} {v : Int → Int → Int} {M : aM} (h : rowsD G sl sm lik v M) (p0 : 0 ≤ p) (p1 : p < (G 0 0)) (k0 : 0 ≤ k) (k1 : k < thr_ ((G 0 3))) : tvP sl lik v p (cp k ((G 5 p)) s) M := fun hl => by
  have hN := hw.N; unfold wfN at hN
  have hSn := hw.S.1 p p0 (by omega)
  exact (h _ (cp_rng k ((G 5 p)) s).1 (cp_lt hw k0 k1 hSn.1 hSn.2) hl p p0 p1 (seen_fm.mpr cp_seen)).1
theorem FRs_S (G : Lnd) (n : Nat) (s : Int × Int) : FRs G (n + 1) s = if VF G (eFr G s.1 s.2 1) 0 ((G 0 6)) ≤ 0 then FRs G n (gzP G (pdF G s.1 s.2 1) 2) else s := rfl
/-- the table of FAIR is laid -/
theorem faR_of {G : Lnd} {M : aM} (hP : (G 0 0) ≤ 10) (hb : gbP G (pdS G) 1 = false) (h : rowsD G 2 0 (lkG G) (VF G (eFr G (sE G).1 (sE G).2 0)) M) : faR G M := fun k k0 k1 hl p p0 p1 hf => by
  rw [(h k k0 k1 hl p p0 p1 hf).2]
  unfold D2
  rw [if_neg (by rw [hb]; decide), ixF_e _ p0 (by omega)]
  rfl
theorem s_X12_layFair119 {M0 : aM} {W : aW} {Q : aM → aW → Prop} {G : Lnd} (hG0 : rfG G M0) (hg0 : 0 ≤ (G 0 7)) (hs : 0 ≤ (G 0 6)) (hsg : (G 0 6) ≠ (G 0 7)) (hb : gbP G (pdS G) 1 = false) (hW0 : rfW G M0)
    (h : ∀ N, frP M0 N → N 107 0 = M0 107 0 → N 107 1 = M0 107 1 → N 107 2 = M0 107 2 → (∀ j, (j < 14580 ∨ 21870 ≤ j) → N 105 j = M0 105 j ∧ N 106 j = M0 106 j) → hopI G N → faR G N → Q N W) : ∀ (n : Nat) (a b : Int) (d5 : aL) (M : aM), FRs G n (a, b) = sE G → sm_ (mF G a b) (p2_ ((G 0 3))).toNat < n → 1 ≤ a → a ≤ 19800 → 1 ≤ b → b ≤ 1980 → frP M0 M → (∀ j, M 107 j = M0 107 j) → (∀ j, (j < 14580 ∨ 21870 ≤ j) → M 105 j = M0 105 j ∧ M 106 j = M0 106 j) → hopI G M → rowsD G 2 0 (lkG G) (VF G (eFr G a b 1)) M → Xs 222 (119, [some (some (vR 86)), some (some (vL a)), some none, some (some (vL b)), some none, d5], [], (M, W)) (QV Q) := by
  have hn := hG0.n
  have hw := hG0.W
  have ht := hG0.t
  have hK : ∀ w, 0 ≤ w → w < p2_ ((G 0 3)) → 0 < wtG G w → 0 ≤ KW G w := fun w w0 w1 hWw => (gb_KW hw hb w w0 w1 hWw).1
  have hK1 : ∀ w, 0 ≤ w → w < p2_ ((G 0 3)) → 0 < wtG G w → 1 ≤ KW G w := fun w w0 w1 hWw => KW_pos hw hs hsg (hK w w0 w1 hWw)
  intro n; induction n with
  | zero => intro a b d5 M _ hm; omega
  | succ n ih =>
    intro a b d5 M hE hm a0 a1 b0 b1 hf h107 hrow hI hT
    have hG := hf.G hG0
    have hW := hf.rfW hW0
    have hVb := VF_B hw hs (b := b) (less := 1) (show 0 ≤ a by omega) a1 (by decide) (by decide) 0 (by decide) (by omega) (lk0_pos hw) ((G 0 6)) hs (by omega)
    rw [FRs_S] at hE
    dsimp only at hE
    refine k_X12_layFair_119 _ _ _ _ _ _ ?_
    rw [hG.N.2.2.2.2.2.1]
    refine s_X12_arrives (lik := lkG G) (v := VF G (eFr G a b 1)) hG (by decide) (by decide) (Or.inl rfl) (lkG_ok hw) hW.2 (VF_B hw hs (by omega) a1 (by decide) (by decide)) (VF_S hw hs (by omega) a1 (by decide) (by decide) hs (by omega)) hs (by omega) (by decide) (by omega) (lk0_pos hw) (fun s s0 => rows_cp hw hT hs (by omega) (by decide) (by omega)) ?_
    refine ⟨by have := upV_rng (x := VF G (eFr G a b 1) 0 ((G 0 6))) (by omega); omega, fun q => ?_, fun q => ?_⟩
    · rw [if_neg (by unfold upV at q; split at q <;> omega)] at hE
      refine s_X12_layLimits hG hg0 hs hW (by omega) a1 b0 b1 (Or.inl rfl) hK (fun N fN dN => h N (frP_tr hf fN.P) ?_ ?_ ?_ (fun j hj => ?_) (hI.of (fun j => fN.1 113 j (by decide) (by decide) (by decide) (by decide))) (faR_of (by omega) hb ?_))
      · rw [fN.1 107 0 (by decide) (by decide) (by decide) (by decide)]; exact h107 0
      · rw [fN.1 107 1 (by decide) (by decide) (by decide) (by decide)]; exact h107 1
      · rw [fN.1 107 2 (by decide) (by decide) (by decide) (by decide)]; exact h107 2
      · exact ⟨(fN.2 j hj).1.trans (hrow j hj).1, (fN.2 j hj).2.trans (hrow j hj).2⟩
      · rw [← hE]; exact dN
    · have hV : VF G (eFr G a b 1) 0 ((G 0 6)) ≤ 0 := by unfold upV at q; split at q <;> omega
      rw [if_pos hV] at hE
      obtain ⟨e0, e1, e2, e3⟩ := fr_dec hw hs hsg a0 a1 b0 b1 hK hV
      refine s_X12_layTimes (D := pdF G a b 1) (plan := 2) hG hg0 hs hI (rows_D hT (by decide) (by omega) (by show pdF G a b 1 2 = _; unfold pdF; rw [if_pos rfl])) (pdF_ok hw a b 1) (by decide) hW (fun c => by rw [e0] at c; cases c) (fun _ N fN vN IN n38 n39 v9 e9 v10 e10 => ?_)
      have hGN := fN.G hG
      rw [n38] at e9; rw [n39] at e10
      rw [← e9, ← e10] at e3
      rw [← e9] at e1
      rw [← e10] at e2
      refine s_X12_layLimits hGN hg0 hs (fN.rfW hW) (by omega) (by omega) (by omega) (by omega) (Or.inr ⟨rfl, by omega, hK1⟩) hK (fun K fK dK => ?_)
      refine ih v9 v10 _ K (by rw [e9, e10]; exact hE) (by omega) e1.1 e1.2 e2.1 e2.2 (frP_tr hf (frP_tr fN fK.P)) (fun j => ?_) (fun j hj => ?_) (IN.of (fun j => fK.1 113 j (by decide) (by decide) (by decide) (by decide))) dK
      · rw [fK.1 107 j (by decide) (by decide) (by decide) (by decide), vN 107 j (by decide) (by decide)]; exact h107 j
      · rw [(fK.2 j hj).1, (fK.2 j hj).2, vN 105 j (by decide) (by decide), vN 106 j (by decide) (by decide)]; exact hrow j hj
theorem s_X12_layFair {M : aM} {W : aW} {Q : aM → aW → Prop} {G : Lnd} (hG : rfG G M) (hg0 : 0 ≤ (G 0 7)) (hs : 0 ≤ (G 0 6)) (hW : rfW G M) (hH : hopI G M) (hB : rfB G M) (hU : rfU G M) (hF : rfF G M)
    (h : ∀ N, frP M N → hopI G N → rfB G N → rfU G N → N 107 2 = 1 → faR G N → Q N W) : CallV 222 [vR 86] (M, W) Q := by
  have hn := hG.n
  have hw := hG.W
  have ht := hG.t
  refine e_X12_layFair _ _ _ ?_
  have hF' : M 107 2 = 0 ∨ M 107 2 = 1 := by rcases hF with a | a <;> omega
  refine ⟨by omega, fun q => ?_, fun q => ?_⟩
  · -- all frames come to this
    have fin : ∀ N, frP M N → hopI G N → N 107 0 = M 107 0 → (∀ j, j < 7290 → N 105 j = M 105 j ∧ N 106 j = M 106 j) → (N 107 1 = 1 ∧ rowsD G 1 0 (lkG G) (VSu G) N) → N 107 2 = 1 → faR G N → Q N W := fun N fN IN e0 er hu e2 hfa => by
      refine h N fN IN ?_ (Or.inr hu) e2 hfa
      rcases hB with c | ⟨c, d⟩
      · exact Or.inl (by rw [e0]; exact c)
      · exact Or.inr ⟨by rw [e0]; exact c, d.of (fun j c1 c2 => er j (by omega)) (by omega) (by omega)⟩
    have key : ∀ (n : Nat) (x1 : Int) (d2 d3 d4 d5 : aL) (N : aM), 0 ≤ x1 → x1 ≤ 7290 → (7290 - x1).toNat = n → (∀ b j, b ≠ 105 → b ≠ 106 → ¬ (b = 107 ∧ j = 2) → N b j = M b j) → (∀ j, j < 14580 → N 105 j = M 105 j ∧ N 106 j = M 106 j) → N 107 2 = 1 → (∀ j, 0 ≤ j → j < x1 → N 106 (14580 + j) = -2) → Xs 222 (19, [some (some (vR 86)), some (some (vI x1)), d2, d3, d4, d5], [], (N, W)) (QV Q) := by
      intro n; induction n using Nat.strongRecOn with
      | _ n ih =>
        intro x1 d2 d3 d4 d5 N h0 h1 hn2 hf hlo h17 hi
        have fN : frP M N := fun b j c1 c2 => hf b j (by omega) (by omega) (by omega)
        have hGN := fN.G hG
        refine k_X12_layFair_19 _ _ _ _ _ _ _ _ ?_
        refine ⟨by omega, fun hge => ?_, fun hlt => ⟨by omega, by omega, ?_⟩⟩
        · have hUN : rfU G N := by
            rcases hU with c | ⟨c, d⟩
            · exact Or.inl (by rw [hf 107 1 (by decide) (by decide) (by decide)]; exact c)
            · exact Or.inr ⟨by rw [hf 107 1 (by decide) (by decide) (by decide)]; exact c, d.of (fun j c1 c2 => hlo j (by omega)) (by omega) (by omega)⟩
          refine s_X12_laySure hGN hg0 (fN.rfW hW).2 hUN (fun K fK rK k17 dK => ?_)
          have fK' : frP N K := fun b j c1 c2 => fK b j (by omega) (by omega) (by omega) (by omega)
          have hGK := fK'.G hGN
          have hWK := (frP_tr fN fK').rfW hW
          have hIK : hopI G K := hH.of (fun j => by rw [fK 113 j (by decide) (by decide) (by decide) (by omega), hf 113 j (by decide) (by decide) (by omega)])
          have k2 : K 107 2 = 1 := by rw [fK 107 2 (by decide) (by decide) (by decide) (by decide)]; exact h17
          have k0 : K 107 0 = M 107 0 := by rw [fK 107 0 (by decide) (by decide) (by decide) (by decide)]; exact hf 107 0 (by decide) (by decide) (by decide)
          have klo : ∀ j, j < 7290 → K 105 j = M 105 j ∧ K 106 j = M 106 j := fun j hj => by
            have := rK j (by omega); have := hlo j (by omega); omega
          have k106 : ∀ j, 0 ≤ j → j < 7290 → K 106 (14580 + j) = -2 := fun j j0 j1 => by
            rw [(rK (14580 + j) (by omega)).2]; exact hi j j0 (by omega)
          refine s_X12_hasEnds hGK (fun r hr => ⟨by omega, fun z => by omega, fun _ => ?_⟩)
          refine s_X12_layTimes (D := pdS G) (plan := 1) hGK hg0 hs hIK (rows_D (a := 0) (b := 0) (less := 0) dK (by decide) (by omega) (by show pdS G 1 = _; unfold pdS; rw [if_pos rfl]; rfl)) (pdS_ok hw) (by decide) hWK (fun c J fJ vJ IJ => ⟨by decide, fun y => absurd rfl y, fun _ => ?_⟩) (fun c J fJ vJ IJ j38 j39 => ⟨by decide, fun _ => ?_, fun y => absurd (by decide) y⟩)
          · refine fin J (frP_tr fN (frP_tr fK' fJ)) IJ ?_ (fun j hj => ?_) ⟨?_, dK.of (fun j c1 c2 => ⟨vJ 105 j (by decide) (by decide), vJ 106 j (by decide) (by decide)⟩) (by omega) (by omega)⟩ ?_ (fun k k0 k1 hl p p0 p1 hf2 => ?_)
            · rw [vJ 107 0 (by decide) (by decide)]; exact k0
            · rw [vJ 105 j (by decide) (by decide), vJ 106 j (by decide) (by decide)]; exact klo j hj
            · rw [vJ 107 1 (by decide) (by decide)]; exact k17
            · rw [vJ 107 2 (by decide) (by decide)]; exact k2
            · rw [vJ 106 _ (by decide) (by decide), show 7290 * 2 + 10 * k + p = 14580 + (10 * k + p) by omega, k106 _ (by omega) (by omega)]
              unfold D2; rw [if_pos c]
          · have hGJ := fJ.G hGK
            have hWJ := fJ.rfW hWK
            have hK := fun w w0 w1 hWw => (gb_KW hw c w w0 w1 hWw).1
            rw [hGJ.N.2.2.2.2.2.1, hGJ.N.2.2.2.2.2.2]
            refine ⟨by omega, fun hsg v9 e9 v10 e10 => ?_, fun hsg => ?_⟩
            · have hK1 : ∀ w, 0 ≤ w → w < p2_ ((G 0 3)) → 0 < wtG G w → 1 ≤ KW G w := fun w w0 w1 hWw => KW_pos hw hs hsg (hK w w0 w1 hWw)
              have hm := gz_max (H := hoP G (pdS G) 1) (K := KW G) (Wt := wtG G) (p2_ ((G 0 3))).toNat (fun w c d e => hK1 w c (by omega) e)
              have hv : (1 ≤ v9 ∧ v9 ≤ 19800) ∧ (1 ≤ v10 ∧ v10 ≤ 1980) := by
                rcases hm with ⟨-, hno⟩ | ⟨⟨w', c0, c1, c2, c3⟩, -⟩
                · obtain ⟨w, x1, x2, x3⟩ := su_pos _ (fun i _ _ => wtG_nn hw i) (wt_pos hw (o := -1) (od := 0) (by decide))
                  exact absurd x3 (hno w x1 x2)
                · have e1 : (gzP G (pdS G) 1).1 = hoP G (pdS G) 1 w' := by unfold gzP; rw [c3]
                  have e2 : (gzP G (pdS G) 1).2 = KW G w' := by unfold gzP; rw [c3]
                  have hkr := KW_rng hw (w := w') hs
                  have hk1 := hK1 w' c0 (by omega) c2
                  have hh := (gb_KW hw c w' c0 (by omega) c2).2
                  have hp := ho_pos hw (pdS_ok hw) c0 (by omega) c2 hs hsg hh
                  have hbd := hoursF_bd hw (pdS_ok hw) c0 (by omega) c2 hs hh
                  rw [e9, e10, j38, j39, e1, e2]; omega
              have hsE : FRs G bigN (v9, v10) = sE G := by
                have e1 : (v9, v10) = sP G := by rw [e9, e10, j38, j39]; rfl
                unfold sE
                rw [← e1, if_pos (by show 0 < v9; omega)]
              refine s_X12_layLimits hGJ hg0 hs hWJ (by omega) hv.1.2 hv.2.1 hv.2.2 (Or.inr ⟨rfl, hv.1.1, hK1⟩) hK (fun L fL dL => ?_)
              have hGL := fL.P.G hGJ
              have hWL := fL.P.rfW hWJ
              refine s_X12_layFair119 hGL hg0 hs hsg c hWL (fun Z fZ z0 z1 z2 zr IZ faZ => ?_) bigN v9 v10 _ L hsE (mF_big hw v9 v10) hv.1.1 hv.1.2 hv.2.1 hv.2.2 (frP_refl L) (fun _ => rfl) (fun _ _ => ⟨rfl, rfl⟩) (IJ.of (fun j => fL.1 113 j (by decide) (by decide) (by decide) (by decide))) dL
              refine fin Z (frP_tr fN (frP_tr fK' (frP_tr fJ (frP_tr fL.P fZ)))) IZ ?_ (fun j hj => ?_) ⟨?_, dK.of (fun j c1 c2 => ?_) (by omega) (by omega)⟩ ?_ faZ
              · rw [z0, fL.1 107 0 (by decide) (by decide) (by decide) (by decide), vJ 107 0 (by decide) (by decide)]; exact k0
              · rw [(zr j (by omega)).1, (zr j (by omega)).2, (fL.2 j (by omega)).1, (fL.2 j (by omega)).2, vJ 105 j (by decide) (by decide), vJ 106 j (by decide) (by decide)]; exact klo j hj
              · rw [z1, fL.1 107 1 (by decide) (by decide) (by decide) (by decide), vJ 107 1 (by decide) (by decide)]; exact k17
              · rw [(zr j (by omega)).1, (zr j (by omega)).2, (fL.2 j (by omega)).1, (fL.2 j (by omega)).2, vJ 105 j (by decide) (by decide), vJ 106 j (by decide) (by decide)]; exact ⟨rfl, rfl⟩
              · rw [z2, fL.1 107 2 (by decide) (by decide) (by decide) (by decide), vJ 107 2 (by decide) (by decide)]; exact k2
            · have hsg' : (G 0 6) = (G 0 7) := by omega
              refine s_X12_layLimits hGJ hg0 hs hWJ (by decide) (by decide) (by decide) (by decide) (Or.inl rfl) hK (fun L fL dL => ?_)
              refine fin L (frP_tr fN (frP_tr fK' (frP_tr fJ fL.P))) (IJ.of (fun j => fL.1 113 j (by decide) (by decide) (by decide) (by decide))) ?_ (fun j hj => ?_) ⟨?_, dK.of (fun j c1 c2 => ?_) (by omega) (by omega)⟩ ?_ (faR_of (by omega) c ?_)
              · rw [fL.1 107 0 (by decide) (by decide) (by decide) (by decide), vJ 107 0 (by decide) (by decide)]; exact k0
              · rw [(fL.2 j (by omega)).1, (fL.2 j (by omega)).2, vJ 105 j (by decide) (by decide), vJ 106 j (by decide) (by decide)]; exact klo j hj
              · rw [fL.1 107 1 (by decide) (by decide) (by decide) (by decide), vJ 107 1 (by decide) (by decide)]; exact k17
              · rw [(fL.2 j (by omega)).1, (fL.2 j (by omega)).2, vJ 105 j (by decide) (by decide), vJ 106 j (by decide) (by decide)]; exact ⟨rfl, rfl⟩
              · rw [fL.1 107 2 (by decide) (by decide) (by decide) (by decide), vJ 107 2 (by decide) (by decide)]; exact k2
              · have e1 := sP_gol hsg'
                have e2 : sE G = sP G := by unfold sE; rw [if_neg (by omega)]
                have e3 : eFr G (sE G).1 (sE G).2 0 = eFr G 0 1 0 := funext fun w => by
                  unfold eFr
                  rw [e2, e1, if_neg (show ¬ (1 : Int) ≤ 0 by decide), if_pos (Int.le_refl 0), if_pos (Int.le_refl 0)]
                  split <;> rfl
                rw [e3]; exact dL
        · refine ih (7290 - (x1 + 1)).toNat (by omega) (x1 + 1) _ _ _ _ _ (by omega) (by omega) rfl (fun b j c1 c2 c3 => by rw [up_b _ _ _ _ c2, up_b _ _ _ _ c1]; exact hf b j c1 c2 c3) (fun j hj => ?_) (by rw [up_b _ _ _ _ (by decide), up_b _ _ _ _ (by decide)]; exact h17) (fun j j0 j1 => ?_)
          · rw [up_b _ _ _ _ (show (105 : Int) ≠ 106 by decide), up_j _ _ _ (by omega), up_j _ _ _ (by omega), up_b _ _ _ _ (show (106 : Int) ≠ 105 by decide)]; exact hlo j hj
          · by_cases e : j = x1
            · subst e; rw [up_s]
            · rw [up_j _ _ _ (by omega), up_b _ _ _ _ (show (106 : Int) ≠ 105 by decide)]; exact hi j j0 (by omega)
    refine key _ 0 _ _ _ _ _ (by decide) (by decide) rfl (fun b j c1 c2 c3 => ?_) (fun j hj => ?_) (up_s _ _ _ _) (fun j a b => by omega)
    · by_cases e : b = 107
      · subst e; exact up_j _ _ _ (by omega)
      · exact up_b _ _ _ _ e
    · rw [up_b _ _ _ _ (by decide), up_b _ _ _ _ (by decide)]; exact ⟨rfl, rfl⟩
  · rcases hF with a | ⟨a, b⟩
    · omega
    · exact h M (frP_refl M) hH hB hU a b
