/-! THE REFERENCE: all knowns are laid -/
def frV (sl : Int) (M N : aM) : Prop := frO M N ∧ ∀ j, (j < 7290 * sl ∨ 7290 * sl + 7290 ≤ j) → N 105 j = M 105 j ∧ N 106 j = M 106 j
theorem frV.G {G : Lnd} {sl : Int} {M N : aM} (h : frV sl M N) (hG : rfG G M) : rfG G N := h.1.G hG
/-- every known's row is laid -/
def rowsD (G : Lnd) (sl sm : Int) (lik : Int → Int) (v : Int → Int → Int) (N : aM) : Prop := ∀ k, 0 ≤ k → k < thr_ ((G 0 3)) → 0 < lik k → rowD G sl sm lik v k N
theorem s_X12_layValues {M : aM} {W : aW} {Q : aM → aW → Prop} {G : Lnd} {sl sm : Int} {lik en : Int → Int} (hG : rfG G M) (hg0 : 0 ≤ (G 0 7)) (sl0 : 0 ≤ sl) (sl1 : sl < 4) (hsm : sm = 0 ∨ sm = 1) (hl : likO G lik) (hml : ∀ k, 0 ≤ k → k < thr_ ((G 0 3)) → M 103 k = lik k) (hen : enO G sm lik en) (hE : enL G sm lik en) (he0 : sm = 0 → ∀ k, 0 ≤ k → k < thr_ ((G 0 3)) → 0 < lik k → M 109 k = en k) (he1 : sm ≠ 0 → ∀ k, en k = 0)
    (h : ∀ N, frV sl M N → rowsD G sl sm lik (VV G sm lik en) N → Q N W) : CallV 213 [vR 86, vI sl, vI sm] (M, W) Q := by
  have hn := hG.n
  have ht := hG.t
  have hw := hG.W
  have hV := VV_is hw sm en hl
  have hB := VV_B hw (sm := sm) (en := en) hl hen
  have l58 : ∀ (n : Nat) (x3 : Int) (N : aM), 0 ≤ x3 → x3 ≤ thr_ ((G 0 3)) → (thr_ ((G 0 3)) - x3).toNat = n → frV sl M N → (∀ k, 0 ≤ k → k < thr_ ((G 0 3)) → 0 < lik k → dnT N x3 k → rowD G sl sm lik (VV G sm lik en) k N) → (∀ k p, 0 ≤ k → k < thr_ ((G 0 3)) → ¬ dnT N x3 k → 0 ≤ p → p < (G 0 0) → N 105 (7290 * sl + 10 * k + p) = 4000000000000000000 ∧ N 106 (7290 * sl + 10 * k + p) = -2) → Xs 213 (58, [some (some (vR 86)), some (some (vI sl)), some (some (vI sm)), some (some (vI x3))], [], (N, W)) (QV Q) := by
    intro n; induction n using Nat.strongRecOn with
    | _ n ih =>
      intro x3 N h0 h1 hn2 hf hd hi
      have hGN := hf.G hG
      refine k_X12_layValues_58 _ _ _ _ _ _ ?_
      rw [hGN.o23]
      refine ⟨by omega, fun hge => ?_, fun hlt => ?_⟩
      · have e : x3 = thr_ ((G 0 3)) := by omega
        subst e
        exact h N hf (fun k k0 k1 hlk => hd k k0 k1 hlk (dnT_all hGN.T k0 k1))
      · have hvr := hGN.T.1 x3 h0 (by omega)
        have hno := dnT_no hGN.T (show x3 < thr_ ((G 0 3)) by omega)
        have hlt' := fun k' a b c => dnT_lt hGN.T h0 (show x3 < thr_ ((G 0 3)) by omega) (k := k') a b c
        have hsp : ∀ k', dnT N (x3 + 1) k' → dnT N x3 k' ∨ k' = N 100 x3 := fun k' q => dnT_s q
        generalize hv : N 100 x3 = v at hvr hno hlt' hsp
        have e103 : N 103 v = lik v := by rw [hf.1 103 _ (by decide) (by decide) (by decide) (by decide) (by decide)]; exact hml v hvr.1 hvr.2
        have hlr := hl.1 v hvr.1 hvr.2
        rw [e103]
        have hmono : ∀ k', dnT N x3 k' → dnT N (x3 + 1) k' := fun k' ⟨j, a, b, c⟩ => ⟨j, a, by omega, c⟩
        refine ⟨by omega, by omega, by omega, fun q => ?_, fun q => ⟨by omega, ?_⟩⟩
        · refine ih (thr_ ((G 0 3)) - (x3 + 1)).toNat (by omega) (x3 + 1) N (by omega) (by omega) rfl hf (fun k k0 k1 hlk hk => ?_) (fun k p k0 k1 hk p0 p1 => hi k p k0 k1 (fun a => hk (hmono k a)) p0 p1)
          rcases hsp k hk with a | a
          · exact hd k k0 k1 hlk a
          · subst a; omega
        · refine s_X12_layOne (lik := lik) (en := en) (v := VV G sm lik en) hGN hg0 sl0 sl1 hsm hl (fun k k0 k1 => by rw [hf.1 103 _ (by decide) (by decide) (by decide) (by decide) (by decide)]; exact hml k k0 k1) hB (fun p p0 p1 => vS_of hw hl hV hE p0 p1) hvr.1 hvr.2 (by omega) (hV v hvr.1 hvr.2 (by omega)) (fun z => by rw [hf.1 109 _ (by decide) (by decide) (by decide) (by decide) (by decide)]; exact he0 z v hvr.1 hvr.2 (by omega)) (fun z => he1 z v) ?_ (fun k' c0 c1 c2 c3 => hd k' c0 c1 c2 (hlt' k' c0 c1 c3)) (fun p p0 p1 => hi v p hvr.1 hvr.2 hno p0 p1) (fun K fK eK dK => ?_)
          · have := (hen v hvr.1 hvr.2 (by omega)).2
            have : eB sm ≤ 100000000000000 := by unfold eB; split <;> omega
            omega
          · have e100 : ∀ j, K 100 j = N 100 j := fun j => fK 100 j (by decide) (by decide) (by decide) (by decide) (by decide)
            have other : ∀ k p, 0 ≤ k → k < thr_ ((G 0 3)) → k ≠ v → 0 ≤ p → p < (G 0 0) → K 105 (7290 * sl + 10 * k + p) = N 105 (7290 * sl + 10 * k + p) ∧ K 106 (7290 * sl + 10 * k + p) = N 106 (7290 * sl + 10 * k + p) := fun k p k0 k1 hne p0 p1 => eK _ (by omega)
            refine ih (thr_ ((G 0 3)) - (x3 + 1)).toNat (by omega) (x3 + 1) K (by omega) (by omega) rfl ⟨frO_tr hf.1 fK, fun j hj => ?_⟩ (fun k k0 k1 hlk hk => ?_) (fun k p k0 k1 hk p0 p1 => ?_)
            · have a := eK j (by omega); have b := hf.2 j hj
              exact ⟨a.1.trans b.1, a.2.trans b.2⟩
            · by_cases e : k = v
              · subst e; exact dK
              · intro p p0 p1 hs
                have a := other k p k0 k1 e p0 p1
                rcases hsp k (hk.of e100) with c | c
                · rw [a.1, a.2]; exact hd k k0 k1 hlk c p p0 p1 hs
                · exact absurd c e
            · have hk' : ¬ dnT N (x3 + 1) k := fun ⟨j, c0, c1, c2⟩ => hk ⟨j, c0, c1, by rw [e100]; exact c2⟩
              have hne : k ≠ v := fun e => hk' ⟨x3, h0, by omega, by rw [hv, e]⟩
              have a := other k p k0 k1 hne p0 p1
              rw [a.1, a.2]
              exact hi k p k0 k1 (fun c => hk' (hmono k c)) p0 p1
  have l2 : ∀ (n : Nat) (x3 : Int) (N : aM), 0 ≤ x3 → x3 ≤ 7290 → (7290 - x3).toNat = n → frV sl M N → (∀ j, 0 ≤ j → j < x3 → N 105 (7290 * sl + j) = 4000000000000000000 ∧ N 106 (7290 * sl + j) = -2) → Xs 213 (2, [some (some (vR 86)), some (some (vI sl)), some (some (vI sm)), some (some (vI x3))], [], (N, W)) (QV Q) := by
    intro n; induction n using Nat.strongRecOn with
    | _ n ih =>
      intro x3 N h0 h1 hn2 hf hi
      have hGN := hf.G hG
      refine k_X12_layValues_2 _ _ _ _ _ _ ?_
      rw [hGN.N.2.2.2.2.2.2]
      refine ⟨by omega, fun hge => ⟨by omega, fun _ => ?_, fun y => absurd (show (G 0 7) ≠ -1 by omega) y⟩, fun hlt => ⟨by omega, by omega, ?_⟩⟩
      · refine l58 _ 0 N (by decide) (by omega) rfl hf (fun k _ _ _ hd => absurd hd dnT_0) (fun k p k0 k1 _ p0 p1 => ?_)
        rw [show 7290 * sl + 10 * k + p = 7290 * sl + (10 * k + p) by omega]
        exact hi _ (by omega) (by omega)
      · refine ih (7290 - (x3 + 1)).toNat (by omega) (x3 + 1) _ (by omega) (by omega) rfl ⟨frO_tr (frO_tr hf.1 (frO_up (by decide))) (frO_up (by decide)), fun j hj => ?_⟩ (fun j j0 j1 => ?_)
        · rw [up_b _ _ _ _ (show (105 : Int) ≠ 106 by decide), up_j _ _ _ (by omega), up_j _ _ _ (by omega), up_b _ _ _ _ (show (106 : Int) ≠ 105 by decide)]; exact hf.2 j hj
        · rw [up_b _ _ _ _ (show (105 : Int) ≠ 106 by decide)]
          by_cases e : j = x3
          · subst e; rw [up_s, up_s]; exact ⟨rfl, rfl⟩
          · rw [up_j _ _ _ (by omega), up_j _ _ _ (by omega), up_b _ _ _ _ (show (106 : Int) ≠ 105 by decide)]; exact hi j j0 (by omega)
  refine e_X12_layValues _ _ _ _ _ ?_
  exact l2 _ 0 M (by decide) (by decide) rfl ⟨frO_refl M, fun _ _ => ⟨rfl, rfl⟩⟩ (fun j a b => by omega)
theorem rowsD.of {G : Lnd} {sl sm : Int} {lik : Int → Int} {v : Int → Int → Int} {M N : aM} (h : rowsD G sl sm lik v M) (hN : ∀ j, 7290 * sl ≤ j → j < 7290 * sl + 7290 → N 105 j = M 105 j ∧ N 106 j = M 106 j) (ht : thr_ ((G 0 3)) ≤ 729) (hp : (G 0 0) ≤ 10) : rowsD G sl sm lik v N := fun k k0 k1 hl p p0 p1 hs => by
  have a := hN (7290 * sl + 10 * k + p) (by omega) (by omega)
  rw [a.1, a.2]; exact h k k0 k1 hl p p0 p1 hs
noncomputable abbrev VSu (G : Lnd) : Int → Int → Int := VV G 0 (lkG G) (enF G 0 0 0)
/-- BEST's and SURE's tables, if they are laid -/
def rfB (G : Lnd) (M : aM) : Prop := M 107 0 = 0 ∨ (M 107 0 = 1 ∧ rowsD G 0 1 (lkG G) (VB G) M)
def rfU (G : Lnd) (M : aM) : Prop := M 107 1 = 0 ∨ (M 107 1 = 1 ∧ rowsD G 1 0 (lkG G) (VSu G) M)
theorem enO_0 {G : Lnd} {lik : Int → Int} : enO G 1 lik (fun _ => 0) := fun k _ _ _ => by show - eB 1 ≤ (0 : Int) ∧ (0 : Int) ≤ eB 1; unfold eB; decide
theorem s_X12_layBest {M : aM} {W : aW} {Q : aM → aW → Prop} {G : Lnd} (hG : rfG G M) (hg0 : 0 ≤ (G 0 7)) (hml : ∀ k, 0 ≤ k → k < thr_ ((G 0 3)) → M 103 k = lkG G k) (hB : rfB G M)
    (h : ∀ N, (∀ b j, b ≠ 105 → b ≠ 106 → b ≠ 110 → b ≠ 111 → b ≠ 112 → ¬ (b = 107 ∧ j = 0) → N b j = M b j) → (∀ j, 7290 ≤ j → N 105 j = M 105 j ∧ N 106 j = M 106 j) → N 107 0 = 1 → rowsD G 0 1 (lkG G) (VB G) N → Q N W) : CallV 218 [vR 86] (M, W) Q := by
  have hw := hG.W
  refine e_X12_layBest _ _ _ ?_
  have hB' : M 107 0 = 0 ∨ M 107 0 = 1 := by rcases hB with a | a <;> omega
  refine ⟨by omega, fun q => ?_, fun q => ?_⟩
  · have hag : ag 107 107 M (up_ M 107 0 1) := ag_up _ (by decide) (by decide)
    refine s_X12_layValues (lik := lkG G) (en := fun _ => 0) (hG.ag hag (by decide)) hg0 (by decide) (by decide) (Or.inr rfl) (lkG_ok hw) (fun k k0 k1 => by rw [hag _ _ (by decide)]; exact hml k k0 k1) enO_0 enL_0 (fun z => absurd z (by decide)) (fun _ _ => rfl) (fun N fN dN => ?_)
    refine h N (fun b j c1 c2 c3 c4 c5 c6 => ?_) (fun j hj => ?_) ?_ dN
    · rw [fN.1 b j c1 c2 c3 c4 c5]
      by_cases e : b = 107
      · subst e; exact up_j _ _ _ (by omega)
      · exact up_b _ _ _ _ e
    · have := fN.2 j (by omega)
      rw [this.1, this.2, up_b _ _ _ _ (by decide), up_b _ _ _ _ (by decide)]; exact ⟨rfl, rfl⟩
    · rw [fN.1 107 0 (by decide) (by decide) (by decide) (by decide) (by decide), up_s]
  · rcases hB with a | ⟨a, b⟩
    · omega
    · exact h M (fun _ _ _ _ _ _ _ _ => rfl) (fun _ _ => ⟨rfl, rfl⟩) a b
theorem s_X12_laySure {M : aM} {W : aW} {Q : aM → aW → Prop} {G : Lnd} (hG : rfG G M) (hg0 : 0 ≤ (G 0 7)) (hml : ∀ k, 0 ≤ k → k < thr_ ((G 0 3)) → M 103 k = lkG G k) (hU : rfU G M)
    (h : ∀ N, (∀ b j, b ≠ 105 → b ≠ 106 → ¬ (108 ≤ b ∧ b ≤ 112) → ¬ (b = 107 ∧ j = 1) → N b j = M b j) → (∀ j, (j < 7290 ∨ 14580 ≤ j) → N 105 j = M 105 j ∧ N 106 j = M 106 j) → N 107 1 = 1 → rowsD G 1 0 (lkG G) (VSu G) N → Q N W) : CallV 219 [vR 86] (M, W) Q := by
  have hw := hG.W
  have hn := hG.n
  have ht := hG.t
  refine e_X12_laySure _ _ _ ?_
  have hU' : M 107 1 = 0 ∨ M 107 1 = 1 := by rcases hU with a | a <;> omega
  refine ⟨by omega, fun q => ?_, fun q => ?_⟩
  · have key : ∀ (n : Nat) (x1 : Int) (N : aM), 0 ≤ x1 → x1 ≤ p2_ ((G 0 3)) → (p2_ ((G 0 3)) - x1).toNat = n → (∀ b j, b ≠ 108 → ¬ (b = 107 ∧ j = 1) → N b j = M b j) → N 107 1 = 1 → (∀ w, 0 ≤ w → w < x1 → N 108 w = 0) → Xs 219 (19, [some (some (vR 86)), some (some (vI x1))], [], (N, W)) (QV Q) := by
      intro n; induction n using Nat.strongRecOn with
      | _ n ih =>
        intro x1 N h0 h1 hn2 hf h17 hi
        have hGN : rfG G N := hG.of (fun b j hb => hf b j (by unfold inG at hb; omega) (by unfold inG at hb; omega))
        refine k_X12_laySure_19 _ _ _ _ ?_
        rw [hGN.o22]
        refine ⟨by omega, fun hge => ?_, fun hlt => ⟨by omega, ?_⟩⟩
        · have e0 : ∀ w, eFr G 0 0 0 w = 0 := fun w => if_pos (by decide)
          refine s_X12_layTerm (e := eFr G 0 0 0) hGN (fun k k0 k1 => by rw [hf 103 _ (by decide) (by omega)]; exact hml k k0 k1) (fun w w0 w1 _ => by rw [e0, hi w w0 (by omega)]; decide) (fun K agK hK => ?_)
          have hGK := hGN.ag agK (by decide)
          refine s_X12_layValues (lik := lkG G) (en := enF G 0 0 0) hGK hg0 (by decide) (by decide) (Or.inl rfl) (lkG_ok hw) (fun k k0 k1 => by rw [agK _ _ (by decide), hf 103 _ (by decide) (by omega)]; exact hml k k0 k1) (enF_ok hw (fun a => absurd a (by decide)) (by decide) (by decide) (by decide) (by decide)) (enL_G hw (fun w _ _ _ => by rw [e0]; decide)) (fun _ k k0 k1 hl => hK k k0 k1 hl) (fun z => absurd rfl z) (fun J fJ dJ => ?_)
          refine h J (fun b j c1 c2 c3 c4 => ?_) (fun j hj => ?_) ?_ dJ
          · rw [fJ.1 b j c1 c2 (by omega) (by omega) (by omega), agK b j (by omega)]; exact hf b j (by omega) c4
          · have := fJ.2 j (by omega)
            rw [this.1, this.2, agK _ _ (by decide), agK _ _ (by decide), hf 105 _ (by decide) (by omega), hf 106 _ (by decide) (by omega)]; exact ⟨rfl, rfl⟩
          · rw [fJ.1 107 1 (by decide) (by decide) (by decide) (by decide) (by decide), agK _ _ (by decide)]; exact h17
        · refine ih (p2_ ((G 0 3)) - (x1 + 1)).toNat (by omega) (x1 + 1) _ (by omega) (by omega) rfl (fun b j c1 c2 => by rw [up_b _ _ _ _ c1]; exact hf b j c1 c2) (by rw [up_b _ _ _ _ (by decide)]; exact h17) (fun w w0 w1 => ?_)
          by_cases e : w = x1
          · subst e; rw [up_s]
          · rw [up_j _ _ _ e]; exact hi w w0 (by omega)
    refine key _ 0 _ (by decide) (by omega) rfl (fun b j c1 c2 => ?_) (up_s _ _ _ _) (fun w a b => by omega)
    by_cases e : b = 107
    · subst e; exact up_j _ _ _ (by omega)
    · exact up_b _ _ _ _ e
  · rcases hU with a | ⟨a, b⟩
    · omega
    · exact h M (fun _ _ _ _ _ _ => rfl) (fun _ _ => ⟨rfl, rfl⟩) a b
