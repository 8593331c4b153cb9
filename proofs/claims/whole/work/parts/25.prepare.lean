/-! PREPARE: what a plan stands on, solved once -/
def ixF (f : Int → Int → Int) (j : Int) : Int := f (j / 10) (j % 10)
theorem ixF_e (f : Int → Int → Int) {k p : Int} (p0 : 0 ≤ p) (p1 : p < 10) : ixF f (k * 10 + p) = f k p := by
  unfold ixF; rw [show (k * 10 + p) / 10 = k by omega, show (k * 10 + p) % 10 = p by omega]
noncomputable def eFr (G : Lnd) (a b less w : Int) : Int := if b ≤ 0 then 0 else if a ≤ 0 then 0 else -(Int.tdiv (a * KW G w - less) b)
theorem tdiv_rng {x b B : Int} (hb : 1 ≤ b) (h0 : -B ≤ x) (h1 : x ≤ B) : -B ≤ Int.tdiv x b ∧ Int.tdiv x b ≤ B := by
  have hn : (Int.tdiv x b).natAbs ≤ x.natAbs := by
    rw [Int.natAbs_tdiv]; exact Nat.div_le_self _ _
  omega
theorem eFr_rng {G : Lnd} (hw : WF G) {a b less w : Int} (hs : 0 < a → 0 < b → 0 ≤ (G 0 6)) (a0 : 0 ≤ a) (a1 : a ≤ 19800) (l0 : 0 ≤ less) (l1 : less ≤ 1) : -100000000 ≤ eFr G a b less w ∧ eFr G a b less w ≤ 100000000 := by
  unfold eFr; split
  · omega
  · split
    · omega
    · have hK := KW_rng (w := w) hw (hs (by omega) (by omega))
      have m1 : a * KW G w ≤ 19800 * 1980 := by
        rcases hK.1 with e | e
        · rw [e]; omega
        · exact Int.mul_le_mul a1 hK.2 e (by decide)
      have m2 : -39600 ≤ a * KW G w := by
        rcases hK.1 with e | e
        · rw [e]; omega
        · have := Int.mul_nonneg a0 e; omega
      have := tdiv_rng (x := a * KW G w - less) (b := b) (B := 100000000) (by omega) (by omega) (by omega)
      omega
noncomputable abbrev enF (G : Lnd) (a b less : Int) : Int → Int := enG G (eFr G a b less)
theorem enF_ok {G : Lnd} (hw : WF G) {a b less : Int} (hs : 0 < a → 0 < b → 0 ≤ (G 0 6)) (a0 : 0 ≤ a) (a1 : a ≤ 19800) (l0 : 0 ≤ less) (l1 : less ≤ 1) : enO G 0 (lkG G) (enF G a b less) := fun k k0 k1 hl => by
  have := enG_rng hw (e := eFr G a b less) (B := 100000000) (fun w _ _ _ => eFr_rng hw hs a0 a1 l0 l1) hl (by decide)
  show -(eB 0) ≤ enG G (eFr G a b less) k ∧ enG G (eFr G a b less) k ≤ eB 0
  unfold eB; rw [if_pos rfl]; omega
theorem s_X7_greaterEnd {M : aM} {W : aW} {Q : Int → aM → aW → Prop} {G : Lnd} {c o s : Int} (hP : clP c G M) (o0 : 0 ≤ o) (o1 : o < thr_ ((G 0 3))) (s0 : 0 ≤ s) (s1 : s < thr_ ((G 0 3))) (ho : 0 < lkG G o → inL (M 44 o)) (hs : 0 < lkG G s → inL (M 44 s))
    (h : Q (if lkG G o ≤ 0 then M 44 s else if lkG G s ≤ 0 then M 44 o else max_ (M 44 o) (M 44 s)) M W) : CallL 72 [vR 36, vI o, vI s] (M, W) Q := by
  obtain ⟨hk, hG, hw, hc, m2, m38, m39, mw⟩ := hP
  have ht := thrG hw
  have l1 := lkG_rng hw o; have l2 := lkG_rng hw s
  refine e_X7_greaterEnd _ _ _ _ _ ?_
  rw [m39 o o0 o1, m39 s s0 s1]
  refine ⟨by omega, by omega, fun hp => ⟨by omega, by omega, fun hq => ⟨by omega, by omega, ⟨ho (by omega), hs (by omega)⟩, ?_⟩, fun hq => ⟨by omega, ?_⟩⟩, fun hp => ⟨by omega, ?_⟩⟩
  · rw [if_neg (show ¬ lkG G o ≤ 0 by omega), if_neg (show ¬ lkG G s ≤ 0 by omega)] at h; exact h
  · rw [if_neg (show ¬ lkG G o ≤ 0 by omega), if_pos (show lkG G s ≤ 0 by omega)] at h; exact h
  · rw [if_pos (show lkG G o ≤ 0 by omega)] at h; exact h
theorem s_X7_fillEnds {M : aM} {W : aW} {Q : aM → aW → Prop} {G : Lnd} {c a b less : Int} (hP : clP c G M) (hs : 0 < a → 0 < b → 0 ≤ (G 0 6)) (a0 : 0 ≤ a) (a1 : a ≤ 19800) (l0 : 0 ≤ less) (l1 : less ≤ 1) (b0 : 0 ≤ b) (b1 : b ≤ 1980)
    (h : ∀ N, ag 44 44 M N → (∀ k, 0 ≤ k → k < thr_ ((G 0 3)) → 0 < lkG G k → N 44 k = enF G a b less k) → Q N W) : CallV 71 [vR 36, vI a, vI less, vI b] (M, W) Q := by
  have hw := hP.2.2.1
  have hk := hP.1
  have hN := hw.N; unfold wfN at hN
  have ht := thrG hw
  have h64 := p2_lt64 hw
  have hall := allD_rng hw
  have hb := fun k (k0 : 0 ≤ k) (k1 : k < thr_ ((G 0 3))) (hl : 0 < lkG G k) => enF_ok hw hs a0 a1 l0 l1 k k0 k1 hl
  have hE : eB 0 = 100000000000000 := if_pos rfl
  have key : ∀ (n : Nat) (x5 : Int) (d6 : aL) (N : aM), -1 ≤ x5 → x5 < thr_ ((G 0 3)) → (x5 + 1).toNat = n → ag 44 44 M N → (∀ k, x5 < k → k < thr_ ((G 0 3)) → 0 < lkG G k → N 44 k = enF G a b less k) → Xs 71 (22, [some (some (vR 36)), some (some (vI a)), some (some (vI less)), some (some (vI b)), some (some (vI (allD G))), some (some (vI x5)), d6], [], (N, W)) (QV Q) := by
    intro n; induction n using Nat.strongRecOn with
    | _ n ih =>
      intro x5 d6 N h0 h1 hn hag hi
      have hPN : clP c G N := hP.of (fun b j hb => hag b j (by unfold inP at hb; omega))
      have hcN := hPN.2.2.2.1
      refine k_X7_fillEnds_22 _ _ _ _ _ _ _ _ _ ?_
      refine ⟨by omega, fun hlt => h N hag (fun k k0 k1 hl => hi k (by omega) k1 hl), fun hge => ?_⟩
      refine s_X2_firstMissing hcN (by omega) (by omega) hall.1 hall.2 ?_
      have hfm := fm_all hw (k := x5)
      have stp : ∀ (v : Int) (d6 : aL), (0 < lkG G x5 → v = enF G a b less x5) → Xs 71 (22, [some (some (vR 36)), some (some (vI a)), some (some (vI less)), some (some (vI b)), some (some (vI (allD G))), some (some (vI (x5 + (-1)))), d6], [], ((up_ N 44 x5 v), W)) (QV Q) := by
        intro v d6 hv
        refine ih (x5 + (-1) + 1).toNat (by omega) _ _ _ (by omega) (by omega) rfl (ag_tr hag (ag_up _ (by decide) (by decide))) (fun k k0 k1 hl => ?_)
        by_cases he : k = x5
        · rw [he, up_s]; rw [he] at hl; exact hv hl
        · rw [up_j _ _ _ he]; exact hi k (by omega) k1 hl
      have hsr := sht_rng x5
      have hsl := sht_lt (by omega) (by omega) (show 0 ≤ x5 by omega) h1
      have full : fm_ x5 (allD G) < 0 → ∀ v, v = eFr G a b less (sht x5) → (0 < lkG G x5 → v = enF G a b less x5) := fun hf v hv hl => by
        have hful : ful ((G 0 3)) x5 := by
          rcases hfm with hh | hh
          · exact hh.2
          · omega
        have he := eFr_rng (w := sht x5) (less := less) hw hs a0 a1 l0 l1
        rw [hv]; exact (enG_ful hw (by omega) h1 hful hl (by omega)).symm
      refine ⟨by rcases hfm with hh | hh <;> omega, fun hneg => ⟨by omega, fun hb0 => ⟨by omega, stp _ _ (full hneg _ ?_)⟩, fun hb0 => ⟨by omega, fun ha0 => ⟨by omega, by omega, ?_⟩, fun ha0 => ⟨by omega, stp _ _ (full hneg _ ?_)⟩⟩⟩, fun hpos => ?_⟩
      · unfold eFr; rw [if_pos hb0]
      · rw [(hcN.1 x5 (by omega) (by omega)).2]
        refine s_X7_knowingOf hPN hsr.1 hsl (hs (by omega) (by omega)) (fun p p0 p1 => by have := dW_rng (w := sht x5) hw p0 p1; omega) ?_
        have hK := KW_rng (w := sht x5) hw (hs (by omega) (by omega))
        have m1 : a * KW G (sht x5) ≤ 19800 * 1980 := by
          rcases hK.1 with e | e
          · rw [e]; omega
          · exact Int.mul_le_mul a1 hK.2 e (by decide)
        have m2 : -39600 ≤ a * KW G (sht x5) := by
          rcases hK.1 with e | e
          · rw [e]; omega
          · have := Int.mul_nonneg a0 e; omega
        refine ⟨by omega, by omega, by omega, ⟨by omega, by omega, by omega⟩, by omega, stp _ _ (full hneg _ ?_)⟩
        unfold eFr; rw [if_neg hb0, if_neg (by omega)]
      · unfold eFr; rw [if_neg hb0, if_pos (by omega)]
      · obtain ⟨f0, f1, f2, f3⟩ : 0 ≤ fm_ x5 (allD G) ∧ fm_ x5 (allD G) < (G 0 3) ∧ dg x5 (fm_ x5 (allD G)) = 0 ∧ ∀ i, 0 ≤ i → i < fm_ x5 (allD G) → dg x5 i ≠ 0 := by
          rcases hfm with hf | hf
          · omega
          · exact hf
        generalize fm_ x5 (allD G) = d at *
        have b1 := dg_lt (v := 1) (show 0 ≤ x5 by omega) (by omega) h1 f0 f1 f2 (by decide)
        have b2 := dg_lt (v := 2) (show 0 ≤ x5 by omega) (by omega) h1 f0 f1 f2 (by decide)
        have hth := thr_le f0 (show d ≤ 6 by omega)
        have i1 : 0 < lkG G (x5 + thr_ d) → N 44 (x5 + thr_ d) = enF G a b less (x5 + thr_ d) := fun hl => hi _ (by omega) (by omega) hl
        have i2 : 0 < lkG G (x5 + 2 * thr_ d) → N 44 (x5 + 2 * thr_ d) = enF G a b less (x5 + 2 * thr_ d) := fun hl => hi _ (by omega) (by omega) hl
        refine ⟨by omega, by omega, s_X7_greaterEnd hPN (by omega) (by omega) (by omega) (by omega) (fun hl => by have := hb _ (by omega) (by omega) hl; rw [i1 hl]; omega) (fun hl => by have := hb _ (by omega) (by omega) hl; rw [i2 hl]; omega) ⟨by omega, stp _ _ (fun hl => ?_)⟩⟩
        have hsp := lk_split (u := wtG G) (nd := (G 0 3)) (show 0 ≤ x5 by omega) (by omega) f0 (show d < 6 by omega) f2
        have hsp' : lkG G x5 = lkG G (x5 + thr_ d) + lkG G (x5 + 2 * thr_ d) := hsp
        have hen := enG_split hw (e := eFr G a b less) (show 0 ≤ x5 by omega) (by omega) f0 (show d < 6 by omega) f2
        have lw1 := mxE_low (enP G (x5 + thr_ d)) (eFr G a b less) (p2_ ((G 0 3))).toNat
        have lw2 := mxE_low (enP G (x5 + 2 * thr_ d)) (eFr G a b less) (p2_ ((G 0 3))).toNat
        rw [show enF G a b less x5 = enG G (eFr G a b less) x5 from rfl, hen]
        by_cases c1 : lkG G (x5 + thr_ d) ≤ 0
        · rw [if_pos c1, i2 (by omega), enG_none hw c1]
          unfold max_ enF enG; split <;> omega
        · rw [if_neg c1]
          by_cases c2 : lkG G (x5 + 2 * thr_ d) ≤ 0
          · rw [if_pos c2, i1 (by omega), enG_none hw c2]
            unfold max_ enF enG; split <;> omega
          · rw [if_neg c2, i1 (by omega), i2 (by omega)]
  refine e_X7_fillEnds _ _ _ _ _ _ ?_
  have m2 := hP.2.2.2.2.1
  rw [m2]
  refine ⟨ct_o hk, s_X3_worlds hk hP.2.1 hw (fun v hv => ?_)⟩
  rw [m2]
  refine ⟨ct_o hk, s_X3_knowns hk hP.2.1 hw (fun y hy => ?_)⟩
  rw [hv]
  exact key _ y _ M (by omega) (by omega) rfl (ag_refl _ _ _) (fun k a b => by omega)
noncomputable def D0 (G : Lnd) : Int → Int := ixF (AA G 1 (lkG G) (fun _ => 0))
noncomputable def D1 (G : Lnd) : Int → Int := ixF (AA G 0 (lkG G) (enF G 0 0 0))
noncomputable def pdS (G : Lnd) (t : Int) : Int → Int := if t = 1 then D1 G else fun _ => 0
noncomputable def pdF (G : Lnd) (a b less t : Int) : Int → Int := if t = 2 then ixF (AA G 0 (lkG G) (enF G a b less)) else fun _ => 0
noncomputable def FRs (G : Lnd) : Nat → Int × Int → Int × Int
  | 0, s => s
  | n + 1, s => if VF G (eFr G s.1 s.2 1) 0 ((G 0 6)) ≤ 0 then FRs G n (gzP G (pdF G s.1 s.2 1) 2) else s
def bigN : Nat := 1000000
noncomputable def sP (G : Lnd) : Int × Int := gzP G (pdS G) 1
noncomputable def sE (G : Lnd) : Int × Int := if 0 < (sP G).1 then FRs G bigN (sP G) else sP G
noncomputable def D2 (G : Lnd) : Int → Int := if gbP G (pdS G) 1 = true then fun _ => -2 else ixF (AA G 0 (lkG G) (enF G (sE G).1 (sE G).2 0))
theorem pdS_ok {G : Lnd} (hw : WF G) : planOK G (pdS G) 1 := by
  have hN := hw.N; unfold wfN at hN
  refine ⟨by decide, fun _ k k0 k1 hl p p0 p1 => ?_, fun h => absurd h (by decide), fun h => absurd h (by decide), fun h => absurd h (by decide)⟩
  show actOK G k p ((if (1 : Int) = 1 then D1 G else fun _ => 0) (k * 10 + p))
  rw [if_pos rfl]; unfold D1; rw [ixF_e _ p0 (by omega)]; exact actS_ok hw p0 p1
theorem pdF_ok {G : Lnd} (hw : WF G) (a b less : Int) : planOK G (pdF G a b less) 2 := by
  have hN := hw.N; unfold wfN at hN
  refine ⟨by decide, fun _ k k0 k1 hl p p0 p1 => ?_, fun h => absurd h (by decide), fun h => absurd h (by decide), fun h => absurd h (by decide)⟩
  show actOK G k p ((if (2 : Int) = 2 then ixF (AA G 0 (lkG G) (enF G a b less)) else fun _ => 0) (k * 10 + p))
  rw [if_pos rfl, ixF_e _ p0 (by omega)]; exact actS_ok hw p0 p1
theorem pdS_cl {G : Lnd} (hw : WF G) {M : aM} (h : slM 55 G 0 (lkG G) (enF G 0 0 0) M) : clD G (pdS G) 1 M := by
  have hN := hw.N; unfold wfN at hN
  refine ⟨fun h => absurd h (by decide), fun _ k k0 k1 hl p p0 p1 => ?_, fun h => absurd h (by decide), fun h => absurd h (by decide), fun h => absurd h (by decide), fun h => absurd h (by decide)⟩
  show _ = (if (1 : Int) = 1 then D1 G else fun _ => 0) (k * 10 + p)
  rw [if_pos rfl]; unfold D1; rw [ixF_e _ p0 (by omega)]; exact (h k k0 k1 hl p p0 p1).2
theorem pdF_cl {G : Lnd} (hw : WF G) {M : aM} {a b less : Int} (h : slM 60 G 0 (lkG G) (enF G a b less) M) : clD G (pdF G a b less) 2 M := by
  have hN := hw.N; unfold wfN at hN
  refine ⟨fun h => absurd h (by decide), fun h => absurd h (by decide), fun _ k k0 k1 hl p p0 p1 => ?_, fun h => absurd h (by decide), fun h => absurd h (by decide), fun h => absurd h (by decide)⟩
  show _ = (if (2 : Int) = 2 then ixF (AA G 0 (lkG G) (enF G a b less)) else fun _ => 0) (k * 10 + p)
  rw [if_pos rfl, ixF_e _ p0 (by omega)]; exact (h k k0 k1 hl p p0 p1).2
theorem s_X7_solveFair {M : aM} {W : aW} {Q : aM → aW → Prop} {G : Lnd} {c less : Int} (hP : clP c G M) (hs : 0 ≤ (G 0 6)) (a0 : 0 ≤ M 36 15) (a1 : M 36 15 ≤ 19800) (l0 : 0 ≤ less) (l1 : less ≤ 1) (b0 : 0 ≤ M 36 16) (b1 : M 36 16 ≤ 1980)
    (h : ∀ N, ag 44 63 M N → (∀ b j, 45 ≤ b → b ≤ 59 → N b j = M b j) → slM 60 G 0 (lkG G) (enF G (M 36 15) (M 36 16) less) N → Q N W) : CallV 70 [vR 36, vI less] (M, W) Q := by
  have hw := hP.2.2.1
  have ht := thrG hw
  refine e_X7_solveFair _ _ _ _ ?_
  refine s_X7_fillEnds hP (fun _ _ => hs) a0 a1 l0 l1 b0 b1 (fun N hag hen => ?_)
  have hPN : clP c G N := hP.of (fun b j hb => hag b j (by unfold inP at hb; omega))
  rw [hPN.2.2.2.2.1]
  refine s_X9_solve (lik := lkG G) (en := enF G (M 36 15) (M 36 16) less) (Or.inr (Or.inr (Or.inl rfl))) (Or.inl rfl) hPN.1 hPN.2.1 hw hPN.2.2.2.1 (lkG_ok hw) (Or.inl rfl) hPN.2.2.2.2.2.2.1 (Or.inl rfl) hen (enF_ok hw (fun _ _ => hs) a0 a1 l0 l1) (fun K hK _ hsl => ?_)
  exact h K (ag_tr (ag_wk hag (by decide) (by decide)) (ag_wk hK (by decide) (by decide))) (fun b j q0 q1 => by rw [hK b j (by omega), hag b j (by omega)]) hsl
