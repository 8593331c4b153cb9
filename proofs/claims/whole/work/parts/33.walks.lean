/-! A WALK: drawing a world, steps and back -/
def fol (x : Int) : Int := land_ (x * 1103515245 + 12345) 2147483647
def com (x o : Int) : Prop := Int.tmod (Int.tdiv x 65536) 10 < o
theorem land_rng (x : Int) : 0 ≤ land_ x 2147483647 ∧ land_ x 2147483647 < 2147483648 := by
  have h1 : (Int64.ofInt x &&& Int64.ofInt 2147483647).toBitVec.toNat ≤ 2147483647 := by
    rw [Int64.toBitVec_and, BitVec.toNat_and]
    exact Nat.and_le_right
  have h2 : land_ x 2147483647 = ((Int64.ofInt x &&& Int64.ofInt 2147483647).toBitVec.toNat : Int) := by
    unfold land_
    show (Int64.ofInt x &&& Int64.ofInt 2147483647).toBitVec.toInt = _
    rw [BitVec.toInt_eq_toNat_of_lt (by omega)]
  omega
theorem fol_rng (x : Int) : 0 ≤ fol x ∧ fol x < 2147483648 := land_rng _
theorem com_rng {x : Int} (h0 : 0 ≤ x) (h1 : x < 2147483648) : (0 ≤ Int.tdiv x 65536 ∧ Int.tdiv x 65536 < 32768) ∧ 0 ≤ Int.tmod (Int.tdiv x 65536) 10 ∧ Int.tmod (Int.tdiv x 65536) 10 < 10 := by
  rw [Int.tdiv_eq_ediv_of_nonneg h0, Int.tmod_eq_emod_of_nonneg (by omega)]; omega
def sby (G : Lnd) (c : Int) : Nat → Int
  | 0 => 0
  | n + 1 => if (G 2 ((G 3 n) * 7 + 4)) = c then sOr (sby G c n) (p2_ n) else sby G c n
theorem sby_S (G : Lnd) (c : Int) {x : Int} (h : 0 ≤ x) : sby G c (x + 1).toNat = if (G 2 ((G 3 x) * 7 + 4)) = c then sOr (sby G c x.toNat) (p2_ x) else sby G c x.toNat := by
  have e : (x + 1).toNat = x.toNat + 1 := by omega
  have e2 : ((x.toNat : Nat) : Int) = x := by omega
  rw [e]; show (if (G 2 ((G 3 (x.toNat : Nat)) * 7 + 4)) = c then sOr (sby G c x.toNat) (p2_ (x.toNat : Nat)) else sby G c x.toNat) = _; rw [e2]
noncomputable def dr1 (G : Lnd) (seed : Int) : Nat → Int × Int
  | 0 => (seed, 0)
  | n + 1 => if 0 < (G 2 ((G 3 n) * 7 + 3)) then (fol (dr1 G seed n).1, iteP (com (fol (dr1 G seed n).1) ((G 2 ((G 3 n) * 7 + 3)))) (sOr (dr1 G seed n).2 (p2_ n)) (dr1 G seed n).2) else dr1 G seed n
noncomputable def dr2 (G : Lnd) (s : Int × Int) : Nat → Int × Int
  | 0 => s
  | n + 1 => (fol (dr2 G s n).1, iteP (com (fol (dr2 G s n).1) (G 1 n)) (sOr (dr2 G s n).2 (sby G n ((G 0 3)).toNat)) (dr2 G s n).2)
theorem dr1_S (G : Lnd) (s : Int) {x : Int} (h : 0 ≤ x) : dr1 G s (x + 1).toNat = if 0 < (G 2 ((G 3 x) * 7 + 3)) then (fol (dr1 G s x.toNat).1, iteP (com (fol (dr1 G s x.toNat).1) ((G 2 ((G 3 x) * 7 + 3)))) (sOr (dr1 G s x.toNat).2 (p2_ x)) (dr1 G s x.toNat).2) else dr1 G s x.toNat := by
  have e : (x + 1).toNat = x.toNat + 1 := by omega
  have e2 : ((x.toNat : Nat) : Int) = x := by omega
  rw [e]
  show (if 0 < (G 2 ((G 3 (x.toNat : Nat)) * 7 + 3)) then (fol (dr1 G s x.toNat).1, iteP (com (fol (dr1 G s x.toNat).1) ((G 2 ((G 3 (x.toNat : Nat)) * 7 + 3)))) (sOr (dr1 G s x.toNat).2 (p2_ (x.toNat : Nat))) (dr1 G s x.toNat).2) else dr1 G s x.toNat) = _
  rw [e2]
theorem dr2_S (G : Lnd) (s : Int × Int) {x : Int} (h : 0 ≤ x) : dr2 G s (x + 1).toNat = (fol (dr2 G s x.toNat).1, iteP (com (fol (dr2 G s x.toNat).1) (G 1 x)) (sOr (dr2 G s x.toNat).2 (sby G x ((G 0 3)).toNat)) (dr2 G s x.toNat).2) := by
  have e : (x + 1).toNat = x.toNat + 1 := by omega
  have e2 : ((x.toNat : Nat) : Int) = x := by omega
  rw [e]
  show (fol (dr2 G s x.toNat).1, iteP (com (fol (dr2 G s x.toNat).1) (G 1 (x.toNat : Nat))) (sOr (dr2 G s x.toNat).2 (sby G (x.toNat : Nat) ((G 0 3)).toNat)) (dr2 G s x.toNat).2) = _
  rw [e2]
noncomputable def drW (G : Lnd) (seed : Int) : Int := (dr2 G (dr1 G seed ((G 0 3)).toNat) ((G 0 1)).toNat).2
theorem sOr_0 {x : Int} (x0 : 0 ≤ x) (x1 : x < 64) : sOr x 0 = x := by
  have hr := sOr_rng x 0
  refine bt_ext hr.1 hr.2 x0 x1 (fun i i0 i6 => ?_)
  have e : bt 0 i = 0 := by unfold bt; rw [Int.zero_ediv]; rfl
  rw [bt_sOr i0 i6, e]
  rcases bt_cs x i with h | h <;> rw [h] <;> simp
theorem sOr_lt {G : Lnd} (hw : WF G) {a b : Int} (a0 : 0 ≤ a) (a1 : a < p2_ ((G 0 3))) (b0 : 0 ≤ b) (b1 : b < p2_ ((G 0 3))) : 0 ≤ sOr a b ∧ sOr a b < p2_ ((G 0 3)) := by
  have hN := hw.N; unfold wfN at hN
  have hr := sOr_rng a b
  refine ⟨hr.1, lt_p2 hr.1 hr.2 (by omega) (by omega) (fun i i0 i6 => ?_)⟩
  rw [bt_sOr (by omega) i6, bt_hi a0 (by omega) a1 i0 i6, bt_hi b0 (by omega) b1 i0 i6]; rfl
theorem sby_rng {G : Lnd} (hw : WF G) (c : Int) : ∀ n : Nat, n ≤ (G 0 3) → 0 ≤ sby G c n ∧ sby G c n < p2_ ((G 0 3)) := by
  have h64 := p2_lt64 hw
  intro n; induction n with
  | zero => intro _; unfold sby; omega
  | succ n ih =>
    intro h
    have h1 := ih (by omega)
    have h2 := p2_lt hw (r := n) (by omega) (by omega)
    unfold sby; split
    · exact sOr_lt hw h1.1 h1.2 h2.1 h2.2.1
    · exact h1
theorem s_X5_shutBy {M : aM} {W : aW} {Q : Int → aM → aW → Prop} {G : Lnd} {c cc : Int} (hk : cty c) (hG : clG c G M) (hw : WF G) (hcc : inI cc) (h : Q (sby G cc ((G 0 3)).toNat) M W) : CallI 51 [vR 82, vR c, vI cc] (M, W) Q := by
  have hN := hw.N; unfold wfN at hN
  have h64 := p2_lt64 hw
  have key : ∀ (n : Nat) (x3 x4 : Int), 0 ≤ x4 → x4 ≤ (G 0 3) → ((G 0 3) - x4).toNat = n → x3 = sby G cc x4.toNat → Xs 51 (5, [some (some (vR 82)), some (some (vR c)), some (some (vI cc)), some (some (vI x3)), some (some (vI x4))], [], (M, W)) (QI Q) := by
    intro n; induction n using Nat.strongRecOn with
    | _ n ih =>
      intro x3 x4 h0 h1 hn hx
      have hs := sby_rng hw cc x4.toNat (by omega)
      rw [← hx] at hs
      refine k_X5_shutBy_5 _ _ _ _ _ _ _ ?_
      rw [hG.1]
      refine ⟨ct_o hk, by omega, fun hge => ?_, fun hlt => ⟨ct_o hk, s_X3_causeOf hk hG hw h0 (by omega) ?_⟩⟩
      · have e : x4 = (G 0 3) := by omega
        rw [e] at hx; rw [hx]; exact h
      · have hD := hw.D x4 h0 (by omega)
        have hR := hw.R _ hD.1 hD.2.1
        rw [or_e hs.1 (by omega) (by decide) (by decide), sOr_0 hs.1 (by omega), shl_e h0 (by omega)]
        have hp := p2_lt hw h0 (show x4 < (G 0 3) by omega)
        rw [or_e hs.1 (by omega) hp.1 hp.2.2]
        refine ⟨by omega, fun hne v hv => ih ((G 0 3) - (x4 + 1)).toNat (by omega) v (x4 + 1) (by omega) (by omega) rfl ?_, fun he v hv => ih ((G 0 3) - (x4 + 1)).toNat (by omega) v (x4 + 1) (by omega) (by omega) rfl ?_⟩
        · rw [sby_S _ _ h0, if_neg hne, hv]; exact hx
        · rw [sby_S _ _ h0, if_pos (Classical.byContradiction he), hv, ← hx]
  refine e_X5_shutBy _ _ _ _ _ ?_
  exact key _ 0 0 (by omega) (by omega) rfl rfl
theorem s_X5_comes {M : aM} {W : aW} {Q : Int → aM → aW → Prop} {x o : Int} (h0 : 0 ≤ x) (h1 : x < 2147483648) (ho : inI o) (h : ∀ r, (r = 1 ∧ com x o) ∨ (r = 0 ∧ ¬ com x o) → Q r M W) : CallI 50 [vR 82, vL x, vI o] (M, W) Q := by
  have hr := com_rng h0 h1
  refine e_X5_comes _ _ _ _ _ ?_
  refine ⟨by omega, by omega, ho, by omega, fun hge => ⟨by omega, h 0 (Or.inr ⟨rfl, fun q => ?_⟩)⟩, fun hlt => ⟨by omega, h 1 (Or.inl ⟨rfl, ?_⟩)⟩⟩
  · unfold com at q; omega
  · unfold com; omega
theorem s_X5_draw {M : aM} {W : aW} {Q : Int → aM → aW → Prop} {G : Lnd} {c seed : Int} (hk : cty c) (hG : clG c G M) (hw : WF G) (s0 : 0 ≤ seed) (s1 : seed < 2147483648) (h : 0 ≤ drW G seed → drW G seed < p2_ ((G 0 3)) → Q (drW G seed) M W) : CallI 48 [vR 82, vR c, vI seed] (M, W) Q := by
  have hN := hw.N; unfold wfN at hN
  have h64 := p2_lt64 hw
  have l69 : ∀ (n : Nat) (x3 x5 x6 : Int), 0 ≤ x6 → x6 ≤ (G 0 1) → ((G 0 1) - x6).toNat = n → (x3, x5) = dr2 G (dr1 G seed ((G 0 3)).toNat) x6.toNat → (0 ≤ x5 ∧ x5 < p2_ ((G 0 3))) → Xs 48 (69, [some (some (vR 82)), some (some (vR c)), some (some (vI seed)), some (some (vL x3)), some none, some (some (vI x5)), some (some (vI x6))], [], (M, W)) (QI Q) := by
    intro n; induction n using Nat.strongRecOn with
    | _ n ih =>
      intro x3 x5 x6 h0 h1 hn hx hr
      refine k_X5_draw_69 _ _ _ _ _ _ _ _ ?_
      rw [hG.1]
      refine ⟨ct_o hk, by omega, fun hge => ?_, fun hlt => ?_⟩
      · have e : x6 = (G 0 1) := by omega
        rw [e] at hx
        have e2 : x5 = drW G seed := by unfold drW; rw [← hx]
        rw [← e2] at h; exact h hr.1 hr.2
      · refine e_X5_follow _ _ _ _ ?_
        have hf := fol_rng x3
        have hC := hw.C x6 h0 (by omega)
        rw [hG.2.1, ct_l1 hk]
        refine ⟨ct_o hk, ⟨ct_a1 hk, by omega, by omega⟩, ?_⟩
        refine s_X5_comes (x := fol x3) hf.1 hf.2 (by omega) (fun r hr2 => ⟨by omega, fun hz => ?_, fun hnz => ?_⟩)
        · refine ih ((G 0 1) - (x6 + 1)).toNat (by omega) _ x5 (x6 + 1) (by omega) (by omega) rfl ?_ hr
          rw [dr2_S _ _ h0, ← hx]
          rcases hr2 with ⟨a, b⟩ | ⟨a, b⟩
          · omega
          · show (fol x3, x5) = (fol x3, iteP (com (fol x3) (G 1 x6)) (sOr x5 (sby G x6 ((G 0 3)).toNat)) x5)
            rw [iteP_f b]
        · refine s_X5_shutBy hk hG hw (by omega) (fun v hv => ?_)
          have hsb := sby_rng hw x6 ((G 0 3)).toNat (by omega)
          rw [or_e hr.1 (by omega) hsb.1 (by omega)] at hv
          refine ih ((G 0 1) - (x6 + 1)).toNat (by omega) _ v (x6 + 1) (by omega) (by omega) rfl ?_ (by rw [hv]; exact sOr_lt hw hr.1 hr.2 hsb.1 hsb.2)
          rw [dr2_S _ _ h0, ← hx]
          rcases hr2 with ⟨a, b⟩ | ⟨a, b⟩
          · show (fol x3, v) = (fol x3, iteP (com (fol x3) (G 1 x6)) (sOr x5 (sby G x6 ((G 0 3)).toNat)) x5)
            rw [iteP_t b, hv]
          · omega
  have l9 : ∀ (n : Nat) (x3 x5 x6 : Int), 0 ≤ x6 → x6 ≤ (G 0 3) → ((G 0 3) - x6).toNat = n → (x3, x5) = dr1 G seed x6.toNat → (0 ≤ x5 ∧ x5 < p2_ ((G 0 3))) → Xs 48 (9, [some (some (vR 82)), some (some (vR c)), some (some (vI seed)), some (some (vL x3)), some none, some (some (vI x5)), some (some (vI x6))], [], (M, W)) (QI Q) := by
    intro n; induction n using Nat.strongRecOn with
    | _ n ih =>
      intro x3 x5 x6 h0 h1 hn hx hr
      refine k_X5_draw_9 _ _ _ _ _ _ _ _ ?_
      rw [hG.1]
      refine ⟨ct_o hk, by omega, fun hge => ?_, fun hlt => ⟨ct_o hk, s_X3_doubtOf hk hG hw h0 (by omega) ?_⟩⟩
      · have e : x6 = (G 0 3) := by omega
        rw [e] at hx
        exact l69 _ x3 x5 0 (by omega) (by omega) rfl hx hr
      · have hD := hw.D x6 h0 (by omega)
        have hR := hw.R _ hD.1 hD.2.1
        refine ⟨by omega, fun hz => ?_, fun hp => ?_⟩
        · refine ih ((G 0 3) - (x6 + 1)).toNat (by omega) x3 x5 (x6 + 1) (by omega) (by omega) rfl ?_ hr
          rw [dr1_S _ _ h0, if_neg (by omega)]; exact hx
        · refine e_X5_follow _ _ _ _ ?_
          have hf := fol_rng x3
          have hp2 := p2_lt hw h0 (show x6 < (G 0 3) by omega)
          refine ⟨ct_o hk, s_X3_doubtOf hk hG hw h0 (by omega) ?_⟩
          refine s_X5_comes (x := fol x3) hf.1 hf.2 (by omega) (fun r hr2 => ?_)
          rw [or_e hr.1 (by omega) (by decide) (by decide), sOr_0 hr.1 (by omega), shl_e h0 (by omega), or_e hr.1 (by omega) hp2.1 hp2.2.2]
          refine ⟨by omega, fun hz v hv => ?_, fun hnz v hv => ?_⟩
          · refine ih ((G 0 3) - (x6 + 1)).toNat (by omega) _ v (x6 + 1) (by omega) (by omega) rfl ?_ (by rw [hv]; exact hr)
            rw [dr1_S _ _ h0, if_pos (by omega), ← hx]
            rcases hr2 with ⟨a, b⟩ | ⟨a, b⟩
            · omega
            · show (fol x3, v) = (fol x3, iteP (com (fol x3) ((G 2 ((G 3 x6) * 7 + 3)))) (sOr x5 (p2_ x6)) x5)
              rw [iteP_f b, hv]
          · refine ih ((G 0 3) - (x6 + 1)).toNat (by omega) _ v (x6 + 1) (by omega) (by omega) rfl ?_ (by rw [hv]; exact sOr_lt hw hr.1 hr.2 hp2.1 hp2.2.1)
            rw [dr1_S _ _ h0, if_pos (by omega), ← hx]
            rcases hr2 with ⟨a, b⟩ | ⟨a, b⟩
            · show (fol x3, v) = (fol x3, iteP (com (fol x3) ((G 2 ((G 3 x6) * 7 + 3)))) (sOr x5 (p2_ x6)) x5)
              rw [iteP_t b, hv]
            · omega
  refine e_X5_draw _ _ _ _ _ ?_
  refine ⟨by omega, fun v hv => ?_⟩
  rw [hv]
  exact l9 _ seed 0 0 (by omega) (by omega) rfl rfl (by omega)
/-- a walk: whether there is one, its world, how many steps, its rows -/
def joO (G : Lnd) (w n : Int) (wp wh wk : Int → Int) : Prop := (0 ≤ n ∧ n ≤ 100) ∧ (0 ≤ w ∧ w < p2_ ((G 0 3))) ∧ ∀ i, 0 ≤ i → i ≤ n → (0 ≤ wp i ∧ wp i < (G 0 0)) ∧ (0 ≤ wk i ∧ wk i < thr_ ((G 0 3))) ∧ (0 ≤ wh i ∧ wh i ≤ 198 * i)
def joM (G : Lnd) (on w n : Int) (wp wh wk : Int → Int) (M : aM) : Prop := M 82 0 = on ∧ (on = 0 ∨ on = 1) ∧ (on = 1 → joO G w n wp wh wk ∧ M 82 2 = w ∧ M 82 3 = n ∧ ∀ i, 0 ≤ i → i ≤ n → M 83 i = wp i ∧ M 84 i = wh i ∧ M 85 i = wk i)
theorem s_X5_setOut {M : aM} {W : aW} {Q : aM → aW → Prop} {G : Lnd} {c seed : Int} (hk : cty c) (hG : clG c G M) (hw : WF G) (hc : cdM M) (hs : 0 ≤ (G 0 6)) (s0 : 0 ≤ seed) (s1 : seed < 2147483648)
    (h : ∀ N, ag 82 85 M N → joM G 1 (drW G seed) 0 (fun _ => (G 0 6)) (fun _ => 0) (fun _ => lrn 0 ((G 5 ((G 0 6)))) (drW G seed)) N → Q N W) : CallV 47 [vR 82, vR c, vI seed] (M, W) Q := by
  have hN := hw.N; unfold wfN at hN
  have h64 := p2_lt64 hw
  have ht := thrG hw
  have hag1 : ag 82 85 M (up_ (up_ M 82 0 1) 82 3 0) := ag_tr (ag_up _ (by decide) (by decide)) (ag_up _ (by decide) (by decide))
  have hs64 := hw.sn64 hs (show (G 0 6) < 10 by omega)
  refine e_X5_setOut _ _ _ _ _ ?_
  refine s_X5_draw hk (hG.ag hk hag1 (by decide)) hw s0 s1 (fun d0 d1 => ?_)
  generalize drW G seed = w at *
  have hcr := ct_rng hk
  have r6 : up_ (up_ (up_ M 82 0 1) 82 3 0) 82 2 w c 6 = (G 0 6) := by rw [up_b _ _ _ _ (by omega), up_b _ _ _ _ (by omega), up_b _ _ _ _ (by omega)]; exact hG.1 6
  rw [r6]
  have hag2 : ag 82 85 M (up_ (up_ (up_ (up_ (up_ M 82 0 1) 82 3 0) 82 2 w) 83 0 ((G 0 6))) 84 0 0) := ag_tr (ag_tr (ag_tr hag1 (ag_up _ (by decide) (by decide))) (ag_up _ (by decide) (by decide))) (ag_up _ (by decide) (by decide))
  have hG2 := hG.ag hk hag2 (by decide)
  have e2 : up_ (up_ (up_ (up_ (up_ M 82 0 1) 82 3 0) 82 2 w) 83 0 ((G 0 6))) 84 0 0 82 2 = w := by rw [up_b _ _ _ _ (by decide), up_b _ _ _ _ (by decide), up_s]
  rw [hG2.1, hG2.2.2.2.2.2.1, e2, ct_l5 hk]
  refine ⟨ct_o hk, ct_o hk, ct_o hk, ⟨ct_a5 hk, hs, by omega⟩, s_X2_seeing (hc.ag hag2 (by decide)) (by decide) (by decide) hs64.1 hs64.2 d0 (by omega) ?_⟩
  have hst := st_start hw (w := w) hs
  refine h _ (ag_tr hag2 (ag_up _ (by decide) (by decide))) ⟨?_, Or.inr rfl, fun _ => ⟨⟨by decide, ⟨d0, d1⟩, fun i i0 i1 => ⟨hst.1, hst.2.1, by show (0 : Int) ≤ 0 ∧ (0 : Int) ≤ 198 * i; omega⟩⟩, ?_, ?_, fun i i0 i1 => ?_⟩⟩
  · rw [up_b _ _ _ _ (by decide), up_b _ _ _ _ (by decide), up_b _ _ _ _ (by decide), up_j _ _ _ (by decide), up_j _ _ _ (by decide), up_s]
  · rw [up_b _ _ _ _ (by decide)]; exact e2
  · rw [up_b _ _ _ _ (by decide), up_b _ _ _ _ (by decide), up_b _ _ _ _ (by decide), up_j _ _ _ (by decide), up_s]
  · have e : i = 0 := by omega
    rw [e]
    refine ⟨?_, ?_, up_s _ _ _ _⟩
    · rw [up_b _ _ _ _ (by decide), up_b _ _ _ _ (by decide), up_s]
    · rw [up_b _ _ _ _ (by decide), up_s]
theorem s_X5_rests {M : aM} {W : aW} {Q : Int → aM → aW → Prop} {G : Lnd} {c on w n : Int} {wp wh wk : Int → Int} (hk : cty c) (hG : clG c G M) (hw : WF G) (hJ : joM G on w n wp wh wk M) (h : ∀ r, (r = 1 ∧ (on = 0 ∨ n = 100 ∨ wp n = (G 0 7))) ∨ (r = 0 ∧ on = 1 ∧ n < 100 ∧ wp n ≠ (G 0 7)) → Q r M W) : CallI 52 [vR 82, vR c] (M, W) Q := by
  have hN := hw.N; unfold wfN at hN
  obtain ⟨j0, j1, j2⟩ := hJ
  refine e_X5_rests _ _ _ _ ?_
  rw [j0, hG.1]
  refine ⟨by omega, fun hz => ⟨by decide, h 1 (Or.inl ⟨rfl, Or.inl hz⟩)⟩, fun hnz => ?_⟩
  obtain ⟨hO, m2, m3, hr⟩ := j2 (by omega)
  have hn := hr n hO.1.1 (Int.le_refl _)
  have ho := hO.2.2 n hO.1.1 (Int.le_refl _)
  have hO1 := hO.1
  rw [m3, hn.1]
  refine ⟨by omega, fun hge => ⟨by decide, h 1 (Or.inl ⟨rfl, Or.inr (Or.inl (by omega))⟩)⟩, fun hlt => ⟨by omega, ct_o hk, by omega, fun hne => ⟨by decide, h 0 (Or.inr ⟨rfl, by omega, by omega, hne⟩)⟩, fun he => ⟨by decide, h 1 (Or.inl ⟨rfl, Or.inr (Or.inr (Classical.byContradiction he))⟩)⟩⟩⟩
theorem s_X5_take {M : aM} {W : aW} {Q : aM → aW → Prop} {G : Lnd} {w n p h0 k : Int} {wp wh wk : Int → Int} (hJ : joM G 1 w n wp wh wk M) (hn : n < 100) (p0 : 0 ≤ p ∧ p < (G 0 0)) (hh : 0 ≤ h0 ∧ h0 ≤ 198) (hkk : 0 ≤ k ∧ k < thr_ ((G 0 3)))
    (h : ∀ N, ag 82 85 M N → joM G 1 w (n + 1) (upF wp (n + 1) p) (upF wh (n + 1) (wh n + h0)) (upF wk (n + 1) k) N → Q N W) : CallV 55 [vR 82, vI p, vI h0, vI k] (M, W) Q := by
  obtain ⟨j0, j1, j2⟩ := hJ
  obtain ⟨hO, m2, m3, hr⟩ := j2 rfl
  have hO1 := hO.1
  have hrn := hr n hO.1.1 (Int.le_refl _)
  have hon := hO.2.2 n hO.1.1 (Int.le_refl _)
  refine e_X5_take _ _ _ _ _ _ ?_
  have e1 : up_ M 83 (n + 1) p 82 3 = n := by rw [up_b _ _ _ _ (by decide)]; exact m3
  have e2 : up_ M 83 (n + 1) p 84 n = wh n := by rw [up_b _ _ _ _ (by decide)]; exact hrn.2.1
  have e3 : up_ (up_ M 83 (n + 1) p) 84 (n + 1) (wh n + h0) 82 3 = n := by rw [up_b _ _ _ _ (by decide)]; exact e1
  have e4 : up_ (up_ (up_ M 83 (n + 1) p) 84 (n + 1) (wh n + h0)) 85 (n + 1) k 82 3 = n := by rw [up_b _ _ _ _ (by decide)]; exact e3
  rw [m3, e1, e2, e3, e4]
  refine ⟨by omega, by omega, by omega, by omega, h _ (ag_tr (ag_tr (ag_tr (ag_up _ (by decide) (by decide)) (ag_up _ (by decide) (by decide))) (ag_up _ (by decide) (by decide))) (ag_up _ (by decide) (by decide))) ⟨?_, Or.inr rfl, fun _ => ⟨⟨by omega, hO.2.1, fun i i0 i1 => ?_⟩, ?_, up_s _ _ _ _, fun i i0 i1 => ?_⟩⟩⟩
  · rw [up_j _ _ _ (by decide), up_b _ _ _ _ (by decide), up_b _ _ _ _ (by decide), up_b _ _ _ _ (by decide)]; exact j0
  · unfold upF
    by_cases he : i = n + 1
    · rw [if_pos he, if_pos he, if_pos he]; exact ⟨p0, hkk, by omega⟩
    · rw [if_neg he, if_neg he, if_neg he]; exact hO.2.2 i i0 (by omega)
  · rw [up_j _ _ _ (by decide), up_b _ _ _ _ (by decide), up_b _ _ _ _ (by decide), up_b _ _ _ _ (by decide)]; exact m2
  · unfold upF
    by_cases he : i = n + 1
    · rw [if_pos he, if_pos he, if_pos he, he]
      refine ⟨?_, ?_, ?_⟩
      · rw [up_b _ _ _ _ (by decide), up_b _ _ _ _ (by decide), up_b _ _ _ _ (by decide), up_s]
      · rw [up_b _ _ _ _ (by decide), up_b _ _ _ _ (by decide), up_s]
      · rw [up_b _ _ _ _ (by decide), up_s]
    · rw [if_neg he, if_neg he, if_neg he]
      have := hr i i0 (by omega)
      refine ⟨?_, ?_, ?_⟩
      · rw [up_b _ _ _ _ (by decide), up_b _ _ _ _ (by decide), up_b _ _ _ _ (by decide), up_j _ _ _ he]; exact this.1
      · rw [up_b _ _ _ _ (by decide), up_b _ _ _ _ (by decide), up_j _ _ _ he, up_b _ _ _ _ (by decide)]; exact this.2.1
      · rw [up_b _ _ _ _ (by decide), up_j _ _ _ he, up_b _ _ _ _ (by decide), up_b _ _ _ _ (by decide)]; exact this.2.2
theorem s_X5_travel {M : aM} {W : aW} {Q : Int → aM → aW → Prop} {G : Lnd} {c on w n q : Int} {wp wh wk : Int → Int} (hk : cty c) (hG : clG c G M) (hw : WF G) (hc : cdM M) (hJ : joM G on w n wp wh wk M) (q0 : 0 ≤ q) (q1 : q < (G 0 0))
    (h1 : (on = 0 ∨ n = 100 ∨ wp n = (G 0 7) ∨ pas G (wp n) q (wk n) ≤ 0) → Q (-1) M W)
    (h2 : on = 1 → n < 100 → wp n ≠ (G 0 7) → 0 < pas G (wp n) q (wk n) → ∀ N, ag 82 85 M N → joM G 1 w (n + 1) (upF wp (n + 1) q) (upF wh (n + 1) (wh n + pas G (wp n) q (wk n))) (upF wk (n + 1) (lrn (wk n) ((G 5 q)) w)) N → Q (wh n + pas G (wp n) q (wk n)) N W) : CallI 53 [vR 82, vR c, vI q] (M, W) Q := by
  have hN := hw.N; unfold wfN at hN
  have h64 := p2_lt64 hw
  have ht := thrG hw
  refine e_X5_travel _ _ _ _ _ ?_
  refine s_X5_rests hk hG hw hJ (fun r hr => ⟨by omega, fun hz => ?_, fun hnz => ?_⟩)
  · obtain ⟨on1, hn, hg⟩ : on = 1 ∧ n < 100 ∧ wp n ≠ (G 0 7) := by
      rcases hr with ⟨a, -⟩ | ⟨-, b⟩
      · omega
      · exact b
    subst on1
    obtain ⟨hO, m2, m3, hrw⟩ := hJ.2.2 rfl
    have hO1 := hO.1
    have hO2 := hO.2.1
    have hrn := hrw n hO.1.1 (Int.le_refl _)
    have hon := hO.2.2 n hO.1.1 (Int.le_refl _)
    have hs64 := hw.sn64 q0 (show q < 10 by omega)
    have hsn := hw.S.1 q q0 (by omega)
    rw [m3]
    refine ⟨by omega, fun v hv => ?_⟩
    rw [hv, hrn.2.2, hrn.1, (hc.1 (wk n) (by omega) (by omega)).1, (hc.1 (wk n) (by omega) (by omega)).2]
    refine ⟨by omega, by omega, by omega, ct_o hk, s_X3_passBetween hk hG hw (by omega) (by omega) q0 (by omega) (opn_rng _).1 (opn_rng _).2 (sht_rng _).1 (sht_rng _).2 ?_⟩
    have hp := pasB_rng hw (show 0 ≤ wp n by omega) (show wp n < 10 by omega) q0 (show q < 10 by omega) (op := opn (wk n)) (sh := sht (wk n))
    have hpe : pas G (wp n) q (wk n) = pasB G (wp n) q (opn (wk n)) (sht (wk n)) := rfl
    rw [m2, hG.2.2.2.2.2.1, ct_l5 hk]
    refine ⟨by omega, fun hgt => ⟨ct_o hk, ⟨ct_a5 hk, q0, by omega⟩, s_X2_seeing hc (by omega) (by omega) hs64.1 hs64.2 hO.2.1.1 (by omega) ?_⟩, fun hle => h1 (Or.inr (Or.inr (Or.inr (by omega))))⟩
    refine s_X5_take hJ hn ⟨q0, q1⟩ (by omega) ⟨(lrn_rng _ _ _).1, lrn_lt hw hon.2.1.1 hon.2.1.2 hsn.1 hsn.2⟩ (fun N hag hJN => ?_)
    obtain ⟨hO', m2', m3', hr'⟩ := hJN.2.2 rfl
    have e := (hr' (n + 1) (by omega) (Int.le_refl _)).2.1
    rw [m3', e]
    refine ⟨by omega, ?_⟩
    show Q (upF wh (n + 1) (wh n + pasB G (wp n) q (opn (wk n)) (sht (wk n))) (n + 1)) N W
    rw [show upF wh (n + 1) (wh n + pasB G (wp n) q (opn (wk n)) (sht (wk n))) (n + 1) = wh n + pas G (wp n) q (wk n) from if_pos rfl]
    exact h2 rfl hn hg (by omega) N hag hJN
  · refine h1 ?_
    rcases hr with ⟨-, b⟩ | ⟨a, -⟩
    · rcases b with b | b | b
      · exact Or.inl b
      · exact Or.inr (Or.inl b)
      · exact Or.inr (Or.inr (Or.inl b))
    · omega
theorem s_X5_hear {M : aM} {W : aW} {Q : Int → aM → aW → Prop} {G : Lnd} {c on w n d : Int} {wp wh wk : Int → Int} (hk : cty c) (hG : clG c G M) (hw : WF G) (hc : cdM M) (hJ : joM G on w n wp wh wk M) (q0 : 0 ≤ d) (q1 : d < (G 0 5))
    (h1 : (on = 0 ∨ n = 100 ∨ wp n = (G 0 7) ∨ ¬ (G 6 d = wp n ∧ dg (wk n) (G 7 d) = 0)) → Q (-1) M W)
    (h2 : on = 1 → n < 100 → wp n ≠ (G 0 7) → (G 6 d = wp n ∧ dg (wk n) (G 7 d) = 0) → ∀ N, ag 82 85 M N → joM G 1 w (n + 1) (upF wp (n + 1) (wp n)) (upF wh (n + 1) (wh n + G 8 d)) (upF wk (n + 1) (lrn (wk n) (p2_ (G 7 d)) w)) N → Q (bt w (G 7 d) + 1) N W) : CallI 54 [vR 82, vR c, vI d] (M, W) Q := by
  have hN := hw.N; unfold wfN at hN
  have h64 := p2_lt64 hw
  have ht := thrG hw
  have hW := hw.W d q0 q1
  refine e_X5_hear _ _ _ _ _ ?_
  refine s_X5_rests hk hG hw hJ (fun r hr => ⟨by omega, fun hnz => ?_, fun hz => ?_⟩)
  · refine h1 ?_
    rcases hr with ⟨-, b⟩ | ⟨a, -⟩
    · rcases b with b | b | b
      · exact Or.inl b
      · exact Or.inr (Or.inl b)
      · exact Or.inr (Or.inr (Or.inl b))
    · omega
  · obtain ⟨on1, hn, hg⟩ : on = 1 ∧ n < 100 ∧ wp n ≠ (G 0 7) := by
      rcases hr with ⟨a, -⟩ | ⟨-, b⟩
      · omega
      · exact b
    subst on1
    obtain ⟨hO, m2, m3, hrw⟩ := hJ.2.2 rfl
    have hO1 := hO.1
    have hO2 := hO.2.1
    have hrn := hrw n hO.1.1 (Int.le_refl _)
    have hon := hO.2.2 n hO.1.1 (Int.le_refl _)
    have hp2 := p2_lt hw hW.2.1.1 hW.2.1.2
    rw [m3, hrn.1, hG.2.2.2.2.2.2.1, ct_l6 hk, ct_l7 hk]
    refine ⟨ct_o hk, ⟨ct_a6 hk, q0, by omega⟩, by omega, by omega, fun he => ⟨by omega, fun v hv => ⟨ct_o hk, ⟨ct_a7 hk, q0, by omega⟩, fun y hy => ?_⟩⟩, fun hne => h1 (Or.inr (Or.inr (Or.inr (fun qq => hne qq.1))))⟩
    rw [hG.2.2.2.2.2.2.2.1] at hy
    rw [hv, hy, hrn.2.2]
    refine s_X2_digit hc (by omega) (by omega) hW.2.1.1 (by omega) ⟨by have := dg_rng (wk n) (G 7 d); omega, fun hd => ?_, fun hd => h1 (Or.inr (Or.inr (Or.inr (fun qq => hd qq.2))))⟩
    rw [m3, hrn.1, m2, hG.2.2.2.2.2.2.2.2, ct_l8 hk, shl_e hW.2.1.1 (by omega)]
    refine ⟨by omega, ct_o hk, ⟨ct_a8 hk, q0, by omega⟩, s_X2_seeing hc (by omega) (by omega) hp2.1 hp2.2.2 hO.2.1.1 (by omega) ?_⟩
    refine s_X5_take hJ hn (by omega) (by omega) ⟨(lrn_rng _ _ _).1, lrn_lt hw hon.2.1.1 hon.2.1.2 hp2.1 hp2.2.1⟩ (fun N hag hJN => ?_)
    obtain ⟨hO', m2', m3', hr'⟩ := hJN.2.2 rfl
    have e := (hr' (n + 1) (by omega) (Int.le_refl _)).2.2
    have e' : upF wk (n + 1) (lrn (wk n) (p2_ (G 7 d)) w) (n + 1) = lrn (wk n) (p2_ (G 7 d)) w := if_pos rfl
    rw [m3', e, e']
    have hlr := lrn_rng (wk n) (p2_ (G 7 d)) w
    refine ⟨by omega, s_X2_digit (hc.ag hag (by decide)) hlr.1 hlr.2 hW.2.1.1 (by omega) ?_⟩
    rw [dg_lrn hW.2.1.1 (by omega), if_pos ⟨hd, by rw [bt_p2 hW.2.1.1 (by omega) hW.2.1.1 (by omega), if_pos rfl]⟩]
    exact h2 rfl hn hg ⟨he, hd⟩ N hag hJN
theorem s_X5_undo {M : aM} {W : aW} {Q : Int → aM → aW → Prop} {G : Lnd} {on w n : Int} {wp wh wk : Int → Int} (hJ : joM G on w n wp wh wk M)
    (h1 : (on = 0 ∨ n = 0) → Q (-1) M W) (h2 : on = 1 → 0 < n → ∀ N, ag 82 85 M N → joM G 1 w (n - 1) wp wh wk N → Q (n - 1) N W) : CallI 56 [vR 82] (M, W) Q := by
  obtain ⟨j0, j1, j2⟩ := hJ
  refine e_X5_undo _ _ _ ?_
  rw [j0]
  refine ⟨by omega, fun hz => h1 (Or.inl hz), fun hnz => ?_⟩
  have on1 : on = 1 := by omega
  obtain ⟨hO, m2, m3, hr⟩ := j2 on1
  have hO1 := hO.1
  rw [m3, up_s]
  refine ⟨by omega, fun hne => h2 on1 (by omega) _ (ag_up _ (by decide) (by decide)) ⟨?_, Or.inr rfl, fun _ => ⟨⟨by omega, hO.2.1, fun i i0 i1 => hO.2.2 i i0 (by omega)⟩, ?_, up_s _ _ _ _, fun i i0 i1 => ?_⟩⟩, fun he => h1 (Or.inr (Classical.byContradiction he))⟩
  · rw [up_j _ _ _ (by decide), j0, on1]
  · rw [up_j _ _ _ (by decide)]; exact m2
  · rw [up_b _ _ _ _ (by decide), up_b _ _ _ _ (by decide), up_b _ _ _ _ (by decide)]; exact hr i i0 (by omega)
def teF (G : Lnd) (on w n : Int) (wp wh wk : Int → Int) (what : Int) : Int := if on = 0 then -1 else if what = 0 then wp n else if what = 1 then wh n else if what = 2 then wk n else if what = 3 then n else if what = 4 then w else if what = 5 then (if wp n = (G 0 7) then 1 else 0) else -1
theorem s_X5_tell {M : aM} {W : aW} {Q : Int → aM → aW → Prop} {G : Lnd} {c on w n what : Int} {wp wh wk : Int → Int} (hk : cty c) (hG : clG c G M) (hw : WF G) (hJ : joM G on w n wp wh wk M) (hwh : inI what) (h : Q (teF G on w n wp wh wk what) M W) : CallI 57 [vR 82, vR c, vI what] (M, W) Q := by
  have hN := hw.N; unfold wfN at hN
  obtain ⟨j0, j1, j2⟩ := hJ
  unfold teF at h
  refine e_X5_tell _ _ _ _ _ ?_
  rw [j0]
  refine ⟨by omega, fun hnz => ?_, fun hz => ?_⟩
  · rw [if_neg hnz] at h
    have on1 : on = 1 := by omega
    obtain ⟨hO, m2, m3, hr⟩ := j2 on1
    have hO1 := hO.1
    have hrn := hr n hO.1.1 (Int.le_refl _)
    have hon := hO.2.2 n hO.1.1 (Int.le_refl _)
    rw [m3, m2, hrn.1, hrn.2.1, hrn.2.2, hG.1]
    refine ⟨hwh, fun e0 => ⟨by omega, ?_⟩, fun n0 => ⟨fun e1 => ⟨by omega, ?_⟩, fun n1 => ⟨fun e2 => ⟨by omega, ?_⟩, fun n2 => ⟨fun e3 => ?_, fun n3 => ⟨fun e4 => ?_, fun n4 => ⟨fun e5 => ⟨by omega, ct_o hk, by omega, fun hne => ?_, fun he => ?_⟩, fun n5 => ?_⟩⟩⟩⟩⟩⟩
    · rw [if_pos e0] at h; exact h
    · rw [if_neg n0, if_pos e1] at h; exact h
    · rw [if_neg n0, if_neg n1, if_pos e2] at h; exact h
    · rw [if_neg n0, if_neg n1, if_neg n2, if_pos e3] at h; exact h
    · rw [if_neg n0, if_neg n1, if_neg n2, if_neg n3, if_pos e4] at h; exact h
    · rw [if_neg n0, if_neg n1, if_neg n2, if_neg n3, if_neg n4, if_pos e5, if_neg hne] at h; exact h
    · rw [if_neg n0, if_neg n1, if_neg n2, if_neg n3, if_neg n4, if_pos e5, if_pos (Classical.byContradiction he)] at h; exact h
    · rw [if_neg n0, if_neg n1, if_neg n2, if_neg n3, if_neg n4, if_neg n5] at h; exact h
  · rw [if_pos (Classical.byContradiction hz)] at h; exact h
