/-! THE REFERENCE: what a plan does -/
def lrN (k r w n : Int) : Int := ds (fun i => if i < n ∧ dg k i = 0 ∧ bt r i = 1 then bt w i + 1 else dg k i)
theorem lrN_f (k r w n i : Int) : 0 ≤ (if i < n ∧ dg k i = 0 ∧ bt r i = 1 then bt w i + 1 else dg k i) ∧ (if i < n ∧ dg k i = 0 ∧ bt r i = 1 then bt w i + 1 else dg k i) < 3 := by
  have h1 := dg_rng k i; have h2 := bt_rng w i
  split <;> omega
theorem lrN_rng (k r w n : Int) : 0 ≤ lrN k r w n ∧ lrN k r w n < 729 := ds_rng (fun i _ _ => lrN_f k r w n i)
theorem dg_lrN {k r w n i : Int} (i0 : 0 ≤ i) (i6 : i < 6) : dg (lrN k r w n) i = if i < n ∧ dg k i = 0 ∧ bt r i = 1 then bt w i + 1 else dg k i := dg_ds (fun i _ _ => lrN_f k r w n i) i0 i6
theorem s_X12_learns {M : aM} {W : aW} {Q : Int → aM → aW → Prop} {G : Lnd} {p k w : Int} (hG : rfG G M) (p0 : 0 ≤ p) (p1 : p < (G 0 0)) (k0 : 0 ≤ k) (k1 : k < 729) (w0 : 0 ≤ w) (w1 : w < 64) (h : Q (lrn k ((G 5 p)) w) M W) : CallI 228 [vR 86, vI p, vI k, vI w] (M, W) Q := by
  have hn := hG.n
  have hw := hG.W
  have hSn := hw.S.1 p p0 (by omega)
  have ht := hG.t
  have key : ∀ (n : Nat) (x4 x5 : Int), 0 ≤ x5 → x5 ≤ (G 0 3) → ((G 0 3) - x5).toNat = n → x4 = lrN k ((G 5 p)) w x5 → Xs 228 (6, [some (some (vR 86)), some (some (vI p)), some (some (vI k)), some (some (vI w)), some (some (vI x4)), some (some (vI x5))], [], (M, W)) (QI Q) := by
    intro n; induction n using Nat.strongRecOn with
    | _ n ih =>
      intro x4 x5 h0 h1 hn2 hx
      refine k_X12_learns_6 _ _ _ _ _ _ _ _ ?_
      refine s_X12_doubts hG ⟨by omega, fun hge => ?_, fun hlt => ?_⟩
      · have e : x4 = lrn k ((G 5 p)) w := by
          rw [hx]
          refine ds_ext (fun i i0 i6 => ?_)
          by_cases q : dg k i = 0 ∧ bt ((G 5 p)) i = 1
          · have : i < x5 := by
              refine Classical.byContradiction (fun hno => ?_)
              have := bt_hi hSn.1 (show 0 ≤ (G 0 3) by omega) hSn.2 (i := i) (by omega) i6
              omega
            rw [if_pos ⟨this, q⟩, if_pos q]
          · rw [if_neg (fun a => q a.2), if_neg q]
        rw [e]; exact h
      · rw [hG.s97 p0 (by omega), bit_e hSn.1 (by omega) h0 (by omega)]
        have hb := bt_rng ((G 5 p)) x5
        have hr := lrN_rng k ((G 5 p)) w x5
        have hdx : dg (lrN k ((G 5 p)) w x5) x5 = dg k x5 := by rw [dg_lrN h0 (by omega), if_neg (fun a => by omega)]
        have skip : ¬ (dg k x5 = 0 ∧ bt ((G 5 p)) x5 = 1) → Xs 228 (6, [some (some (vR 86)), some (some (vI p)), some (some (vI k)), some (some (vI w)), some (some (vI x4)), some (some (vI (x5 + 1)))], [], (M, W)) (QI Q) := fun hq => ih ((G 0 3) - (x5 + 1)).toNat (by omega) x4 (x5 + 1) (by omega) (by omega) rfl (by
          rw [hx]
          refine ds_ext (fun i i0 i6 => ?_)
          by_cases y : i < x5 ∧ dg k i = 0 ∧ bt ((G 5 p)) i = 1
          · rw [if_pos y, if_pos ⟨by omega, y.2⟩]
          · rw [if_neg y, if_neg (fun a => y ⟨by
              have : i ≠ x5 := fun e => hq (e ▸ a.2)
              omega, a.2⟩)])
        refine ⟨by omega, by omega, fun z => skip (fun a => z a.2), fun z => s_X12_digit hG.D3 (by omega) (by omega) h0 (by omega) ?_⟩
        rw [hx, hdx]
        refine ⟨by have := dg_rng k x5; omega, fun y => by rw [← hx]; exact skip (fun a => y a.1), fun y => ⟨by omega, fun v hv => ?_⟩⟩
        rw [bit_e w0 w1 h0 (by omega), hG.D3 x5 h0 (by omega)] at hv
        refine ih ((G 0 3) - (x5 + 1)).toNat (by omega) v (x5 + 1) (by omega) (by omega) rfl ?_
        rw [hv]
        refine (ds_add h0 (by omega) (fun i i0 i6 => ?_)).symm
        by_cases e : i = x5
        · subst e; rw [if_pos rfl, if_pos ⟨by omega, by omega, by omega⟩, if_neg (fun a => by omega)]; omega
        · rw [if_neg e]
          by_cases a : i < x5 ∧ dg k i = 0 ∧ bt ((G 5 p)) i = 1
          · rw [if_pos a, if_pos ⟨by omega, a.2⟩]
          · rw [if_neg a, if_neg (fun b => a ⟨by omega, b.2⟩)]
  refine e_X12_learns _ _ _ _ _ _ ?_
  refine key _ k 0 (by decide) (by omega) rfl ?_
  have e : lrN k ((G 5 p)) w 0 = ds (dg k) := ds_ext (fun i i0 i6 => if_neg (fun a => by omega))
  rw [e, ds_dg k0 k1]
/-- what plans stand on, the reference's rows -/
def rfD (G : Lnd) (D : Int → Int → Int) (plan : Int) (M : aM) : Prop :=
  (plan < 3 → ∀ k, 0 ≤ k → k < thr_ ((G 0 3)) → 0 < lkG G k → ∀ p, 0 ≤ p → p < (G 0 0) → fm_ k ((G 5 p)) < 0 → M 106 (7290 * plan + 10 * k + p) = D plan (k * 10 + p)) ∧
  (plan = 5 → rowO G (D 5) (D 10 0) ∧ M 86 41 = D 10 0 ∧ ∀ i, 0 ≤ i → i < D 10 0 → M 114 i = D 5 i) ∧
  (plan = 6 → hanO G D ∧ M 86 43 = D 30 0 ∧ ∀ i, 0 ≤ i → i < D 30 0 → M 115 (4 * i) = D 20 i ∧ M 115 (4 * i + 1) = D 21 i ∧ (0 ≤ D 21 i → M 115 (4 * i + 2) = D 22 i) ∧ M 115 (4 * i + 3) = D 23 i)
theorem rfD.of {G : Lnd} {D : Int → Int → Int} {plan : Int} {M N : aM} (h : rfD G D plan M) (hN : ∀ b j, b = 106 ∨ b = 114 ∨ b = 115 ∨ (b = 86 ∧ (j = 41 ∨ j = 43)) → N b j = M b j) : rfD G D plan N := by
  obtain ⟨h1, h2, h3⟩ := h
  refine ⟨fun q k k0 k1 hl p p0 p1 hs => by rw [hN _ _ (by omega)]; exact h1 q k k0 k1 hl p p0 p1 hs, fun q => ?_, fun q => ?_⟩
  · obtain ⟨a, b, c⟩ := h2 q
    exact ⟨a, by rw [hN _ _ (by omega)]; exact b, fun i i0 i1 => by rw [hN _ _ (by omega)]; exact c i i0 i1⟩
  · obtain ⟨a, b, c⟩ := h3 q
    exact ⟨a, by rw [hN _ _ (by omega)]; exact b, fun i i0 i1 => by rw [hN 115 _ (by omega), hN 115 _ (by omega), hN 115 _ (by omega), hN 115 _ (by omega)]; exact c i i0 i1⟩
theorem s_X12_firstUnknown {M : aM} {W : aW} {Q : Int → aM → aW → Prop} {G : Lnd} {k sz : Int} {ord : Int → Int} (hG : rfG G M) (k0 : 0 ≤ k) (k1 : k < 2147483648) (ho : rowO G ord sz) (m41 : M 86 41 = sz) (hm : ∀ i, 0 ≤ i → i < sz → M 114 i = ord i) (y1 : 0 ≤ tryI ord sz k → tryI ord sz k < sz → dg k (ord (tryI ord sz k)) = 0 → Q (ord (tryI ord sz k)) M W) (y0 : tryI ord sz k < 0 → Q (-1) M W) : CallI 225 [vR 86, vI k] (M, W) Q := by
  have hn := hG.n
  obtain ⟨⟨s0, s1⟩, hor⟩ := ho
  have key : ∀ (n : Nat) (x2 : Int), 0 ≤ x2 → x2 ≤ sz → (sz - x2).toNat = n → (∀ i, 0 ≤ i → i < x2 → dg k (ord i) ≠ 0) → Xs 225 (2, [some (some (vR 86)), some (some (vI k)), some (some (vI x2))], [], (M, W)) (QI Q) := by
    intro n; induction n using Nat.strongRecOn with
    | _ n ih =>
      intro x2 h0 h1 hn2 hx
      refine k_X12_firstUnknown_2 _ _ _ _ _ ?_
      rw [m41]
      refine ⟨by omega, fun hge => y0 ?_, fun hlt => ⟨by omega, ?_⟩⟩
      · unfold tryI
        rw [fst_no _ (fun i a b => decide_eq_false (hx i a (by omega)))]; decide
      · have ho := hor x2 h0 (by omega)
        rw [hm x2 h0 (by omega)]
        refine s_X12_digit hG.D3 k0 k1 ho.1 (by omega) ⟨by have := dg_rng k (ord x2); omega, fun q => ih (sz - (x2 + 1)).toNat (by omega) (x2 + 1) (by omega) (by omega) rfl (fun i i0 i1 => ?_), fun q => ⟨by omega, ?_⟩⟩
        · by_cases e : i = x2
          · rw [e]; exact q
          · exact hx i i0 (by omega)
        · have e : tryI ord sz k = x2 := fst_eq _ h0 (by omega) (decide_eq_true (by omega)) (fun i a b => decide_eq_false (hx i a b))
          rw [e] at y1
          rw [hm x2 h0 (by omega)]
          exact y1 h0 (by omega) (by omega)
  refine e_X12_firstUnknown _ _ _ _ ?_
  exact key _ 0 (by decide) s0 rfl (fun i a b => by omega)
theorem s_X12_byHand {M : aM} {W : aW} {Q : Int → aM → aW → Prop} {G : Lnd} {D : Int → Int → Int} {p k : Int} (hG : rfG G M) (p0 : 0 ≤ p) (p1 : p < (G 0 0)) (k0 : 0 ≤ k) (k1 : k < 2147483648) (hD : rfD G D 6 M) (h : Q (pickF G D p k) M W) : CallI 226 [vR 86, vI p, vI k] (M, W) Q := by
  have hn := hG.n
  have hw := hG.W
  obtain ⟨⟨⟨z0, z1⟩, hh⟩, m43, hm⟩ := hD.2.2 rfl
  have key : ∀ (n : Nat) (x3 : Int) (d4 d5 : aL), 0 ≤ x3 → x3 ≤ D 30 0 → (D 30 0 - x3).toNat = n → (∀ i, 0 ≤ i → i < x3 → hpP G D p k i = false) → Xs 226 (2, [some (some (vR 86)), some (some (vI p)), some (some (vI k)), some (some (vI x3)), d4, d5], [], (M, W)) (QI Q) := by
    intro n; induction n using Nat.strongRecOn with
    | _ n ih =>
      intro x3 d4 d5 h0 h1 hn2 hx
      refine k_X12_byHand_2 _ _ _ _ _ _ _ _ ?_
      rw [m43]
      refine ⟨by omega, fun hge => ?_, fun hlt => ?_⟩
      · have e : pickF G D p k = -2 := by
          unfold pickF
          rw [fst_no _ (fun i a b => hx i a (by omega)), if_neg (by decide)]
        rw [e] at h; exact h
      · obtain ⟨m0, m1, m2, m3⟩ := hm x3 h0 (by omega)
        obtain ⟨⟨r0, r1⟩, ⟨r2, r3⟩, ⟨r4, r5⟩, r6⟩ := hh x3 h0 (by omega)
        have skip : ∀ d4 d5, ¬ (D 20 x3 = p ∧ (D 21 x3 < 0 ∨ dg k (D 21 x3) = D 22 x3) ∧ 0 < pas G p (D 23 x3) k) → Xs 226 (2, [some (some (vR 86)), some (some (vI p)), some (some (vI k)), some (some (vI (x3 + 1))), d4, d5], [], (M, W)) (QI Q) := fun d4 d5 hq => ih (D 30 0 - (x3 + 1)).toNat (by omega) (x3 + 1) _ _ (by omega) (by omega) rfl (fun i i0 i1 => by
          by_cases e : i = x3
          · rw [e]; exact decide_eq_false hq
          · exact hx i i0 (by omega))
        have hbl := hw.btw_lt p0 (show p < 10 by omega) r4 (show D 23 x3 < 10 by omega)
        have hb := pasB_hr hw (p := p) (q := D 23 x3) (op := opn k) (sh := sht k) p0 (by omega) r4 (by omega)
        -- he may go there
        have go : ∀ (v1 : Int), D 20 x3 = p → (D 21 x3 < 0 ∨ dg k (D 21 x3) = D 22 x3) → (0 ≤ 4 * x3 + 3 ∧ 4 * x3 + 3 < 120) ∧ (0 ≤ 10 * p + M 115 (4 * x3 + 3) ∧ 10 * p + M 115 (4 * x3 + 3) < 100) ∧ ∀ v2 : Int, v2 = M 98 (10 * p + M 115 (4 * x3 + 3)) → inI v2 ∧ ((v2 < 0 → Xs 226 (2, [some (some (vR 86)), some (some (vI p)), some (some (vI k)), some (some (vI (x3 + 1))), some (some (vI v1)), some (some (vI v2))], [], (M, W)) (QI Q)) ∧ (¬ v2 < 0 → CallI 201 [vR 86, vI v2, vI k] (M, W) (fun r5 M3 W4 => inI r5 ∧ ((r5 < 0 → Xs 226 (2, [some (some (vR 86)), some (some (vI p)), some (some (vI k)), some (some (vI (x3 + 1))), some (some (vI v1)), some (some (vI v2))], [], (M3, W4)) (QI Q)) ∧ (¬ r5 < 0 → (0 ≤ 4 * x3 + 3 ∧ 4 * x3 + 3 < 120) ∧ Q (M3 115 (4 * x3 + 3)) M3 W4))))) := by
          intro v1 c1 c2
          rw [m3, hG.b98 p0 (by omega) r4 (by omega)]
          refine ⟨by omega, by omega, fun v2 e2 => ⟨by omega, fun y => skip _ _ (fun a => ?_), fun y => ?_⟩⟩
          · have := a.2.2; unfold pas at this; have := hb.1 (by omega); omega
          · obtain ⟨hb1, hb2⟩ := hb.2 (by omega)
            rw [← e2] at hb1 hb2
            have hrr := hrB_rng hw (op := opn k) (sh := sht k) (r := v2) (by omega) hb1
            refine s_X12_hoursOf hG (by omega) hb1 k0 k1 ⟨by omega, fun z => skip _ _ (fun a => ?_), fun z => ⟨by omega, ?_⟩⟩
            · have := a.2.2; unfold pas at this; rcases hb2 with b | b <;> omega
            · have ht : hpP G D p k x3 = true := decide_eq_true ⟨c1, c2, by unfold pas; rcases hb2 with b | b <;> omega⟩
              have e : pickF G D p k = D 23 x3 := by
                have e1 : fst_ (hpP G D p k) (D 30 0).toNat = x3 := fst_eq _ h0 (by omega) ht hx
                unfold pickF
                rw [e1, if_pos h0]
              rw [m3, ← e]; exact h
        rw [m0, m1]
        refine ⟨by omega, fun v1 e1 => ⟨by omega, by omega, fun y => skip _ _ (fun a => y a.1), fun y => ⟨by omega, fun z => ?_, fun z => ?_⟩⟩⟩
        · exact go v1 (by omega) (Or.inl (by omega))
        · rw [e1]
          refine s_X12_digit hG.D3 k0 k1 (by omega) (by omega) ?_
          rw [m2 (by omega)]
          have hdd := dg_rng k (D 21 x3)
          have h6 := r6 (by omega)
          exact ⟨by omega, by omega, fun t => go _ (by omega) (Or.inr t), fun t => skip _ _ (fun a => by rcases a.2.1 with b | b <;> omega)⟩
  refine e_X12_byHand _ _ _ _ _ ?_
  exact key _ 0 _ _ (by decide) z0 rfl (fun i a b => by omega)
theorem asX_h {G : Lnd} (hw : WF G) {k : Int} (k0 : 0 ≤ k) (k1 : k < thr_ ((G 0 3))) : asX G k 6 (sht k) := by
  have hN := hw.N; unfold wfN at hN
  refine ⟨⟨(sht_rng k).1, sht_lt (by omega) (by omega) k0 k1⟩, fun i i0 i1 => ?_⟩
  rw [bt_sht i0 (by omega)]
  exact ⟨fun q => if_neg (by omega), fun q => if_pos q, fun q => ⟨fun _ => if_neg (by omega), fun z => absurd rfl z⟩⟩
theorem bt_unop {G : Lnd} (hw : WF G) {k i : Int} (i0 : 0 ≤ i) (i1 : i < (G 0 3)) : bt (unop G k) i = if dg k i = 1 then 0 else 1 := by
  have hN := hw.N; unfold wfN at hN
  unfold unop
  rw [bt_allw hw i0 i1, bt_opn i0 (by omega)]
  split <;> rfl
theorem asX_f {G : Lnd} (hw : WF G) {k : Int} : asX G k (-1) (unop G k) := by
  have hN := hw.N; unfold wfN at hN
  refine ⟨⟨(unop_rng G k).1, unop_lt hw k⟩, fun i i0 i1 => ?_⟩
  rw [bt_unop hw i0 i1]
  exact ⟨fun q => if_pos q, fun q => if_neg (by omega), fun q => ⟨fun z => by omega, fun _ _ => if_neg (by omega)⟩⟩
theorem asX_t {G : Lnd} (hw : WF G) {k d : Int} (d0 : 0 ≤ d) (d1 : d < (G 0 3)) (hd : dg k d = 0) : asX G k d (sDif (unop G k) (p2_ d)) := by
  have hN := hw.N; unfold wfN at hN
  have hr := sDif_rng (unop G k) (p2_ d)
  refine ⟨⟨hr.1, lt_p2 hr.1 hr.2 (by omega) (by omega) (fun i i0 i6 => ?_)⟩, fun i i0 i1 => ?_⟩
  · rw [bt_sDif (by omega) i6, bt_hi (unop_rng G k).1 (show 0 ≤ (G 0 3) by omega) (unop_lt hw k) i0 i6, if_neg (fun a => by omega)]
  · rw [bt_sDif i0 (by omega), bt_p2 d0 (by omega) i0 (by omega), bt_unop hw i0 i1]
    by_cases e : i = d
    · subst e
      refine ⟨fun q => by omega, fun q => by omega, fun _ => ⟨fun _ => if_neg (fun a => ?_), fun _ z => absurd rfl z⟩⟩
      have := a.2; rw [if_pos rfl] at this; omega
    · refine ⟨fun q => if_neg (fun a => ?_), fun q => if_pos ⟨if_neg (by omega), if_neg e⟩, fun q => ⟨fun z => by omega, fun _ _ => if_pos ⟨if_neg (by omega), if_neg e⟩⟩⟩
      have := a.1; rw [if_pos q] at this; omega
theorem s_X12_actOf {M : aM} {W : aW} {Q : Int → aM → aW → Prop} {G : Lnd} {D : Int → Int → Int} {plan p k : Int} (hG : rfG G M) (hg0 : 0 ≤ (G 0 7)) (hH : hopI G M) (hD : rfD G D plan M) (pl0 : 0 ≤ plan) (pl1 : plan ≤ 6) (p0 : 0 ≤ p) (p1 : p < (G 0 0)) (hp : p ≠ (G 0 7)) (k0 : 0 ≤ k) (k1 : k < thr_ ((G 0 3))) (hlk : 0 < lkG G k) (hs : fm_ k ((G 5 p)) < 0)
    (h : ∀ N, frH M N → hopI G N → Q (doF G D plan p k) N W) : CallI 227 [vR 86, vI plan, vI p, vI k] (M, W) Q := by
  have hn := hG.n
  have ht := hG.t
  have hw := hG.W
  have hm := h M (frH_refl M) hH
  unfold doF at h hm
  rw [if_neg hp] at hm
  refine e_X12_actOf _ _ _ _ _ _ ?_
  refine ⟨by omega, fun q => ⟨by omega, fun q6 => ?_, fun q6 => ?_⟩, fun q => ⟨by omega, ?_⟩⟩
  · rw [hG.N.2.2.2.2.2.2]
    refine ⟨by omega, fun _ => ⟨by omega, fun q3 => ⟨by omega, fun q4 => ?_, fun q4 => ?_⟩, fun q3 => ?_⟩, fun y => absurd (show (G 0 7) ≠ -1 by omega) y⟩
    · have e5 : plan = 5 := by omega
      subst e5
      obtain ⟨ho, m41, m114⟩ := hD.2.1 rfl
      refine s_X12_firstUnknown hG k0 (by omega) ho m41 m114 (fun c0 c1 c2 => ?_) (fun c0 => ?_)
      · have hor := ho.2 _ c0 c1
        refine s_X12_hopAt hG hH k0 k1 (by omega) (by omega) p0 p1 (fun N hf hI => ?_)
        have := h N hf hI
        rw [if_neg hp, if_neg (by decide), if_neg (by decide), if_neg (by decide), if_neg (by decide), if_neg (by decide), if_pos rfl] at this
        rw [← asX_wX hw (asX_t hw hor.1 hor.2 c2)]
        unfold tryW at this
        rw [if_pos c0] at this; exact this
      · refine s_X12_hopAt hG hH k0 k1 (by decide) (by decide) p0 p1 (fun N hf hI => ?_)
        have := h N hf hI
        rw [if_neg hp, if_neg (by decide), if_neg (by decide), if_neg (by decide), if_neg (by decide), if_neg (by decide), if_pos rfl] at this
        rw [← asX_wX hw (asX_f hw)]
        unfold tryW at this
        rw [if_neg (by omega)] at this; exact this
    · have e4 : plan = 4 := by omega
      subst e4
      refine s_X12_hopAt hG hH k0 k1 (by decide) (by decide) p0 p1 (fun N hf hI => ?_)
      have := h N hf hI
      rw [if_neg hp, if_neg (by decide), if_neg (by decide), if_neg (by decide), if_neg (by decide), if_pos rfl] at this
      rw [← asX_wX hw (asX_f hw)]; exact this
    · have e3 : plan = 3 := by omega
      subst e3
      refine s_X12_hopAt hG hH k0 k1 (by decide) (by decide) p0 p1 (fun N hf hI => ?_)
      have := h N hf hI
      rw [if_neg hp, if_neg (by decide), if_neg (by decide), if_neg (by decide), if_pos rfl] at this
      rw [← asX_wX hw (asX_h hw k0 k1)]; exact this
  · have e6 : plan = 6 := by omega
    subst e6
    rw [if_neg (by decide), if_neg (by decide), if_neg (by decide), if_neg (by decide), if_neg (by decide), if_neg (by decide), if_neg (by decide)] at hm
    exact s_X12_byHand hG p0 p1 k0 (by omega) hD hm
  · rw [hD.1 (by omega) k k0 k1 hlk p p0 p1 hs]
    rcases (show plan = 0 ∨ plan = 1 ∨ plan = 2 by omega) with e | e | e
    · subst e; rw [if_pos rfl] at hm; exact hm
    · subst e; rw [if_neg (by decide), if_pos rfl] at hm; exact hm
    · subst e; rw [if_neg (by decide), if_neg (by decide), if_pos rfl] at hm; exact hm
