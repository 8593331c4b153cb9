/-! HOW A PLAN FARES: mean, worst, times, ring -/
def inP (b j : Int) : Prop := (2 ≤ b ∧ b ≤ 19) ∨ (28 ≤ b ∧ b ≤ 30) ∨ b = 38 ∨ b = 39 ∨ b = 41 ∨ b = 42 ∨ (b = 36 ∧ j = 2)
def inD (b j : Int) : Prop := b = 52 ∨ b = 57 ∨ b = 62 ∨ b = 46 ∨ b = 47 ∨ (b = 36 ∧ j = 11) ∨ (31 ≤ b ∧ b ≤ 35)
theorem clP.of {c : Int} {G : Lnd} {M N : aM} (h : clP c G M) (hN : ∀ b j, inP b j → N b j = M b j) : clP c G N := by
  obtain ⟨hk, hG, hw, hc, m2, m38, m39, mw⟩ := h
  have hr := ct_rng hk
  obtain ⟨h0, h1, h2, h3, h4, h5, h6, h7, h8⟩ := hG
  have hin : ∀ b j, 2 ≤ b → b ≤ 19 → N b j = M b j := fun b j a e => hN b j (Or.inl ⟨a, e⟩)
  refine ⟨hk, ⟨fun j => ?_, fun j => ?_, fun j => ?_, fun j => ?_, fun j => ?_, fun j => ?_, fun j => ?_, fun j => ?_, fun j => ?_⟩, hw, ⟨fun k k0 k1 => ?_, fun s s0 s1 => ?_⟩, ?_, fun w w0 w1 => ?_, fun k k0 k1 => ?_, fun w w0 w1 p p0 p1 => ?_⟩
  · rw [hin _ _ (by omega) (by omega)]; exact h0 j
  · rw [hin _ _ (by omega) (by omega)]; exact h1 j
  · rw [hin _ _ (by omega) (by omega)]; exact h2 j
  · rw [hin _ _ (by omega) (by omega)]; exact h3 j
  · rw [hin _ _ (by omega) (by omega)]; exact h4 j
  · rw [hin _ _ (by omega) (by omega)]; exact h5 j
  · rw [hin _ _ (by omega) (by omega)]; exact h6 j
  · rw [hin _ _ (by omega) (by omega)]; exact h7 j
  · rw [hin _ _ (by omega) (by omega)]; exact h8 j
  · rw [hN 28 k (by unfold inP; omega), hN 29 k (by unfold inP; omega)]; exact hc.1 k k0 k1
  · rw [hN 30 s (by unfold inP; omega)]; exact hc.2 s s0 s1
  · rw [hN 36 2 (by unfold inP; omega)]; exact m2
  · rw [hN 38 w (by unfold inP; omega)]; exact m38 w w0 w1
  · rw [hN 39 k (by unfold inP; omega)]; exact m39 k k0 k1
  · have q := mw w w0 w1 p p0 p1
    unfold fW at q ⊢
    rw [hN 41 _ (by unfold inP; omega), hN 42 _ (by unfold inP; omega)]; exact q
theorem clD.of {G : Lnd} {D : Int → Int → Int} {plan : Int} {M N : aM} (h : clD G D plan M) (hN : ∀ b j, inD b j → N b j = M b j) : clD G D plan N := by
  obtain ⟨h0, h1, h2, h5, h7, h6⟩ := h
  refine ⟨fun e k k0 k1 hl p p0 p1 => ?_, fun e k k0 k1 hl p p0 p1 => ?_, fun e k k0 k1 hl p p0 p1 => ?_, fun e => ⟨(h5 e).1, ?_, fun i i0 i1 => ?_⟩, fun e => ⟨(h7 e).1, fun i i0 i1 => ?_⟩, fun e => ⟨(h6 e).1, ?_, fun i i0 i1 => ?_⟩⟩
  · rw [hN 52 _ (by unfold inD; omega)]; exact h0 e k k0 k1 hl p p0 p1
  · rw [hN 57 _ (by unfold inD; omega)]; exact h1 e k k0 k1 hl p p0 p1
  · rw [hN 62 _ (by unfold inD; omega)]; exact h2 e k k0 k1 hl p p0 p1
  · rw [hN 36 11 (by unfold inD; omega)]; exact (h5 e).2.1
  · rw [hN 46 _ (by unfold inD; omega)]; exact (h5 e).2.2 i i0 i1
  · rw [hN 47 _ (by unfold inD; omega)]; exact (h7 e).2 i i0 i1
  · rw [hN 31 0 (by unfold inD; omega)]; exact (h6 e).2.1
  · rw [hN 32 i (by unfold inD; omega), hN 33 i (by unfold inD; omega), hN 34 i (by unfold inD; omega), hN 35 i (by unfold inD; omega)]; exact (h6 e).2.2 i i0 i1
-- sums and the greatest over worlds
def ngB (H Wt : Int → Int) : Nat → Bool
  | 0 => false
  | n + 1 => ngB H Wt n || (decide (0 < Wt n) && decide (H n < 0))
theorem ngB_S (H Wt : Int → Int) {x : Int} (h : 0 ≤ x) : ngB H Wt (x + 1).toNat = (ngB H Wt x.toNat || (decide (0 < Wt x) && decide (H x < 0))) := by
  have e : (x + 1).toNat = x.toNat + 1 := by omega
  have e2 : ((x.toNat : Nat) : Int) = x := by omega
  rw [e]; show (ngB H Wt x.toNat || (decide (0 < Wt (x.toNat : Nat)) && decide (H (x.toNat : Nat) < 0))) = _; rw [e2]
theorem ngB_t {H Wt : Int → Int} : ∀ (n : Nat) (w : Int), 0 ≤ w → w < n → 0 < Wt w → H w < 0 → ngB H Wt n = true := by
  intro n; induction n with
  | zero => intro w a b; omega
  | succ n ih =>
    intro w a b h1 h2
    unfold ngB
    by_cases hw : w = (n : Int)
    · rw [← hw, decide_eq_true h1, decide_eq_true h2]; simp
    · rw [ih w a (by omega) h1 h2]; rfl
theorem ngB_cs {H Wt : Int → Int} : ∀ n : Nat, ngB H Wt n = false → ∀ w : Int, 0 ≤ w → w < n → 0 < Wt w → 0 ≤ H w := by
  intro n hn w a b h1
  refine Classical.byContradiction (fun hno => ?_)
  rw [ngB_t n w a b h1 (by omega)] at hn; exact absurd hn (by decide)
theorem ngB_ex {H Wt : Int → Int} : ∀ n : Nat, ngB H Wt n = true → ∃ w : Int, 0 ≤ w ∧ w < n ∧ 0 < Wt w ∧ H w < 0 := by
  intro n; induction n with
  | zero => intro h; exact Bool.noConfusion h
  | succ n ih =>
    intro h
    unfold ngB at h
    cases hb : ngB H Wt n with
    | true => obtain ⟨w, a, b, c⟩ := ih hb; exact ⟨w, a, by omega, c⟩
    | false =>
      rw [hb, Bool.false_or, Bool.and_eq_true, decide_eq_true_eq, decide_eq_true_eq] at h
      exact ⟨n, by omega, by omega, h⟩
theorem ngB_congr {H H' Wt : Int → Int} : ∀ n : Nat, (∀ w : Int, 0 ≤ w → w < n → 0 < Wt w → H w = H' w) → ngB H Wt n = ngB H' Wt n := by
  intro n; induction n with
  | zero => intro _; rfl
  | succ n ih =>
    intro h
    unfold ngB
    rw [ih (fun w a b c => h w a (by omega) c)]
    by_cases hW : 0 < Wt n
    · rw [h n (by omega) (by omega) hW]
    · rw [decide_eq_false hW]; rfl
def mnT (H Wt : Int → Int) (w : Int) : Int := if 0 < Wt w then Wt w * H w else 0
def mnF (H Wt : Int → Int) (n : Nat) : Int := if ngB H Wt n = true then -2 else su_ (mnT H Wt) n
def woR (H Wt : Int → Int) : Nat → Int
  | 0 => 0
  | n + 1 => if 0 < Wt n then max_ (woR H Wt n) (H n) else woR H Wt n
theorem woR_S (H Wt : Int → Int) {x : Int} (h : 0 ≤ x) : woR H Wt (x + 1).toNat = if 0 < Wt x then max_ (woR H Wt x.toNat) (H x) else woR H Wt x.toNat := by
  have e : (x + 1).toNat = x.toNat + 1 := by omega
  have e2 : ((x.toNat : Nat) : Int) = x := by omega
  rw [e]; show (if 0 < Wt (x.toNat : Nat) then max_ (woR H Wt x.toNat) (H (x.toNat : Nat)) else woR H Wt x.toNat) = _; rw [e2]
def woF (H Wt : Int → Int) (n : Nat) : Int := if ngB H Wt n = true then -2 else woR H Wt n
def gz (H K Wt : Int → Int) : Nat → Int × Int
  | 0 => (0, 0)
  | n + 1 => if 0 < Wt n then (if (gz H K Wt n).2 = 0 ∨ (gz H K Wt n).1 * K n < H n * (gz H K Wt n).2 then (H n, K n) else gz H K Wt n) else gz H K Wt n
theorem gz_S (H K Wt : Int → Int) {x : Int} (h : 0 ≤ x) : gz H K Wt (x + 1).toNat = if 0 < Wt x then (if (gz H K Wt x.toNat).2 = 0 ∨ (gz H K Wt x.toNat).1 * K x < H x * (gz H K Wt x.toNat).2 then (H x, K x) else gz H K Wt x.toNat) else gz H K Wt x.toNat := by
  have e : (x + 1).toNat = x.toNat + 1 := by omega
  have e2 : ((x.toNat : Nat) : Int) = x := by omega
  rw [e]; show (if 0 < Wt (x.toNat : Nat) then (if (gz H K Wt x.toNat).2 = 0 ∨ (gz H K Wt x.toNat).1 * K (x.toNat : Nat) < H (x.toNat : Nat) * (gz H K Wt x.toNat).2 then (H (x.toNat : Nat), K (x.toNat : Nat)) else gz H K Wt x.toNat) else gz H K Wt x.toNat) = _; rw [e2]
def hk2 (H K : Int → Int) (w : Int) : Int := if H w < 0 then -1 else K w
theorem KW_rng {G : Lnd} (hw : WF G) {w : Int} (hs : 0 ≤ (G 0 6)) : (KW G w = -2 ∨ 0 ≤ KW G w) ∧ KW G w ≤ 1980 := by
  have hN := hw.N; unfold wfN at hN
  have hr := dW_rng (w := w) hw hs (by omega)
  have hb := fix_bound (dW_is G w) (B := 0) (C := 198) (by decide) (fun _ _ _ _ _ => Int.le_refl _) (fun p _ _ h => absurd h (by decide)) (fun p q p0 p1 q0 q1 => (cW_rng (w := w) hw p0 (by omega) q0 (by omega)).2) ((G 0 6)) hs (by omega)
  have hc := cnt_le (fun q => decide (dW G w q < dW G w ((G 0 6)))) ((G 0 0)).toNat
  unfold KW; split
  · rename_i hlt
    have := hb hlt
    omega
  · omega
noncomputable abbrev hoP (G : Lnd) (D : Int → Int → Int) (plan : Int) : Int → Int := hoursF G (doF G D plan)
theorem s_X7_meanOf {M : aM} {W : aW} {Q : Int → aM → aW → Prop} {G : Lnd} {D : Int → Int → Int} {c plan : Int} (hP : clP c G M) (hD : clD G D plan M) (hO : planOK G D plan) (hs : 0 ≤ (G 0 6)) (h : Q (mnF (hoP G D plan) (wtG G) (p2_ ((G 0 3))).toNat) M W) : CallL 76 [vR 36, vI plan] (M, W) Q := by
  have hP' := hP
  obtain ⟨hk, hG, hw, hc, m2, m38, -⟩ := hP
  have hN := hw.N; unfold wfN at hN
  have h64 := p2_lt64 hw
  have key : ∀ (n : Nat) (x2 x4 : Int) (d5 : aL), 0 ≤ x4 → x4 ≤ p2_ ((G 0 3)) → (p2_ ((G 0 3)) - x4).toNat = n → ngB (hoP G D plan) (wtG G) x4.toNat = false → x2 = su_ (mnT (hoP G D plan) (wtG G)) x4.toNat → Xs 76 (5, [some (some (vR 36)), some (some (vI plan)), some (some (vL x2)), some none, some (some (vI x4)), d5], [], (M, W)) (QL Q) := by
    intro n; induction n using Nat.strongRecOn with
    | _ n ih =>
      intro x2 x4 d5 h0 h1 hn hb hx
      refine k_X7_meanOf_5 _ _ _ _ _ _ _ ?_
      rw [m2]
      refine ⟨ct_o hk, s_X3_worlds hk hG hw ⟨by omega, fun hge => ?_, fun hlt => ?_⟩⟩
      · have e : x4 = p2_ ((G 0 3)) := by omega
        rw [e] at hb hx
        unfold mnF at h; rw [if_neg (by rw [hb]; decide), ← hx] at h; exact h
      · have hW := wtG_nn hw x4
        have hWl := wtG_le hw h0 (show x4 < p2_ ((G 0 3)) by omega)
        rw [m38 x4 h0 (by omega)]
        refine ⟨by omega, by omega, fun hle => ?_, fun hgt => ?_⟩
        · refine ih (p2_ ((G 0 3)) - (x4 + 1)).toNat (by omega) x2 (x4 + 1) _ (by omega) (by omega) rfl ?_ ?_
          · rw [ngB_S _ _ h0, hb, decide_eq_false (show ¬ 0 < wtG G x4 by omega)]; rfl
          · rw [su_succ _ h0, ← hx]; unfold mnT; rw [if_neg (by omega)]; omega
        · refine s_X7_hoursIn hP' hD hO h0 (by omega) (by omega) hs ?_
          have hr := hoursF_rng hw hO h0 (show x4 < p2_ ((G 0 3)) by omega) (show 0 < wtG G x4 by omega) hs
          rw [m38 x4 h0 (by omega)]
          refine ⟨by omega, fun hge => ⟨by omega, by omega, fun v hv => ?_⟩, fun hneg => ?_⟩
          · refine ih (p2_ ((G 0 3)) - (x4 + 1)).toNat (by omega) v (x4 + 1) _ (by omega) (by omega) rfl ?_ ?_
            · rw [ngB_S _ _ h0, hb, decide_eq_false (show ¬ hoP G D plan x4 < 0 by unfold hoP; omega), Bool.and_false]; rfl
            · rw [su_succ _ h0, ← hx, hv]; unfold mnT; rw [if_pos (by omega)]
          · unfold mnF at h; rw [if_pos (ngB_t _ x4 h0 (by omega) (by omega) (by unfold hoP; omega))] at h; exact h
  refine e_X7_meanOf _ _ _ _ ?_
  exact key _ 0 0 _ (by omega) (by omega) rfl rfl rfl
theorem s_X7_worstOf {M : aM} {W : aW} {Q : Int → aM → aW → Prop} {G : Lnd} {D : Int → Int → Int} {c plan : Int} (hP : clP c G M) (hD : clD G D plan M) (hO : planOK G D plan) (hs : 0 ≤ (G 0 6)) (h : Q (woF (hoP G D plan) (wtG G) (p2_ ((G 0 3))).toNat) M W) : CallI 77 [vR 36, vI plan] (M, W) Q := by
  have hP' := hP
  obtain ⟨hk, hG, hw, hc, m2, m38, -⟩ := hP
  have hN := hw.N; unfold wfN at hN
  have h64 := p2_lt64 hw
  have key : ∀ (n : Nat) (x2 x3 : Int) (d4 : aL), 0 ≤ x3 → x3 ≤ p2_ ((G 0 3)) → (p2_ ((G 0 3)) - x3).toNat = n → ngB (hoP G D plan) (wtG G) x3.toNat = false → x2 = woR (hoP G D plan) (wtG G) x3.toNat → (0 ≤ x2 ∧ x2 ≤ 19800) → Xs 77 (4, [some (some (vR 36)), some (some (vI plan)), some (some (vI x2)), some (some (vI x3)), d4], [], (M, W)) (QI Q) := by
    intro n; induction n using Nat.strongRecOn with
    | _ n ih =>
      intro x2 x4 d5 h0 h1 hn hb hx hxr
      refine k_X7_worstOf_4 _ _ _ _ _ _ _ ?_
      rw [m2]
      refine ⟨ct_o hk, s_X3_worlds hk hG hw ⟨by omega, fun hge => ?_, fun hlt => ?_⟩⟩
      · have e : x4 = p2_ ((G 0 3)) := by omega
        rw [e] at hb hx
        unfold woF at h; rw [if_neg (by rw [hb]; decide), ← hx] at h; exact h
      · have hW := wtG_nn hw x4
        have hWl := wtG_le hw h0 (show x4 < p2_ ((G 0 3)) by omega)
        rw [m38 x4 h0 (by omega)]
        refine ⟨by omega, by omega, fun hle => ?_, fun hgt => ?_⟩
        · refine ih (p2_ ((G 0 3)) - (x4 + 1)).toNat (by omega) x2 (x4 + 1) _ (by omega) (by omega) rfl ?_ ?_ hxr
          · rw [ngB_S _ _ h0, hb, decide_eq_false (show ¬ 0 < wtG G x4 by omega)]; rfl
          · rw [woR_S _ _ h0, if_neg (by omega)]; exact hx
        · refine s_X7_hoursIn hP' hD hO h0 (by omega) (by omega) hs ?_
          have hr := hoursF_rng hw hO h0 (show x4 < p2_ ((G 0 3)) by omega) (show 0 < wtG G x4 by omega) hs
          refine ⟨by omega, fun hge => ⟨by omega, ?_⟩, fun hneg => ?_⟩
          · refine ih (p2_ ((G 0 3)) - (x4 + 1)).toNat (by omega) _ (x4 + 1) _ (by omega) (by omega) rfl ?_ ?_ (by unfold max_; split <;> omega)
            · rw [ngB_S _ _ h0, hb, decide_eq_false (show ¬ hoP G D plan x4 < 0 by unfold hoP; omega), Bool.and_false]; rfl
            · rw [woR_S _ _ h0, if_pos (by omega), ← hx]
          · unfold woF at h; rw [if_pos (ngB_t _ x4 h0 (by omega) (by omega) (by unfold hoP; omega))] at h; exact h
  refine e_X7_worstOf _ _ _ _ ?_
  exact key _ 0 0 _ (by omega) (by omega) rfl rfl rfl (by decide)
def agT (M N : aM) : Prop := ∀ b j, ¬ (b = 36 ∧ (j = 15 ∨ j = 16)) → N b j = M b j
theorem agT.P {c : Int} {G : Lnd} {M N : aM} (h : agT M N) (hP : clP c G M) : clP c G N := hP.of (fun b j hb => h b j (by unfold inP at hb; omega))
theorem agT.D {G : Lnd} {D : Int → Int → Int} {plan : Int} {M N : aM} (h : agT M N) (hD : clD G D plan M) : clD G D plan N := hD.of (fun b j hb => h b j (by unfold inD at hb; omega))
noncomputable def gzP (G : Lnd) (D : Int → Int → Int) (plan : Int) : Int × Int := gz (hoP G D plan) (KW G) (wtG G) (p2_ ((G 0 3))).toNat
noncomputable def gbP (G : Lnd) (D : Int → Int → Int) (plan : Int) : Bool := ngB (hk2 (hoP G D plan) (KW G)) (wtG G) (p2_ ((G 0 3))).toNat
theorem s_X7_gauge {M : aM} {W : aW} {Q : Int → aM → aW → Prop} {G : Lnd} {D : Int → Int → Int} {c plan : Int} (hP : clP c G M) (hD : clD G D plan M) (hO : planOK G D plan) (hs : 0 ≤ (G 0 6))
    (h : ∀ r N, agT M N → ((r = 1 ∧ gbP G D plan = false ∧ N 36 15 = (gzP G D plan).1 ∧ N 36 16 = (gzP G D plan).2 ∧ 0 ≤ N 36 15 ∧ N 36 15 ≤ 19800 ∧ 0 ≤ N 36 16 ∧ N 36 16 ≤ 1980) ∨ (r = 0 ∧ gbP G D plan = true)) → Q r N W) : CallI 78 [vR 36, vI plan] (M, W) Q := by
  have hw := hP.2.2.1
  have hk := hP.1
  have hN := hw.N; unfold wfN at hN
  have h64 := p2_lt64 hw
  have key : ∀ (n : Nat) (x2 : Int) (d3 d4 : aL) (N : aM), 0 ≤ x2 → x2 ≤ p2_ ((G 0 3)) → (p2_ ((G 0 3)) - x2).toNat = n → agT M N → ngB (hk2 (hoP G D plan) (KW G)) (wtG G) x2.toNat = false → (N 36 15 = (gz (hoP G D plan) (KW G) (wtG G) x2.toNat).1 ∧ N 36 16 = (gz (hoP G D plan) (KW G) (wtG G) x2.toNat).2) → (0 ≤ N 36 15 ∧ N 36 15 ≤ 19800 ∧ 0 ≤ N 36 16 ∧ N 36 16 ≤ 1980) → Xs 78 (12, [some (some (vR 36)), some (some (vI plan)), some (some (vI x2)), d3, d4], [], (N, W)) (QI Q) := by
    intro n; induction n using Nat.strongRecOn with
    | _ n ih =>
      intro x2 d3 d4 N h0 h1 hn hag hb hx hxr
      have hPN := hag.P hP
      have hDN := hag.D hD
      obtain ⟨-, hG, -, hc, m2, m38, -, -⟩ := hPN
      have hPN := hag.P hP
      refine k_X7_gauge_12 _ _ _ _ _ _ _ ?_
      rw [m2]
      refine ⟨ct_o hk, s_X3_worlds hk hG hw ⟨by omega, fun hge => ?_, fun hlt => ?_⟩⟩
      · have e : x2 = p2_ ((G 0 3)) := by omega
        rw [e] at hb hx
        exact h 1 N hag (Or.inl ⟨rfl, hb, hx.1, hx.2, hxr⟩)
      · have hW := wtG_nn hw x2
        have hWl := wtG_le hw h0 (show x2 < p2_ ((G 0 3)) by omega)
        have bad : ∀ y, 0 < wtG G x2 → y = hk2 (hoP G D plan) (KW G) x2 → y < 0 → gbP G D plan = true := fun y a e b => ngB_t _ x2 h0 (by omega) a (by rw [← e]; exact b)
        rw [m38 x2 h0 (by omega)]
        refine ⟨by omega, by omega, fun hle => ?_, fun hgt => ?_⟩
        · refine ih (p2_ ((G 0 3)) - (x2 + 1)).toNat (by omega) (x2 + 1) _ _ N (by omega) (by omega) rfl hag ?_ ?_ hxr
          · rw [ngB_S _ _ h0, hb, decide_eq_false (show ¬ 0 < wtG G x2 by omega)]; rfl
          · rw [gz_S _ _ _ h0, if_neg (by omega)]; exact hx
        · refine s_X7_hoursIn hPN hDN hO h0 (by omega) (by omega) hs ?_
          have hr := hoursF_rng hw hO h0 (show x2 < p2_ ((G 0 3)) by omega) (show 0 < wtG G x2 by omega) hs
          have hK := KW_rng (w := x2) hw hs
          have hHe : hoP G D plan x2 = hoursF G (doF G D plan) x2 := rfl
          refine s_X7_knowingOf hPN h0 (by omega) hs (fun p p0 p1 => by have := dW_rng (w := x2) hw p0 p1; omega) ?_
          refine ⟨by omega, fun hneg => h 0 N hag (Or.inr ⟨rfl, bad (-1) (by omega) (by unfold hk2; rw [if_pos hneg]) (by decide)⟩), fun hpos => ⟨by omega, fun hkge => ?_, fun hkneg => h 0 N hag (Or.inr ⟨rfl, bad (KW G x2) (by omega) (by unfold hk2; rw [if_neg hpos]) (by omega)⟩)⟩⟩
          have hb' : ngB (hk2 (hoP G D plan) (KW G)) (wtG G) (x2 + 1).toNat = false := by
            rw [ngB_S _ _ h0, hb, decide_eq_false (show ¬ hk2 (hoP G D plan) (KW G) x2 < 0 by unfold hk2; rw [if_neg (by omega)]; omega), Bool.and_false]; rfl
          have stp : ∀ (d3 d4 : aL), ((gz (hoP G D plan) (KW G) (wtG G) x2.toNat).2 = 0 ∨ (gz (hoP G D plan) (KW G) (wtG G) x2.toNat).1 * KW G x2 < hoP G D plan x2 * (gz (hoP G D plan) (KW G) (wtG G) x2.toNat).2) → Xs 78 (12, [some (some (vR 36)), some (some (vI plan)), some (some (vI (x2 + 1))), d3, d4], [], ((up_ (up_ N 36 15 (hoursF G (doF G D plan) x2)) 36 16 (KW G x2)), W)) (QI Q) := by
            intro d3 d4 hcond
            have e15 : up_ (up_ N 36 15 (hoursF G (doF G D plan) x2)) 36 16 (KW G x2) 36 15 = hoursF G (doF G D plan) x2 := by rw [up_j _ _ _ (by decide), up_s]
            have e16 : up_ (up_ N 36 15 (hoursF G (doF G D plan) x2)) 36 16 (KW G x2) 36 16 = KW G x2 := up_s _ _ _ _
            refine ih (p2_ ((G 0 3)) - (x2 + 1)).toNat (by omega) (x2 + 1) _ _ _ (by omega) (by omega) rfl (fun b j hbj => ?_) hb' ?_ ?_
            · unfold up_; rw [if_neg (by omega), if_neg (by omega)]; exact hag b j hbj
            · rw [e15, e16, gz_S _ _ _ h0, if_pos (by omega), if_pos hcond]; exact ⟨rfl, rfl⟩
            · rw [e15, e16]; omega
          have hm1 : hoursF G (doF G D plan) x2 * N 36 16 ≤ 19800 * 1980 := Int.mul_le_mul (by omega) (by omega) (by omega) (by decide)
          have hm2 : N 36 15 * KW G x2 ≤ 19800 * 1980 := Int.mul_le_mul (by omega) (by omega) (by omega) (by decide)
          have hm3 : 0 ≤ hoursF G (doF G D plan) x2 * N 36 16 := Int.mul_nonneg (by omega) (by omega)
          have hm4 : 0 ≤ N 36 15 * KW G x2 := Int.mul_nonneg (by omega) (by omega)
          refine ⟨by omega, fun hz => stp _ _ (Or.inl (by rw [← hx.2]; exact hz)), fun hnz => ⟨by omega, fun hle => ?_, fun hgt2 => stp _ _ (Or.inr (by rw [← hx.1, ← hx.2]; unfold hoP; omega))⟩⟩
          refine ih (p2_ ((G 0 3)) - (x2 + 1)).toNat (by omega) (x2 + 1) _ _ N (by omega) (by omega) rfl hag hb' ?_ hxr
          rw [gz_S _ _ _ h0, if_pos (by omega), if_neg (by rw [← hx.1, ← hx.2]; unfold hoP; omega)]; exact hx
  refine e_X7_gauge _ _ _ _ ?_
  refine key _ 0 _ _ _ (by omega) (by omega) rfl (fun b j hbj => ?_) rfl ⟨?_, ?_⟩ ?_
  · unfold up_; rw [if_neg (by omega), if_neg (by omega)]
  · rw [up_j _ _ _ (by decide), up_s]; rfl
  · rw [up_s]; rfl
  · rw [up_j _ _ _ (by decide), up_s, up_s]; decide
