/-! PLANS: what is done, told once for both sides; D holds what a plan stands on: 0, 1, 2 acts; 5 a row, 7 a row on trial, 10 its size; 20 .. 23 rules, 30 how many -/
def wtG (G : Lnd) : Int → Int := wt G (-1) 0
def lkG (G : Lnd) : Int → Int := lk (wtG G) ((G 0 3))
theorem wtG_nn {G : Lnd} (hw : WF G) (w : Int) : 0 ≤ wtG G w := wt_nn hw (by decide) w
theorem lkG_rng {G : Lnd} (hw : WF G) (k : Int) : 0 ≤ lkG G k ∧ lkG G k ≤ 100000000 := ⟨lk_nn (fun w _ _ => wtG_nn hw w) k, Int.le_trans (lk_le (fun w _ _ => wtG_nn hw w) k) (wt_sum hw (by decide))⟩
theorem wtG_le {G : Lnd} (hw : WF G) {w : Int} (w0 : 0 ≤ w) (w1 : w < p2_ ((G 0 3))) : wtG G w ≤ 100000000 := by
  have := p2_lt64 hw
  exact Int.le_trans (su_ge (f := wtG G) (p2_ ((G 0 3))).toNat w (fun i _ _ => wtG_nn hw i) w0 (by omega)) (wt_sum hw (by decide))
theorem lkG_ok {G : Lnd} (hw : WF G) : likO G (lkG G) := by
  have hN := hw.N; unfold wfN at hN
  have ht := thr_le hN.2.2.2.1.1 hN.2.2.2.1.2
  exact ⟨fun k _ _ => by have := lkG_rng hw k; omega, fun k d k0 k1 d0 d1 hd => lk_split k0 (by omega) d0 (by omega) hd⟩
theorem lkG_pos {G : Lnd} (hw : WF G) {k w : Int} (w0 : 0 ≤ w) (w1 : w < p2_ ((G 0 3))) (hW : 0 < wtG G w) (ha : agB k w = true) : 0 < lkG G k := by
  have hp := p2_lt64 hw
  have h := su_ge (f := fun w => if agB k w = true then wtG G w else 0) (p2_ ((G 0 3))).toNat w (fun i _ _ => by
    have := wtG_nn hw i
    show 0 ≤ if agB k i = true then wtG G i else 0
    split <;> omega) w0 (by omega)
  have e : (if agB k w = true then wtG G w else 0) = wtG G w := if_pos ha
  have h2 : (if agB k w = true then wtG G w else 0) ≤ lkG G k := h
  omega
-- the first that holds
def fst_ (P : Int → Bool) : Nat → Int
  | 0 => -1
  | n + 1 => if 0 ≤ fst_ P n then fst_ P n else if P n = true then n else -1
theorem fst_no {P : Int → Bool} : ∀ n : Nat, (∀ i : Int, 0 ≤ i → i < n → P i = false) → fst_ P n = -1 := by
  intro n; induction n with
  | zero => intro _; rfl
  | succ n ih =>
    intro h
    unfold fst_
    rw [ih (fun i a b => h i a (by omega)), h n (by omega) (by omega)]; rfl
theorem fst_eq {P : Int → Bool} {x : Int} : ∀ n : Nat, 0 ≤ x → x < n → P x = true → (∀ i : Int, 0 ≤ i → i < x → P i = false) → fst_ P n = x := by
  intro n; induction n with
  | zero => intro a b; omega
  | succ n ih =>
    intro a b hp h
    unfold fst_
    by_cases hx : x = (n : Int)
    · rw [fst_no n (fun i i0 i1 => h i i0 (by omega)), if_neg (by decide), ← hx, if_pos hp]
    · rw [ih a (by omega) hp h, if_pos a]
theorem fst_cs (P : Int → Bool) : ∀ n : Nat, (fst_ P n = -1 ∧ ∀ i : Int, 0 ≤ i → i < n → P i = false) ∨ (0 ≤ fst_ P n ∧ fst_ P n < n ∧ P (fst_ P n) = true ∧ ∀ i : Int, 0 ≤ i → i < fst_ P n → P i = false) := by
  intro n; induction n with
  | zero => exact Or.inl ⟨rfl, fun i a b => by omega⟩
  | succ n ih =>
    rcases ih with ⟨h1, h2⟩ | ⟨h1, h2, h3, h4⟩
    · cases hp : P n with
      | true => rw [fst_eq (x := n) (n + 1) (by omega) (by omega) hp h2]; exact Or.inr ⟨by omega, by omega, hp, h2⟩
      | false =>
        have h5 : ∀ i : Int, 0 ≤ i → i < (n + 1 : Nat) → P i = false := fun i a b => by
          by_cases hi : i = (n : Int)
          · rw [hi]; exact hp
          · exact h2 i a (by omega)
        exact Or.inl ⟨fst_no _ h5, h5⟩
    · rw [fst_eq (n + 1) h1 (by omega) h3 h4]; exact Or.inr ⟨h1, by omega, h3, h4⟩
theorem fst_congr {P R : Int → Bool} : ∀ n : Nat, (∀ i : Int, 0 ≤ i → i < n → P i = R i) → fst_ P n = fst_ R n := by
  intro n; induction n with
  | zero => intro _; rfl
  | succ n ih => intro h; unfold fst_; rw [ih (fun i a b => h i a (by omega)), h n (by omega) (by omega)]
-- plans
def unop (G : Lnd) (k : Int) : Int := sDif (allD G) (opn k)
def tryI (ord : Int → Int) (sz k : Int) : Int := fst_ (fun i => decide (dg k (ord i) = 0)) sz.toNat
def tryW (G : Lnd) (ord : Int → Int) (sz k : Int) : Int := if 0 ≤ tryI ord sz k then sDif (unop G k) (p2_ (ord (tryI ord sz k))) else unop G k
def hpP (G : Lnd) (D : Int → Int → Int) (p k i : Int) : Bool := decide (D 20 i = p ∧ (D 21 i < 0 ∨ dg k (D 21 i) = D 22 i) ∧ 0 < pas G p (D 23 i) k)
def pickF (G : Lnd) (D : Int → Int → Int) (p k : Int) : Int := if 0 ≤ fst_ (hpP G D p k) (D 30 0).toNat then D 23 (fst_ (hpP G D p k) (D 30 0).toNat) else -2
noncomputable def doF (G : Lnd) (D : Int → Int → Int) (plan p k : Int) : Int :=
  if p = (G 0 7) then -2 else if plan = 0 then D 0 (k * 10 + p) else if plan = 1 then D 1 (k * 10 + p) else if plan = 2 then D 2 (k * 10 + p) else if plan = 3 then nxW G (sht k) p else if plan = 4 then nxW G (unop G k) p else if plan = 5 then nxW G (tryW G (D 5) (D 10 0) k) p else if plan = 7 then nxW G (tryW G (D 7) ((G 0 3)) k) p else pickF G D p k
/-- the rows that plans stand on are told -/
def rowO (G : Lnd) (ord : Int → Int) (sz : Int) : Prop := (0 ≤ sz ∧ sz ≤ 6) ∧ ∀ i, 0 ≤ i → i < sz → 0 ≤ ord i ∧ ord i < (G 0 3)
def hanO (G : Lnd) (D : Int → Int → Int) : Prop := (0 ≤ D 30 0 ∧ D 30 0 ≤ 30) ∧ ∀ i, 0 ≤ i → i < D 30 0 → (0 ≤ D 20 i ∧ D 20 i < (G 0 0)) ∧ (-1 ≤ D 21 i ∧ D 21 i < (G 0 3)) ∧ (0 ≤ D 23 i ∧ D 23 i < (G 0 0)) ∧ (0 ≤ D 21 i → 0 ≤ D 22 i ∧ D 22 i ≤ 2)
/-- the class holds it so -/
def clD (G : Lnd) (D : Int → Int → Int) (plan : Int) (M : aM) : Prop :=
  (plan = 0 → ∀ k, 0 ≤ k → k < thr_ ((G 0 3)) → 0 < lkG G k → ∀ p, 0 ≤ p → p < (G 0 0) → M 52 (k * 10 + p) = D 0 (k * 10 + p)) ∧
  (plan = 1 → ∀ k, 0 ≤ k → k < thr_ ((G 0 3)) → 0 < lkG G k → ∀ p, 0 ≤ p → p < (G 0 0) → M 57 (k * 10 + p) = D 1 (k * 10 + p)) ∧
  (plan = 2 → ∀ k, 0 ≤ k → k < thr_ ((G 0 3)) → 0 < lkG G k → ∀ p, 0 ≤ p → p < (G 0 0) → M 62 (k * 10 + p) = D 2 (k * 10 + p)) ∧
  (plan = 5 → rowO G (D 5) (D 10 0) ∧ M 36 11 = D 10 0 ∧ ∀ i, 0 ≤ i → i < D 10 0 → M 46 i = D 5 i) ∧
  (plan = 7 → rowO G (D 7) ((G 0 3)) ∧ ∀ i, 0 ≤ i → i < (G 0 3) → M 47 i = D 7 i) ∧
  (plan = 6 → hanO G D ∧ M 31 0 = D 30 0 ∧ ∀ i, 0 ≤ i → i < D 30 0 → M 32 i = D 20 i ∧ M 33 i = D 21 i ∧ (0 ≤ D 21 i → M 34 i = D 22 i) ∧ M 35 i = D 23 i)
def plM (c : Int) (G : Lnd) (M : aM) : Prop := M 36 2 = c ∧ (∀ w, 0 ≤ w → w < p2_ ((G 0 3)) → M 38 w = wtG G w) ∧ (∀ k, 0 ≤ k → k < thr_ ((G 0 3)) → M 39 k = lkG G k) ∧ (∀ w, 0 ≤ w → w < p2_ ((G 0 3)) → finW G w M)
/-- all that the class's plans need of the memory -/
def clP (c : Int) (G : Lnd) (M : aM) : Prop := cty c ∧ clG c G M ∧ WF G ∧ cdM M ∧ plM c G M
theorem thrG {G : Lnd} (hw : WF G) : 1 ≤ thr_ ((G 0 3)) ∧ thr_ ((G 0 3)) ≤ 729 := by
  have hN := hw.N; unfold wfN at hN; exact thr_le hN.2.2.2.1.1 hN.2.2.2.1.2
theorem s_X4_pick {M : aM} {W : aW} {Q : Int → aM → aW → Prop} {G : Lnd} {D : Int → Int → Int} {c p k : Int} (hk : cty c) (hG : clG c G M) (hw : WF G) (hc : cdM M) (p0 : 0 ≤ p) (p1 : p < (G 0 0)) (k0 : 0 ≤ k) (k1 : k < 729) (hD : clD G D 6 M) (h : Q (pickF G D p k) M W) : CallI 45 [vR 31, vR c, vR 27, vI p, vI k] (M, W) Q := by
  have hN := hw.N; unfold wfN at hN
  obtain ⟨hO, m0, mr⟩ := hD.2.2.2.2.2 rfl
  obtain ⟨hO1, hO2⟩ := hO
  have key : ∀ (n : Nat) (x5 : Int) (d6 : aL), 0 ≤ x5 → x5 ≤ D 30 0 → (D 30 0 - x5).toNat = n → (∀ i, 0 ≤ i → i < x5 → hpP G D p k i = false) → Xs 45 (3, [some (some (vR 31)), some (some (vR c)), some (some (vR 27)), some (some (vI p)), some (some (vI k)), some (some (vI x5)), d6], [], (M, W)) (QI Q) := by
    intro n; induction n using Nat.strongRecOn with
    | _ n ih =>
      intro x5 d6 h0 h1 hn hi
      refine k_X4_pick_3 _ _ _ _ _ _ _ _ ?_
      rw [m0]
      refine ⟨by omega, fun hge => ?_, fun hlt => ?_⟩
      · have e := fst_no (P := hpP G D p k) (D 30 0).toNat (fun i a b => hi i a (by omega))
        unfold pickF at h; rw [e, if_neg (by decide)] at h; exact h
      · have hr := hO2 x5 h0 (by omega)
        obtain ⟨a1, a2, a3, a4⟩ := mr x5 h0 (by omega)
        rw [a1, a2, a4]
        have skip : ∀ d6 : aL, hpP G D p k x5 = false → Xs 45 (3, [some (some (vR 31)), some (some (vR c)), some (some (vR 27)), some (some (vI p)), some (some (vI k)), some (some (vI (x5 + 1))), d6], [], (M, W)) (QI Q) := fun d6 hf => by
          refine ih (D 30 0 - (x5 + 1)).toNat (by omega) (x5 + 1) d6 (by omega) (by omega) rfl (fun i i0 i1 => ?_)
          by_cases he : i = x5
          · rw [he]; exact hf
          · exact hi i i0 (by omega)
        have take : hpP G D p k x5 = true → Q (D 23 x5) M W := fun ht => by
          have e := fst_eq (P := hpP G D p k) (x := x5) (D 30 0).toNat h0 (by omega) ht hi
          unfold pickF at h; rw [e, if_pos h0] at h; exact h
        have no1 : D 20 x5 ≠ p → hpP G D p k x5 = false := fun hne => decide_eq_false (fun hh => hne hh.1)
        have go : D 20 x5 = p → (D 21 x5 < 0 ∨ dg k (D 21 x5) = D 22 x5) → ∀ d6 : aL, CallI 38 [vR c, vI p, vI (D 23 x5), vI (M 28 k), vI (M 29 k)] (M, W) (fun r M1 W2 => (inI r) ∧ ((r ≤ 0 → Xs 45 (3, [some (some (vR 31)), some (some (vR c)), some (some (vR 27)), some (some (vI p)), some (some (vI k)), some (some (vI (x5 + 1))), d6], [], (M1, W2)) (QI Q)) ∧ (¬ r ≤ 0 → (0 ≤ x5 ∧ x5 < 30) ∧ Q (M1 35 x5) M1 W2))) := by
          intro e1 e2 d6
          rw [(hc.1 k k0 k1).1, (hc.1 k k0 k1).2]
          refine s_X3_passBetween hk hG hw p0 (by omega) (by omega) (by omega) (opn_rng _).1 (opn_rng _).2 (sht_rng _).1 (sht_rng _).2 ?_
          have hp := pasB_rng hw p0 (show p < 10 by omega) (show 0 ≤ D 23 x5 by omega) (show D 23 x5 < 10 by omega) (op := opn k) (sh := sht k)
          refine ⟨by omega, fun hle => skip _ (decide_eq_false (fun hh => ?_)), fun hgt => ⟨by omega, ?_⟩⟩
          · have := hh.2.2; unfold pas at this; omega
          · rw [a4]; exact take (decide_eq_true ⟨e1, e2, by unfold pas; omega⟩)
        refine ⟨by omega, by omega, fun hne => ⟨by decide, fun _ => skip _ (no1 hne), fun hno => absurd rfl hno⟩, fun heq => ⟨by omega, by omega, fun hneg => ⟨by decide, fun hno => absurd hno (by decide), fun _ => ⟨by omega, ⟨k0, k1⟩, ⟨k0, k1⟩, ct_o hk, go (by omega) (Or.inl hneg) _⟩⟩, fun hpos => ⟨by omega, s_X2_digit hc k0 k1 (by omega) (by omega) ⟨by omega, ⟨by have := dg_rng k (D 21 x5); omega, by rw [a3 (by omega)]; omega⟩, fun hne => ⟨by decide, fun _ => skip _ ?_, fun hno => absurd rfl hno⟩, fun he => ⟨by decide, fun hno => absurd hno (by decide), fun _ => ⟨by omega, ⟨k0, k1⟩, ⟨k0, k1⟩, ?_⟩⟩⟩⟩⟩⟩
        · rw [a3 (by omega)] at hne
          exact decide_eq_false (fun hh => by rcases hh.2.1 with q | q <;> omega)
        · rw [a3 (by omega)] at he
          rw [a4]
          exact ⟨ct_o hk, go (by omega) (Or.inr (by omega)) _⟩
  refine e_X4_pick _ _ _ _ _ _ ?_
  exact key _ 0 _ (by omega) (by omega) rfl (fun i a b => by omega)
theorem unop_rng (G : Lnd) (k : Int) : 0 ≤ unop G k ∧ unop G k < 64 := sDif_rng _ _
theorem tryW_rng (G : Lnd) (ord : Int → Int) (sz k : Int) : 0 ≤ tryW G ord sz k ∧ tryW G ord sz k < 64 := by
  unfold tryW; split
  · exact sDif_rng _ _
  · exact unop_rng _ _
def roA (a : Int) : Prop := a = 46 ∨ a = 47
theorem s_X7_trying {M : aM} {W : aW} {Q : Int → aM → aW → Prop} {G : Lnd} {ord : Int → Int} {a sz k : Int} (ha : roA a) (hw : WF G) (hc : cdM M) (k0 : 0 ≤ k) (k1 : k < 729) (ho : rowO G ord sz) (hm : ∀ i, 0 ≤ i → i < sz → M a i = ord i) (h : Q (tryW G ord sz k) M W) : CallI 74 [vR 36, vR a, vI sz, vI k, vI (unop G k)] (M, W) Q := by
  have hN := hw.N; unfold wfN at hN
  have ho1 := ho.1
  have hao : okO 86 20 a = true := by rcases ha with rfl | rfl <;> rfl
  have hal : ln_ a = 6 := by rcases ha with rfl | rfl <;> rfl
  have hu := unop_rng G k
  have key : ∀ (n : Nat) (x6 : Int), 0 ≤ x6 → x6 ≤ sz → (sz - x6).toNat = n → (∀ i, 0 ≤ i → i < x6 → dg k (ord i) ≠ 0) → Xs 74 (24, [some (some (vR 36)), some (some (vR a)), some (some (vI sz)), some (some (vI k)), some (some (vI (unop G k))), some (some (vI (sOr (opn k) (sht k)))), some (some (vI x6))], [], (M, W)) (QI Q) := by
    intro n; induction n using Nat.strongRecOn with
    | _ n ih =>
      intro x6 h0 h1 hn hi
      refine k_X7_trying_24 _ _ _ _ _ _ _ _ _ ?_
      rw [hal]
      have none : x6 ≥ sz → Q (unop G k) M W := fun hge => by
        have e := fst_no (P := fun i => decide (dg k (ord i) = 0)) sz.toNat (fun i a b => decide_eq_false (hi i a (by omega)))
        unfold tryW tryI at h; rw [e, if_neg (by decide)] at h; exact h
      refine ⟨by omega, fun hge => none hge, fun hlt => ⟨hao, by omega, fun hge => by omega, fun _ => ⟨⟨hao, by omega, by omega⟩, ?_⟩⟩⟩
      have hr := ho.2 x6 h0 (by omega)
      rw [hm x6 h0 (by omega), bit_e (sOr_rng _ _).1 (sOr_rng _ _).2 hr.1 (by omega), bt_sOr hr.1 (by omega), bt_opn hr.1 (by omega), bt_sht hr.1 (by omega), shl_e hr.1 (by omega)]
      have hp := p2_le hr.1 (show ord x6 ≤ 6 by omega)
      have hp64 : p2_ (ord x6) < 64 := by rcases six_ hr.1 (show ord x6 < 6 by omega) with e | e | e | e | e | e <;> rw [e] <;> decide
      rcases dg_cs k (ord x6) with hd | hd | hd
      · refine ⟨by rw [hd]; decide, fun hno => absurd hno (by rw [hd]; decide), fun _ => ⟨⟨hao, by omega, by omega⟩, ?_⟩⟩
        have e := fst_eq (P := fun i => decide (dg k (ord i) = 0)) (x := x6) sz.toNat h0 (by omega) (decide_eq_true hd) (fun i a b => decide_eq_false (hi i a b))
        unfold tryW tryI at h; rw [e, if_pos h0] at h
        rw [dif_e hu.1 hu.2 (by omega) hp64]; exact h
      · refine ⟨by rw [hd]; decide, fun _ => ?_, fun hno => absurd (by rw [hd]; decide) hno⟩
        refine ih (sz - (x6 + 1)).toNat (by omega) (x6 + 1) (by omega) (by omega) rfl (fun i i0 i1 => ?_)
        by_cases he : i = x6
        · rw [he]; omega
        · exact hi i i0 (by omega)
      · refine ⟨by rw [hd]; decide, fun _ => ?_, fun hno => absurd (by rw [hd]; decide) hno⟩
        refine ih (sz - (x6 + 1)).toNat (by omega) (x6 + 1) (by omega) (by omega) rfl (fun i i0 i1 => ?_)
        by_cases he : i = x6
        · rw [he]; omega
        · exact hi i i0 (by omega)
  refine e_X7_trying _ _ _ _ _ _ _ ?_
  rw [(hc.1 k k0 k1).1, (hc.1 k k0 k1).2, or_e (opn_rng k).1 (opn_rng k).2 (sht_rng k).1 (sht_rng k).2]
  refine ⟨⟨k0, k1⟩, ⟨k0, k1⟩, fun v hv => ?_⟩
  rw [hv]
  exact key _ 0 (by omega) (by omega) rfl (fun i a b => by omega)
theorem unop_lt {G : Lnd} (hw : WF G) (k : Int) : unop G k < p2_ ((G 0 3)) := by
  have hN := hw.N; unfold wfN at hN
  have hu := unop_rng G k
  refine lt_p2 hu.1 hu.2 (by omega) (by omega) (fun i i0 i6 => ?_)
  unfold unop; rw [bt_sDif (by omega) i6, show allD G = p2_ ((G 0 3)) - 1 from rfl, bt_all (by omega) (by omega) (by omega) i6, if_neg (show ¬ i < (G 0 3) by omega)]; rfl
theorem tryW_lt {G : Lnd} (hw : WF G) (ord : Int → Int) (sz k : Int) : tryW G ord sz k < p2_ ((G 0 3)) := by
  have hN := hw.N; unfold wfN at hN
  unfold tryW; split
  · have hu := sDif_rng (unop G k) (p2_ (ord (tryI ord sz k)))
    refine lt_p2 hu.1 hu.2 (by omega) (by omega) (fun i i0 i6 => ?_)
    rw [bt_sDif (by omega) i6, bt_hi (unop_rng G k).1 (by omega) (unop_lt hw k) i0 i6]; rfl
  · exact unop_lt hw k
theorem s_X7_does {M : aM} {W : aW} {Q : Int → aM → aW → Prop} {G : Lnd} {D : Int → Int → Int} {c plan p k : Int} (hP : clP c G M) (pl0 : 0 ≤ plan) (pl1 : plan ≤ 7) (p0 : 0 ≤ p) (p1 : p < (G 0 0)) (k0 : 0 ≤ k) (k1 : k < thr_ ((G 0 3))) (hlk : 0 < lkG G k) (hD : clD G D plan M) (h : Q (doF G D plan p k) M W) : CallI 73 [vR 36, vI plan, vI p, vI k] (M, W) Q := by
  obtain ⟨hk, hG, hw, hc, hpl⟩ := hP
  obtain ⟨m2, -, -, mw⟩ := hpl
  have hN := hw.N; unfold wfN at hN
  have ht := thrG hw
  have h64 := p2_lt64 hw
  have hall := allD_rng hw
  refine e_X7_does _ _ _ _ _ _ ?_
  rw [m2, hG.1]
  unfold doF at h
  refine ⟨ct_o hk, by omega, fun hne => ⟨ct_o hk, s_X3_worlds hk hG hw ⟨by omega, fun v hv => ?_⟩⟩, fun heq => ?_⟩
  · rw [if_neg hne] at h
    have hv2 : v = unop G k := by
      rw [hv, (hc.1 k k0 (by omega)).1, show p2_ ((G 0 3)) - 1 = allD G from rfl, dif_e hall.1 hall.2 (opn_rng k).1 (opn_rng k).2]; rfl
    have hu := unop_rng G k
    have hul := unop_lt hw k
    have hsr := sht_rng k
    have hsl := sht_lt (by omega) (by omega) k0 k1
    rw [hv2, (hc.1 k k0 (by omega)).2]
    refine ⟨by omega, fun e0 => ?_, fun n0 => ⟨fun e1 => ?_, fun n1 => ⟨fun e2 => ?_, fun n2 => ⟨fun e3 => ?_, fun n3 => ⟨fun e4 => ?_, fun n4 => ⟨fun e5 => ?_, fun n5 => ⟨fun e6 => ?_, fun n6 => ⟨fun e7 => ?_, fun n7 => by omega⟩⟩⟩⟩⟩⟩⟩⟩
    · refine s_X9_act (Or.inl rfl) k0 (by omega) p0 (by omega) ?_
      rw [if_pos e0, ← hD.1 e0 k k0 k1 hlk p p0 p1] at h; exact h
    · refine s_X9_act (Or.inr (Or.inl rfl)) k0 (by omega) p0 (by omega) ?_
      rw [if_neg n0, if_pos e1, ← hD.2.1 e1 k k0 k1 hlk p p0 p1] at h; exact h
    · refine s_X9_act (Or.inr (Or.inr (Or.inl rfl))) k0 (by omega) p0 (by omega) ?_
      rw [if_neg n0, if_neg n1, if_pos e2, ← hD.2.2.1 e2 k k0 k1 hlk p p0 p1] at h; exact h
    · rw [if_neg n0, if_neg n1, if_neg n2, if_pos e3] at h
      refine ⟨by omega, by omega, ?_⟩
      rw [(mw (sht k) hsr.1 hsl p p0 p1).2]; exact h
    · rw [if_neg n0, if_neg n1, if_neg n2, if_neg n3, if_pos e4] at h
      refine ⟨by omega, ?_⟩
      rw [(mw (unop G k) hu.1 hul p p0 p1).2]; exact h
    · rw [if_neg n0, if_neg n1, if_neg n2, if_neg n3, if_neg n4, if_pos e5] at h
      obtain ⟨ho, m11, m46⟩ := hD.2.2.2.1 e5
      have ht := tryW_rng G (D 5) (D 10 0) k
      rw [m11]
      refine s_X7_trying (ord := D 5) (Or.inl rfl) hw hc k0 (by omega) ho m46 ⟨by omega, ?_⟩
      rw [(mw _ ht.1 (tryW_lt hw _ _ _) p p0 p1).2]; exact h
    · rw [if_neg n0, if_neg n1, if_neg n2, if_neg n3, if_neg n4, if_neg n5, if_neg (by omega)] at h
      rw [m2]
      rw [e6] at hD
      exact s_X4_pick hk hG hw hc p0 p1 k0 (by omega) hD h
    · rw [if_neg n0, if_neg n1, if_neg n2, if_neg n3, if_neg n4, if_neg n5, if_pos e7] at h
      obtain ⟨ho, m47⟩ := hD.2.2.2.2.1 e7
      have ht := tryW_rng G (D 7) ((G 0 3)) k
      rw [m2, hG.1]
      refine ⟨ct_o hk, s_X7_trying (ord := D 7) (Or.inr rfl) hw hc k0 (by omega) ho m47 ⟨by omega, ?_⟩⟩
      rw [(mw _ ht.1 (tryW_lt hw _ _ _) p p0 p1).2]; exact h
  · rw [if_pos (Classical.byContradiction heq)] at h; exact h
/-- KNOWING -/
noncomputable def KW (G : Lnd) (w : Int) : Int := if dW G w ((G 0 6)) < 1000000 then dW G w ((G 0 6)) else -2
theorem s_X7_knowingOf {M : aM} {W : aW} {Q : Int → aM → aW → Prop} {G : Lnd} {c w : Int} (hP : clP c G M) (w0 : 0 ≤ w) (w1 : w < p2_ ((G 0 3))) (hs : 0 ≤ (G 0 6)) (hr : ∀ p, 0 ≤ p → p < (G 0 0) → inI (dW G w p)) (h : Q (KW G w) M W) : CallI 68 [vR 36, vI w] (M, W) Q := by
  obtain ⟨hk, hG, hw, hc, m2, -, -, mw⟩ := hP
  have hN := hw.N; unfold wfN at hN
  have h64 := p2_lt64 hw
  have h1 := (mw w w0 w1 ((G 0 6)) hs (by omega)).1
  have h2 := hr ((G 0 6)) hs (by omega)
  unfold fW at h1
  refine e_X7_knowingOf _ _ _ _ ?_
  rw [m2, hG.1, h1]
  unfold KW at h
  refine ⟨ct_o hk, by omega, fun v hv => ?_⟩
  rw [hv]
  refine ⟨h2, fun hlt => ?_, fun hge => ?_⟩
  · rw [if_pos hlt] at h; exact h
  · rw [if_neg hge] at h; exact h
