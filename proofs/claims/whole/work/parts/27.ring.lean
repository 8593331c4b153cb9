/-! RING; rows; settling the plans on a land -/
def upF (f : Int → Int) (i v j : Int) : Int := if j = i then v else f j
def trB (tp tk : Int → Int) (p k j : Int) : Bool := decide (tp j = p) && decide (tk j = k)
def RG (G : Lnd) (A : Int → Int → Int) (w kk : Int) : Nat → Int → (Int → Int) → (Int → Int) → Int → Int → Int
  | 0, _, _, _, _, _ => -1
  | n + 1, i, tp, tk, p, k => if 0 ≤ fst_ (trB tp tk p k) i.toNat then (if kk < i - fst_ (trB tp tk p k) i.toNat then tp (fst_ (trB tp tk p k) i.toNat + kk) else -1) else if A p k < 0 then (if kk = 0 then p else -1) else RG G A w kk n (i + 1) (upF tp i p) (upF tk i k) (A p k) (lrn k ((G 5 (A p k))) w)
def rgIn (G : Lnd) (A : Int → Int → Int) (w kk : Int) : Int := RG G A w kk 100 0 (fun _ => 0) (fun _ => 0) ((G 0 6)) (lrn 0 ((G 5 ((G 0 6)))) w)
noncomputable def rgW (G : Lnd) (D : Int → Int → Int) : Int := fst_ (fun w => decide (0 < wtG G w) && decide (hoP G D 6 w < 0)) (p2_ ((G 0 3))).toNat
noncomputable def rgF (G : Lnd) (D : Int → Int → Int) (kk : Int) : Int := if 0 ≤ rgW G D then rgIn G (doF G D 6) (rgW G D) kk else -1
theorem do6 {G : Lnd} {D : Int → Int → Int} {p k : Int} (hN : 0 ≤ (G 0 0)) (hH : hanO G D) : doF G D 6 p k = -2 ∨ (0 ≤ doF G D 6 p k ∧ doF G D 6 p k < (G 0 0)) := by
  unfold doF
  split
  · exact Or.inl rfl
  · rw [if_neg (by decide), if_neg (by decide), if_neg (by decide), if_neg (by decide), if_neg (by decide), if_neg (by decide), if_neg (by decide)]
    unfold pickF
    rcases fst_cs (hpP G D p k) (D 30 0).toNat with ⟨h1, -⟩ | ⟨h1, h2, -, -⟩
    · rw [h1, if_neg (by decide)]; exact Or.inl rfl
    · rw [if_pos h1]
      have hO1 := hH.1
      have := hH.2 _ h1 (by omega)
      omega
theorem s_X7_trackedAt {M : aM} {W : aW} {Q : Int → aM → aW → Prop} {p k n : Int} {tp tk : Int → Int} (n0 : 0 ≤ n) (n1 : n ≤ 100) (hp : inI p) (hkk : inI k) (hm : ∀ j, 0 ≤ j → j < n → M 48 j = tp j ∧ M 49 j = tk j ∧ inI (tp j) ∧ inI (tk j)) (h : Q (fst_ (trB tp tk p k) n.toNat) M W) : CallI 81 [vR 36, vI p, vI k, vI n] (M, W) Q := by
  have key : ∀ (m : Nat) (x4 : Int), 0 ≤ x4 → x4 ≤ n → (n - x4).toNat = m → (∀ j, 0 ≤ j → j < x4 → trB tp tk p k j = false) → Xs 81 (3, [some (some (vR 36)), some (some (vI p)), some (some (vI k)), some (some (vI n)), some (some (vI x4))], [], (M, W)) (QI Q) := by
    intro m; induction m using Nat.strongRecOn with
    | _ m ih =>
      intro x4 h0 h1 hmm hi
      refine k_X7_trackedAt_3 _ _ _ _ _ _ _ ?_
      refine ⟨by omega, fun hge => ?_, fun hlt => ?_⟩
      · rw [fst_no _ (fun j a b => hi j a (by omega))] at h; exact h
      · obtain ⟨a1, a2, a3, a4⟩ := hm x4 h0 (by omega)
        rw [a1, a2]
        have skip : trB tp tk p k x4 = false → Xs 81 (3, [some (some (vR 36)), some (some (vI p)), some (some (vI k)), some (some (vI n)), some (some (vI (x4 + 1)))], [], (M, W)) (QI Q) := fun hf => ih (n - (x4 + 1)).toNat (by omega) (x4 + 1) (by omega) (by omega) rfl (fun j j0 j1 => by
          by_cases he : j = x4
          · rw [he]; exact hf
          · exact hi j j0 (by omega))
        refine ⟨by omega, ⟨a3, hp⟩, fun hne => skip (by unfold trB; rw [decide_eq_false hne]; rfl), fun he => ⟨by omega, ⟨a4, hkk⟩, fun hne => skip (by unfold trB; rw [decide_eq_false hne, Bool.and_false]), fun he2 => ?_⟩⟩
        have ht : trB tp tk p k x4 = true := by
          unfold trB; rw [decide_eq_true (Classical.byContradiction he), decide_eq_true (Classical.byContradiction he2)]; rfl
        rw [fst_eq n.toNat h0 (by omega) ht hi] at h; exact h
  refine e_X7_trackedAt _ _ _ _ _ _ ?_
  exact key _ 0 (by omega) (by omega) rfl (fun j a b => by omega)
theorem RG_congr {G : Lnd} {A : Int → Int → Int} {w kk : Int} : ∀ (n : Nat) (i : Int) (tp tk tp' tk' : Int → Int) (p k : Int), 0 ≤ i → 0 ≤ kk → (∀ j, 0 ≤ j → j < i → tp j = tp' j ∧ tk j = tk' j) → RG G A w kk n i tp tk p k = RG G A w kk n i tp' tk' p k := by
  intro n; induction n with
  | zero => intros; rfl
  | succ n ih =>
    intro i tp tk tp' tk' p k i0 hkk h
    have e : fst_ (trB tp tk p k) i.toNat = fst_ (trB tp' tk' p k) i.toNat := fst_congr _ (fun j j0 j1 => by
      unfold trB; rw [(h j j0 (by omega)).1, (h j j0 (by omega)).2])
    unfold RG
    rw [e]
    rcases fst_cs (trB tp' tk' p k) i.toNat with ⟨h1, -⟩ | ⟨h1, h2, -, -⟩
    · rw [h1, if_neg (show ¬ (0 : Int) ≤ -1 by decide), if_neg (show ¬ (0 : Int) ≤ -1 by decide)]
      split
      · rfl
      · exact ih (i + 1) _ _ _ _ _ _ (by omega) hkk (fun j j0 j1 => by
          unfold upF
          by_cases hj : j = i
          · rw [if_pos hj, if_pos hj, if_pos hj, if_pos hj]; exact ⟨rfl, rfl⟩
          · rw [if_neg hj, if_neg hj, if_neg hj, if_neg hj]; exact h j j0 (by omega))
    · rw [if_pos h1, if_pos h1]
      split
      · exact (h _ (by omega) (by omega)).1
      · rfl
def agR (M N : aM) : Prop := ag 48 49 M N
theorem s_X7_ringIn {M : aM} {W : aW} {Q : Int → aM → aW → Prop} {G : Lnd} {D : Int → Int → Int} {c w kk : Int} (hP : clP c G M) (hD : clD G D 6 M) (hO : planOK G D 6) (w0 : 0 ≤ w) (w1 : w < p2_ ((G 0 3))) (hW : 0 < wtG G w) (hs : 0 ≤ (G 0 6)) (hk0 : 0 ≤ kk) (hki : inI kk) (h : ∀ N, ag 48 49 M N → Q (rgIn G (doF G D 6) w kk) N W) : CallI 80 [vR 36, vI w, vI kk] (M, W) Q := by
  have hw := hP.2.2.1
  have hk := hP.1
  have hN := hw.N; unfold wfN at hN
  have h64 := p2_lt64 hw
  have ht := thrG hw
  have hH := hO.2.2.2.2 rfl
  have hPN : ∀ N, ag 48 49 M N → clP c G N := fun N hag => hP.of (fun b j hb => hag b j (by unfold inP at hb; omega))
  have hDN : ∀ N, ag 48 49 M N → clD G D 6 N := fun N hag => hD.of (fun b j hb => hag b j (by unfold inD at hb; omega))
  have key : ∀ (n : Nat) (x3 x4 x5 : Int) (d6 d7 : aL) (tp tk : Int → Int) (N : aM), 0 ≤ x5 → x5 ≤ 100 → (100 - x5).toNat = n → ag 48 49 M N → stO G w x3 x4 → (∀ j, 0 ≤ j → j < x5 → N 48 j = tp j ∧ N 49 j = tk j ∧ (0 ≤ tp j ∧ tp j < 10) ∧ (0 ≤ tk j ∧ tk j < 729)) → RG G (doF G D 6) w kk n x5 tp tk x3 x4 = rgIn G (doF G D 6) w kk → Xs 80 (31, [some (some (vR 36)), some (some (vI w)), some (some (vI kk)), some (some (vI x3)), some (some (vI x4)), some (some (vI x5)), d6, d7], [], (N, W)) (QI Q) := by
    intro n; induction n with
    | zero =>
      intro x3 x4 x5 d6 d7 tp tk N h0 h1 hn hag hst hm he
      refine k_X7_ringIn_31 _ _ _ _ _ _ _ _ _ _ ?_
      unfold RG at he
      refine ⟨by omega, fun _ => ?_, fun hlt => by omega⟩
      have := h N hag; rw [← he] at this; exact this
    | succ n ih =>
      intro x3 x4 x5 d6 d7 tp tk N h0 h1 hn hag hst hm he
      obtain ⟨hst1, hst2, hst3, hst4⟩ := id hst
      unfold RG at he
      refine k_X7_ringIn_31 _ _ _ _ _ _ _ _ _ _ ?_
      refine ⟨by omega, fun hge => by omega, fun _ => ?_⟩
      refine s_X7_trackedAt (tp := tp) (tk := tk) h0 h1 (by omega) (by omega) (fun j j0 j1 => by have := hm j j0 j1; refine ⟨this.1, this.2.1, by omega, by omega⟩) ?_
      rcases fst_cs (trB tp tk x3 x4) x5.toNat with ⟨f1, -⟩ | ⟨f1, f2, -, -⟩
      · rw [f1, if_neg (by decide)] at he
        rw [f1]
        refine ⟨by decide, fun _ => ⟨by omega, by omega, ?_⟩, fun hno => absurd (by decide) hno⟩
        have hag2 : ag 48 49 M (up_ (up_ N 48 x5 x3) 49 x5 x4) := ag_tr (ag_tr hag (ag_up _ (by decide) (by decide))) (ag_up _ (by decide) (by decide))
        have hP2 := hPN _ hag2
        refine s_X7_does hP2 (by decide) (by decide) hst1.1 hst1.2 hst2.1 hst2.2 (lkG_pos hw w0 w1 hW hst3) (hDN _ hag2) ?_
        have hok := doF_ok hw hO hst1.1 hst1.2 hst2.1 hst2.2 (lkG_pos hw w0 w1 hW hst3) hst4
        have h6 := do6 (p := x3) (k := x4) (by omega) hH
        rw [hP2.2.2.2.2.1, hP2.2.1.2.2.2.2.2.1, ct_l5 hk]
        refine ⟨by omega, fun hge => ⟨ct_o hk, ⟨ct_a5 hk, by omega, by omega⟩, ?_⟩, fun hneg => ⟨by omega, fun hne => ?_, fun heq => ?_⟩⟩
        · have hs64 := hw.sn64 (p := doF G D 6 x3 x4) (by omega) (by omega)
          refine s_X2_seeing hP2.2.2.2.1 hst2.1 (by omega) hs64.1 hs64.2 w0 (by omega) ?_
          rw [if_neg (by omega)] at he
          have hst' := st_step hw hst hok hge
          rw [show wkP (doF G D 6 x3 x4) x3 = doF G D 6 x3 x4 from if_neg (by omega), show wkK G w (doF G D 6 x3 x4) x4 = lrn x4 ((G 5 (doF G D 6 x3 x4))) w from if_neg (by omega)] at hst'
          refine ih _ _ (x5 + 1) _ _ (upF tp x5 x3) (upF tk x5 x4) _ (by omega) (by omega) (by omega) hag2 hst' (fun j j0 j1 => ?_) he
          unfold upF
          by_cases hj : j = x5
          · rw [if_pos hj, if_pos hj, hj, up_b _ _ _ _ (by decide), up_s, up_s]; exact ⟨rfl, rfl, by omega, by omega⟩
          · rw [if_neg hj, if_neg hj, up_b _ _ _ (b := 48) _ (by decide), up_j _ _ _ hj, up_j _ _ _ hj, up_b _ _ _ _ (by decide)]; exact hm j j0 (by omega)
        · rw [if_pos (by omega), if_neg hne] at he
          have := h _ hag2; rw [← he] at this; exact this
        · rw [if_pos (by omega), if_pos (Classical.byContradiction heq)] at he
          have := h _ hag2; rw [← he] at this; exact this
      · rw [if_pos f1] at he
        generalize fst_ (trB tp tk x3 x4) x5.toNat = f at *
        refine ⟨by omega, fun hno => by omega, fun _ => ⟨by omega, fun hge => ?_, fun hlt => ⟨by omega, ?_⟩⟩⟩
        · rw [if_neg (by omega)] at he
          have := h N hag; rw [← he] at this; exact this
        · rw [if_pos (by omega)] at he
          rw [(hm (f + kk) (by omega) (by omega)).1]
          have := h N hag; rw [← he] at this; exact this
  have hs64 := hw.sn64 hs (show (G 0 6) < 10 by omega)
  refine e_X7_ringIn _ _ _ _ _ ?_
  rw [hP.2.2.2.2.1, hP.2.1.1]
  refine ⟨ct_o hk, fun v hv => ?_⟩
  rw [hv, hP.2.1.2.2.2.2.2.1, ct_l5 hk]
  exact ⟨ct_o hk, ⟨ct_a5 hk, by omega, by omega⟩, s_X2_seeing hP.2.2.2.1 (by omega) (by omega) hs64.1 hs64.2 w0 (by omega) (key 100 _ _ 0 _ _ _ _ M (by decide) (by decide) (by decide) (ag_refl _ _ _) (st_start hw hs) (fun j a b => by omega) rfl)⟩
theorem s_X7_ringPlace {M : aM} {W : aW} {Q : Int → aM → aW → Prop} {G : Lnd} {D : Int → Int → Int} {c kk : Int} (hP : clP c G M) (hD : clD G D 6 M) (hO : planOK G D 6) (hs : 0 ≤ (G 0 6)) (hk0 : 0 ≤ kk) (hki : inI kk) (h : ∀ N, ag 48 49 M N → Q (rgF G D kk) N W) : CallI 79 [vR 36, vI kk] (M, W) Q := by
  have hP' := hP
  obtain ⟨hk, hG, hw, hc, m2, m38, -⟩ := hP
  have hN := hw.N; unfold wfN at hN
  have h64 := p2_lt64 hw
  have key : ∀ (n : Nat) (x2 : Int), 0 ≤ x2 → x2 ≤ p2_ ((G 0 3)) → (p2_ ((G 0 3)) - x2).toNat = n → (∀ w, 0 ≤ w → w < x2 → (decide (0 < wtG G w) && decide (hoP G D 6 w < 0)) = false) → Xs 79 (2, [some (some (vR 36)), some (some (vI kk)), some (some (vI x2))], [], (M, W)) (QI Q) := by
    intro n; induction n using Nat.strongRecOn with
    | _ n ih =>
      intro x2 h0 h1 hn hi
      refine k_X7_ringPlace_2 _ _ _ _ _ ?_
      rw [m2]
      refine ⟨ct_o hk, s_X3_worlds hk hG hw ⟨by omega, fun hge => ?_, fun hlt => ?_⟩⟩
      · have e : rgW G D = -1 := fst_no _ (fun w a b => hi w a (by omega))
        have := h M (ag_refl _ _ _)
        unfold rgF at this; rw [e, if_neg (by decide)] at this; exact this
      · have hW := wtG_nn hw x2
        have hWl := wtG_le hw h0 (show x2 < p2_ ((G 0 3)) by omega)
        have skip : (decide (0 < wtG G x2) && decide (hoP G D 6 x2 < 0)) = false → Xs 79 (2, [some (some (vR 36)), some (some (vI kk)), some (some (vI (x2 + 1)))], [], (M, W)) (QI Q) := fun hf => ih (p2_ ((G 0 3)) - (x2 + 1)).toNat (by omega) (x2 + 1) (by omega) (by omega) rfl (fun w w0 w1 => by
          by_cases he : w = x2
          · rw [he]; exact hf
          · exact hi w w0 (by omega))
        rw [m38 x2 h0 (by omega)]
        refine ⟨by omega, by omega, fun hle => skip (by rw [decide_eq_false (show ¬ 0 < wtG G x2 by omega)]; rfl), fun hgt => ?_⟩
        refine s_X7_hoursIn hP' hD hO h0 (by omega) (by omega) hs ?_
        have hr := hoursF_rng hw hO h0 (show x2 < p2_ ((G 0 3)) by omega) (show 0 < wtG G x2 by omega) hs
        refine ⟨by omega, fun hge => skip (by rw [decide_eq_false (show ¬ hoP G D 6 x2 < 0 by unfold hoP; omega), Bool.and_false]), fun hneg => ?_⟩
        have e : rgW G D = x2 := fst_eq _ h0 (by omega) (by rw [decide_eq_true (show 0 < wtG G x2 by omega), decide_eq_true (show hoP G D 6 x2 < 0 by unfold hoP; omega)]; rfl) hi
        refine s_X7_ringIn hP' hD hO h0 (by omega) (by omega) hs hk0 hki (fun N hag => ?_)
        have := h N hag
        unfold rgF at this; rw [e, if_pos h0] at this; exact this
  refine e_X7_ringPlace _ _ _ _ ?_
  exact key _ 0 (by omega) (by omega) rfl (fun w a b => by omega)
theorem s_X7_inRow {M : aM} {W : aW} {Q : Int → aM → aW → Prop} {ord : Int → Int} {sz d : Int} (s0 : 0 ≤ sz) (s1 : sz ≤ 6) (hd : inI d) (m11 : M 36 11 = sz) (hm : ∀ i, 0 ≤ i → i < sz → M 46 i = ord i ∧ inI (ord i)) (h : ∀ r, (r = 0 ∧ ∀ i, 0 ≤ i → i < sz → ord i ≠ d) ∨ (r = 1 ∧ 0 ≤ fst_ (fun i => decide (ord i = d)) sz.toNat) → Q r M W) : CallI 66 [vR 36, vI d] (M, W) Q := by
  have key : ∀ (n : Nat) (x2 : Int), 0 ≤ x2 → x2 ≤ sz → (sz - x2).toNat = n → (∀ i, 0 ≤ i → i < x2 → ord i ≠ d) → Xs 66 (2, [some (some (vR 36)), some (some (vI d)), some (some (vI x2))], [], (M, W)) (QI Q) := by
    intro n; induction n using Nat.strongRecOn with
    | _ n ih =>
      intro x2 h0 h1 hn hi
      refine k_X7_inRow_2 _ _ _ _ _ ?_
      rw [m11]
      refine ⟨by omega, fun hge => ?_, fun hlt => ?_⟩
      · exact h 0 (Or.inl ⟨rfl, fun i a b => hi i a (by omega)⟩)
      · rw [(hm x2 h0 (by omega)).1]
        refine ⟨by omega, ⟨(hm x2 h0 (by omega)).2, hd⟩, fun hne => ih (sz - (x2 + 1)).toNat (by omega) (x2 + 1) (by omega) (by omega) rfl (fun i i0 i1 => ?_), fun he => ?_⟩
        · by_cases hx : i = x2
          · rw [hx]; exact hne
          · exact hi i i0 (by omega)
        · refine h 1 (Or.inr ⟨rfl, ?_⟩)
          rw [fst_eq (P := fun i => decide (ord i = d)) (x := x2) sz.toNat h0 (by omega) (decide_eq_true (Classical.byContradiction he)) (fun i a b => decide_eq_false (hi i a b))]; exact h0
  refine e_X7_inRow _ _ _ _ ?_
  exact key _ 0 (by omega) (by omega) rfl (fun i a b => by omega)
theorem s_X7_addToRow {M : aM} {W : aW} {Q : Int → aM → aW → Prop} {sz d : Int} (s0 : 0 ≤ sz) (s1 : sz < 6) (m11 : M 36 11 = sz) (h : Q (sz + 1) (up_ (up_ M 46 sz d) 36 11 (sz + 1)) W) : CallI 67 [vR 36, vI d] (M, W) Q := by
  refine e_X7_addToRow _ _ _ _ ?_
  have e : up_ M 46 sz d 36 11 = sz := by rw [up_b _ _ _ _ (by decide)]; exact m11
  rw [m11, e, up_s]
  exact ⟨by omega, fun hge => by omega, fun _ => ⟨by omega, h⟩⟩
/-- what settling the plans writes -/
def seF (M N : aM) : Prop := ∀ b j, ¬ (b = 36 ∧ (j = 2 ∨ j = 11)) → b ≠ 38 → b ≠ 39 → ¬ (41 ≤ b ∧ b ≤ 43) → b ≠ 45 → N b j = M b j
theorem s_X7_settle {M : aM} {W : aW} {Q : aM → aW → Prop} {G : Lnd} {c : Int} (hk : cty c) (hG : clG c G M) (hw : WF G) (hc : cdM M)
    (h : ∀ N, seF M N → clP c G N → N 36 11 = 0 → (∀ i, 0 ≤ i → i < 3 → N 45 i = 0) → Q N W) : CallV 65 [vR 36, vR c] (M, W) Q := by
  have key : ∀ (n : Nat) (x2 : Int) (N : aM), 0 ≤ x2 → x2 ≤ 3 → (3 - x2).toNat = n → seF M N → N 36 2 = c → N 36 11 = 0 → (∀ i, 0 ≤ i → i < x2 → N 45 i = 0) → Xs 65 (12, [some (some (vR 36)), some (some (vR c)), some (some (vI x2))], [], (N, W)) (QV Q) := by
    intro n; induction n using Nat.strongRecOn with
    | _ n ih =>
      intro x2 N h0 h1 hn hs m2 m11 hi
      have hcr := ct_rng hk
      have hGN : clG c G N := ⟨fun j => by rw [hs _ _ (by omega) (by omega) (by omega) (by omega) (by omega)]; exact hG.1 j, fun j => by rw [hs _ _ (by omega) (by omega) (by omega) (by omega) (by omega)]; exact hG.2.1 j, fun j => by rw [hs _ _ (by omega) (by omega) (by omega) (by omega) (by omega)]; exact hG.2.2.1 j, fun j => by rw [hs _ _ (by omega) (by omega) (by omega) (by omega) (by omega)]; exact hG.2.2.2.1 j, fun j => by rw [hs _ _ (by omega) (by omega) (by omega) (by omega) (by omega)]; exact hG.2.2.2.2.1 j, fun j => by rw [hs _ _ (by omega) (by omega) (by omega) (by omega) (by omega)]; exact hG.2.2.2.2.2.1 j, fun j => by rw [hs _ _ (by omega) (by omega) (by omega) (by omega) (by omega)]; exact hG.2.2.2.2.2.2.1 j, fun j => by rw [hs _ _ (by omega) (by omega) (by omega) (by omega) (by omega)]; exact hG.2.2.2.2.2.2.2.1 j, fun j => by rw [hs _ _ (by omega) (by omega) (by omega) (by omega) (by omega)]; exact hG.2.2.2.2.2.2.2.2 j⟩
      have hcN : cdM N := ⟨fun k k0 k1 => by rw [hs _ _ (by omega) (by omega) (by omega) (by omega) (by omega), hs _ _ (by omega) (by omega) (by omega) (by omega) (by omega)]; exact hc.1 k k0 k1, fun s s0 s1 => by rw [hs _ _ (by omega) (by omega) (by omega) (by omega) (by omega)]; exact hc.2 s s0 s1⟩
      refine k_X7_settle_12 _ _ _ _ _ ?_
      refine ⟨by omega, fun hge => ?_, fun hlt => ⟨by omega, ?_⟩⟩
      · rw [m2]
        refine s_X6_weigh hk hGN hw (Or.inl rfl) (by decide) (by decide) (fun K hK hwt => ?_)
        have e2 : K 36 2 = c := by rw [hK _ _ (by omega)]; exact m2
        have hGK := hGN.ag hk hK (by omega)
        have hcK := hcN.ag hK (by omega)
        rw [e2]
        refine s_X6_sumUp (u := wtG G) hk hGK hw hcK (Or.inl rfl) hwt (fun L hL hlk => ?_)
        have e3 : L 36 2 = c := by rw [hL _ _ (by omega)]; exact e2
        have hGL := hGK.ag hk hL (by omega)
        have hcL := hcK.ag hL (by omega)
        rw [e3]
        refine s_X10_fill hk hGL hw (fun R hR hf => ?_)
        refine h R (fun b j a1 a2 a3 a4 a5 => by rw [hR b j (by omega), hL b j (by omega), hK b j (by omega)]; exact hs b j a1 a2 a3 a4 a5) ⟨hk, hGL.ag hk hR (by omega), hw, hcL.ag hR (by omega), by rw [hR _ _ (by omega)]; exact e3, fun w w0 w1 => ?_, fun k k0 k1 => ?_, hf⟩ ?_ (fun i i0 i1 => ?_)
        · rw [hR _ _ (by omega), hL _ _ (by omega)]; exact hwt w w0 w1
        · rw [hR _ _ (by omega)]; exact hlk k k0 k1
        · rw [hR _ _ (by omega), hL _ _ (by omega), hK _ _ (by omega)]; exact m11
        · rw [hR _ _ (by omega), hL _ _ (by omega), hK _ _ (by omega)]; exact hi i i0 (by omega)
      · refine ih (3 - (x2 + 1)).toNat (by omega) (x2 + 1) _ (by omega) (by omega) rfl (fun b j a1 a2 a3 a4 a5 => by rw [up_b _ _ _ _ a5]; exact hs b j a1 a2 a3 a4 a5) (by rw [up_b _ _ _ _ (by decide)]; exact m2) (by rw [up_b _ _ _ _ (by decide)]; exact m11) (fun i i0 i1 => ?_)
        by_cases he : i = x2
        · rw [he, up_s]
        · rw [up_j _ _ _ he]; exact hi i i0 (by omega)
  refine e_X7_settle _ _ _ _ ?_
  refine key _ 0 _ (by omega) (by omega) rfl (fun b j a1 a2 a3 a4 a5 => ?_) ?_ (up_s _ _ _ _) (fun i a b => by omega)
  · unfold up_; rw [if_neg (by omega), if_neg (by omega)]
  · rw [up_j _ _ _ (by decide), up_s]
