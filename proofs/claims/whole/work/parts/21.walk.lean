/-! WALKS of a plan through a world -/
theorem dW_rng {G : Lnd} (hw : WF G) {w p : Int} (p0 : 0 ≤ p) (p1 : p < (G 0 0)) : 0 ≤ dW G w p ∧ dW G w p ≤ 1000000 := by
  have hN := hw.N; unfold wfN at hN
  have hD := dW_is G w
  refine ⟨fix_low hD (by decide) (fun _ _ _ _ => Int.le_refl _) (fun _ _ _ => by decide) p p0 (by omega), ?_⟩
  cases hx : decide (p = (G 0 7)) with
  | true => rw [(hD p p0 (by omega)).1 hx]; show (0 : Int) ≤ 1000000; decide
  | false => rw [(hD p p0 (by omega)).2 hx]; exact stq_le_I _ _ _ _ _ _
def seenOK (G : Lnd) (p k : Int) : Prop := ∀ i, 0 ≤ i → i < 6 → bt ((G 5 p)) i = 1 → dg k i ≠ 0
def actOK (G : Lnd) (k p a : Int) : Prop := a = -2 ∨ (0 ≤ a ∧ a < (G 0 0) ∧ 0 < pas G p a k) ∨ (100 ≤ a ∧ a < 100 + (G 0 5) ∧ G 6 (a - 100) = p ∧ dg k (G 7 (a - 100)) = 0)
theorem seen_fm {G : Lnd} {p k : Int} : fm_ k ((G 5 p)) < 0 ↔ seenOK G p k := by
  constructor
  · intro h i i0 i6 hb hd
    rcases fm_cs k ((G 5 p)) with ⟨-, h2⟩ | ⟨h1, -⟩
    · exact h2 i i0 i6 ⟨hb, hd⟩
    · omega
  · intro h
    rcases fm_cs k ((G 5 p)) with ⟨h1, -⟩ | ⟨h1, h2, h3, -⟩
    · omega
    · exact absurd h3.2 (h _ h1 h2 h3.1)
theorem cS_pos {G : Lnd} (hw : WF G) {sm k p q : Int} {lik : Int → Int} (p0 : 0 ≤ p) (p1 : p < 10) (q0 : 0 ≤ q) (q1 : q < 10) (h : 0 < cS G sm lik k p q) : 0 < pas G p q k := by
  have hr := pasB_rng (op := opn k) (sh := sht k) hw p0 p1 q0 q1
  unfold cS at h
  refine Classical.byContradiction (fun hno => ?_)
  have h0 : pas G p q k = 0 := by unfold pas at hno ⊢; omega
  rw [h0, csS_z] at h; exact absurd h (by decide)
theorem actF_ok {G : Lnd} (hw : WF G) {sm k p : Int} {lik : Int → Int} {v : Int → Int → Int} {f : Int → Int} (p0 : 0 ≤ p) (p1 : p < (G 0 0)) : actOK G k p (actF G sm lik v k f p) := by
  have hN := hw.N; unfold wfN at hN
  unfold actF aw_
  have htop := mn_le_top (cand 1152921504606846976 (cS G sm lik k) f p) 1152921504606846976 ((G 0 0)).toNat
  split
  · rename_i hlt
    obtain ⟨a1, a2, a3, -⟩ := am_first (d := -1) ((G 0 5)).toNat hlt
    refine Or.inr (Or.inr ⟨by omega, by omega, ?_⟩)
    rw [← a3] at hlt
    generalize hz : am_ (wcS G sm lik v k p) (mn_ (cand 1152921504606846976 (cS G sm lik k) f p) 1152921504606846976 ((G 0 0)).toNat) (-1) ((G 0 5)).toNat = z at *
    unfold wcS at hlt
    by_cases hc : G 6 z = p ∧ dg k (G 7 z) = 0
    · rw [show 100 + z - 100 = z by omega]; exact hc
    · rw [if_neg hc] at hlt; omega
  · by_cases hlt : mn_ (cand 1152921504606846976 (cS G sm lik k) f p) 1152921504606846976 ((G 0 0)).toNat < 1152921504606846976
    · obtain ⟨a1, a2, a3, -⟩ := am_first (d := -2) ((G 0 0)).toNat hlt
      refine Or.inr (Or.inl ⟨by omega, by omega, ?_⟩)
      rw [← a3] at hlt
      generalize hz : am_ (cand 1152921504606846976 (cS G sm lik k) f p) 1152921504606846976 (-2) ((G 0 0)).toNat = z at *
      unfold cand at hlt
      by_cases hc : 0 < cS G sm lik k p z
      · exact cS_pos hw p0 (by omega) a1 (by omega) hc
      · rw [if_neg hc] at hlt; omega
    · rw [am_dfl _ (by omega)]; exact Or.inl rfl
theorem actS_ok {G : Lnd} (hw : WF G) {sm k p : Int} {lik : Int → Int} {v : Int → Int → Int} (p0 : 0 ≤ p) (p1 : p < (G 0 0)) : actOK G k p (actS G sm lik v k p) := by
  unfold actS; split
  · exact Or.inl rfl
  · split
    · exact Or.inl rfl
    · exact actF_ok hw p0 p1
/-- a world that is as what is known -/
def asW (G : Lnd) (k w : Int) : Prop := ∀ i, 0 ≤ i → i < (G 0 3) → (dg k i = 1 → bt w i = 0) ∧ (dg k i = 2 → bt w i = 1)
theorem cW_pas {G : Lnd} (hw : WF G) {w k p q : Int} (p0 : 0 ≤ p) (p1 : p < 10) (q0 : 0 ≤ q) (q1 : q < 10) (hs : seenOK G p k) (ha : asW G k w) : cW G w p q = pas G p q k := by
  have hN := hw.N; unfold wfN at hN
  unfold cW pas pasB
  by_cases hb : (G 4 (p * 10 + q)) < 0
  · rw [if_pos hb, if_pos hb]
  · rw [if_neg hb, if_neg hb]
    have hbb := hw.B.1 p q p0 p1 q0 q1
    have hb1 : 0 ≤ (G 4 (p * 10 + q)) ∧ (G 4 (p * 10 + q)) < (G 0 2) := by omega
    have hR := hw.R _ hb1.1 hb1.2
    by_cases hn : (G 2 (((G 4 (p * 10 + q))) * 7 + 6)) < 0
    · rw [if_pos hn, if_pos hn]
    · rw [if_neg hn, if_neg hn]
      have hn1 : 0 ≤ (G 2 (((G 4 (p * 10 + q))) * 7 + 6)) ∧ (G 2 (((G 4 (p * 10 + q))) * 7 + 6)) < 6 := by omega
      have hS := hw.S.2 _ hb1.1 hb1.2 (by omega)
      have hd : dg k ((G 2 (((G 4 (p * 10 + q))) * 7 + 6))) ≠ 0 := by
        refine hs _ hn1.1 hn1.2 ?_
        rcases hbb with hh | ⟨-, -, ⟨e1, e2⟩ | ⟨e1, e2⟩⟩
        · omega
        · rw [e1] at hS; exact hS.1
        · rw [e2] at hS; exact hS.2
      have hA := ha ((G 2 (((G 4 (p * 10 + q))) * 7 + 6))) hn1.1 (by omega)
      rw [bt_sDif hn1.1 hn1.2, show allD G = p2_ ((G 0 3)) - 1 from rfl, bt_all (by omega) (by omega) hn1.1 hn1.2, if_pos (show (G 2 (((G 4 (p * 10 + q))) * 7 + 6)) < (G 0 3) by omega), bt_opn hn1.1 hn1.2, bt_sht hn1.1 hn1.2]
      rcases dg_cs k ((G 2 (((G 4 (p * 10 + q))) * 7 + 6))) with e | e | e
      · exact absurd e hd
      · have := hA.1 e
        simp [e, this]
      · have := hA.2 e
        simp [e, this]
theorem nxW_ok {G : Lnd} (hw : WF G) {w k p : Int} (p0 : 0 ≤ p) (p1 : p < (G 0 0)) (hs : seenOK G p k) (ha : asW G k w) : actOK G k p (nxW G w p) := by
  have hN := hw.N; unfold wfN at hN
  unfold nxW; split
  · exact Or.inl rfl
  · by_cases hlt : mn_ (cand 1000000 (cW G w) (dW G w) p) 1000000 ((G 0 0)).toNat < 1000000
    · obtain ⟨a1, a2, a3, -⟩ := am_first (d := -2) ((G 0 0)).toNat hlt
      refine Or.inr (Or.inl ⟨by omega, by omega, ?_⟩)
      rw [← a3] at hlt
      generalize hz : am_ (cand 1000000 (cW G w) (dW G w) p) 1000000 (-2) ((G 0 0)).toNat = z at *
      unfold cand at hlt
      by_cases hc : 0 < cW G w p z
      · rw [cW_pas hw p0 (by omega) a1 (by omega) hs ha] at hc; exact hc
      · rw [if_neg hc] at hlt; omega
    · have := mn_le_top (cand 1000000 (cW G w) (dW G w) p) 1000000 ((G 0 0)).toNat
      rw [am_dfl _ (by omega)]; exact Or.inl rfl
theorem as_sht {G : Lnd} (hw : WF G) (k : Int) : asW G k (sht k) := fun i i0 i1 => by
  have hN := hw.N; unfold wfN at hN
  rw [bt_sht i0 (by omega)]
  exact ⟨fun e => by rw [e]; rfl, fun e => by rw [e]; rfl⟩
theorem as_unop {G : Lnd} (hw : WF G) (k : Int) : asW G k (unop G k) := fun i i0 i1 => by
  have hN := hw.N; unfold wfN at hN
  unfold unop
  rw [bt_sDif i0 (by omega), show allD G = p2_ ((G 0 3)) - 1 from rfl, bt_all (by omega) (by omega) i0 (by omega), if_pos i1, bt_opn i0 (by omega)]
  exact ⟨fun e => by rw [e]; rfl, fun e => by rw [e]; rfl⟩
theorem bt_p2 {i j : Int} (i0 : 0 ≤ i) (i6 : i < 6) (j0 : 0 ≤ j) (j6 : j < 6) : bt (p2_ i) j = if j = i then 1 else 0 := by
  rcases six_ i0 i6 with rfl | rfl | rfl | rfl | rfl | rfl <;> rcases six_ j0 j6 with rfl | rfl | rfl | rfl | rfl | rfl <;> decide
theorem as_try {G : Lnd} (hw : WF G) {ord : Int → Int} {sz : Int} (ho : rowO G ord sz) (k : Int) : asW G k (tryW G ord sz k) := by
  have hN := hw.N; unfold wfN at hN
  unfold tryW
  split
  · rename_i hge
    rcases fst_cs (fun i => decide (dg k (ord i) = 0)) sz.toNat with ⟨h1, -⟩ | ⟨h1, h2, h3, -⟩
    · unfold tryI at hge; omega
    · have hd := of_decide_eq_true h3
      have ho1 := ho.1
      have hr := ho.2 _ h1 (by omega)
      intro i i0 i1
      have hu := as_unop hw k i i0 i1
      unfold tryI
      rw [bt_sDif i0 (by omega), bt_p2 hr.1 (by omega) i0 (by omega)]
      by_cases hi : i = ord (fst_ (fun i => decide (dg k (ord i) = 0)) sz.toNat)
      · rw [← hi] at hd
        exact ⟨fun e => by omega, fun e => by omega⟩
      · rw [if_neg hi]
        exact ⟨fun e => by rw [hu.1 e]; rfl, fun e => by rw [hu.2 e]; rfl⟩
  · exact as_unop hw k
/-- the rows of acts are such as can be done; rows and rules are told -/
def planOK (G : Lnd) (D : Int → Int → Int) (plan : Int) : Prop := (0 ≤ plan ∧ plan ≤ 7) ∧ (plan ≤ 2 → ∀ k, 0 ≤ k → k < thr_ ((G 0 3)) → 0 < lkG G k → ∀ p, 0 ≤ p → p < (G 0 0) → actOK G k p (D plan (k * 10 + p))) ∧ (plan = 5 → rowO G (D 5) (D 10 0)) ∧ (plan = 7 → rowO G (D 7) ((G 0 3))) ∧ (plan = 6 → hanO G D)
theorem doF_ok {G : Lnd} (hw : WF G) {D : Int → Int → Int} {plan p k : Int} (hO : planOK G D plan) (p0 : 0 ≤ p) (p1 : p < (G 0 0)) (k0 : 0 ≤ k) (k1 : k < thr_ ((G 0 3))) (hlk : 0 < lkG G k) (hs : seenOK G p k) : actOK G k p (doF G D plan p k) := by
  obtain ⟨hr, h2, h5, h7, h6⟩ := hO
  unfold doF
  split
  · exact Or.inl rfl
  · split
    · rename_i e; have := h2 (by omega) k k0 k1 hlk p p0 p1; rw [e] at this; exact this
    · split
      · rename_i e; have := h2 (by omega) k k0 k1 hlk p p0 p1; rw [e] at this; exact this
      · split
        · rename_i e; have := h2 (by omega) k k0 k1 hlk p p0 p1; rw [e] at this; exact this
        · split
          · exact nxW_ok hw p0 p1 hs (as_sht hw k)
          · split
            · exact nxW_ok hw p0 p1 hs (as_unop hw k)
            · split
              · rename_i e; exact nxW_ok hw p0 p1 hs (as_try hw (h5 e) k)
              · split
                · rename_i e; exact nxW_ok hw p0 p1 hs (as_try hw (h7 e) k)
                · have h6' := h6 (by omega)
                  unfold pickF
                  rcases fst_cs (hpP G D p k) (D 30 0).toNat with ⟨h1, -⟩ | ⟨h1, h22, h3, -⟩
                  · rw [h1, if_neg (by decide)]; exact Or.inl rfl
                  · rw [if_pos h1]
                    have hp := (of_decide_eq_true h3).2.2
                    have h0 := h6'.1
                    have hh := h6'.2 _ h1 (by omega)
                    exact Or.inr (Or.inl ⟨hh.2.2.1.1, hh.2.2.1.2, hp⟩)
-- a step
def wkP (a p : Int) : Int := if 100 ≤ a then p else a
def wkK (G : Lnd) (w a k : Int) : Int := if 100 ≤ a then lrn k (p2_ (G 7 (a - 100))) w else lrn k ((G 5 a)) w
def wkH (G : Lnd) (a p k : Int) : Int := if 100 ≤ a then G 8 (a - 100) else pas G p a k
def HI (G : Lnd) (A : Int → Int → Int) (w : Int) : Nat → Int → Int → Int → Int
  | 0, p, _, h => if p = (G 0 7) then h else -2
  | n + 1, p, k, h => if p = (G 0 7) then h else if A p k < 0 then -2 else HI G A w n (wkP (A p k) p) (wkK G w (A p k) k) (h + wkH G (A p k) p k)
def hoursF (G : Lnd) (A : Int → Int → Int) (w : Int) : Int := HI G A w 100 ((G 0 6)) (lrn 0 ((G 5 ((G 0 6)))) w) 0
def stO (G : Lnd) (w p k : Int) : Prop := (0 ≤ p ∧ p < (G 0 0)) ∧ (0 ≤ k ∧ k < thr_ ((G 0 3))) ∧ agB k w = true ∧ seenOK G p k
theorem lrn_ag {k r w : Int} (h : agB k w = true) : agB (lrn k r w) w = true := by
  rw [agB_iff] at h ⊢
  intro i i0 i6
  rw [dg_lrn i0 i6]
  have := h i i0 i6
  split
  · exact Or.inr rfl
  · exact this
theorem lrn_lt {G : Lnd} (hw : WF G) {k r w : Int} (k0 : 0 ≤ k) (k1 : k < thr_ ((G 0 3))) (r0 : 0 ≤ r) (r1 : r < p2_ ((G 0 3))) : lrn k r w < thr_ ((G 0 3)) := by
  have hN := hw.N; unfold wfN at hN
  have hr := lrn_rng k r w
  refine lt_thr hr.1 hr.2 (by omega) (by omega) (fun i i0 i6 => ?_)
  have hh := dg_hi k0 (by omega) k1 i0 i6
  rw [dg_lrn (by omega) i6, hh, bt_hi r0 (by omega) r1 i0 i6, if_neg (by omega)]
theorem p2_lt {G : Lnd} (hw : WF G) {r : Int} (r0 : 0 ≤ r) (r1 : r < (G 0 3)) : 0 ≤ p2_ r ∧ p2_ r < p2_ ((G 0 3)) ∧ p2_ r < 64 := by
  have hN := hw.N; unfold wfN at hN
  rcases svn_ (show 0 ≤ (G 0 3) by omega) (by omega) with e | e | e | e | e | e | e <;> rcases six_ r0 (by omega) with e2 | e2 | e2 | e2 | e2 | e2 <;> rw [e2] <;> (try rw [e]) <;> first | decide | omega
theorem st_step {G : Lnd} (hw : WF G) {w p k a : Int} (h : stO G w p k) (ha : actOK G k p a) (a0 : 0 ≤ a) : stO G w (wkP a p) (wkK G w a k) := by
  have hN := hw.N; unfold wfN at hN
  obtain ⟨hp, hkk, hag, hs⟩ := h
  unfold wkP wkK
  rcases ha with ha | ⟨h1, h2, h3⟩ | ⟨h1, h2, h3, h4⟩
  · omega
  · rw [if_neg (by omega), if_neg (by omega)]
    have hsn := hw.S.1 a h1 (by omega)
    refine ⟨⟨h1, h2⟩, ⟨(lrn_rng _ _ _).1, lrn_lt hw hkk.1 hkk.2 hsn.1 hsn.2⟩, lrn_ag hag, fun i i0 i6 hb => ?_⟩
    rw [dg_lrn i0 i6]
    have hbr := bt_rng w i
    by_cases hd : dg k i = 0
    · rw [if_pos ⟨hd, hb⟩]; omega
    · rw [if_neg (fun q => hd q.1)]; exact hd
  · rw [if_pos h1, if_pos h1]
    have hW := hw.W (a - 100) (by omega) (by omega)
    have hp2 := p2_lt hw hW.2.1.1 hW.2.1.2
    refine ⟨hp, ⟨(lrn_rng _ _ _).1, lrn_lt hw hkk.1 hkk.2 hp2.1 hp2.2.1⟩, lrn_ag hag, fun i i0 i6 hb => ?_⟩
    rw [dg_lrn i0 i6]
    have hbr := bt_rng w i
    have hd := hs i i0 i6 hb
    rw [if_neg (fun q => hd q.1)]; exact hd
theorem st_start {G : Lnd} (hw : WF G) {w : Int} (hs : 0 ≤ (G 0 6)) : stO G w ((G 0 6)) (lrn 0 ((G 5 ((G 0 6)))) w) := by
  have hN := hw.N; unfold wfN at hN
  have hsn := hw.S.1 ((G 0 6)) hs (by omega)
  have ht := thrG hw
  have d0 : ∀ i, 0 ≤ i → i < 6 → dg 0 i = 0 := fun i i0 i6 => by rcases six_ i0 i6 with e | e | e | e | e | e <;> rw [e] <;> decide
  refine ⟨⟨hs, by omega⟩, ⟨(lrn_rng _ _ _).1, lrn_lt hw (by decide) (by omega) hsn.1 hsn.2⟩, lrn_ag ?_, fun i i0 i6 hb => ?_⟩
  · rw [agB_iff]; exact fun i i0 i6 => Or.inl (d0 i i0 i6)
  · rw [dg_lrn i0 i6, if_pos ⟨d0 i i0 i6, hb⟩]
    have := bt_rng w i; omega
theorem wkH_rng {G : Lnd} (hw : WF G) {k p a : Int} (p0 : 0 ≤ p) (p1 : p < (G 0 0)) (ha : actOK G k p a) (a0 : 0 ≤ a) : 1 ≤ wkH G a p k ∧ wkH G a p k ≤ 198 := by
  have hN := hw.N; unfold wfN at hN
  unfold wkH
  rcases ha with ha | ⟨h1, h2, h3⟩ | ⟨h1, h2, h3, h4⟩
  · omega
  · rw [if_neg (by omega)]
    have := pasB_rng (op := opn k) (sh := sht k) hw p0 (show p < 10 by omega) h1 (show a < 10 by omega)
    unfold pas at h3 ⊢; omega
  · rw [if_pos h1]
    have hW := hw.W (a - 100) (by omega) (by omega); omega
theorem HI_rng {G : Lnd} (hw : WF G) {D : Int → Int → Int} {plan w : Int} (hO : planOK G D plan) (w0 : 0 ≤ w) (w1 : w < p2_ ((G 0 3))) (hW : 0 < wtG G w) : ∀ (n : Nat) (p k h : Int), stO G w p k → 0 ≤ h → -2 ≤ HI G (doF G D plan) w n p k h ∧ HI G (doF G D plan) w n p k h ≤ h + 198 * n ∧ HI G (doF G D plan) w n p k h ≠ -1 := by
  intro n; induction n with
  | zero => intro p k h hs h0; unfold HI; split <;> omega
  | succ n ih =>
    intro p k h hs h0
    unfold HI
    split
    · omega
    · split
      · omega
      · rename_i ha
        have hok := doF_ok hw hO hs.1.1 hs.1.2 hs.2.1.1 hs.2.1.2 (lkG_pos hw w0 w1 hW hs.2.2.1) hs.2.2.2
        have h1 := wkH_rng hw hs.1.1 hs.1.2 hok (by omega)
        have := ih _ _ (h + wkH G (doF G D plan p k) p k) (st_step hw hs hok (by omega)) (by omega)
        omega
theorem hoursF_rng {G : Lnd} (hw : WF G) {D : Int → Int → Int} {plan w : Int} (hO : planOK G D plan) (w0 : 0 ≤ w) (w1 : w < p2_ ((G 0 3))) (hW : 0 < wtG G w) (hs : 0 ≤ (G 0 6)) : -2 ≤ hoursF G (doF G D plan) w ∧ hoursF G (doF G D plan) w ≤ 19800 ∧ hoursF G (doF G D plan) w ≠ -1 := by
  have := HI_rng hw hO w0 w1 hW 100 _ _ 0 (st_start hw hs) (Int.le_refl _)
  unfold hoursF; omega
theorem s_X7_hoursIn {M : aM} {W : aW} {Q : Int → aM → aW → Prop} {G : Lnd} {D : Int → Int → Int} {c plan w : Int} (hP : clP c G M) (hD : clD G D plan M) (hO : planOK G D plan) (w0 : 0 ≤ w) (w1 : w < p2_ ((G 0 3))) (hW : 0 < wtG G w) (hs : 0 ≤ (G 0 6)) (h : Q (hoursF G (doF G D plan) w) M W) : CallI 75 [vR 36, vI plan, vI w] (M, W) Q := by
  have hP' := hP
  obtain ⟨hk, hG, hw, hc, hpl⟩ := hP
  have m2 := hpl.1
  have hN := hw.N; unfold wfN at hN
  have h64 := p2_lt64 hw
  have ht := thrG hw
  have key : ∀ (n : Nat) (x3 x4 x5 x6 : Int) (d7 : aL), 0 ≤ x6 → x6 ≤ 100 → (100 - x6).toNat = n → stO G w x3 x4 → HI G (doF G D plan) w n x3 x4 x5 = hoursF G (doF G D plan) w → Xs 75 (34, [some (some (vR 36)), some (some (vI plan)), some (some (vI w)), some (some (vI x3)), some (some (vI x4)), some (some (vI x5)), some (some (vI x6)), d7], [], (M, W)) (QI Q) := by
    intro n; induction n with
    | zero =>
      intro x3 x4 x5 x6 d7 h0 h1 hn hst he
      unfold HI at he
      have hst1 := hst.1
      refine k_X7_hoursIn_34 _ _ _ _ _ _ _ _ _ _ ?_
      rw [m2, hG.1]
      refine ⟨by omega, fun _ => ⟨ct_o hk, by omega, fun hne => ?_, fun heq => ?_⟩, fun hlt => by omega⟩
      · rw [if_neg hne] at he; rw [← he] at h; exact h
      · rw [if_pos (Classical.byContradiction heq)] at he; rw [← he] at h; exact h
    | succ n ih =>
      intro x3 x4 x5 x6 d7 h0 h1 hn hst he
      unfold HI at he
      have hst1 := hst.1
      have hst2 := hst.2.1
      have hlk := lkG_pos hw w0 w1 hW hst.2.2.1
      have hok := doF_ok hw hO hst1.1 hst1.2 hst2.1 hst2.2 hlk hst.2.2.2
      have hOr := hO.1
      refine k_X7_hoursIn_34 _ _ _ _ _ _ _ _ _ _ ?_
      rw [m2, hG.1]
      refine ⟨by omega, fun hge => by omega, fun _ => ⟨ct_o hk, by omega, fun heq => ⟨ct_o hk, by omega, fun hne => absurd heq hne, fun _ => ?_⟩, fun hne => ?_⟩⟩
      · rw [if_pos heq] at he; rw [← he] at h; exact h
      · rw [if_neg hne] at he
        refine s_X7_does hP' hOr.1 hOr.2 hst1.1 hst1.2 hst2.1 hst2.2 hlk hD ?_
        have har : -2 ≤ doF G D plan x3 x4 ∧ doF G D plan x3 x4 < 200 := by
          rcases hok with ha | ⟨a1, a2, -⟩ | ⟨a1, a2, -⟩ <;> omega
        refine ⟨by omega, fun hge => ⟨by omega, fun hlt => ?_, fun hnl => ?_⟩, fun hneg => ?_⟩
        · rw [if_neg (by omega)] at he
          have ha : 0 ≤ doF G D plan x3 x4 ∧ doF G D plan x3 x4 < (G 0 0) ∧ 0 < pas G x3 (doF G D plan x3 x4) x4 := by
            rcases hok with ha | ha | ⟨a1, -⟩
            · omega
            · exact ha
            · omega
          have hs64 := hw.sn64 ha.1 (show doF G D plan x3 x4 < 10 by omega)
          rw [(hc.1 x4 hst2.1 (by omega)).1, (hc.1 x4 hst2.1 (by omega)).2, m2]
          refine ⟨by omega, by omega, ct_o hk, s_X3_passBetween hk hG hw hst1.1 (by omega) ha.1 (by omega) (opn_rng _).1 (opn_rng _).2 (sht_rng _).1 (sht_rng _).2 (fun y hy => ?_)⟩
          rw [m2, hG.2.2.2.2.2.1, ct_l5 hk]
          refine ⟨ct_o hk, ⟨ct_a5 hk, by omega, by omega⟩, s_X2_seeing hc hst2.1 (by omega) hs64.1 hs64.2 w0 (by omega) ?_⟩
          have e1 : wkP (doF G D plan x3 x4) x3 = doF G D plan x3 x4 := if_neg (by omega)
          have e2 : wkK G w (doF G D plan x3 x4) x4 = lrn x4 ((G 5 (doF G D plan x3 x4))) w := if_neg (by omega)
          have e3 : wkH G (doF G D plan x3 x4) x3 x4 = pas G x3 (doF G D plan x3 x4) x4 := if_neg (by omega)
          have hst' := st_step hw hst hok hge
          rw [e1, e2] at hst'
          rw [e1, e2, e3] at he
          exact ih _ _ y _ _ (by omega) (by omega) (by omega) hst' (by rw [hy]; exact he)
        · rw [if_neg (by omega)] at he
          have ha : 100 ≤ doF G D plan x3 x4 ∧ doF G D plan x3 x4 < 100 + (G 0 5) := by
            rcases hok with ha | ⟨a1, a2, -⟩ | ⟨a1, a2, -⟩ <;> omega
          have hW := hw.W (doF G D plan x3 x4 - 100) (by omega) (by omega)
          have hp2 := p2_lt hw hW.2.1.1 hW.2.1.2
          rw [m2, hG.2.2.2.2.2.2.2.2, hG.2.2.2.2.2.2.2.1, ct_l7 hk, ct_l8 hk, shl_e hW.2.1.1 (by omega)]
          refine ⟨ct_o hk, ⟨ct_a8 hk, by omega, by omega⟩, fun y hy => ⟨ct_o hk, ⟨ct_a7 hk, by omega, by omega⟩, s_X2_seeing hc hst2.1 (by omega) hp2.1 hp2.2.2 w0 (by omega) ?_⟩⟩
          have e1 : wkP (doF G D plan x3 x4) x3 = x3 := if_pos ha.1
          have e2 : wkK G w (doF G D plan x3 x4) x4 = lrn x4 (p2_ (G 7 (doF G D plan x3 x4 - 100))) w := if_pos ha.1
          have e3 : wkH G (doF G D plan x3 x4) x3 x4 = G 8 (doF G D plan x3 x4 - 100) := if_pos ha.1
          have hst' := st_step hw hst hok hge
          rw [e1, e2] at hst'
          rw [e1, e2, e3] at he
          exact ih _ _ y _ _ (by omega) (by omega) (by omega) hst' (by rw [hy]; exact he)
        · rw [if_pos (by omega)] at he; rw [← he] at h; exact h
  have hs64 := hw.sn64 hs (show (G 0 6) < 10 by omega)
  refine e_X7_hoursIn _ _ _ _ _ ?_
  rw [m2, hG.1]
  refine ⟨ct_o hk, fun v hv => ⟨ct_o hk, ?_⟩⟩
  rw [hv, hG.2.2.2.2.2.1, ct_l5 hk]
  exact ⟨⟨ct_a5 hk, by omega, by omega⟩, s_X2_seeing hc (by omega) (by omega) hs64.1 hs64.2 w0 (by omega) (key 100 _ _ 0 0 _ (by omega) (by omega) (by omega) (st_start hw hs) rfl)⟩
