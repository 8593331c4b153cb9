/-! THE CLASS, its whole state told by what both sides share -/
/-- no more different ones than there are -/
theorem php {f : Int → Int} {m : Int} (m0 : 0 ≤ m) : ∀ s : Nat, (∀ i : Int, 0 ≤ i → i < s → 0 ≤ f i ∧ f i < m) → (∀ i j : Int, 0 ≤ i → i < j → j < s → f i ≠ f j) → s ≤ cnt_ (fun v => decide (0 ≤ fst_ (fun i => decide (f i = v)) s)) m.toNat := by
  intro s; induction s with
  | zero => intro _ _; exact Nat.zero_le _
  | succ s ih =>
    intro h1 h2
    have h3 := ih (fun i a b => h1 i a (by omega)) (fun i j a b c => h2 i j a b (by omega))
    have hr := h1 s (by omega) (by omega)
    have hlt : cnt_ (fun v => decide (0 ≤ fst_ (fun i => decide (f i = v)) s)) m.toNat < cnt_ (fun v => decide (0 ≤ fst_ (fun i => decide (f i = v)) (s + 1))) m.toNat := by
      refine cnt_lt _ (f s) hr.1 (by omega) (fun i i0 i1 hi => ?_) ?_ ?_
      · rw [decide_eq_true_eq] at hi ⊢
        unfold fst_; rw [if_pos hi]; exact hi
      · rw [decide_eq_false_iff_not]
        rw [fst_no _ (fun i a b => decide_eq_false (h2 i s a b (by omega)))]; decide
      · rw [decide_eq_true_eq]
        unfold fst_; split
        · assumption
        · rw [if_pos (decide_eq_true rfl)]; omega
    omega
theorem php_le {f : Int → Int} {m s : Int} (m0 : 0 ≤ m) (s0 : 0 ≤ s) (h1 : ∀ i : Int, 0 ≤ i → i < s → 0 ≤ f i ∧ f i < m) (h2 : ∀ i j : Int, 0 ≤ i → i < j → j < s → f i ≠ f j) : s ≤ m := by
  have h := php (f := f) m0 s.toNat (fun i a b => h1 i a (by omega)) (fun i j a b c => h2 i j a b (by omega))
  have := cnt_le (fun v => decide (0 ≤ fst_ (fun i => decide (f i = v)) s.toNat)) m.toNat
  omega
def difR (ord : Int → Int) (sz : Int) : Prop := ∀ i j : Int, 0 ≤ i → i < j → j < sz → ord i ≠ ord j
def adI (c : Int) (G : Lnd) (M : aM) : Prop := M 65 7 = c ∧ (∀ k, 0 ≤ k → k < 729 → M 69 k = 0) ∧ (M 65 8 = 0 ∨ (M 65 8 = 1 ∧ M 65 9 = (frE G).1 ∧ ∀ i, 0 ≤ i → i < 6 → M 72 i = gL (frE G).2 i)) ∧ (∀ r, 0 ≤ r → r < (G 0 3) → M 70 r = -9 ∨ M 70 r = kpF G r) ∧ (∀ r, 0 ≤ r → r < (G 0 3) → M 71 r = -9 ∨ M 71 r = egF G r)
def bbI (c : Int) (G : Lnd) (L : Int) (M : aM) (W : aW) : Prop := beI c G M ∧ suM M W L ∧ 126 ≤ W.2.2.1 ∧ (M 78 0 = 1 → thr_ ((G 0 3)) * (G 0 0) * 49 ≤ L)
/-- what plans stand on: solved tables, the ROW, RULES -/
def pdO (G : Lnd) (D : Int → Int → Int) : Prop := D 0 = D0 G ∧ D 1 = D1 G ∧ D 2 = D2 G ∧ rowO G (D 5) (D 10 0) ∧ difR (D 5) (D 10 0) ∧ hanO G D
def plI (G : Lnd) (D : Int → Int → Int) (M : aM) : Prop := pdO G D ∧ (M 36 11 = D 10 0 ∧ ∀ i, 0 ≤ i → i < D 10 0 → M 46 i = D 5 i) ∧ (M 31 0 = D 30 0 ∧ ∀ i, 0 ≤ i → i < D 30 0 → M 32 i = D 20 i ∧ M 33 i = D 21 i ∧ (0 ≤ D 21 i → M 34 i = D 22 i) ∧ M 35 i = D 23 i)
def taM (tn : Int) (tp : Int → Int) (M : aM) : Prop := (0 ≤ tn ∧ tn ≤ 600) ∧ M 0 1 = tn ∧ ∀ i, 0 ≤ i → i < tn → M 1 i = tp i ∧ -128 ≤ tp i ∧ tp i ≤ 127
def faI (fk fp : Int) (M : aM) : Prop := M 0 2 = fk ∧ M 0 3 = fp
def clS (c : Int) (G : Lnd) (D : Int → Int → Int) (on w n : Int) (wp wh wk : Int → Int) (tn : Int) (tp : Int → Int) (fk fp L : Int) (M : aM) (W : aW) : Prop := (M 0 4 = c ∧ M 0 5 = 13 - c) ∧ clP c G M ∧ slv G M ∧ adI c G M ∧ bbI c G L M W ∧ plI G D M ∧ joM G on w n wp wh wk M ∧ taM tn tp M ∧ faI fk fp M
theorem planOK_of {G : Lnd} (hw : WF G) {D : Int → Int → Int} (hD : pdO G D) {plan : Int} (p0 : 0 ≤ plan) (p6 : plan ≤ 6) : planOK G D plan := by
  have hN := hw.N; unfold wfN at hN
  obtain ⟨d0, d1, d2, hr, -, hh⟩ := hD
  refine ⟨by omega, fun h2 k k0 k1 hl p q0 q1 => ?_, fun _ => hr, fun h => by omega, fun _ => hh⟩
  rcases (show plan = 0 ∨ plan = 1 ∨ plan = 2 by omega) with e | e | e
  · rw [e, d0]; unfold D0; rw [ixF_e _ q0 (by omega)]; exact actS_ok hw q0 q1
  · rw [e, d1]; unfold D1; rw [ixF_e _ q0 (by omega)]; exact actS_ok hw q0 q1
  · rw [e, d2]; unfold D2; split
    · exact Or.inl rfl
    · rw [ixF_e _ q0 (by omega)]; exact actS_ok hw q0 q1
theorem clD_of {G : Lnd} (hw : WF G) {D : Int → Int → Int} {M : aM} (hS : slv G M) (hP : plI G D M) {plan : Int} (p0 : 0 ≤ plan) (p6 : plan ≤ 6) (h1 : plan ≤ 2 → M 45 plan = 1) : clD G D plan M := by
  have hN := hw.N; unfold wfN at hN
  obtain ⟨⟨d0, d1, d2, hr, -, hh⟩, hrow, hhan⟩ := hP
  obtain ⟨s0, s1, s2⟩ := hS
  refine ⟨fun e k k0 k1 hl p q0 q1 => ?_, fun e k k0 k1 hl p q0 q1 => ?_, fun e k k0 k1 hl p q0 q1 => ?_, fun e => ⟨hr, hrow⟩, fun e => by omega, fun e => ⟨hh, hhan⟩⟩
  · have h2 := h1 (by omega)
    rw [e] at h2
    rcases s0 with q | ⟨-, q⟩
    · omega
    · rw [d0]; unfold D0; rw [ixF_e _ q0 (by omega)]; exact (q k k0 k1 hl p q0 q1).2
  · have h2 := h1 (by omega)
    rw [e] at h2
    rcases s1 with q | ⟨-, q⟩
    · omega
    · rw [d1]; unfold D1; rw [ixF_e _ q0 (by omega)]; exact (q k k0 k1 hl p q0 q1).2
  · have h2 := h1 (by omega)
    rw [e] at h2
    rcases s2 with q | ⟨-, q⟩
    · omega
    · rw [d2]; exact q k k0 k1 hl p q0 q1
theorem best_of {G : Lnd} {M : aM} (hS : slv G M) (h : M 45 0 = 1) : bestM G M := by
  rcases hS.1 with q | ⟨-, q⟩
  · omega
  · exact q
theorem adI.of {c : Int} {G : Lnd} {M N : aM} (h : adI c G M) (hN : ∀ b j, 65 ≤ b → b ≤ 72 → N b j = M b j) : adI c G N := by
  obtain ⟨h7, h69, h8, h70, h71⟩ := h
  refine ⟨by rw [hN _ _ (by decide) (by decide)]; exact h7, fun k a b => by rw [hN _ _ (by decide) (by decide)]; exact h69 k a b, ?_, fun r a b => by rw [hN _ _ (by decide) (by decide)]; exact h70 r a b, fun r a b => by rw [hN _ _ (by decide) (by decide)]; exact h71 r a b⟩
  rw [hN 65 8 (by decide) (by decide), hN 65 9 (by decide) (by decide)]
  rcases h8 with e | ⟨e1, e2, e3⟩
  · exact Or.inl e
  · exact Or.inr ⟨e1, e2, fun i a b => by rw [hN _ _ (by decide) (by decide)]; exact e3 i a b⟩
theorem bbI.of {c : Int} {G : Lnd} {L : Int} {M N : aM} {W : aW} (h : bbI c G L M W) (hN : ∀ b j, (b = 78 ∨ b = 79 ∨ 126 ≤ b) → N b j = M b j) : bbI c G L N W := by
  obtain ⟨h1, h2, h3, h4⟩ := h
  have e2 := hN 78 2 (Or.inl rfl)
  have e0 := hN 78 0 (Or.inl rfl)
  obtain ⟨s1, s2, s3, s4⟩ := h2
  refine ⟨?_, ⟨by rw [e2]; exact s1, by rw [e2]; exact s2, by rw [e2]; exact s3, s4⟩, h3, by rw [e0]; exact h4⟩
  unfold beI
  rw [e0, hN 78 5 (Or.inl rfl)]
  rcases h1 with e | ⟨e1, e5, eT⟩
  · exact Or.inl e
  · exact Or.inr ⟨e1, e5, fun k hh k0 k1 q0 q1 p p0 p1 => by rw [e2, hN _ _ (by omega)]; exact eT k hh k0 k1 q0 q1 p p0 p1⟩
theorem plI.of {G : Lnd} {D : Int → Int → Int} {M N : aM} (h : plI G D M) (hN : ∀ b j, (b = 36 ∧ j = 11) ∨ b = 46 ∨ (31 ≤ b ∧ b ≤ 35) → N b j = M b j) : plI G D N := by
  obtain ⟨h1, ⟨h2, h3⟩, h4, h5⟩ := h
  refine ⟨h1, ⟨by rw [hN _ _ (by omega)]; exact h2, fun i a b => by rw [hN _ _ (by omega)]; exact h3 i a b⟩, by rw [hN _ _ (by omega)]; exact h4, fun i a b => by rw [hN 32 _ (by omega), hN 33 _ (by omega), hN 34 _ (by omega), hN 35 _ (by omega)]; exact h5 i a b⟩
theorem joM.of {G : Lnd} {on w n : Int} {wp wh wk : Int → Int} {M N : aM} (h : joM G on w n wp wh wk M) (hN : ∀ b j, 82 ≤ b → b ≤ 85 → N b j = M b j) : joM G on w n wp wh wk N := by
  obtain ⟨h0, h1, h2⟩ := h
  refine ⟨by rw [hN _ _ (by decide) (by decide)]; exact h0, h1, fun e => ?_⟩
  obtain ⟨a, b, c, d⟩ := h2 e
  exact ⟨a, by rw [hN _ _ (by decide) (by decide)]; exact b, by rw [hN _ _ (by decide) (by decide)]; exact c, fun i i0 i1 => by rw [hN 83 _ (by decide) (by decide), hN 84 _ (by decide) (by decide), hN 85 _ (by decide) (by decide)]; exact d i i0 i1⟩
theorem taM.of {tn : Int} {tp : Int → Int} {M N : aM} (h : taM tn tp M) (hN : ∀ b j, (b = 0 ∧ j = 1) ∨ b = 1 → N b j = M b j) : taM tn tp N := ⟨h.1, by rw [hN _ _ (by omega)]; exact h.2.1, fun i a b => by rw [hN _ _ (by omega)]; exact h.2.2 i a b⟩
/-- a call that leaves all but the plans' tables (and what changes the state) -/
theorem clS.prep {c : Int} {G : Lnd} {D : Int → Int → Int} {on w n : Int} {wp wh wk : Int → Int} {tn : Int} {tp : Int → Int} {fk fp L : Int} {M N : aM} {W : aW} (h : clS c G D on w n wp wh wk tn tp fk fp L M W) (hpr : prF M N) (hs : slv G N) : clS c G D on w n wp wh wk tn tp fk fp L N W := by
  obtain ⟨⟨h1, h2⟩, h3, h4, h5, h6, h7, h8, h9, h10, h11⟩ := h
  have e : ∀ b j, b < 36 ∨ b = 46 ∨ 64 ≤ b ∨ (b = 36 ∧ j = 11) → N b j = M b j := fun b j hb => hpr b j (by omega) (by omega) (by omega) (by omega)
  exact ⟨⟨by rw [e _ _ (by omega)]; exact h1, by rw [e _ _ (by omega)]; exact h2⟩, hpr.P h3, hs, h5.of (fun b j a c => e b j (by omega)), h6.of (fun b j a => e b j (by omega)), h7.of (fun b j a => e b j (by omega)), h8.of (fun b j a c => e b j (by omega)), h9.of (fun b j a => e b j (by omega)), by rw [e _ _ (by omega)]; exact h10, by rw [e _ _ (by omega)]; exact h11⟩
/-- the reference's cells and the language are as they were -/
def frC (M N : aM) : Prop := ∀ b j, (b = 21 ∨ 86 ≤ b) → b ≤ 125 → N b j = M b j
theorem frC_pr {M N : aM} (h : prF M N) : frC M N := fun b j a c => h b j (by omega) (by omega) (by omega) (by omega)
theorem frC_ag {lo hi : Int} {M N : aM} (h : ag lo hi M N) (hh : hi < 86) (hl : 21 < lo ∨ hi < 21 := by decide) : frC M N := fun b j a c => h b j (by omega)
theorem frC_refl (M : aM) : frC M M := fun _ _ _ _ => rfl
theorem frC_tr {M N K : aM} (h1 : frC M N) (h2 : frC N K) : frC M K := fun b j a c => (h2 b j a c).trans (h1 b j a c)
theorem slv_T {G : Lnd} {M N : aM} (h : slv G M) (hT : agT M N) : slv G N := h.of (fun b j hb => hT b j (by omega))
def ends (G : Lnd) : Prop := 0 ≤ (G 0 6) ∧ 0 ≤ (G 0 7)
theorem s_X11_lacksPlan {M : aM} {W : aW} {Q : Int → aM → aW → Prop} {G : Lnd} {c plan : Int} (h4 : M 0 4 = c) (hP : clP c G M) (hp : inI plan) (h : ∀ r, (r = 0 ∧ 0 ≤ plan ∧ plan ≤ 6 ∧ 0 ≤ (G 0 6) ∧ 0 ≤ (G 0 7)) ∨ (r = 1 ∧ ¬ (0 ≤ plan ∧ plan ≤ 6 ∧ 0 ≤ (G 0 6) ∧ 0 ≤ (G 0 7))) → Q r M W) : CallI 150 [vR 0, vI plan] (M, W) Q := by
  refine e_X11_lacksPlan _ _ _ _ ?_
  rw [h4]
  refine ⟨by omega, fun hl => ⟨Or.inr rfl, h 1 (by omega)⟩, fun hl => ⟨by omega, fun hg => ⟨Or.inr rfl, h 1 (by omega)⟩, fun hg => ⟨ct_o hP.1, s_X3_hasEnds hP.1 hP.2.1 hP.2.2.1 (fun r hr => ⟨by omega, fun hn => ⟨Or.inl rfl, h 0 (by omega)⟩, fun hz => ⟨Or.inr rfl, h 1 (by omega)⟩⟩)⟩⟩⟩
theorem s_X11_isLikely {M : aM} {W : aW} {Q : Int → aM → aW → Prop} {G : Lnd} {c k : Int} (h4 : M 0 4 = c) (hP : clP c G M) (hk : inI k) (h : ∀ r, (r = 1 ∧ 0 ≤ k ∧ k < thr_ ((G 0 3)) ∧ 0 < lkG G k) ∨ (r = 0 ∧ ¬ (0 ≤ k ∧ k < thr_ ((G 0 3)) ∧ 0 < lkG G k)) → Q r M W) : CallI 151 [vR 0, vI k] (M, W) Q := by
  have ht := thrG hP.2.2.1
  have hl := lkG_rng hP.2.2.1 k
  refine e_X11_isLikely _ _ _ _ ?_
  rw [h4]
  refine ⟨ct_o hP.1, s_X3_hasKnown hP.1 hP.2.1 hP.2.2.1 hk (fun r hr => ⟨by omega, fun hz => ⟨Or.inl rfl, h 0 (by omega)⟩, fun hn => ?_⟩)⟩
  have hm := hP.2.2.2.2.2.2.1 k (by omega) (by omega)
  rw [hm]
  exact ⟨by omega, by omega, fun hle => ⟨Or.inl rfl, h 0 (by omega)⟩, fun hgt => ⟨Or.inr rfl, h 1 (by omega)⟩⟩
