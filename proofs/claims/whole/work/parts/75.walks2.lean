/-! THE REFERENCE's calls: walks, look -/
theorem rfS.walk {G : Lnd} {D : Int → Int → Int} {on w n tn fk fp on' w' n' : Int} {wp wh wk tp wp' wh' wk' : Int → Int} {M N : aM} (h : rfS G D on w n wp wh wk tn tp fk fp M) (e : ∀ b j, ¬ (b = 86 ∧ 54 ≤ j ∧ j ≤ 56) → ¬ (122 ≤ b ∧ b ≤ 124) → N b j = M b j) (hj : rjM G on' w' n' wp' wh' wk' N) : rfS G D on' w' n' wp' wh' wk' tn tp fk fp N := h.part (fun b j c1 c2 c3 c4 => e b j (by omega) c4) (h.p.of (fun b j c => e b j (by omega) (by omega))) hj
theorem s_X12_canWalk {M : aM} {W : aW} {Q : Int → aM → aW → Prop} {G : Lnd} {on w n : Int} {wp wh wk : Int → Int} (hG : rfG G M) (hJ : rjM G on w n wp wh wk M) (h : ∀ r, (r = 0 ∧ ¬ (on = 1 ∧ n < 100 ∧ wp n ≠ (G 0 7))) ∨ (r = 1 ∧ on = 1 ∧ n < 100 ∧ wp n ≠ (G 0 7)) → Q r M W) : CallI 259 [vR 86] (M, W) Q := by
  have hn := hG.n
  obtain ⟨j1, j2, j3⟩ := hJ
  refine e_X12_canWalk _ _ _ ?_
  rw [j1]
  refine ⟨by omega, fun hz => ⟨Or.inl rfl, h 0 (by omega)⟩, fun hnz => ?_⟩
  obtain ⟨⟨jn, jw, jr⟩, j5, j6, j7⟩ := j3 (by omega)
  rw [j6]
  have hr := jr n jn.1 (Int.le_refl _)
  refine ⟨by omega, fun hge => ⟨Or.inl rfl, h 0 (by omega)⟩, fun hlt => ?_⟩
  rw [(j7 n jn.1 (Int.le_refl _)).1, hG.N.2.2.2.2.2.2]
  exact ⟨by omega, by omega, fun he => ⟨Or.inl rfl, h 0 (by omega)⟩, fun hne => ⟨Or.inr rfl, h 1 (by omega)⟩⟩
theorem r_back {Q : Int → aM → aW → Prop} {M : aM} {W : aW} {G : Lnd} {D : Int → Int → Int} {on w n tn fk fp : Int} {wp wh wk tp : Int → Int} (h : rfS G D on w n wp wh wk tn tp fk fp M) (k1 : ¬ (on = 1 ∧ n ≠ 0) → ∀ N, frK M N → rfS G D on w n wp wh wk tn tp fk fp N → Q (-1) N W) (k2 : on = 1 ∧ n ≠ 0 → ∀ N, frK M N → rfS G D 1 w (n - 1) wp wh wk tn tp fk fp N → Q (n - 1) N W) : CallI 262 [vR 86] (M, W) Q := by
  have h2 := h.thr (v := 0)
  have fr := frK_thr M 0
  refine e_X12_back _ _ _ ?_
  generalize up_ M 86 2 0 = M1 at *
  obtain ⟨j1, j2, j3⟩ := h2.j
  rw [j1]
  refine ⟨by omega, fun hz => k1 (by omega) M1 fr h2, fun hnz => ?_⟩
  have o1 : on = 1 := by omega
  obtain ⟨⟨jn, jw, jr⟩, j5, j6, j7⟩ := j3 o1
  rw [j6, up_s]
  refine ⟨by omega, fun hne => ?_, fun heq => k1 (fun a => heq a.2) M1 fr h2⟩
  refine k2 ⟨o1, hne⟩ _ (frK_tr fr (frK_up (by decide))) (h2.walk (fun b j c1 c2 => by unfold up_; exact if_neg (by omega)) ⟨by rw [up_j _ _ _ (by decide), j1]; exact o1, Or.inr rfl, fun _ => ⟨⟨by omega, jw, fun i i0 i1 => jr i i0 (by omega)⟩, by rw [up_j _ _ _ (by decide)]; exact j5, up_s _ _ _ _, fun i i0 i1 => by rw [up_b _ _ _ (b := 122) _ (by decide), up_b _ _ _ (b := 123) _ (by decide), up_b _ _ _ (b := 124) _ (by decide)]; exact j7 i i0 (by omega)⟩⟩)
theorem r_walk {Q : Int → aM → aW → Prop} {M : aM} {W : aW} {G : Lnd} {D : Int → Int → Int} {on w n tn fk fp : Int} {wp wh wk tp : Int → Int} {what : Int} (h : rfS G D on w n wp wh wk tn tp fk fp M) (hi : inI what) (k : ∀ N, frK M N → rfS G D on w n wp wh wk tn tp fk fp N → Q (teF G on w n wp wh wk what) N W) : CallI 263 [vR 86, vI what] (M, W) Q := by
  have kk := k _ (frK_thr M 0) h.thr
  have h2 := h.thr (v := 0)
  have hn := h2.G.n
  unfold teF at kk
  refine e_X12_walk _ _ _ _ ?_
  generalize up_ M 86 2 0 = M1 at *
  obtain ⟨j1, j2, j3⟩ := h2.j
  rw [j1]
  refine ⟨by omega, fun hnz => ?_, fun hz => ?_⟩
  · have o1 : on = 1 := by omega
    obtain ⟨⟨jn, jw, jr⟩, j5, j6, j7⟩ := j3 o1
    have hr := jr n jn.1 (Int.le_refl _)
    have j8 := j7 n jn.1 (Int.le_refl _)
    rw [j6, j5, j8.1, j8.2.1, j8.2.2, h2.G.N.2.2.2.2.2.2]
    rw [if_neg hnz] at kk
    refine ⟨hi, fun q0 => ⟨by omega, ?_⟩, fun q0 => ⟨fun q1 => ⟨by omega, ?_⟩, fun q1 => ⟨fun q2 => ⟨by omega, ?_⟩, fun q2 => ⟨fun q3 => ?_, fun q3 => ⟨fun q4 => ?_, fun q4 => ⟨fun q5 => ⟨by omega, by omega, fun q6 => ?_, fun q6 => ?_⟩, fun q5 => ?_⟩⟩⟩⟩⟩⟩
    · rw [if_pos q0] at kk; exact kk
    · rw [if_neg q0, if_pos q1] at kk; exact kk
    · rw [if_neg q0, if_neg q1, if_pos q2] at kk; exact kk
    · rw [if_neg q0, if_neg q1, if_neg q2, if_pos q3] at kk; exact kk
    · rw [if_neg q0, if_neg q1, if_neg q2, if_neg q3, if_pos q4] at kk; exact kk
    · rw [if_neg q0, if_neg q1, if_neg q2, if_neg q3, if_neg q4, if_pos q5, if_neg q6] at kk; exact kk
    · rw [if_neg q0, if_neg q1, if_neg q2, if_neg q3, if_neg q4, if_pos q5, if_pos (Classical.byContradiction q6)] at kk; exact kk
    · rw [if_neg q0, if_neg q1, if_neg q2, if_neg q3, if_neg q4, if_neg q5] at kk; exact kk
  · rw [if_pos (Classical.byContradiction hz)] at kk; exact kk
theorem s_X12_fails {M : aM} {W : aW} {Q : Int → aM → aW → Prop} {x : Int} (h : Q 0 (up_ M 86 2 x) W) : CallI 198 [vR 86, vI x] (M, W) Q := by
  refine e_X12_fails _ _ _ _ ?_
  exact h
theorem r_thrown {M : aM} {W : aW} {Q : Int → aM → aW → Prop} (h : Q (M 86 2) M W) : CallI 153 [vR 86] (M, W) Q := by
  refine e_X12_thrown _ _ _ ?_
  exact h
theorem r_look {Q : Int → aM → aW → Prop} {M : aM} {W : aW} {G : Lnd} {D : Int → Int → Int} {on w n tn fk fp : Int} {wp wh wk tp : Int → Int} {x what : Int} (h : rfS G D on w n wp wh wk tn tp fk fp M) (hi : inI x) (hj : inI what) (k1 : ¬ (0 ≤ x ∧ x < (G 0 2)) → ∀ N, frK M N → rfS G D on w n wp wh wk tn tp fk fp N → N 86 2 = 1 → Q 0 N W) (k2 : 0 ≤ x ∧ x < (G 0 2) → ¬ (0 ≤ what ∧ what ≤ 6) → ∀ N, frK M N → rfS G D on w n wp wh wk tn tp fk fp N → N 86 2 = 2 → Q 0 N W) (k3 : 0 ≤ x ∧ x < (G 0 2) → 0 ≤ what ∧ what ≤ 6 → ∀ N, frK M N → rfS G D on w n wp wh wk tn tp fk fp N → N 86 2 = 0 → Q ((G 2 (x * 7 + what))) N W) : CallI 199 [vR 86, vI x, vI what] (M, W) Q := by
  have h2 := h.thr (v := 0)
  have fr := frK_thr M 0
  have hn := h2.G.n
  have e2 : up_ M 86 2 0 86 2 = 0 := up_s _ _ _ _
  refine e_X12_look _ _ _ _ _ ?_
  generalize up_ M 86 2 0 = M1 at *
  rw [h2.G.N.2.2.1]
  refine ⟨hi, fun hneg => s_X12_fails (k1 (by omega) _ (frK_tr fr (frK_thr _ _)) h2.thr (up_s _ _ _ _)), fun hpos => ⟨by omega, fun hlt => s_X12_isIn hj (by decide) (by decide) (fun r hr => ⟨by omega, fun hz => s_X12_fails (k2 (by omega) (by omega) _ (frK_tr fr (frK_thr _ _)) h2.thr (up_s _ _ _ _)), fun hnz => ⟨by omega, ?_⟩⟩), fun hge => s_X12_fails (k1 (by omega) _ (frK_tr fr (frK_thr _ _)) h2.thr (up_s _ _ _ _))⟩⟩
  rw [h2.G.r93 (by omega) hlt (by omega) (by omega)]
  exact k3 (by omega) (by omega) M1 fr h2 e2
theorem r_go {Q : Int → aM → aW → Prop} {M : aM} {W : aW} {G : Lnd} {D : Int → Int → Int} {on w n tn fk fp : Int} {wp wh wk tp : Int → Int} {q : Int} (h : rfS G D on w n wp wh wk tn tp fk fp M) (hi : inI q) (k1 : ¬ goQ G on n wp wk q → ∀ N, frK M N → rfS G D on w n wp wh wk tn tp fk fp N → Q (-1) N W) (k2 : goQ G on n wp wk q → ∀ N, frK M N → rfS G D 1 w (n + 1) (upF wp (n + 1) q) (upF wh (n + 1) (wh n + pas G (wp n) q (wk n))) (upF wk (n + 1) (lrn (wk n) ((G 5 q)) w)) tn tp fk fp N → Q (wh n + pas G (wp n) q (wk n)) N W) : CallI 260 [vR 86, vI q] (M, W) Q := by
  have h2 := h.thr (v := 0)
  have fr := frK_thr M 0
  have hn := h2.G.n
  have ht := h2.G.t
  have hw := h2.G.W
  have no : ¬ goQ G on n wp wk q → Q (-1) (up_ M 86 2 0) W := fun hno => k1 hno _ fr h2
  refine e_X12_go _ _ _ _ ?_
  generalize up_ M 86 2 0 = M1 at *
  refine s_X12_canWalk h2.G h2.j (fun r hr => ⟨by omega, fun hz => no (fun a => by have := a.2; omega), fun hz => s_X12_isPlace h2.G hi (fun r2 hr2 => ⟨by omega, fun hnz => ?_, fun hnz => no (fun a => by have := a.1; omega)⟩)⟩)
  have hg : on = 1 ∧ n < 100 ∧ wp n ≠ (G 0 7) := by omega
  obtain ⟨j1, j2, j3⟩ := h2.j
  obtain ⟨⟨jn, jw, jr⟩, j5, j6, j7⟩ := j3 hg.1
  have hrn := jr n jn.1 (Int.le_refl _)
  have j8 := j7 n jn.1 (Int.le_refl _)
  rw [j6, j8.1, j8.2.2, h2.G.b98 hrn.1.1 (by omega) (by omega) (by omega)]
  have hbr := pasB_hr hw (p := wp n) (q := q) (op := opn (wk n)) (sh := sht (wk n)) hrn.1.1 (by omega) (by omega) (by omega)
  have hbl := hw.btw_lt (p := wp n) (q := q) hrn.1.1 (by omega) (by omega) (by omega)
  have hpe : pas G (wp n) q (wk n) = pasB G (wp n) q (opn (wk n)) (sht (wk n)) := rfl
  have hpr := pasB_rng hw (p := wp n) (q := q) (op := opn (wk n)) (sh := sht (wk n)) hrn.1.1 (by omega) (by omega) (by omega)
  refine ⟨by omega, by omega, fun v ev => ?_⟩
  rw [ev]
  refine ⟨by omega, fun hb => ⟨by omega, s_X12_hoursOf h2.G hb (by omega) hrn.2.1.1 (by omega) ?_⟩, fun hb => ⟨by decide, fun y => absurd y (by decide), fun _ => no (fun a => by have := a.2.2.2.2; have := hbr.1 (by omega); omega)⟩⟩
  obtain ⟨hb1, hb2⟩ := hbr.2 hb
  have hhr := hrB_rng hw (op := opn (wk n)) (sh := sht (wk n)) hb hb1
  refine ⟨by omega, fun hge => ?_, fun hneg => no (fun a => by have := a.2.2.2.2; rcases hb2 with c | c <;> omega)⟩
  have eh : hrB G ((G 4 ((wp n) * 10 + q))) (opn (wk n)) (sht (wk n)) = pas G (wp n) q (wk n) := by rcases hb2 with c | c <;> omega
  have hQ : goQ G on n wp wk q := ⟨by omega, hg.1, hg.2.1, hg.2.2, by omega⟩
  rw [eh]
  have hpp : 0 ≤ pas G (wp n) q (wk n) ∧ pas G (wp n) q (wk n) ≤ 198 := hpr
  generalize pas G (wp n) q (wk n) = hp at *
  have a1 : up_ M1 122 (n + 1) q 86 56 = n := by rw [up_b _ _ _ _ (by decide)]; exact j6
  have a2 : up_ M1 122 (n + 1) q 123 n = wh n := by rw [up_b _ _ _ _ (by decide)]; exact j8.2.1
  rw [j6, a1, a2]
  have a3 : up_ (up_ M1 122 (n + 1) q) 123 (n + 1) (wh n + hp) 86 56 = n := by rw [up_b _ _ _ _ (by decide)]; exact a1
  have a4 : up_ (up_ M1 122 (n + 1) q) 123 (n + 1) (wh n + hp) 124 n = wk n := by rw [up_b _ _ _ _ (by decide), up_b _ _ _ _ (by decide)]; exact j8.2.2
  have a5 : up_ (up_ M1 122 (n + 1) q) 123 (n + 1) (wh n + hp) 86 55 = w := by rw [up_b _ _ _ _ (by decide), up_b _ _ _ _ (by decide)]; exact j5
  rw [a3, a4, a5]
  have gA : rfG G (up_ (up_ M1 122 (n + 1) q) 123 (n + 1) (wh n + hp)) := h2.G.of (fun b j c => by unfold inG at c; rw [up_b _ _ _ _ (by omega), up_b _ _ _ _ (by omega)])
  refine ⟨by omega, by omega, by omega, by omega, s_X12_learns gA (by omega) (by omega) hrn.2.1.1 (by omega) jw.1 (by omega) ?_⟩
  have a6 : up_ (up_ (up_ M1 122 (n + 1) q) 123 (n + 1) (wh n + hp)) 124 (n + 1) (lrn (wk n) ((G 5 q)) w) 86 56 = n := by rw [up_b _ _ _ _ (by decide)]; exact a3
  rw [a6, up_s]
  generalize hN : up_ (up_ (up_ (up_ M1 122 (n + 1) q) 123 (n + 1) (wh n + hp)) 124 (n + 1) (lrn (wk n) ((G 5 q)) w)) 86 56 (n + 1) = N
  have e123 : N 123 (n + 1) = wh n + hp := by rw [← hN, up_b _ _ _ _ (by decide), up_b _ _ _ _ (by decide), up_s]
  rw [e123]
  refine ⟨by omega, by omega, k2 hQ N (frK_tr fr (fun b j c => by rw [← hN, up_b _ _ _ _ (by omega), up_b _ _ _ _ (by omega), up_b _ _ _ _ (by omega), up_b _ _ _ _ (by omega)])) (h2.walk (fun b j c1 c2 => ?_) ⟨?_, Or.inr rfl, fun _ => ⟨⟨by omega, jw, fun i i0 i1 => ?_⟩, ?_, ?_, fun i i0 i1 => ?_⟩⟩)⟩
  · rw [← hN, show ∀ K : aM, up_ K 86 56 (n + 1) b j = K b j from fun K => if_neg (by omega), up_b _ _ _ _ (by omega), up_b _ _ _ _ (by omega), up_b _ _ _ _ (by omega)]
  · rw [← hN, up_j _ _ _ (by decide), up_b _ _ _ _ (by decide), up_b _ _ _ _ (by decide), up_b _ _ _ _ (by decide), j1]; exact hg.1
  · unfold upF
    by_cases e : i = n + 1
    · rw [if_pos e, if_pos e, if_pos e]
      have hll := lrn_lt hw (w := w) hrn.2.1.1 hrn.2.1.2 (hw.S.1 q (by omega) (by omega)).1 (hw.S.1 q (by omega) (by omega)).2
      have hlr := lrn_rng (wk n) ((G 5 q)) w
      omega
    · rw [if_neg e, if_neg e, if_neg e]; exact jr i i0 (by omega)
  · rw [← hN, up_j _ _ _ (by decide), up_b _ _ _ _ (by decide)]; exact a5
  · rw [← hN, up_s]
  · rw [← hN]
    unfold upF
    rw [up_b _ _ _ (b := 122) _ (by decide), up_b _ _ _ (b := 122) _ (by decide), up_b _ _ _ (b := 122) _ (by decide), up_b _ _ _ (b := 123) _ (by decide), up_b _ _ _ (b := 123) _ (by decide), up_b _ _ _ (b := 124) _ (by decide)]
    by_cases e : i = n + 1
    · rw [if_pos e, if_pos e, if_pos e, e, up_s, up_s, up_s]; exact ⟨rfl, rfl, rfl⟩
    · rw [if_neg e, if_neg e, if_neg e, up_j _ _ _ e, up_j _ _ _ e, up_j _ _ _ e, up_b _ _ _ (b := 123) _ (by decide), up_b _ _ _ (b := 124) _ (by decide), up_b _ _ _ (b := 124) _ (by decide)]; exact j7 i i0 (by omega)
theorem r_buy {Q : Int → aM → aW → Prop} {M : aM} {W : aW} {G : Lnd} {D : Int → Int → Int} {on w n tn fk fp : Int} {wp wh wk tp : Int → Int} {d : Int} (h : rfS G D on w n wp wh wk tn tp fk fp M) (hi : inI d) (k1 : ¬ buQ G on n wp wk d → ∀ N, frK M N → rfS G D on w n wp wh wk tn tp fk fp N → Q (-1) N W) (k2 : buQ G on n wp wk d → ∀ N, frK M N → rfS G D 1 w (n + 1) (upF wp (n + 1) (wp n)) (upF wh (n + 1) (wh n + G 8 d)) (upF wk (n + 1) (lrn (wk n) (p2_ (G 7 d)) w)) tn tp fk fp N → Q (bt w (G 7 d) + 1) N W) : CallI 261 [vR 86, vI d] (M, W) Q := by
  have h2 := h.thr (v := 0)
  have fr := frK_thr M 0
  have hn := h2.G.n
  have ht := h2.G.t
  have hw := h2.G.W
  have no : ¬ buQ G on n wp wk d → Q (-1) (up_ M 86 2 0) W := fun hno => k1 hno _ fr h2
  refine e_X12_buy _ _ _ _ ?_
  generalize up_ M 86 2 0 = M1 at *
  refine s_X12_canWalk h2.G h2.j (fun r hr => ⟨by omega, fun hz => no (fun a => by have := a.2; omega), fun hz => ?_⟩)
  have hg : on = 1 ∧ n < 100 ∧ wp n ≠ (G 0 7) := by omega
  obtain ⟨j1, j2, j3⟩ := h2.j
  obtain ⟨⟨jn, jw, jr⟩, j5, j6, j7⟩ := j3 hg.1
  have hrn := jr n jn.1 (Int.le_refl _)
  have j8 := j7 n jn.1 (Int.le_refl _)
  rw [h2.G.N.2.2.2.2.1, j6, j8.1, j8.2.2]
  refine ⟨hi, fun hneg => no (fun a => by have := a.1; omega), fun hpos => ⟨by omega, fun hge => no (fun a => by have := a.1; omega), fun hlt => ⟨by omega, by omega, s_X12_isSold h2.G (by omega) (by omega) (by omega) hrn.2.1.1 (by omega) (fun c1 c2 => ⟨by decide, fun _ => ?_, fun y => absurd (by decide) y⟩) (fun hno => ⟨by decide, fun y => absurd rfl y, fun _ => no (fun a => hno a.2.2.2.2)⟩)⟩⟩⟩
  have hWw := hw.W d (by omega) (by omega)
  have hw96 := h2.G.w96 (w := d) (by omega) (by omega)
  have hQ : buQ G on n wp wk d := ⟨by omega, hg.1, hg.2.1, hg.2.2, c1, c2⟩
  rw [hw96.2.1, j5, j6, j8.1]
  refine ⟨by omega, fun v7 e7 v8 e8 => ?_⟩
  rw [e7, bit_e jw.1 (by omega) hWw.2.1.1 (by omega)] at e8
  rw [e7, e8]
  have a1 : up_ M1 122 (n + 1) (wp n) 86 56 = n := by rw [up_b _ _ _ _ (by decide)]; exact j6
  have a2 : up_ M1 122 (n + 1) (wp n) 123 n = wh n := by rw [up_b _ _ _ _ (by decide)]; exact j8.2.1
  have a2' : up_ M1 122 (n + 1) (wp n) 96 (3 * d + 2) = G 8 d := by rw [up_b _ _ _ _ (by decide)]; exact hw96.2.2
  rw [a1, a2, a2']
  have a3 : up_ (up_ M1 122 (n + 1) (wp n)) 123 (n + 1) (wh n + G 8 d) 86 56 = n := by rw [up_b _ _ _ _ (by decide)]; exact a1
  have a4 : up_ (up_ M1 122 (n + 1) (wp n)) 123 (n + 1) (wh n + G 8 d) 124 n = wk n := by rw [up_b _ _ _ _ (by decide), up_b _ _ _ _ (by decide)]; exact j8.2.2
  have a5 : up_ (up_ M1 122 (n + 1) (wp n)) 123 (n + 1) (wh n + G 8 d) 99 (G 7 d) = thr_ (G 7 d) := by rw [up_b _ _ _ _ (by decide), up_b _ _ _ _ (by decide)]; exact h2.G.D3 _ hWw.2.1.1 (by omega)
  have a6 : up_ (up_ M1 122 (n + 1) (wp n)) 123 (n + 1) (wh n + G 8 d) 86 55 = w := by rw [up_b _ _ _ _ (by decide), up_b _ _ _ _ (by decide)]; exact j5
  rw [a3, a4, a5]
  rw [← lrn_one (w := w) hrn.2.1.1 (by omega) hWw.2.1.1 (by omega) c2]
  have a7 : up_ (up_ (up_ M1 122 (n + 1) (wp n)) 123 (n + 1) (wh n + G 8 d)) 124 (n + 1) (lrn (wk n) (p2_ (G 7 d)) w) 86 56 = n := by rw [up_b _ _ _ _ (by decide)]; exact a3
  rw [a7]
  have hp2 := p2_lt hw hWw.2.1.1 hWw.2.1.2
  generalize hN : up_ (up_ (up_ (up_ M1 122 (n + 1) (wp n)) 123 (n + 1) (wh n + G 8 d)) 124 (n + 1) (lrn (wk n) (p2_ (G 7 d)) w)) 86 56 (n + 1) = N
  refine ⟨by omega, by omega, by omega, by omega, by omega, by omega, by omega, by omega, k2 hQ N (frK_tr fr (fun b j c => by rw [← hN, up_b _ _ _ _ (by omega), up_b _ _ _ _ (by omega), up_b _ _ _ _ (by omega), up_b _ _ _ _ (by omega)])) (h2.walk (fun b j c1 c2 => ?_) ⟨?_, Or.inr rfl, fun _ => ⟨⟨by omega, jw, fun i i0 i1 => ?_⟩, ?_, ?_, fun i i0 i1 => ?_⟩⟩)⟩
  · rw [← hN, show ∀ K : aM, up_ K 86 56 (n + 1) b j = K b j from fun K => if_neg (by omega), up_b _ _ _ _ (by omega), up_b _ _ _ _ (by omega), up_b _ _ _ _ (by omega)]
  · rw [← hN, up_j _ _ _ (by decide), up_b _ _ _ _ (by decide), up_b _ _ _ _ (by decide), up_b _ _ _ _ (by decide), j1]; exact hg.1
  · unfold upF
    by_cases e : i = n + 1
    · rw [if_pos e, if_pos e, if_pos e]
      have hll := lrn_lt hw (w := w) hrn.2.1.1 hrn.2.1.2 hp2.1 hp2.2.1
      have hlr := lrn_rng (wk n) (p2_ (G 7 d)) w
      omega
    · rw [if_neg e, if_neg e, if_neg e]; exact jr i i0 (by omega)
  · rw [← hN, up_j _ _ _ (by decide), up_b _ _ _ _ (by decide)]; exact a6
  · rw [← hN, up_s]
  · rw [← hN]
    unfold upF
    rw [up_b _ _ _ (b := 122) _ (by decide), up_b _ _ _ (b := 122) _ (by decide), up_b _ _ _ (b := 122) _ (by decide), up_b _ _ _ (b := 123) _ (by decide), up_b _ _ _ (b := 123) _ (by decide), up_b _ _ _ (b := 124) _ (by decide)]
    by_cases e : i = n + 1
    · rw [if_pos e, if_pos e, if_pos e, e, up_s, up_s, up_s]; exact ⟨rfl, rfl, rfl⟩
    · rw [if_neg e, if_neg e, if_neg e, up_j _ _ _ e, up_j _ _ _ e, up_j _ _ _ e, up_b _ _ _ (b := 123) _ (by decide), up_b _ _ _ (b := 124) _ (by decide), up_b _ _ _ (b := 124) _ (by decide)]; exact j7 i i0 (by omega)
theorem sOr_a {a b c : Int} : sOr (sOr a b) c = sOr a (sOr b c) := bt_ext (sOr_rng _ _).1 (sOr_rng _ _).2 (sOr_rng _ _).1 (sOr_rng _ _).2 (fun i i0 i6 => by
  rw [bt_sOr i0 i6, bt_sOr i0 i6, bt_sOr i0 i6, bt_sOr i0 i6]
  have h1 := bt_cs a i; have h2 := bt_cs b i; have h3 := bt_cs c i
  by_cases q1 : bt a i = 1
  · rw [if_pos (Or.inl (if_pos (Or.inl q1))), if_pos (Or.inl q1)]
  · by_cases q2 : bt b i = 1
    · rw [if_pos (Or.inl (if_pos (Or.inr q2))), if_pos (Or.inr (if_pos (Or.inl q2)))]
    · by_cases q3 : bt c i = 1
      · rw [if_pos (Or.inr q3), if_pos (Or.inr (if_pos (Or.inr q3)))]
      · have n1 : ¬ (bt a i = 1 ∨ bt b i = 1) := fun z => by omega
        have n2 : ¬ (bt b i = 1 ∨ bt c i = 1) := fun z => by omega
        rw [if_neg n1, if_neg n2, if_neg (fun z => by omega), if_neg (fun z => by omega)])
