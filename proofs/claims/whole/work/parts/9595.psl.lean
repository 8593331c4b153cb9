/-! THE PAIR over a written long row, over a dead cell -/
theorem clS.K2 {M : aM} {W : aW} {G : Lnd} {D : Int → Int → Int} {c on w n tn fk fp L : Int} {wp wh wk tp : Int → Int} {N : aM} (h : clS c G D on w n wp wh wk tn tp fk fp L M W) (e : ∀ b j, (b < 86 ∨ 126 ≤ b) → N b j = M b j) : clS c G D on w n wp wh wk tn tp fk fp L N W := by
  obtain ⟨⟨h1, h2⟩, h3, h4, h5, h6, h7, h8, h9, h10, h11⟩ := h
  exact ⟨⟨by rw [e _ _ (by omega)]; exact h1, by rw [e _ _ (by omega)]; exact h2⟩, h3.of (fun b j hb => e b j (by unfold inP at hb; omega)), h4.of (fun b j hb => e b j (by omega)), h5.of (fun b j _ _ => e b j (by omega)), h6.of (fun b j hb => e b j (by omega)), h7.of (fun b j hb => e b j (by omega)), h8.of (fun b j _ _ => e b j (by omega)), h9.of (fun b j hb => e b j (by omega)), by rw [e _ _ (by omega)]; exact h10, by rw [e _ _ (by omega)]; exact h11⟩
theorem rfS.C2 {G : Lnd} {D : Int → Int → Int} {on w n tn fk fp : Int} {wp wh wk tp : Int → Int} {M N : aM} (h : rfS G D on w n wp wh wk tn tp fk fp M) (e : ∀ b j, 86 ≤ b → b ≤ 124 → N b j = M b j) : rfS G D on w n wp wh wk tn tp fk fp N := by
  obtain ⟨h1, h2, h3, ⟨h4, h5, h6⟩, h7, h8, h9, ⟨h10, h11⟩, h12⟩ := h
  have ht := h1.t; have hn := h1.n
  have hq : thr_ ((G 0 3)) ≤ 729 ∧ (G 0 0) ≤ 10 := by omega
  exact ⟨h1.of (fun b j c => e b j (by unfold inG at c; omega) (by unfold inG at c; omega)), h2.of (fun b j c => e b j (by omega) (by omega)), h3.of (fun j => e 113 j (by omega) (by omega)), ⟨h4.of hq (fun b j c => e b j (by omega) (by omega)), h5.of hq (fun b j c => e b j (by omega) (by omega)), h6.of hq (fun b j c => e b j (by omega) (by omega))⟩, h7.of (fun b j c => e b j (by omega) (by omega)), h8.of (fun b j c => e b j (by omega) (by omega)), h9.of (fun b j c => e b j (by omega) (by omega)), ⟨by rw [e _ _ (by omega) (by omega)]; exact h10, by rw [e _ _ (by omega) (by omega)]; exact h11⟩, h12.of (fun j => e 88 j (by omega) (by omega))⟩
theorem okD_W2 {M N : aM} {W W1 : aW} {c a : Int} (h : okD (M, W) c a = true) (e1 : ∀ x, x < W.2.2.1 → W1.2.1 x = W.2.1 x) (e2 : W.2.2.1 ≤ W1.2.2.1) : okD (N, W1) c a = true := by
  obtain ⟨h1, h2⟩ := (Bool.and_eq_true _ _).mp h
  obtain ⟨h2, h3⟩ := (Bool.and_eq_true _ _).mp h2
  have h1 : 0 ≤ a := of_decide_eq_true h1
  have h2 : a < W.2.2.1 := of_decide_eq_true h2
  have h3 : kD_ W.2.1 a = c := of_decide_eq_true h3
  have ek : kD_ W1.2.1 a = kD_ W.2.1 a := by unfold kD_; rw [e1 a h2]
  show (decide (0 ≤ a) && (decide (a < W1.2.2.1) && decide (kD_ W1.2.1 a = c))) = true
  rw [decide_eq_true h1, decide_eq_true (show a < W1.2.2.1 by omega), decide_eq_true (show kD_ W1.2.1 a = c by rw [ek]; exact h3)]
  rfl
theorem okD_lt {M : aM} {W : aW} {c a : Int} (h : okD (M, W) c a = true) : a < W.2.2.1 := by
  obtain ⟨h1, h2⟩ := (Bool.and_eq_true _ _).mp h
  obtain ⟨h2, h3⟩ := (Bool.and_eq_true _ _).mp h2
  exact of_decide_eq_true h2
theorem clS.W2 {G : Lnd} {D : Int → Int → Int} {c on w n tn fk fp L : Int} {wp wh wk tp : Int → Int} {M : aM} {W W1 : aW} (h : clS c G D on w n wp wh wk tn tp fk fp L M W) (e1 : ∀ x, x < W.2.2.1 → W1.2.1 x = W.2.1 x) (e2 : W.2.2.1 ≤ W1.2.2.1) : clS c G D on w n wp wh wk tn tp fk fp L M W1 := by
  obtain ⟨h1, h2, h3, h4, ⟨b1, ⟨s1, s2, s3⟩, b3, b4⟩, h6⟩ := h
  have hlt := okD_lt s1
  have el : lD_ W1.2.1 (M 78 2) = lD_ W.2.1 (M 78 2) := by unfold lD_; rw [e1 _ hlt]
  exact ⟨h1, h2, h3, h4, ⟨b1, ⟨okD_W2 s1 e1 e2, by rw [el]; exact s2, s3⟩, by omega, b4⟩, h6⟩
theorem PS.up125 {L v : Int} {M : aM} {W : aW} (h : PS L M W) : PS L (up_ M 125 0 v) W := by
  obtain ⟨c, G, D, on, w, n, wp, wh, wk, tn, tp, fk, fp, hC, hR, hl⟩ := h
  exact PS.mk (hC.K2 (fun b j hb => up_b _ _ _ _ (by omega))) (hR.C2 (fun b j _ _ => up_b _ _ _ _ (by omega))) (fun q q0 q1 => by rw [up_b _ _ _ _ (by decide)]; exact hl q q0 q1)
theorem PS.dd {L : Int} {M : aM} {W : aW} {st : aS} (h : PS L M W) (hd : dd_ (M, W) st) : PS L st.1 st.2 := by
  rcases hd with rfl | rfl
  · exact h
  · obtain ⟨c, G, D, on, w, n, wp, wh, wk, tn, tp, fk, fp, hC, hR, hl⟩ := h
    exact PS.mk (hC.W2 (fun x hx => by show up1 W.2.1 W.2.2.1 (-1) x = _; unfold up1; rw [if_neg (by omega)]) (by show W.2.2.1 ≤ W.2.2.1 + 1; omega)) hR hl
theorem bld_dd {L : Int} {s0 st : aS} (h : bld_ L s0) (hd : dd_ s0 st) : bld_ L st := by
  rcases hd with rfl | rfl
  · exact h
  · exact ⟨by have h1 : L ≤ szS s0 := h.1; show L ≤ szS s0 + 1; omega, h.2⟩
/-- the reference's look, told by what the law's look came to -/
theorem p_look {L : Int} {M : aM} {W : aW} {c0 x y : Int} {G : Lnd} {v : Int32} {st : aS} (hC : ∃ (D : Int → Int → Int) (on w n : Int) (wp wh wk : Int → Int) (tn : Int) (tp : Int → Int) (fk fp : Int), clS c0 G D on w n wp wh wk tn tp fk fp L M W ∧ rfS G D on w n wp wh wk tn tp fk fp M ∧ lgM M) (ix : inI x) (iy : inI y) (hv : lkP G (M, W) x y v st) :
    CallI 199 [vR 86, vI x, vI y] (st.1, st.2) (fun r N W1 => W1 = st.2 ∧ (v = 0 → r = st.1 125 0 ∧ N 125 0 = st.1 125 0 ∧ inI r) ∧ CallI 153 [vR 86] (N, W1) (fun r2 N2 W2 => W2 = W1 ∧ N2 = N ∧ Int32.ofInt r2 = v ∧ PS L N W1)) := by
  obtain ⟨D, on, w, n, wp, wh, wk, tn, tp, fk, fp, hC, hR, hl⟩ := hC
  have hS : clS c0 G D on w n wp wh wk tn tp fk fp L st.1 st.2 ∧ rfS G D on w n wp wh wk tn tp fk fp st.1 ∧ lgM st.1 := by
    have hd2 : dd_ (M, W) st → clS c0 G D on w n wp wh wk tn tp fk fp L st.1 st.2 ∧ rfS G D on w n wp wh wk tn tp fk fp st.1 ∧ lgM st.1 := fun hd => by
      rcases hd with rfl | rfl
      · exact ⟨hC, hR, hl⟩
      · exact ⟨hC.W2 (fun x hx => by show up1 W.2.1 W.2.2.1 (-1) x = _; unfold up1; rw [if_neg (by omega)]) (by show W.2.2.1 ≤ W.2.2.1 + 1; omega), hR, hl⟩
    rcases hv with ⟨-, -, -, rfl⟩ | ⟨-, -, hd⟩ | ⟨-, -, -, hd⟩
    · exact ⟨hC.K2 (fun b j hb => up_b _ _ _ _ (by omega)), hR.C2 (fun b j _ _ => up_b _ _ _ _ (by omega)), fun q q0 q1 => by show up_ M 125 0 (G 2 (x * 7 + y)) 21 q = langL q; rw [up_b _ _ _ _ (by decide)]; exact hl q q0 q1⟩
    · exact hd2 hd
    · exact hd2 hd
  obtain ⟨hC2, hR2, hl2⟩ := hS
  have hin : ∀ q : Int, q = G 2 (x * 7 + y) → (0 ≤ x ∧ x < G 0 2) → (0 ≤ y ∧ y ≤ 6) → inI q := fun q hq p1 p2 => by
    have hw : WF G := hC.2.1.2.2.1
    have hN := hw.N; unfold wfN at hN
    have h7 := hw.R x p1.1 p1.2
    rw [hq]
    rcases (show y = 0 ∨ y = 1 ∨ y = 2 ∨ y = 3 ∨ y = 4 ∨ y = 5 ∨ y = 6 by omega) with h | h | h | h | h | h | h
    all_goals
      rw [h]
      constructor <;> omega
  refine r_look hR2 ix iy (fun hb N f h3 e2 => ?_) (fun hg hb N f h3 e2 => ?_) (fun hg hg2 N f h3 e2 => ?_)
  · have hv1 : v = 1 := by
      rcases hv with ⟨-, q, -⟩ | ⟨q, -⟩ | ⟨-, q, -⟩
      · exact absurd q hb
      · exact q
      · exact absurd q hb
    exact ⟨rfl, fun q => (by rw [hv1] at q; exact absurd q (by decide)), r_thrown ⟨rfl, rfl, by rw [e2, hv1]; rfl, PS.mk (hC2.K f) h3 (hl2.K f)⟩⟩
  · have hv1 : v = 2 := by
      rcases hv with ⟨-, -, q, -⟩ | ⟨-, q, -⟩ | ⟨q, -⟩
      · exact absurd q hb
      · exact absurd hg q
      · exact q
    exact ⟨rfl, fun q => (by rw [hv1] at q; exact absurd q (by decide)), r_thrown ⟨rfl, rfl, by rw [e2, hv1]; rfl, PS.mk (hC2.K f) h3 (hl2.K f)⟩⟩
  · have hv1 : v = 0 ∧ st = (up_ M 125 0 (G 2 (x * 7 + y)), W) := by
      rcases hv with ⟨q, -, -, q2⟩ | ⟨-, q, -⟩ | ⟨-, -, q, -⟩
      · exact ⟨q, q2⟩
      · exact absurd hg q
      · exact absurd hg2 q
    obtain ⟨hv0, rfl⟩ := hv1
    exact ⟨rfl, fun _ => ⟨(up_s M 125 0 (G 2 (x * 7 + y))).symm, f 125 0 (by omega), hin _ rfl hg hg2⟩, r_thrown ⟨rfl, rfl, by rw [e2, hv0]; rfl, PS.mk (hC2.K f) h3 (hl2.K f)⟩⟩
