/-! THE REFERENCE's calls: clear, row, rule, ring -/
theorem rfS.part {G : Lnd} {D D' : Int → Int → Int} {on w n tn fk fp on' w' n' : Int} {wp wh wk tp wp' wh' wk' : Int → Int} {M N : aM} (h : rfS G D on w n wp wh wk tn tp fk fp M) (e : ∀ b j, ¬ scR b j → ¬ (b = 86 ∧ (j = 41 ∨ j = 43 ∨ (54 ≤ j ∧ j ≤ 56))) → ¬ (114 ≤ b ∧ b ≤ 115) → ¬ (122 ≤ b ∧ b ≤ 124) → N b j = M b j) (hp : rpM G D' N) (hj : rjM G on' w' n' wp' wh' wk' N) : rfS G D' on' w' n' wp' wh' wk' tn tp fk fp N := by
  obtain ⟨h1, h2, h3, ⟨h4, h5, h6⟩, -, -, h9, ⟨h10, h11⟩, h12⟩ := h
  have ht := h1.t; have hn := h1.n
  have hq : thr_ ((G 0 3)) ≤ 729 ∧ (G 0 0) ≤ 10 := by omega
  exact ⟨h1.of (fun b j c => by unfold inG at c; exact e b j (by unfold scR; omega) (by omega) (by omega) (by omega)), h2.of (fun b j c => e b j (by unfold scR; omega) (by omega) (by omega) (by omega)), h3.of (fun j => e 113 j (by unfold scR; omega) (by omega) (by omega) (by omega)), ⟨h4.of hq (fun b j c => e b j (by unfold scR; omega) (by omega) (by omega) (by omega)), h5.of hq (fun b j c => e b j (by unfold scR; omega) (by omega) (by omega) (by omega)), h6.of hq (fun b j c => e b j (by unfold scR; omega) (by omega) (by omega) (by omega))⟩, hp, hj, h9.of (fun b j c => e b j (by unfold scR; omega) (by omega) (by omega) (by omega)), ⟨by rw [e _ _ (by unfold scR; omega) (by omega) (by omega) (by omega)]; exact h10, by rw [e _ _ (by unfold scR; omega) (by omega) (by omega) (by omega)]; exact h11⟩, h12.of (fun j => e 88 j (by unfold scR; omega) (by omega) (by omega) (by omega))⟩
theorem r_clear {Q : Int → aM → aW → Prop} {M : aM} {W : aW} {G : Lnd} {D : Int → Int → Int} {on w n tn fk fp : Int} {wp wh wk tp : Int → Int} (h : rfS G D on w n wp wh wk tn tp fk fp M) (k : ∀ N, frK M N → rfS G (dClear D) on w n wp wh wk tn tp fk fp N → Q (D 10 0) N W) : CallI 242 [vR 86] (M, W) Q := by
  have h2 := h.thr (v := 0)
  obtain ⟨⟨d0, d1, d2, hr, hd, hh⟩, ⟨m41, m114⟩, m43, m115⟩ := h2.p
  refine e_X12_clear _ _ _ ?_
  intro v hv
  rw [hv, m41]
  have e : ∀ b j, ¬ (b = 86 ∧ j = 41) → up_ (up_ M 86 2 0) 86 41 0 b j = up_ M 86 2 0 b j := fun b j a2 => by unfold up_; rw [if_neg a2]
  refine k _ (frK_tr (frK_thr M 0) (frK_up (by decide))) (h2.part (fun b j a1 a2 a3 a4 => e b j (by omega)) ⟨⟨d0, d1, d2, ⟨by show (0 : Int) ≤ 0 ∧ (0 : Int) ≤ 6; decide, fun i i0 i1 => ?_⟩, fun i j i0 ij j1 => ?_, hh⟩, ⟨up_s _ _ _ _, fun i i0 i1 => ?_⟩, by rw [e _ _ (by decide)]; exact m43, fun i i0 i1 => by rw [e 115 _ (by omega), e 115 _ (by omega), e 115 _ (by omega), e 115 _ (by omega)]; exact m115 i i0 i1⟩ (h2.j.of (fun b j a1 => e b j (by omega))))
  · have i1' : i < 0 := i1
    omega
  · have i1' : j < 0 := j1
    omega
  · have i1' : i < 0 := i1
    omega
theorem r_row {Q : Int → aM → aW → Prop} {M : aM} {W : aW} {G : Lnd} {D : Int → Int → Int} {on w n tn fk fp : Int} {wp wh wk tp : Int → Int} {d : Int} (h : rfS G D on w n wp wh wk tn tp fk fp M) (hd : inI d) (k1 : ¬ rowQ G D d → ∀ N, frK M N → rfS G D on w n wp wh wk tn tp fk fp N → Q (-1) N W) (k2 : rowQ G D d → ∀ N, frK M N → rfS G (dRow D d) on w n wp wh wk tn tp fk fp N → Q (D 10 0 + 1) N W) : CallI 241 [vR 86, vI d] (M, W) Q := by
  have h2 := h.thr (v := 0)
  have hw := h2.G.W
  have hn := h2.G.n
  obtain ⟨hpd, ⟨m41, m114⟩, m43, m115⟩ := h2.p
  have hr := hpd.2.2.2.1
  have hr1 := hr.1
  have key : ∀ (m : Nat) (i : Int), 0 ≤ i → i ≤ D 10 0 → (D 10 0 - i).toNat = m → 0 ≤ d → d < (G 0 3) → (∀ j, 0 ≤ j → j < i → D 5 j ≠ d) → Xs 241 (17, [some (some (vR 86)), some (some (vI d)), some (some (vI i))], [], (up_ M 86 2 0, W)) (QI Q) := by
    intro m
    induction m with
    | zero =>
      intro i i0 i1 hm d0 d1 hall
      have hq : rowQ G D d := ⟨d0, d1, fun j j0 j1 => hall j j0 (by omega)⟩
      have hroom := row_room hw hpd hq
      have e41 : up_ (up_ M 86 2 0) 114 (D 10 0) d 86 41 = D 10 0 := by rw [up_b _ _ _ _ (by decide)]; exact m41
      refine k_X12_row_17 _ _ _ _ _ ?_
      rw [m41, e41, up_s]
      refine ⟨by omega, fun _ => ⟨by omega, ?_⟩, fun hlt => by omega⟩
      have e : ∀ b j, b ≠ 114 → ¬ (b = 86 ∧ j = 41) → up_ (up_ (up_ M 86 2 0) 114 (D 10 0) d) 86 41 (D 10 0 + 1) b j = up_ M 86 2 0 b j := fun b j a1 a2 => by rw [show up_ (up_ (up_ M 86 2 0) 114 (D 10 0) d) 86 41 (D 10 0 + 1) b j = up_ (up_ M 86 2 0) 114 (D 10 0) d b j from if_neg a2, up_b _ _ _ _ a1]
      refine k2 hq _ (frK_tr (frK_thr M 0) (frK_tr (frK_up (by decide)) (frK_up (by decide)))) (h2.part (fun b j a1 a2 a3 a4 => e b j (by omega) (by omega)) ⟨dRow_ok hw hpd hq, ⟨up_s _ _ _ _, fun i i0 i1 => ?_⟩, by rw [e _ _ (by decide) (by decide)]; exact m43, fun i i0 i1 => by rw [e 115 _ (by decide) (by omega), e 115 _ (by decide) (by omega), e 115 _ (by decide) (by omega), e 115 _ (by decide) (by omega)]; exact m115 i i0 i1⟩ (h2.j.of (fun b j a1 => e b j (by omega) (by omega))))
      have i1' : i < D 10 0 + 1 := i1
      show up_ (up_ (up_ M 86 2 0) 114 (D 10 0) d) 86 41 (D 10 0 + 1) 114 i = upF (D 5) (D 10 0) d i
      rw [up_b _ _ _ _ (by decide)]
      unfold upF
      by_cases he : i = D 10 0
      · rw [if_pos he, he, up_s]
      · rw [if_neg he, up_j _ _ _ he]; exact m114 i i0 (by omega)
    | succ m ih =>
      intro i i0 i1 hm d0 d1 hall
      refine k_X12_row_17 _ _ _ _ _ ?_
      rw [m41, m114 i i0 (by omega)]
      have hb := hr.2 i i0 (by omega)
      refine ⟨by omega, fun hge => by omega, fun _ => ⟨by omega, by omega, fun hne => ih (i + 1) (by omega) (by omega) (by omega) d0 d1 (fun j j0 j1 => ?_), fun heq => ?_⟩⟩
      · by_cases e : j = i
        · rw [e]; exact hne
        · exact hall j j0 (by omega)
      · exact k1 (fun q => q.2.2 i i0 (by omega) (Classical.byContradiction heq)) _ (frK_thr M 0) h2
  refine e_X12_row _ _ _ _ ?_
  refine s_X12_isDoubtful h2.G hd (fun r hr => ⟨by omega, fun q => key _ 0 (by decide) hr1.1 rfl (by omega) (by omega) (fun j j0 j1 => by omega), fun q => k1 (fun t => by have := t.1; have := t.2.1; omega) _ (frK_thr M 0) h2⟩)
theorem r_rule {Q : Int → aM → aW → Prop} {M : aM} {W : aW} {G : Lnd} {D : Int → Int → Int} {on w n tn fk fp : Int} {wp wh wk tp : Int → Int} {p d x q : Int} (h : rfS G D on w n wp wh wk tn tp fk fp M) (hp : inI p) (hd : inI d) (hx : inI x) (hq : inI q) (k1 : ¬ rulQ G D p d x q → ∀ N, frK M N → rfS G D on w n wp wh wk tn tp fk fp N → Q (-1) N W) (k2 : rulQ G D p d x q → ∀ N, frK M N → rfS G (dRule D p d x q) on w n wp wh wk tn tp fk fp N → Q (D 30 0) N W) : CallI 246 [vR 86, vI p, vI d, vI x, vI q] (M, W) Q := by
  have h2 := h.thr (v := 0)
  have hw := h2.G.W
  have hn := h2.G.n
  have fr := frK_thr M 0
  have no : ¬ rulQ G D p d x q → Q (-1) (up_ M 86 2 0) W := fun hno => k1 hno _ fr h2
  obtain ⟨⟨d0, d1, d2, hr, hdf, hh⟩, ⟨m41, m114⟩, m43, m115⟩ := h2.p
  have hh1 := hh.1
  refine e_X12_rule _ _ _ _ _ _ _ ?_
  generalize up_ M 86 2 0 = M1 at *
  have e1 : up_ M1 115 (4 * D 30 0) p 86 43 = D 30 0 := by rw [up_b _ _ _ _ (by decide)]; exact m43
  have e2 : up_ (up_ M1 115 (4 * D 30 0) p) 115 (4 * D 30 0 + 1) d 86 43 = D 30 0 := by rw [up_b _ _ _ _ (by decide)]; exact e1
  have e3 : up_ (up_ (up_ M1 115 (4 * D 30 0) p) 115 (4 * D 30 0 + 1) d) 115 (4 * D 30 0 + 2) x 86 43 = D 30 0 := by rw [up_b _ _ _ _ (by decide)]; exact e2
  have e4 : up_ (up_ (up_ (up_ M1 115 (4 * D 30 0) p) 115 (4 * D 30 0 + 1) d) 115 (4 * D 30 0 + 2) x) 115 (4 * D 30 0 + 3) q 86 43 = D 30 0 := by rw [up_b _ _ _ _ (by decide)]; exact e3
  have add : rulQ G D p d x q → Q (D 30 0 + 1 - 1) (up_ (up_ (up_ (up_ (up_ M1 115 (4 * D 30 0) p) 115 (4 * D 30 0 + 1) d) 115 (4 * D 30 0 + 2) x) 115 (4 * D 30 0 + 3) q) 86 43 (D 30 0 + 1)) W := by
    intro hQ
    obtain ⟨a1, a2, a3, a4⟩ := id hQ
    rw [show D 30 0 + 1 - 1 = D 30 0 by omega]
    generalize hN : up_ (up_ (up_ (up_ (up_ M1 115 (4 * D 30 0) p) 115 (4 * D 30 0 + 1) d) 115 (4 * D 30 0 + 2) x) 115 (4 * D 30 0 + 3) q) 86 43 (D 30 0 + 1) = N
    have e : ∀ b j, b ≠ 115 → ¬ (b = 86 ∧ j = 43) → N b j = M1 b j := fun b j a1 a2 => by rw [← hN, show ∀ K : aM, up_ K 86 43 (D 30 0 + 1) b j = K b j from fun K => if_neg a2, up_b _ _ _ _ a1, up_b _ _ _ _ a1, up_b _ _ _ _ a1, up_b _ _ _ _ a1]
    have e115 : ∀ j, N 115 j = if j = 4 * D 30 0 + 3 then q else if j = 4 * D 30 0 + 2 then x else if j = 4 * D 30 0 + 1 then d else if j = 4 * D 30 0 then p else M1 115 j := fun j => by
      rw [← hN, up_b _ _ _ _ (by decide)]
      unfold up_
      simp only [true_and]
    refine k2 hQ N (frK_tr fr (fun b j c => e b j (by omega) (by omega))) (h2.part (fun b j b1 b2 b3 b4 => e b j (by omega) (by omega)) ⟨⟨d0, d1, d2, hr, hdf, ⟨by show 0 ≤ D 30 0 + 1 ∧ D 30 0 + 1 ≤ 30; omega, fun i i0 i1 => ?_⟩⟩, ⟨by rw [e _ _ (by decide) (by decide)]; exact m41, fun i i0 i1 => by rw [e _ _ (by decide) (by omega)]; exact m114 i i0 i1⟩, by rw [← hN, up_s]; rfl, fun i i0 i1 => ?_⟩ (h2.j.of (fun b j b1 => e b j (by omega) (by omega))))
    · have i1' : i < D 30 0 + 1 := i1
      show (0 ≤ upF (D 20) (D 30 0) p i ∧ upF (D 20) (D 30 0) p i < (G 0 0)) ∧ (-1 ≤ upF (D 21) (D 30 0) d i ∧ upF (D 21) (D 30 0) d i < (G 0 3)) ∧ (0 ≤ upF (D 23) (D 30 0) q i ∧ upF (D 23) (D 30 0) q i < (G 0 0)) ∧ (0 ≤ upF (D 21) (D 30 0) d i → 0 ≤ upF (D 22) (D 30 0) x i ∧ upF (D 22) (D 30 0) x i ≤ 2)
      unfold upF
      by_cases he : i = D 30 0
      · rw [if_pos he, if_pos he, if_pos he, if_pos he]
        omega
      · rw [if_neg he, if_neg he, if_neg he, if_neg he]; exact hh.2 i i0 (by omega)
    · have i1' : i < D 30 0 + 1 := i1
      show N 115 (4 * i) = upF (D 20) (D 30 0) p i ∧ N 115 (4 * i + 1) = upF (D 21) (D 30 0) d i ∧ (0 ≤ upF (D 21) (D 30 0) d i → N 115 (4 * i + 2) = upF (D 22) (D 30 0) x i) ∧ N 115 (4 * i + 3) = upF (D 23) (D 30 0) q i
      unfold upF
      rw [e115, e115, e115, e115]
      by_cases he : i = D 30 0
      · subst he
        rw [if_pos rfl, if_pos rfl, if_pos rfl, if_pos rfl, if_neg (show ¬ (4 * D 30 0 = 4 * D 30 0 + 3) by omega), if_neg (show ¬ (4 * D 30 0 = 4 * D 30 0 + 2) by omega), if_neg (show ¬ (4 * D 30 0 = 4 * D 30 0 + 1) by omega), if_pos rfl, if_neg (show ¬ (4 * D 30 0 + 1 = 4 * D 30 0 + 3) by omega), if_neg (show ¬ (4 * D 30 0 + 1 = 4 * D 30 0 + 2) by omega), if_pos rfl, if_neg (show ¬ (4 * D 30 0 + 2 = 4 * D 30 0 + 3) by omega), if_pos rfl, if_pos rfl]
        exact ⟨rfl, rfl, fun _ => rfl, rfl⟩
      · rw [if_neg he, if_neg he, if_neg he, if_neg he]
        have hm := m115 i i0 (by omega)
        refine ⟨?_, ?_, fun t => ?_, ?_⟩
        · rw [if_neg (by omega), if_neg (by omega), if_neg (by omega), if_neg (by omega)]; exact hm.1
        · rw [if_neg (by omega), if_neg (by omega), if_neg (by omega), if_neg (by omega)]; exact hm.2.1
        · rw [if_neg (by omega), if_neg (by omega), if_neg (by omega), if_neg (by omega)]; exact hm.2.2.1 t
        · rw [if_neg (by omega), if_neg (by omega), if_neg (by omega), if_neg (by omega)]; exact hm.2.2.2
  rw [m43]
  refine ⟨by omega, fun hfull => no (fun r => by have := r.2.2.2; omega), fun hlt => s_X12_isPlace h2.G hp (fun r hr2 => ⟨by omega, fun hz => no (fun t => by have := t.1; omega), fun hz => s_X12_isPlace h2.G hq (fun r2 hr3 => ⟨by omega, fun hnz => no (fun t => by have := t.2.1; omega), fun hnz => ⟨by omega, fun hd1 => ?_, fun hd1 => s_X12_isDoubtful h2.G hd (fun r3 hr4 => ⟨by omega, fun hz3 => no (fun t => by have := t.2.2.1; omega), fun hz3 => s_X12_isIn hx (by decide) (by decide) (fun r5 hr5 => ⟨by omega, fun hy => ?_, fun hy => no (fun t => by have := t.2.2.1; omega)⟩)⟩)⟩⟩)⟩)⟩
  · rw [m43, e1, e2, e3, e4, up_s]
    exact ⟨by omega, by omega, by omega, by omega, add ⟨by omega, by omega, Or.inl hd1, by omega⟩⟩
  · rw [m43, e1, e2, e3, e4, up_s]
    exact ⟨by omega, by omega, by omega, by omega, add ⟨by omega, by omega, Or.inr (by omega), by omega⟩⟩
theorem dec2_no {a b : Prop} {da : Decidable a} {db : Decidable b} (h : ¬ (a ∧ b)) : (@decide a da && @decide b db) = false := by
  rw [Bool.eq_false_iff]
  intro e
  rw [Bool.and_eq_true, decide_eq_true_eq, decide_eq_true_eq] at e
  exact h e
/-- what going round may change -/
def frN (M N : aM) : Prop := ∀ b j, b ≠ 104 → b ≠ 113 → b ≠ 118 → b ≠ 119 → ¬ (b = 86 ∧ (j = 45 ∨ j = 46 ∨ j = 47)) → N b j = M b j
theorem frN_W {M N : aM} (h : frW M N) : frN M N := fun b j a1 a2 a3 a4 a5 => h b j a1 a2 a5
theorem frN_tr {M N K : aM} (h1 : frN M N) (h2 : frN N K) : frN M K := fun b j a1 a2 a3 a4 a5 => (h2 b j a1 a2 a3 a4 a5).trans (h1 b j a1 a2 a3 a4 a5)
theorem frN.G {G : Lnd} {M N : aM} (h : frN M N) (hG : rfG G M) : rfG G N := hG.of (fun b j c => by unfold inG at c; exact h b j (by omega) (by omega) (by omega) (by omega) (by omega))
theorem frN.D {G : Lnd} {D : Int → Int → Int} {plan : Int} {M N : aM} (h : frN M N) (hD : rfD G D plan M) : rfD G D plan N := hD.of (fun b j hb => h b j (by omega) (by omega) (by omega) (by omega) (by omega))
theorem RG_S (G : Lnd) (A : Int → Int → Int) (w kk : Int) (n : Nat) (i : Int) (tp tk : Int → Int) (p k : Int) : RG G A w kk (n + 1) i tp tk p k = if 0 ≤ fst_ (trB tp tk p k) i.toNat then (if kk < i - fst_ (trB tp tk p k) i.toNat then tp (fst_ (trB tp tk p k) i.toNat + kk) else -1) else if A p k < 0 then (if kk = 0 then p else -1) else RG G A w kk n (i + 1) (upF tp i p) (upF tk i k) (A p k) (lrn k ((G 5 (A p k))) w) := rfl
theorem s_X12_ringIn {M : aM} {W : aW} {Q : Int → aM → aW → Prop} {G : Lnd} {D : Int → Int → Int} {w kk : Int} (hG : rfG G M) (hg0 : 0 ≤ (G 0 7)) (hs : 0 ≤ (G 0 6)) (hH : hopI G M) (hD : rfD G D 6 M) (hO : planOK G D 6) (w0 : 0 ≤ w) (w1 : w < p2_ ((G 0 3))) (hW : 0 < wtG G w) (hneg : hoP G D 6 w < 0) (hk0 : 0 ≤ kk) (hki : inI kk)
    (h : ∀ N, frN M N → hopI G N → Q (rgIn G (doF G D 6) w kk) N W) : CallI 248 [vR 86, vI w, vI kk] (M, W) Q := by
  have hw := hG.W
  have hn := hG.n
  have ht := hG.t
  have hH6 := hO.2.2.2.2 rfl
  have key : ∀ (n : Nat) (i p k t s : Int) (d4 : aL) (tp tk : Int → Int) (N : aM), 0 ≤ i → (100 - i).toNat = n → frN M N → hopI G N → atM p k t N → stO G w p k → 0 ≤ t → HI G (doF G D 6) w n p k t < 0 → 0 ≤ s → s ≤ 10 → s ≤ i → i ≤ 10 * (6 - (unk G k : Int)) + s → (∀ j, 0 ≤ j → j < i → N 118 j = tp j ∧ N 119 j = tk j ∧ (0 ≤ tp j ∧ tp j < (G 0 0)) ∧ (0 ≤ tk j ∧ tk j < 729)) → (∀ a, i - s ≤ a → a < i → tk a = k) → (∀ a b, i - s ≤ a → a < b → b < i → tp a ≠ tp b) → RG G (doF G D 6) w kk n i tp tk p k = rgIn G (doF G D 6) w kk → Xs 248 (7, [some (some (vR 86)), some (some (vI w)), some (some (vI kk)), some (some (vI i)), d4], [], (N, W)) (QI Q) := by
    intro n
    induction n with
    | zero =>
      intro i p k t s d4 tp tk N i0 hm hf hI hA hst t0 hHI s0 s10 si hib
      exact absurd hm (by omega)
    | succ n ih =>
      intro i p k t s d4 tp tk N i0 hm hf hI hA hst t0 hHI s0 s10 si hib hmm htk hdi he
      have hpg : p ≠ (G 0 7) := fun e => by rw [HI_gol _ _ _ e] at hHI; omega
      rw [HI_S, if_neg hpg] at hHI
      obtain ⟨⟨p0, p1⟩, ⟨q0, q1⟩, hag, hse⟩ := id hst
      obtain ⟨a45, a46, a47⟩ := id hA
      rw [RG_S] at he
      have hlk := lkG_pos hw w0 w1 hW hag
      have hok := doF_ok hw hO p0 p1 q0 q1 hlk hse
      have h6 := do6 (p := p) (k := k) (by omega) hH6
      refine k_X12_ringIn_7 _ _ _ _ _ _ _ ?_
      have srch : ∀ (m : Nat) (a : Int), 0 ≤ a → a ≤ i → (i - a).toNat = m → (∀ j, 0 ≤ j → j < a → ¬ (tp j = p ∧ tk j = k)) → Xs 248 (10, [some (some (vR 86)), some (some (vI w)), some (some (vI kk)), some (some (vI i)), some (some (vI a))], [], (N, W)) (QI Q) := by
        intro m
        induction m with
        | zero =>
          intro a a0 ai hma hall
          have hno := fst_no (P := trB tp tk p k) i.toNat (fun j j0 j1 => dec2_no (hall j j0 (by omega)))
          rw [hno, if_neg (by decide)] at he
          have e46 : up_ N 118 i p 86 46 = k := by rw [up_b _ _ _ _ (by decide)]; exact a46
          have hs9 : s + 1 ≤ (G 0 0) := by
            refine php_le (f := fun j => if j = s then p else tp (i - s + j)) (m := (G 0 0)) (s := s + 1) (by omega) (by omega) (fun j j0 j1 => ?_) (fun a b a1 b1 b2 => ?_)
            · show 0 ≤ (if j = s then p else tp (i - s + j)) ∧ (if j = s then p else tp (i - s + j)) < (G 0 0)
              split
              · exact ⟨p0, p1⟩
              · exact (hmm (i - s + j) (by omega) (by omega)).2.2.1
            · show (if a = s then p else tp (i - s + a)) ≠ (if b = s then p else tp (i - s + b))
              rw [if_neg (by omega)]
              split
              · exact fun e => hall (i - s + a) (by omega) (by omega) ⟨e, htk _ (by omega) (by omega)⟩
              · exact hdi _ _ (by omega) (by omega) (by omega)
          refine k_X12_ringIn_10 _ _ _ _ _ _ _ ?_
          rw [a45, a46, e46]
          have hf2 : frN N (up_ (up_ N 118 i p) 119 i k) := fun b j c1 c2 c3 c4 c5 => by rw [up_b _ _ _ _ c4, up_b _ _ _ _ c3]
          have hGf := (frN_tr hf hf2).G hG
          refine ⟨by omega, fun _ => ⟨by omega, by omega, ?_⟩, fun hlt => by omega⟩
          refine s_X12_moves hGf hg0 (hI.of (fun j => by rw [up_b _ _ _ _ (by decide), up_b _ _ _ _ (by decide)])) ((frN_tr hf hf2).D hD) hO (by decide) w0 w1 hW (p := p) (k := k) (t := t) ⟨by rw [up_b _ _ _ _ (by decide), up_b _ _ _ _ (by decide)]; exact a45, by rw [up_b _ _ _ _ (by decide), up_b _ _ _ _ (by decide)]; exact a46, by rw [up_b _ _ _ _ (by decide), up_b _ _ _ _ (by decide)]; exact a47⟩ hst hpg (fun c K fK IK => ⟨by decide, fun y => absurd rfl y, fun _ => ⟨hki, fun y => ?_, fun y => ?_⟩⟩) (fun c K fK IK AK => ⟨by decide, fun _ => ?_, fun y => absurd (by decide) y⟩)
          · rw [if_pos c, if_neg y] at he
            have := h K (frN_tr (frN_tr hf hf2) (frN_W (frW_H fK))) IK
            rw [← he] at this; exact this
          · rw [if_pos c, if_pos (Classical.byContradiction y)] at he
            have := h K (frN_tr (frN_tr hf hf2) (frN_W (frW_H fK))) IK
            rw [fK _ _ (by decide) (by decide), up_b _ _ _ _ (by decide), up_b _ _ _ _ (by decide), a45]
            rw [← he] at this; exact this
          · rw [if_neg (by omega)] at he
            rw [if_neg (by omega)] at hHI
            have hkr := wkH_rng hw p0 p1 hok c
            have hst2 := st_step hw hst hok c
            have hcs := wkK_cs hw hst hok c
            have e118 : ∀ j, K 118 j = if j = i then p else N 118 j := fun j => by
              rw [fK _ _ (by decide) (by decide) (by omega), up_b _ _ _ _ (by decide)]; unfold up_; simp only [true_and]
            have e119 : ∀ j, K 119 j = if j = i then k else N 119 j := fun j => by
              rw [fK _ _ (by decide) (by decide) (by omega)]; unfold up_; simp only [true_and]; split
              · rfl
              · exact if_neg (by omega)
            rw [show wkP (doF G D 6 p k) p = doF G D 6 p k from if_neg (by omega)] at hst2 hHI AK
            rw [show lrn k ((G 5 (doF G D 6 p k))) w = wkK G w (doF G D 6 p k) k from (if_neg (by omega)).symm] at he
            refine ih (i + 1) _ _ _ (if wkK G w (doF G D 6 p k) k = k then s + 1 else 0) _ (upF tp i p) (upF tk i k) K (by omega) (by omega) (frN_tr (frN_tr hf hf2) (frN_W fK)) IK AK hst2 (by omega) hHI (by split <;> omega) (by split <;> omega) (by split <;> omega) ?_ (fun j j0 j1 => ?_) (fun a b1 b2 => ?_) (fun a b b1 b2 b3 => ?_) he
            · have hu6 := unk_le6 hw k
              rcases hcs with ⟨c1, -, -⟩ | ⟨c1, c2⟩
              · rw [if_pos c1, c1]; omega
              · rw [if_neg c1]; omega
            · unfold upF
              rw [e118, e119]
              by_cases ej : j = i
              · rw [if_pos ej, if_pos ej, if_pos ej, if_pos ej]; exact ⟨rfl, rfl, by omega, by omega⟩
              · rw [if_neg ej, if_neg ej, if_neg ej, if_neg ej]; exact hmm j j0 (by omega)
            · unfold upF
              by_cases c1 : wkK G w (doF G D 6 p k) k = k
              · rw [if_pos c1] at b1
                rw [c1]
                split
                · rfl
                · exact htk a (by omega) (by omega)
              · rw [if_neg c1] at b1; omega
            · by_cases c1 : wkK G w (doF G D 6 p k) k = k
              · rw [if_pos c1] at b1
                unfold upF
                rw [if_neg (by omega)]
                split
                · exact fun e => hall a (by omega) (by omega) ⟨e, htk a (by omega) (by omega)⟩
                · exact hdi a b (by omega) b2 (by omega)
              · rw [if_neg c1] at b1; omega
        | succ m ihm =>
          intro a a0 ai hma hall
          have hma2 := hmm a a0 (by omega)
          refine k_X12_ringIn_10 _ _ _ _ _ _ _ ?_
          rw [a45, a46, hma2.1, hma2.2.1]
          refine ⟨by omega, fun hge => by omega, fun _ => ⟨by omega, by omega, fun hne => ihm (a + 1) (by omega) (by omega) (by omega) (fun j j0 j1 => ?_), fun heq => ⟨by omega, by omega, fun hne => ihm (a + 1) (by omega) (by omega) (by omega) (fun j j0 j1 => ?_), fun heq2 => ?_⟩⟩⟩
          · by_cases e : j = a
            · rw [e]; exact fun t => hne t.1
            · exact hall j j0 (by omega)
          · by_cases e : j = a
            · rw [e]; exact fun t => hne t.2
            · exact hall j j0 (by omega)
          · have hf1 : fst_ (trB tp tk p k) i.toNat = a := fst_eq _ a0 (by omega) (by unfold trB; rw [Bool.and_eq_true, decide_eq_true_eq, decide_eq_true_eq]; omega) (fun j j0 j1 => dec2_no (hall j j0 (by omega)))
            rw [hf1, if_pos a0] at he
            refine ⟨by omega, fun hge => ?_, fun hlt => ⟨by omega, ?_⟩⟩
            · rw [if_neg (by omega)] at he
              have := h N hf hI; rw [← he] at this; exact this
            · rw [if_pos (by omega)] at he
              rw [(hmm (a + kk) (by omega) (by omega)).1]
              have := h N hf hI; rw [← he] at this; exact this
      exact srch _ 0 (by decide) i0 rfl (fun j j0 j1 => by omega)
  refine e_X12_ringIn _ _ _ _ _ ?_
  refine s_X12_setsOut hG hs w0 (by omega) (fun N fN e113 AN => ?_)
  have hst := st_start hw (w := w) hs
  exact key 100 0 _ _ 0 0 _ (fun _ => 0) (fun _ => 0) N (by decide) (by decide) (frN_W fN) (hH.of e113) AN hst (by decide) hneg (by decide) (by decide) (by decide) (by have := unk_le6 hw (lrn 0 ((G 5 ((G 0 6)))) w); omega) (fun j j0 j1 => by omega) (fun a b1 b2 => by omega) (fun a b b1 b2 b3 => by omega) rfl
theorem r_ring {Q : Int → aM → aW → Prop} {M : aM} {W : aW} {G : Lnd} {D : Int → Int → Int} {on w n tn fk fp : Int} {wp wh wk tp : Int → Int} {x : Int} (h : rfS G D on w n wp wh wk tn tp fk fp M) (hi : inI x) (k : ∀ N, frK M N → rfS G D on w n wp wh wk tn tp fk fp N → Q (aRing G D x) N W) : CallI 247 [vR 86, vI x] (M, W) Q := by
  have kk := k _ (frK_thr M 0) h.thr
  have h2 := h.thr (v := 0)
  have hw := h2.G.W
  have hn := h2.G.n
  have ht := h2.G.t
  unfold aRing at k kk
  have key : 0 ≤ x → 0 ≤ (G 0 6) → 0 ≤ (G 0 7) → ∀ (m : Nat) (y : Int) (N : aM), 0 ≤ y → y ≤ p2_ ((G 0 3)) → (p2_ ((G 0 3)) - y).toNat = m → frW (up_ M 86 2 0) N → rfS G D on w n wp wh wk tn tp fk fp N → (∀ z, 0 ≤ z → z < y → ¬ (0 < wtG G z ∧ hoP G D 6 z < 0)) → Xs 247 (20, [some (some (vR 86)), some (some (vI x)), some (some (vI y))], [], (N, W)) (QI Q) := by
    intro x0 hs hg m
    rw [if_pos ⟨x0, hs, hg⟩] at k
    unfold rgF at k
    induction m with
    | zero =>
      intro y N y0 y1 hm fN hN hall
      have := k N (frK_tr (frK_thr M 0) (frK_W fN)) hN
      have hno : rgW G D = -1 := fst_no _ (fun j j0 j1 => dec2_no (hall j j0 (by omega)))
      rw [hno, if_neg (by decide)] at this
      refine k_X12_ring_20 _ _ _ _ _ ?_
      rw [hN.G.o22]
      exact ⟨by omega, fun _ => this, fun hlt => by omega⟩
    | succ m ih =>
      intro y N y0 y1 hm fN hN hall
      have hWn := wtG_nn hw y
      have hWl := wtG_le hw y0 (show y < p2_ ((G 0 3)) by omega)
      refine k_X12_ring_20 _ _ _ _ _ ?_
      rw [hN.G.o22, hN.Wt.1 y y0 (by omega)]
      refine ⟨by omega, fun hge => by omega, fun _ => ⟨by omega, by omega, fun hle => ih (y + 1) N (by omega) (by omega) (by omega) fN hN (fun z z0 z1 => ?_), fun hgt => ?_⟩⟩
      · by_cases e : z = y
        · rw [e]; exact fun t => by omega
        · exact hall z z0 (by omega)
      · have hO := hN.ok (plan := 6) (by decide) (by decide)
        have hho : -2 ≤ hoP G D 6 y ∧ hoP G D 6 y ≤ 19800 ∧ hoP G D 6 y ≠ -1 := hoursF_rng hw hO y0 (by omega) (by omega) hs
        refine s_X12_hoursIn hN.G hg hs hN.I (rfD_o hN.p (by decide)) hO (by decide) y0 (by omega) (by omega) (fun K fK IK => ⟨by omega, fun hge => ih (y + 1) K (by omega) (by omega) (by omega) (frW_tr fN fK) (hN.wk fK IK) (fun z z0 z1 => ?_), fun hlt => ?_⟩)
        · by_cases e : z = y
          · rw [e]; exact fun t => by omega
          · exact hall z z0 (by omega)
        · have hK := hN.wk fK IK
          refine s_X12_ringIn hK.G hg hs hK.I (rfD_o hK.p (by decide)) hO y0 (by omega) (by omega) (by omega) x0 hi (fun L fL IL => ?_)
          have e1 : rgW G D = y := fst_eq _ y0 (by omega) (by rw [Bool.and_eq_true, decide_eq_true_eq, decide_eq_true_eq]; omega) (fun j j0 j1 => dec2_no (hall j j0 (by omega)))
          have := k L (frK_tr (frK_thr M 0) (frK_tr (frK_W (frW_tr fN fK)) (fun b j c => fL b j (by omega) (by omega) (by omega) (by omega) (by omega)))) ?_
          · rw [e1, if_pos y0] at this; exact this
          · have hS : rfS G D on w n wp wh wk tn tp fk fp (fun b j => if b = 118 ∨ b = 119 then L b j else K b j) := hK.sc (fun b j c => if_neg (fun q => c (by unfold scR; omega)))
            exact hS.wk (fun b j c1 c2 c3 => by
              show L b j = (if b = 118 ∨ b = 119 then L b j else K b j)
              by_cases e : b = 118 ∨ b = 119
              · rw [if_pos e]
              · rw [if_neg e]; exact fL b j c1 c2 (by omega) (by omega) c3) IL
  refine e_X12_ring _ _ _ _ ?_
  refine s_X12_hasEnds h2.G (fun r hr => ⟨by omega, fun q => ?_, fun q => ⟨hi, fun hge => key hge (by omega) (by omega) _ 0 _ (by decide) (by omega) rfl (frW_refl _) h2 (fun z z0 z1 => by omega), fun hlt => ?_⟩⟩)
  · rw [if_neg (by omega)] at kk; exact kk
  · rw [if_neg (by omega)] at kk; exact kk
