/-! THE REFERENCE's calls: rows, all tried -/
def frQ (M N : aM) : Prop := ∀ b j, b ≠ 104 → b ≠ 113 → b ≠ 114 → b ≠ 116 → b ≠ 117 → ¬ (b = 86 ∧ (j = 41 ∨ (45 ≤ j ∧ j ≤ 47))) → N b j = M b j
theorem frQ_refl (M : aM) : frQ M M := fun _ _ _ _ _ _ _ _ => rfl
theorem frQ_tr {M N K : aM} (h1 : frQ M N) (h2 : frQ N K) : frQ M K := fun b j a1 a2 a3 a4 a5 a6 => (h2 b j a1 a2 a3 a4 a5 a6).trans (h1 b j a1 a2 a3 a4 a5 a6)
theorem frQ_W {M N : aM} (h : frW M N) : frQ M N := fun b j a1 a2 a3 a4 a5 a6 => h b j a1 a2 (by omega)
theorem frQ.G {G : Lnd} {M N : aM} (h : frQ M N) (hG : rfG G M) : rfG G N := hG.of (fun b j c => by unfold inG at c; exact h b j (by omega) (by omega) (by omega) (by omega) (by omega) (by omega))
theorem frQ.W {G : Lnd} {M N : aM} (h : frQ M N) (hW : rfW G M) : rfW G N := hW.of (fun b j c => h b j (by omega) (by omega) (by omega) (by omega) (by omega) (by omega))
def pdT (G : Lnd) (L : List Int) (t : Int) : Int → Int := if t = 5 then gL L else if t = 10 then fun _ => (G 0 3) else fun _ => 0
theorem do5 {G : Lnd} {L : List Int} : doF G (pdT G L) 5 = doF G (pdR L) 7 := by
  funext p k
  unfold doF
  by_cases hp : p = (G 0 7)
  · rw [if_pos hp, if_pos hp]
  · rw [if_neg hp, if_neg (by decide), if_neg (by decide), if_neg (by decide), if_neg (by decide), if_neg (by decide), if_pos rfl, if_neg hp, if_neg (by decide), if_neg (by decide), if_neg (by decide), if_neg (by decide), if_neg (by decide), if_neg (by decide), if_pos rfl]
    rfl
theorem mn5 {G : Lnd} {L : List Int} : mnF (hoP G (pdT G L) 5) (wtG G) (p2_ ((G 0 3))).toNat = mnR G L := by
  show mnF (hoursF G (doF G (pdT G L) 5)) (wtG G) (p2_ ((G 0 3))).toNat = mnF (hoursF G (doF G (pdR L) 7)) (wtG G) (p2_ ((G 0 3))).toNat
  rw [do5]
theorem pdT_ok {G : Lnd} (hw : WF G) {L : List Int} (h : inR ((G 0 3)) (gL L)) : planOK G (pdT G L) 5 := by
  have hN := hw.N; unfold wfN at hN
  refine ⟨by decide, fun q => absurd q (by decide), fun _ => ?_, fun q => absurd q (by decide), fun q => absurd q (by decide)⟩
  show rowO G (gL L) ((G 0 3))
  exact ⟨by omega, h.2⟩
theorem pdT_rf {G : Lnd} (hw : WF G) {L : List Int} {M : aM} (h : inR ((G 0 3)) (gL L)) (h41 : M 86 41 = (G 0 3)) (hm : ∀ i, 0 ≤ i → i < 6 → M 114 i = gL L i) : rfD G (pdT G L) 5 M := by
  have hN := hw.N; unfold wfN at hN
  refine ⟨fun q => absurd q (by decide), fun _ => ?_, fun q => absurd q (by decide)⟩
  show rowO G (gL L) ((G 0 3)) ∧ M 86 41 = (G 0 3) ∧ ∀ i, 0 ≤ i → i < (G 0 3) → M 114 i = gL L i
  exact ⟨⟨by omega, h.2⟩, h41, fun i i0 i1 => hm i i0 (by omega)⟩
theorem mnF_cs {H Wt : Int → Int} (n : Nat) : mnF H Wt n = -2 ∨ 0 ≤ mnF H Wt n := by
  unfold mnF
  split
  · exact Or.inl rfl
  · rename_i c
    refine Or.inr (su_nn n (fun i i0 i1 => ?_))
    unfold mnT
    split
    · rename_i d
      have := ngB_cs n (Bool.eq_false_iff.mpr c) i i0 i1 d
      exact Int.mul_nonneg (by omega) this
    · exact Int.le_refl 0
theorem frF_S (G : Lnd) (n : Nat) (L : List Int) (s : Int × List Int) : frF G (n + 1) L s = match npL ((G 0 3)) L with
    | none => frU G L s
    | some L' => frF G n L' (frU G L s) := rfl
theorem L06_R {size : Int} (hs : size ≤ 6) : inR size (gL L06) := by
  have e : ∀ i, 0 ≤ i → i < 6 → gL L06 i = i := fun i i0 i1 => by
    rcases six_ i0 i1 with c | c | c | c | c | c <;> subst c <;> rfl
  exact ⟨fun i i0 i1 => by rw [e i i0 i1]; exact ⟨i0, i1⟩, fun i i0 i1 => by rw [e i i0 (by omega)]; exact ⟨i0, i1⟩⟩
/-- while the rows are tried -/
def rwI (G : Lnd) (M1 : aM) (a : List Int) (s : Int × List Int) (any x3 : Int) (N : aM) : Prop := frQ M1 N ∧ hopI G N ∧ N 86 41 = (G 0 3) ∧ inR ((G 0 3)) (gL a) ∧ (∀ i, 0 ≤ i → i < 6 → N 114 i = gL a i) ∧ (∀ i, 0 ≤ i → i < 6 → N 116 i = M1 114 i) ∧ ((any = 0 ∧ s = (-2, L06) ∧ a = L06) ∨ (any = 1 ∧ x3 = s.1 ∧ (-2 ≤ s.1 ∧ s.1 ≤ 1000000000000000) ∧ inR ((G 0 3)) (gL s.2) ∧ ∀ i, 0 ≤ i → i < (G 0 3) → N 117 i = gL s.2 i))
theorem r_rows {Q : Int → aM → aW → Prop} {M : aM} {W : aW} {G : Lnd} {D : Int → Int → Int} {on w n tn fk fp : Int} {wp wh wk tp : Int → Int} {what : Int} (h : rfS G D on w n wp wh wk tn tp fk fp M) (hi : inI what) (k : ∀ N, frK M N → rfS G D on w n wp wh wk tn tp fk fp N → Q (aRows G what) N W) : CallL 245 [vR 86, vI what] (M, W) Q := by
  have kk := k _ (frK_thr M 0) h.thr
  have h2 := h.thr (v := 0)
  have hw := h2.G.W
  have hn := h2.G.n
  have ht := h2.G.t
  have fr := frK_thr M 0
  unfold aRows at k kk
  obtain ⟨hpd, ⟨m41, m114⟩, m43, m115⟩ := id h2.p
  have hsz := hpd.2.2.2.1.1
  refine e_X12_rows _ _ _ _ ?_
  generalize up_ M 86 2 0 = M1 at *
  have l205 : ∀ (m : Nat) (i x3 x5 x6 v : Int) (N : aM), 0 ≤ i → i ≤ 6 → (6 - i).toNat = m → frQ M1 N → hopI G N → N 86 41 = D 10 0 → (∀ j, 0 ≤ j → j < i → N 114 j = M1 114 j) → (∀ j, 0 ≤ j → j < 6 → N 116 j = M1 114 j) → v = aRows G what → Xs 245 (205, [some (some (vR 86)), some (some (vI what)), some (some (vI (D 10 0))), some (some (vL x3)), some none, some (some (vI x5)), some (some (vI x6)), some (some (vL v)), some none, some (some (vI i))], [], (N, W)) (QL Q) := by
    intro m
    induction m with
    | zero =>
      intro i x3 x5 x6 v N i0 i1 hm fN IN e41 e114 e116 ev
      refine k_X12_rows_205 _ _ _ _ _ _ _ _ _ _ ?_
      refine ⟨by omega, fun _ => ?_, fun hlt => by omega⟩
      unfold aRows at ev
      rw [ev]
      refine k N (frK_tr fr (fun b j c => fN b j (by omega) (by omega) (by omega) (by omega) (by omega) (by omega))) (h2.gen (fun b j c1 c2 c3 c4 c5 => fN b j (by unfold scR at c1; omega) c2 (by omega) (by unfold scR at c1; omega) (by unfold scR at c1; omega) (by unfold scR at c1; omega)) IN ⟨hpd, ⟨e41, fun j j0 j1 => by rw [e114 j j0 (by omega)]; exact m114 j j0 j1⟩, by rw [fN _ _ (by decide) (by decide) (by decide) (by decide) (by decide) (by decide)]; exact m43, fun j j0 j1 => by rw [fN 115 _ (by decide) (by decide) (by decide) (by decide) (by decide) (by omega), fN 115 _ (by decide) (by decide) (by decide) (by decide) (by decide) (by omega), fN 115 _ (by decide) (by decide) (by decide) (by decide) (by decide) (by omega), fN 115 _ (by decide) (by decide) (by decide) (by decide) (by decide) (by omega)]; exact m115 j j0 j1⟩ (h2.j.of (fun b j c => fN b j (by omega) (by omega) (by omega) (by omega) (by omega) (by omega))))
    | succ m ih =>
      intro i x3 x5 x6 v N i0 i1 hm fN IN e41 e114 e116 ev
      refine k_X12_rows_205 _ _ _ _ _ _ _ _ _ _ ?_
      refine ⟨by omega, fun hge => by omega, fun _ => ⟨by omega, by omega, ih (i + 1) _ _ _ _ _ (by omega) (by omega) (by omega) (frQ_tr fN (fun b j a1 a2 a3 a4 a5 a6 => up_b _ _ _ _ a3)) (IN.of (fun j => up_b _ _ _ _ (by decide))) (by rw [up_b _ _ _ _ (by decide)]; exact e41) (fun j j0 j1 => ?_) (fun j j0 j1 => by rw [up_b _ _ _ _ (by decide)]; exact e116 j j0 j1) ev⟩⟩
      by_cases e : j = i
      · rw [e, up_s]; exact e116 i i0 (by omega)
      · rw [up_j _ _ _ e]; exact e114 j j0 (by omega)
  have fin80 : (0 ≤ what ∧ what ≤ 6) → 0 ≤ (G 0 6) → 0 ≤ (G 0 7) → ∀ (a : List Int) (d7 d8 d9 : aL) (N : aM), rwI G M1 a (frE G) 1 (frE G).1 N → Xs 245 (80, [some (some (vR 86)), some (some (vI what)), some (some (vI (D 10 0))), some (some (vL ((frE G).1))), some none, some (some (vI 1)), some (some (vI 0)), d7, d8, d9], [], (N, W)) (QL Q) := by
    intro hwh hs hg a d7 d8 d9 N ⟨fN, IN, e41, iR, e114, e116, e117⟩
    have c7 : inR ((G 0 3)) (gL (frE G).2) ∧ ∀ i, 0 ≤ i → i < (G 0 3) → N 117 i = gL (frE G).2 i := by
      rcases e117 with ⟨c, -⟩ | ⟨-, -, -, c1, c2⟩
      · exact absurd c (by decide)
      · exact ⟨c1, c2⟩
    have goo : ∀ v, v = aRows G what → Xs 245 (205, [some (some (vR 86)), some (some (vI what)), some (some (vI (D 10 0))), some (some (vL ((frE G).1))), some none, some (some (vI 1)), some (some (vI 0)), some (some (vL v)), some none, some (some (vI 0))], [], (up_ N 86 41 (D 10 0), W)) (QL Q) := fun v ev => l205 6 0 _ _ _ _ _ (by decide) (by decide) rfl (frQ_tr fN (fun b j a1 a2 a3 a4 a5 a6 => by unfold up_; exact if_neg (by omega))) (IN.of (fun j => up_b _ _ _ _ (by decide))) (up_s _ _ _ _) (fun j j0 j1 => by omega) (fun j j0 j1 => by rw [up_b _ _ _ _ (by decide)]; exact e116 j j0 j1) ev
    refine k_X12_rows_80 _ _ _ _ _ _ _ _ _ _ _ ?_
    rw [e41]
    refine ⟨by decide, fun _ => ⟨hi, fun hne => ⟨by omega, fun hgt => goo _ ?_, fun hle => ⟨by omega, ?_, ?_⟩⟩, fun heq => goo _ ?_⟩, fun y => absurd rfl y⟩
    · unfold aRows; rw [if_neg (by omega)]
    · rw [c7.2 _ (by omega) (by omega)]; have := c7.1.1 (what - 1) (by omega) (by omega); omega
    · rw [c7.2 _ (by omega) (by omega)]
      refine goo _ ?_
      unfold aRows; rw [if_pos (by omega), if_neg hne]
    · unfold aRows; rw [if_pos (by omega), if_pos (by omega)]
  have body : (0 ≤ what ∧ what ≤ 6) → 0 ≤ (G 0 6) → 0 ≤ (G 0 7) → ∀ (a : List Int) (n : Nat) (s : Int × List Int) (any x3 : Int) (N : aM) (d7 d8 d9 : aL), (npL ((G 0 3)) a = none ∨ ∃ b, npL ((G 0 3)) a = some b ∧ ∀ (s' : Int × List Int) (K : aM) (d7 d8 d9 : aL), frF G n b s' = frE G → rwI G M1 b s' 1 s'.1 K → Xs 245 (80, [some (some (vR 86)), some (some (vI what)), some (some (vI (D 10 0))), some (some (vL s'.1)), some none, some (some (vI 1)), some (some (vI 1)), d7, d8, d9], [], (K, W)) (QL Q)) → frF G (n + 1) a s = frE G → rwI G M1 a s any x3 N → Xs 245 (80, [some (some (vR 86)), some (some (vI what)), some (some (vI (D 10 0))), some (some (vL x3)), some none, some (some (vI any)), some (some (vI 1)), d7, d8, d9], [], (N, W)) (QL Q) := by
    intro hwh hs hg a n s any x3 N d7 d8 d9 hnp he hI
    rw [frF_S] at he
    obtain ⟨fN, IN, e41, iR, e114, e116, e117⟩ := hI
    have aft : ∀ (s' : Int × List Int) (K : aM) (d7 d8 d9 : aL), frU G a s = s' → rwI G M1 a s' 1 s'.1 K → CallI 243 [vR 86] (K, W) (fun r M W => Xs 245 (80, [some (some (vR 86)), some (some (vI what)), some (some (vI (D 10 0))), some (some (vL s'.1)), some none, some (some (vI 1)), some (some (vI r)), d7, d8, d9], [], (M, W)) (QL Q)) := by
      intro s' K d7 d8 d9 hs' hK
      obtain ⟨fK, IK, k41, -, k114, k116, k117⟩ := id hK
      refine s_X12_nextRow (f := gL a) (size := (G 0 3)) (by omega) (by omega) k41 iR k114 (fun r L hL hr => ?_)
      rw [hs'] at he
      rcases hr with ⟨e0, e1, e2⟩ | ⟨e0, e1, e2⟩
      · have en : npL ((G 0 3)) a = none := by unfold npL; rw [if_pos e1]
        rw [en] at he
        have he' : s' = frE G := he
        rw [e0, e2, he']
        rw [he'] at hK
        exact fin80 hwh hs hg a _ _ _ K hK
      · have en : npL ((G 0 3)) a = some (tabL (rvF (swF (gL a) (riF (gL a) ((G 0 3) - 1).toNat) (otF (gL a) (riF (gL a) ((G 0 3) - 1).toNat) ((G 0 3) - 1).toNat)) (riF (gL a) ((G 0 3) - 1).toNat + 1) ((G 0 3) - 1) 6)) := by unfold npL; rw [if_neg (by omega)]
        rcases hnp with c | ⟨b, c1, c2⟩
        · rw [en] at c; exact absurd c (by simp)
        · rw [c1] at he
          have he' : frF G n b s' = frE G := he
          have ib := inR_np (by omega) (by omega) iR c1
          have eb : ∀ i, 0 ≤ i → i < 6 → L 114 i = gL b i := fun i i0 i1 => by
            rw [e2 i i0 i1]
            rw [en] at c1
            rw [← Option.some.inj c1, gL_tab _ i0 i1]
          rw [e0]
          refine c2 s' L _ _ _ he' ⟨frQ_tr fK (fun q j a1 a2 a3 a4 a5 a6 => hL q j (by omega)), IK.of (fun j => hL _ j (by omega)), by rw [hL _ _ (by decide)]; exact k41, ib, eb, fun i i0 i1 => by rw [hL _ _ (by decide)]; exact k116 i i0 i1, ?_⟩
          rcases k117 with ⟨d, -⟩ | ⟨d1, d2, d3, d4, d5⟩
          · exact absurd d (by decide)
          · exact Or.inr ⟨d1, d2, d3, d4, fun i i0 i1 => by rw [hL _ _ (by decide)]; exact d5 i i0 i1⟩
    have hmr := mnR_rng hw hs iR
    have hmc : mnR G a = -2 ∨ 0 ≤ mnR G a := mnF_cs _
    have l126 : ∀ (m : Nat) (i : Int) (K : aM), 0 ≤ i → i ≤ (G 0 3) → ((G 0 3) - i).toNat = m → frU G a s = (mnR G a, a) → frQ M1 K → hopI G K → K 86 41 = (G 0 3) → (∀ i, 0 ≤ i → i < 6 → K 114 i = gL a i) → (∀ i, 0 ≤ i → i < 6 → K 116 i = M1 114 i) → (∀ j, 0 ≤ j → j < i → K 117 j = gL a j) → Xs 245 (126, [some (some (vR 86)), some (some (vI what)), some (some (vI (D 10 0))), some (some (vL (mnR G a))), some none, some (some (vI 1)), some (some (vI 1)), some (some (vL (mnR G a))), some none, some (some (vI i))], [], (K, W)) (QL Q) := by
      intro m
      induction m with
      | zero =>
        intro i K i0 i1 hm hs' fK IK k41 k114 k116 k117
        refine k_X12_rows_126 _ _ _ _ _ _ _ _ _ _ ?_
        rw [k41]
        refine ⟨by omega, fun _ => ?_, fun hlt => by omega⟩
        exact aft (mnR G a, a) K _ _ _ hs' ⟨fK, IK, k41, iR, k114, k116, Or.inr ⟨rfl, rfl, hmr, iR, fun j j0 j1 => k117 j j0 (by omega)⟩⟩
      | succ m ih =>
        intro i K i0 i1 hm hs' fK IK k41 k114 k116 k117
        refine k_X12_rows_126 _ _ _ _ _ _ _ _ _ _ ?_
        rw [k41, k114 i i0 (by omega)]
        refine ⟨by omega, fun hge => by omega, fun _ => ⟨by omega, by omega, ih (i + 1) _ (by omega) (by omega) (by omega) hs' (frQ_tr fK (fun b j a1 a2 a3 a4 a5 a6 => up_b _ _ _ _ a5)) (IK.of (fun j => up_b _ _ _ _ (by decide))) (by rw [up_b _ _ _ _ (by decide)]; exact k41) (fun j j0 j1 => by rw [up_b _ _ _ _ (by decide)]; exact k114 j j0 j1) (fun j j0 j1 => by rw [up_b _ _ _ _ (by decide)]; exact k116 j j0 j1) (fun j j0 j1 => ?_)⟩⟩
        by_cases e : j = i
        · rw [e, up_s]
        · rw [up_j _ _ _ e]; exact k117 j j0 (by omega)
    refine k_X12_rows_80 _ _ _ _ _ _ _ _ _ _ _ ?_
    refine ⟨by decide, fun y => absurd y (by decide), fun _ => ?_⟩
    refine s_X12_meanOf (D := pdT G a) (fN.G h2.G) hg hs IN (pdT_rf hw iR e41 e114) (pdT_ok hw iR) (by decide) (fN.W h2.Wt) (fun K fK IK => ?_)
    rw [mn5]
    have k41 : K 86 41 = (G 0 3) := by rw [fK _ _ (by decide) (by decide) (by omega)]; exact e41
    have k114 : ∀ i, 0 ≤ i → i < 6 → K 114 i = gL a i := fun i i0 i1 => by rw [fK _ _ (by decide) (by decide) (by omega)]; exact e114 i i0 i1
    have k116 : ∀ i, 0 ≤ i → i < 6 → K 116 i = M1 114 i := fun i i0 i1 => by rw [fK _ _ (by decide) (by decide) (by omega)]; exact e116 i i0 i1
    have fK' := frQ_tr fN (frQ_W fK)
    have same : frU G a s = s → any = 1 → ∀ d7 d8 d9 : aL, CallI 243 [vR 86] (K, W) (fun r M W => Xs 245 (80, [some (some (vR 86)), some (some (vI what)), some (some (vI (D 10 0))), some (some (vL x3)), some none, some (some (vI any)), some (some (vI r)), d7, d8, d9], [], (M, W)) (QL Q)) := by
      intro hs' ha d7 d8 d9
      rcases e117 with ⟨d, -⟩ | ⟨d1, d2, d3, d4, d5⟩
      · omega
      · rw [d1, d2]
        exact aft s K _ _ _ hs' ⟨fK', IK, k41, iR, k114, k116, Or.inr ⟨rfl, rfl, d3, d4, fun i i0 i1 => by rw [fK _ _ (by decide) (by decide) (by omega)]; exact d5 i i0 i1⟩⟩
    have upd : frU G a s = (mnR G a, a) → Xs 245 (126, [some (some (vR 86)), some (some (vI what)), some (some (vI (D 10 0))), some (some (vL (mnR G a))), some none, some (some (vI 1)), some (some (vI 1)), some (some (vL (mnR G a))), some none, some (some (vI 0))], [], (K, W)) (QL Q) := fun hs' => l126 _ 0 K (by decide) (by omega) rfl hs' fK' IK k41 k114 k116 (fun j j0 j1 => by omega)
    have hx3 : any = 0 ∨ (any = 1 ∧ x3 = s.1 ∧ -2 ≤ s.1 ∧ s.1 ≤ 1000000000000000) := by
      rcases e117 with ⟨d, -⟩ | ⟨d1, d2, d3, -⟩
      · exact Or.inl d
      · exact Or.inr ⟨d1, d2, d3⟩
    refine ⟨by omega, fun h0 => upd ?_, fun h1 => ⟨by omega, fun hneg => same ?_ (by omega) _ _ _, fun hpos => ⟨by omega, fun hl => upd ?_, fun hl => ⟨by omega, fun hge => same ?_ (by omega) _ _ _, fun hlt => upd ?_⟩⟩⟩⟩
    · rcases e117 with ⟨-, d2, d3⟩ | ⟨d1, -⟩
      · unfold frU
        rw [d2]
        split
        · rfl
        · rename_i c
          have : mnR G a = -2 := by
            rcases hmc with q | q
            · exact q
            · exact absurd ⟨q, Or.inl (by decide)⟩ c
          rw [this, d3]
      · omega
    · unfold frU; rw [if_neg (fun q => by have := q.1; omega)]
    · unfold frU; rw [if_pos ⟨by omega, Or.inl (by omega)⟩]
    · unfold frU; rw [if_neg (fun q => by have := q.2; omega)]
    · unfold frU; rw [if_pos ⟨by omega, Or.inr (by omega)⟩]
  have key : (0 ≤ what ∧ what ≤ 6) → 0 ≤ (G 0 6) → 0 ≤ (G 0 7) → ∀ (r : List (List Int)) (a : List Int) (n : Nat) (s : Int × List Int) (any x3 : Int) (N : aM) (d7 d8 d9 : aL), npC ((G 0 3)) (a :: r) = true → r.length < n → frF G n a s = frE G → rwI G M1 a s any x3 N → Xs 245 (80, [some (some (vR 86)), some (some (vI what)), some (some (vI (D 10 0))), some (some (vL x3)), some none, some (some (vI any)), some (some (vI 1)), d7, d8, d9], [], (N, W)) (QL Q) := by
    intro hwh hs hg r
    induction r with
    | nil =>
      intro a n s any x3 N d7 d8 d9 hc hl he hI
      obtain ⟨n', rfl⟩ : ∃ n', n = n' + 1 := ⟨n - 1, by have : ([] : List (List Int)).length = 0 := rfl; omega⟩
      exact body hwh hs hg a n' s any x3 N _ _ _ (Or.inl (of_decide_eq_true hc)) he hI
    | cons b r ih =>
      intro a n s any x3 N d7 d8 d9 hc hl he hI
      have hlen : (b :: r).length = r.length + 1 := rfl
      obtain ⟨n', rfl⟩ : ∃ n', n = n' + 1 := ⟨n - 1, by omega⟩
      have hc' : (decide (npL ((G 0 3)) a = some b) && npC ((G 0 3)) (b :: r)) = true := hc
      rw [Bool.and_eq_true, decide_eq_true_eq] at hc'
      exact body hwh hs hg a n' s any x3 N _ _ _ (Or.inr ⟨b, hc'.1, fun s' K e7 e8 e9 he' hK => ih b n' s' 1 s'.1 K e7 e8 e9 hc'.2 (by omega) he' hK⟩) he hI
  have l33 : (0 ≤ what ∧ what ≤ 6) → 0 ≤ (G 0 6) → 0 ≤ (G 0 7) → ∀ (m : Nat) (i : Int) (N : aM) (d4 d5 d6 d7 d8 d9 : aL), 0 ≤ i → i ≤ 6 → (6 - i).toNat = m → frQ M1 N → hopI G N → (∀ j, 0 ≤ j → j < i → N 114 j = j ∧ N 116 j = M1 114 j) → (∀ j, i ≤ j → N 114 j = M1 114 j) → Xs 245 (33, [some (some (vR 86)), some (some (vI what)), some (some (vI (D 10 0))), some (some (vI i)), d4, d5, d6, d7, d8, d9], [], (N, W)) (QL Q) := by
    intro hwh hs hg m
    induction m with
    | zero =>
      intro i N d4 d5 d6 d7 d8 d9 i0 i1 hm fN IN e1 e2
      have hp := pm_all (size := (G 0 3)) (by omega) (by omega)
      refine k_X12_rows_33 _ _ _ _ _ _ _ _ _ _ _ _ ?_
      refine ⟨by omega, fun _ => s_X12_doubts (fN.G h2.G) (key hwh hs hg (pmT ((G 0 3))) L06 729 (-2, L06) 0 0 _ _ _ _ hp.1 hp.2 rfl ⟨frQ_tr fN (fun b j a1 a2 a3 a4 a5 a6 => by unfold up_; exact if_neg (by omega)), IN.of (fun j => up_b _ _ _ _ (by decide)), up_s _ _ _ _, L06_R (by omega), fun j j0 j1 => ?_, fun j j0 j1 => by rw [up_b _ _ _ _ (by decide)]; exact (e1 j j0 (by omega)).2, Or.inl ⟨rfl, rfl, rfl⟩⟩), fun hlt => by omega⟩
      rw [up_b _ _ _ _ (by decide), (e1 j j0 (by omega)).1]
      rcases six_ j0 j1 with c | c | c | c | c | c <;> subst c <;> rfl
    | succ m ih =>
      intro i N d4 d5 d6 d7 d8 d9 i0 i1 hm fN IN e1 e2
      refine k_X12_rows_33 _ _ _ _ _ _ _ _ _ _ _ _ ?_
      refine ⟨by omega, fun hge => by omega, fun _ => ⟨by omega, by omega, by omega, ih (i + 1) _ _ _ _ _ _ _ (by omega) (by omega) (by omega) (frQ_tr fN (fun b j a1 a2 a3 a4 a5 a6 => by rw [up_b _ _ _ _ a3, up_b _ _ _ _ a4])) (IN.of (fun j => by rw [up_b _ _ _ _ (by decide), up_b _ _ _ _ (by decide)])) (fun j j0 j1 => ?_) (fun j j0 => ?_)⟩⟩
      · rw [up_b _ _ _ (a := 114) (b := 116) _ (by decide)]
        by_cases e : j = i
        · rw [e, up_s, up_s]; exact ⟨rfl, e2 i (Int.le_refl _)⟩
        · rw [up_j _ _ _ e, up_b _ _ _ _ (by decide), up_j _ _ _ e]; exact e1 j j0 (by omega)
      · rw [up_j _ _ _ (show j ≠ i by omega), up_b _ _ _ _ (by decide)]; exact e2 j (by omega)
  refine s_X12_isIn hi (by decide) (by decide) (fun r hr => ⟨by omega, fun q => ?_, fun q => s_X12_hasEnds h2.G (fun r2 hr2 => ⟨by omega, fun q2 v ev => ?_, fun q2 => ?_⟩)⟩)
  · rw [if_neg (by omega)] at kk; exact kk
  · rw [ev, m41]
    exact l33 (by omega) (by omega) (by omega) _ 0 _ _ _ _ _ _ _ (by decide) (by decide) rfl (frQ_refl _) h2.I (fun j j0 j1 => by omega) (fun j j0 => rfl)
  · rw [if_neg (by omega)] at kk; exact kk
