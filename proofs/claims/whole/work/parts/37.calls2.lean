/-! THE CLASS's calls that change its state, and those of ADVICE, BELLS, WALKS -/
theorem clS.part {c : Int} {G : Lnd} {D : Int → Int → Int} {on w n : Int} {wp wh wk : Int → Int} {tn : Int} {tp : Int → Int} {fk fp L : Int} {M N : aM} {W : aW} {D' : Int → Int → Int} {on' w' n' : Int} {wp' wh' wk' : Int → Int} (h : clS c G D on w n wp wh wk tn tp fk fp L M W)
    (hfr : ∀ b j, ¬ (31 ≤ b ∧ b ≤ 35) → ¬ (b = 36 ∧ j = 11) → ¬ (46 ≤ b ∧ b ≤ 49) → ¬ (65 ≤ b ∧ b ≤ 76) → ¬ (82 ≤ b ∧ b ≤ 85) → N b j = M b j) (ha : adI c G N) (hp : plI G D' N) (hj : joM G on' w' n' wp' wh' wk' N) : clS c G D' on' w' n' wp' wh' wk' tn tp fk fp L N W := by
  obtain ⟨⟨h1, h2⟩, h3, h4, h5, h6, h7, h8, h9, h10, h11⟩ := h
  have e : ∀ b j, b < 31 ∨ (b = 36 ∧ j ≠ 11) ∨ (37 ≤ b ∧ b ≤ 45) ∨ (50 ≤ b ∧ b ≤ 64) ∨ (77 ≤ b ∧ b ≤ 81) ∨ 86 ≤ b → N b j = M b j := fun b j hb => hfr b j (by omega) (by omega) (by omega) (by omega) (by omega)
  exact ⟨⟨by rw [e _ _ (by omega)]; exact h1, by rw [e _ _ (by omega)]; exact h2⟩, h3.of (fun b j hb => e b j (by unfold inP at hb; omega)), h4.of (fun b j hb => e b j (by omega)), ha, h6.of (fun b j hb => e b j (by omega)), hp, hj, h9.of (fun b j hb => e b j (by omega)), by rw [e _ _ (by omega)]; exact h10, by rw [e _ _ (by omega)]; exact h11⟩
def dRow (D : Int → Int → Int) (d t : Int) : Int → Int := if t = 5 then upF (D 5) (D 10 0) d else if t = 10 then fun _ => D 10 0 + 1 else D t
def dClear (D : Int → Int → Int) (t : Int) : Int → Int := if t = 10 then fun _ => 0 else D t
def dRule (D : Int → Int → Int) (p d x q t : Int) : Int → Int := if t = 20 then upF (D 20) (D 30 0) p else if t = 21 then upF (D 21) (D 30 0) d else if t = 22 then upF (D 22) (D 30 0) x else if t = 23 then upF (D 23) (D 30 0) q else if t = 30 then fun _ => D 30 0 + 1 else D t
def rowQ (G : Lnd) (D : Int → Int → Int) (d : Int) : Prop := 0 ≤ d ∧ d < (G 0 3) ∧ ∀ i, 0 ≤ i → i < D 10 0 → D 5 i ≠ d
theorem row_room {G : Lnd} (hw : WF G) {D : Int → Int → Int} (hD : pdO G D) {d : Int} (hq : rowQ G D d) : D 10 0 < 6 := by
  have hN := hw.N; unfold wfN at hN
  obtain ⟨-, -, -, hr, hd, -⟩ := hD
  have hr1 := hr.1
  have := php_le (f := upF (D 5) (D 10 0) d) (m := (G 0 3)) (s := D 10 0 + 1) (by omega) (by omega) (fun i i0 i1 => by
    unfold upF; split
    · exact ⟨hq.1, hq.2.1⟩
    · exact hr.2 i i0 (by omega)) (fun i j i0 ij j1 => by
    unfold upF
    rw [if_neg (show i ≠ D 10 0 by omega)]
    split
    · exact hq.2.2 i i0 (by omega)
    · exact hd i j i0 ij (by omega))
  omega
theorem dRow_ok {G : Lnd} (hw : WF G) {D : Int → Int → Int} (hD : pdO G D) {d : Int} (hq : rowQ G D d) : pdO G (dRow D d) := by
  have hroom := row_room hw hD hq
  obtain ⟨d0, d1, d2, hr, hd, hh⟩ := hD
  have hr1 := hr.1
  refine ⟨d0, d1, d2, ⟨by show 0 ≤ D 10 0 + 1 ∧ D 10 0 + 1 ≤ 6; omega, fun i i0 i1 => ?_⟩, fun i j i0 ij j1 => ?_, hh⟩
  · have i1' : i < D 10 0 + 1 := i1
    show 0 ≤ upF (D 5) (D 10 0) d i ∧ upF (D 5) (D 10 0) d i < (G 0 3)
    unfold upF; split
    · exact ⟨hq.1, hq.2.1⟩
    · exact hr.2 i i0 (by omega)
  · have j1' : j < D 10 0 + 1 := j1
    show upF (D 5) (D 10 0) d i ≠ upF (D 5) (D 10 0) d j
    unfold upF
    rw [if_neg (show i ≠ D 10 0 by omega)]
    split
    · exact hq.2.2 i i0 (by omega)
    · exact hd i j i0 ij (by omega)
theorem c_row {Q : Int → aM → aW → Prop} {M : aM} {W : aW} {G : Lnd} {D : Int → Int → Int} {c on w n tn fk fp L : Int} {wp wh wk tp : Int → Int} {d : Int} (h : clS c G D on w n wp wh wk tn tp fk fp L M W) (hd : inI d) (k1 : ¬ rowQ G D d → ∀ N, frC M N → clS c G D on w n wp wh wk tn tp fk fp L N W → Q (-1) N W) (k2 : rowQ G D d → ∀ N, frC M N → clS c G (dRow D d) on w n wp wh wk tn tp fk fp L N W → Q (D 10 0 + 1) N W) : CallI 132 [vR 0, vI d] (M, W) Q := by
  obtain ⟨⟨h4, -⟩, hP, hS, hA, -, hL, hJ, -⟩ := id h
  have hw := hP.2.2.1
  have hN := hw.N; unfold wfN at hN
  obtain ⟨hpd, ⟨m11, m46⟩, m31, mh⟩ := id hL
  have hr := hpd.2.2.2.1
  have hr1 := hr.1
  refine e_X11_row _ _ _ _ ?_
  rw [h4]
  refine ⟨ct_o hP.1, s_X3_hasDoubtful hP.1 hP.2.1 hw hd (fun r hr2 => ⟨by omega, fun hz => k1 (fun q => by have := q.1; have := q.2.1; omega) M (frC_refl M) h, fun hz => ?_⟩)⟩
  refine s_X7_inRow (ord := D 5) hr1.1 hr1.2 hd m11 (fun i i0 i1 => ⟨m46 i i0 i1, by have := hr.2 i i0 i1; omega⟩) (fun y hy => ⟨by omega, fun hy0 => ?_, fun hy0 => ?_⟩)
  · have hq : rowQ G D d := ⟨by omega, by omega, by
      rcases hy with ⟨-, q⟩ | ⟨q, -⟩
      · exact q
      · omega⟩
    have hroom := row_room hw hpd hq
    refine s_X7_addToRow hr1.1 hroom m11 (k2 hq _ (fun b j a b2 => by rw [up_b _ _ _ _ (by omega), up_b _ _ _ _ (by omega)]) ?_)
    have e : ∀ b j, b ≠ 46 → ¬ (b = 36 ∧ j = 11) → up_ (up_ M 46 (D 10 0) d) 36 11 (D 10 0 + 1) b j = M b j := fun b j a1 a2 => by unfold up_; rw [if_neg a2, if_neg (fun q => a1 q.1)]
    refine h.part (fun b j a1 a2 a3 a4 a5 => e b j (by omega) a2) (hA.of (fun b j a1 a2 => e b j (by omega) (by omega))) ⟨dRow_ok hw hpd hq, ⟨up_s _ _ _ _, fun i i0 i1 => ?_⟩, by rw [e _ _ (by decide) (by decide)]; exact m31, fun i i0 i1 => by rw [e _ _ (by decide) (by omega), e _ _ (by decide) (by omega), e _ _ (by decide) (by omega), e _ _ (by decide) (by omega)]; exact mh i i0 i1⟩ (hJ.of (fun b j a1 a2 => e b j (by omega) (by omega)))
    have i1' : i < D 10 0 + 1 := i1
    show up_ (up_ M 46 (D 10 0) d) 36 11 (D 10 0 + 1) 46 i = upF (D 5) (D 10 0) d i
    rw [up_b _ _ _ _ (by decide)]
    unfold upF
    by_cases he : i = D 10 0
    · rw [if_pos he, he, up_s]
    · rw [if_neg he, up_j _ _ _ he]; exact m46 i i0 (by omega)
  · refine k1 (fun q => ?_) M (frC_refl M) h
    rcases hy with ⟨a, -⟩ | ⟨-, a⟩
    · exact hy0 a
    · rcases fst_cs (fun i => decide (D 5 i = d)) (D 10 0).toNat with ⟨b, -⟩ | ⟨b1, b2, b3, -⟩
      · omega
      · exact q.2.2 _ b1 (by omega) (of_decide_eq_true b3)
theorem c_clear {Q : Int → aM → aW → Prop} {M : aM} {W : aW} {G : Lnd} {D : Int → Int → Int} {c on w n tn fk fp L : Int} {wp wh wk tp : Int → Int} (h : clS c G D on w n wp wh wk tn tp fk fp L M W) (k : ∀ N, frC M N → clS c G (dClear D) on w n wp wh wk tn tp fk fp L N W → Q (D 10 0) N W) : CallI 133 [vR 0] (M, W) Q := by
  obtain ⟨-, hP, hS, hA, -, hL, hJ, -⟩ := id h
  obtain ⟨⟨d0, d1, d2, hr, hd, hh⟩, ⟨m11, m46⟩, m31, mh⟩ := id hL
  refine e_X11_clear _ _ _ ?_
  intro v hv
  rw [hv, m11]
  have e : ∀ b j, ¬ (b = 36 ∧ j = 11) → up_ M 36 11 0 b j = M b j := fun b j a2 => by unfold up_; rw [if_neg a2]
  refine k _ (fun b j a1 a2 => e b j (by omega)) (h.part (fun b j a1 a2 a3 a4 a5 => e b j a2) (hA.of (fun b j a1 a2 => e b j (by omega))) ⟨⟨d0, d1, d2, ⟨by show (0 : Int) ≤ 0 ∧ (0 : Int) ≤ 6; decide, fun i i0 i1 => ?_⟩, fun i j i0 ij j1 => ?_, hh⟩, ⟨up_s _ _ _ _, fun i i0 i1 => ?_⟩, by rw [e _ _ (by decide)]; exact m31, fun i i0 i1 => by rw [e _ _ (by omega), e _ _ (by omega), e _ _ (by omega), e _ _ (by omega)]; exact mh i i0 i1⟩ (hJ.of (fun b j a1 a2 => e b j (by omega))))
  · have i1' : i < 0 := i1
    omega
  · have j1' : j < 0 := j1
    omega
  · have i1' : i < 0 := i1
    omega
noncomputable def aRows (G : Lnd) (what : Int) : Int := if 0 ≤ what ∧ what ≤ 6 ∧ 0 ≤ (G 0 6) ∧ 0 ≤ (G 0 7) ∧ what ≤ (G 0 3) then (if what = 0 then (frE G).1 else gL (frE G).2 (what - 1)) else -1
theorem frE_rng {G : Lnd} (hw : WF G) : inR ((G 0 3)) (gL (frE G).2) := by
  have hN := hw.N; unfold wfN at hN
  have hL : ∀ i, 0 ≤ i → i < 6 → gL L06 i = i := fun i i0 i1 => by rcases six_ i0 i1 with e | e | e | e | e | e <;> rw [e] <;> rfl
  have hRL : inR ((G 0 3)) (gL L06) := ⟨fun i i0 i1 => by rw [hL i i0 i1]; omega, fun i i0 i1 => by rw [hL i i0 (by omega)]; omega⟩
  have hU : ∀ (L : List Int) (s : Int × List Int), inR ((G 0 3)) (gL L) → inR ((G 0 3)) (gL s.2) → inR ((G 0 3)) (gL (frU G L s).2) := fun L s a b => by
    unfold frU; split
    · exact a
    · exact b
  have key : ∀ (m : Nat) (L : List Int) (s : Int × List Int), inR ((G 0 3)) (gL L) → inR ((G 0 3)) (gL s.2) → inR ((G 0 3)) (gL (frF G m L s).2) := by
    intro m; induction m with
    | zero => intro L s _ h; exact h
    | succ m ih =>
      intro L s h1 h2
      unfold frF
      cases hn : npL ((G 0 3)) L with
      | none => exact hU L s h1 h2
      | some L' => exact ih L' _ (inR_np (by omega) (by omega) h1 hn) (hU L s h1 h2)
  exact key 729 L06 (-2, L06) hRL hRL
theorem c_rows {Q : Int → aM → aW → Prop} {M : aM} {W : aW} {G : Lnd} {D : Int → Int → Int} {c on w n tn fk fp L : Int} {wp wh wk tp : Int → Int} {what : Int} (h : clS c G D on w n wp wh wk tn tp fk fp L M W) (hi : inI what) (k : ∀ N, frC M N → clS c G D on w n wp wh wk tn tp fk fp L N W → Q (aRows G what) N W) : CallL 134 [vR 0, vI what] (M, W) Q := by
  obtain ⟨⟨h4, -⟩, hP, hS, hA, -, hL, hJ, -⟩ := id h
  have hw := hP.2.2.1
  have hN := hw.N; unfold wfN at hN
  have kk := k M (frC_refl M) h
  unfold aRows at k kk
  have hfe := frE_rng hw
  refine e_X11_rows _ _ _ _ ?_
  rw [h4]
  refine ⟨hi, fun hneg => ?_, fun hpos => ⟨by omega, fun hgt => ?_, fun hle => ⟨ct_o hP.1, s_X3_hasEnds hP.1 hP.2.1 hw (fun r hr => ⟨by omega, fun hnz => ?_, fun hz => ?_⟩)⟩⟩⟩
  · rw [if_neg (by omega)] at kk; exact kk
  · rw [if_neg (by omega)] at kk; exact kk
  · rw [h4, hP.2.1.1]
    refine ⟨ct_o hP.1, by omega, fun hle2 => ?_, fun hgt2 => ?_⟩
    · rw [if_pos (by omega)] at k
      obtain ⟨a7, a69, a8, a70, a71⟩ := hA
      refine s_X0_findRow hP a7 (by omega) a8 (fun N hfr e8 e9 e72 => ?_)
      have k2 := k N (fun b j a1 a2 => hfr b j (by omega) (by omega) (by omega)) (h.part (fun b j b1 b2 b3 b4 b5 => hfr b j (by omega) (by omega) (by omega)) ⟨by rw [hfr _ _ (by decide) (by decide) (by decide)]; exact a7, fun q q0 q1 => by rw [hfr _ _ (by omega) (by decide) (by decide)]; exact a69 q q0 q1, Or.inr ⟨e8, e9, e72⟩, fun q q0 q1 => by rw [hfr _ _ (by omega) (by decide) (by decide)]; exact a70 q q0 q1, fun q q0 q1 => by rw [hfr _ _ (by omega) (by decide) (by decide)]; exact a71 q q0 q1⟩ (hL.of (fun b j hb => hfr b j (by omega) (by omega) (by omega))) (hJ.of (fun b j b1 b2 => hfr b j (by omega) (by omega) (by omega))))
      refine ⟨by omega, fun hne => ⟨by omega, ?_, ?_⟩, fun he => ?_⟩
      · rw [e72 _ (by omega) (by omega)]; have := hfe.1 (what - 1) (by omega) (by omega); omega
      · rw [if_neg hne] at k2; rw [e72 _ (by omega) (by omega)]; exact k2
      · rw [if_pos (by omega)] at k2; rw [e9]; exact k2
    · rw [if_neg (by omega)] at kk; exact kk
  · rw [if_neg (by omega)] at kk; exact kk
def rulQ (G : Lnd) (D : Int → Int → Int) (p d x q : Int) : Prop := (0 ≤ p ∧ p < (G 0 0)) ∧ (0 ≤ q ∧ q < (G 0 0)) ∧ (d = -1 ∨ (0 ≤ d ∧ d < (G 0 3) ∧ 0 ≤ x ∧ x ≤ 2)) ∧ D 30 0 < 30
theorem s_X4_add {M : aM} {W : aW} {Q : Int → aM → aW → Prop} {m p d x q : Int} (m0 : M 31 0 = m) (h0 : 0 ≤ m ∧ m ≤ 30) (k1 : m = 30 → Q (-1) M W) (k2 : m < 30 → Q m (up_ (up_ (up_ (up_ (up_ M 32 m p) 33 m d) 34 m x) 35 m q) 31 0 (m + 1)) W) : CallI 44 [vR 31, vI p, vI d, vI x, vI q] (M, W) Q := by
  have e1 : up_ M 32 m p 31 0 = m := by rw [up_b _ _ _ _ (by decide)]; exact m0
  have e2 : up_ (up_ M 32 m p) 33 m d 31 0 = m := by rw [up_b _ _ _ _ (by decide)]; exact e1
  have e3 : up_ (up_ (up_ M 32 m p) 33 m d) 34 m x 31 0 = m := by rw [up_b _ _ _ _ (by decide)]; exact e2
  have e4 : up_ (up_ (up_ (up_ M 32 m p) 33 m d) 34 m x) 35 m q 31 0 = m := by rw [up_b _ _ _ _ (by decide)]; exact e3
  refine e_X4_add _ _ _ _ _ _ _ ?_
  rw [m0, e1, e2, e3, e4, up_s]
  refine ⟨by omega, fun hlt => ⟨by omega, by omega, by omega, by omega, ?_⟩, fun hge => k1 (by omega)⟩
  rw [show m + 1 - 1 = m by omega]; exact k2 hlt
theorem c_rule {Q : Int → aM → aW → Prop} {M : aM} {W : aW} {G : Lnd} {D : Int → Int → Int} {c on w n tn fk fp L : Int} {wp wh wk tp : Int → Int} {p d x q : Int} (h : clS c G D on w n wp wh wk tn tp fk fp L M W) (hp : inI p) (hd : inI d) (hx : inI x) (hq : inI q) (k1 : ¬ rulQ G D p d x q → ∀ N, frC M N → clS c G D on w n wp wh wk tn tp fk fp L N W → Q (-1) N W) (k2 : rulQ G D p d x q → ∀ N, frC M N → clS c G (dRule D p d x q) on w n wp wh wk tn tp fk fp L N W → Q (D 30 0) N W) : CallI 135 [vR 0, vI p, vI d, vI x, vI q] (M, W) Q := by
  obtain ⟨⟨h4, -⟩, hP, hS, hA, -, hL, hJ, -⟩ := id h
  have hw := hP.2.2.1
  obtain ⟨hpd, ⟨m11, m46⟩, m31, mh⟩ := id hL
  obtain ⟨d0, d1, d2, hr, hdf, hh⟩ := hpd
  have hh1 := hh.1
  have no : ¬ rulQ G D p d x q → Q (-1) M W := fun hno => k1 hno M (frC_refl M) h
  have add : (0 ≤ p ∧ p < (G 0 0)) → (0 ≤ q ∧ q < (G 0 0)) → (d = -1 ∨ (0 ≤ d ∧ d < (G 0 3) ∧ 0 ≤ x ∧ x ≤ 2)) → CallI 44 [vR 31, vI p, vI d, vI x, vI q] (M, W) Q := by
    intro a1 a2 a3
    refine s_X4_add m31 hh1 (fun e => no (fun r => by have := r.2.2.2; omega)) (fun hlt => ?_)
    have hq' : rulQ G D p d x q := ⟨a1, a2, a3, hlt⟩
    generalize hN : up_ (up_ (up_ (up_ (up_ M 32 (D 30 0) p) 33 (D 30 0) d) 34 (D 30 0) x) 35 (D 30 0) q) 31 0 (D 30 0 + 1) = N
    have e : ∀ b j, ¬ (31 ≤ b ∧ b ≤ 35) → N b j = M b j := fun b j a => by rw [← hN, up_b _ _ _ _ (by omega), up_b _ _ _ _ (by omega), up_b _ _ _ _ (by omega), up_b _ _ _ _ (by omega), up_b _ _ _ _ (by omega)]
    refine k2 hq' N (fun b j b1 b2 => e b j (by omega)) (h.part (fun b j b1 b2 b3 b4 b5 => e b j b1) (hA.of (fun b j b1 b2 => e b j (by omega))) ⟨⟨d0, d1, d2, hr, hdf, ⟨by show 0 ≤ D 30 0 + 1 ∧ D 30 0 + 1 ≤ 30; omega, fun i i0 i1 => ?_⟩⟩, ⟨by rw [e _ _ (by decide)]; exact m11, fun i i0 i1 => by rw [e _ _ (by decide)]; exact m46 i i0 i1⟩, by rw [← hN, up_s]; rfl, fun i i0 i1 => ?_⟩ (hJ.of (fun b j b1 b2 => e b j (by omega))))
    · have i1' : i < D 30 0 + 1 := i1
      show (0 ≤ upF (D 20) (D 30 0) p i ∧ upF (D 20) (D 30 0) p i < (G 0 0)) ∧ (-1 ≤ upF (D 21) (D 30 0) d i ∧ upF (D 21) (D 30 0) d i < (G 0 3)) ∧ (0 ≤ upF (D 23) (D 30 0) q i ∧ upF (D 23) (D 30 0) q i < (G 0 0)) ∧ (0 ≤ upF (D 21) (D 30 0) d i → 0 ≤ upF (D 22) (D 30 0) x i ∧ upF (D 22) (D 30 0) x i ≤ 2)
      unfold upF
      by_cases he : i = D 30 0
      · rw [if_pos he, if_pos he, if_pos he, if_pos he]
        have hNN := hw.N; unfold wfN at hNN
        omega
      · rw [if_neg he, if_neg he, if_neg he, if_neg he]; exact hh.2 i i0 (by omega)
    · have i1' : i < D 30 0 + 1 := i1
      show N 32 i = upF (D 20) (D 30 0) p i ∧ N 33 i = upF (D 21) (D 30 0) d i ∧ (0 ≤ upF (D 21) (D 30 0) d i → N 34 i = upF (D 22) (D 30 0) x i) ∧ N 35 i = upF (D 23) (D 30 0) q i
      unfold upF
      rw [← hN, up_b _ _ _ (b := 32) _ (by decide), up_b _ _ _ (b := 32) _ (by decide), up_b _ _ _ (b := 32) _ (by decide), up_b _ _ _ (b := 32) _ (by decide), up_b _ _ _ (b := 33) _ (by decide), up_b _ _ _ (b := 33) _ (by decide), up_b _ _ _ (b := 33) _ (by decide), up_b _ _ _ (b := 34) _ (by decide), up_b _ _ _ (b := 34) _ (by decide), up_b _ _ _ (b := 35) _ (by decide)]
      by_cases he : i = D 30 0
      · rw [if_pos he, if_pos he, if_pos he, if_pos he, he, up_s, up_s, up_s, up_s]; exact ⟨rfl, rfl, fun _ => rfl, rfl⟩
      · rw [if_neg he, if_neg he, if_neg he, if_neg he, up_j _ _ _ he, up_j _ _ _ he, up_j _ _ _ he, up_j _ _ _ he, up_b _ _ _ (b := 33) _ (by decide), up_b _ _ _ (b := 34) _ (by decide), up_b _ _ _ (b := 34) _ (by decide), up_b _ _ _ (b := 35) _ (by decide), up_b _ _ _ (b := 35) _ (by decide), up_b _ _ _ (b := 35) _ (by decide)]; exact mh i i0 (by omega)
  refine e_X11_rule _ _ _ _ _ _ _ ?_
  rw [h4]
  refine ⟨ct_o hP.1, s_X3_hasPlace hP.1 hP.2.1 hw hp (fun r hr2 => ⟨by omega, fun hz => no (fun t => by have := t.1; omega), fun hz => ?_⟩)⟩
  rw [h4]
  refine ⟨ct_o hP.1, s_X3_hasPlace hP.1 hP.2.1 hw hq (fun r2 hr3 => ⟨by omega, fun hnz => ⟨by omega, fun hd1 => add (by omega) (by omega) (Or.inl hd1), fun hd1 => ?_⟩, fun hz2 => no (fun t => by have := t.2.1; omega)⟩)⟩
  rw [h4]
  refine ⟨ct_o hP.1, s_X3_hasDoubtful hP.1 hP.2.1 hw hd (fun r3 hr4 => ⟨by omega, fun hz3 => no (fun t => by have := t.2.2.1; omega), fun hz3 => ⟨by omega, fun hneg => no (fun t => by have := t.2.2.1; omega), fun hpos => ⟨by omega, fun hle => add (by omega) (by omega) (Or.inr (by omega)), fun hgt => no (fun t => by have := t.2.2.1; omega)⟩⟩⟩)⟩
