/-! FAIR: a plan that follows the acts ends, in each world within its value less what ending costs there -/
theorem leV_ge2 {lik : Int → Int} {v : Int → Int → Int} {k p d w : Int} (hl : 0 < lik (k + (bt w d + 1) * thr_ d)) (h1 : 0 < lik (k + thr_ d) → v (k + thr_ d) p ≤ 1152921504606846976) (h2 : 0 < lik (k + 2 * thr_ d) → v (k + 2 * thr_ d) p ≤ 1152921504606846976) : v (k + (bt w d + 1) * thr_ d) p ≤ leV 0 lik v k p d := by
  unfold leV
  rcases bt_cs w d with hb | hb
  · rw [hb] at hl ⊢
    rw [show ((0 : Int) + 1) * thr_ d = thr_ d by omega] at hl ⊢
    have := h1 hl
    rw [if_neg (by omega)]
    split
    · omega
    · split
      · omega
      · split
        · omega
        · rw [if_pos rfl]; unfold max_; split <;> omega
  · rw [hb] at hl ⊢
    rw [show ((1 : Int) + 1) * thr_ d = 2 * thr_ d by omega] at hl ⊢
    have := h2 hl
    split
    · omega
    · rw [if_neg (by omega)]
      split
      · omega
      · split
        · omega
        · rw [if_pos rfl]; unfold max_; split <;> omega
noncomputable def muF (G : Lnd) (e : Int → Int) (p k : Int) : Nat := cnt_ (fun q => decide (VF G e k q < VF G e k p)) ((G 0 0)).toNat + 11 * unk G k
theorem csS_0 {lik : Int → Int} {k h : Int} : csS 0 lik k h = h := if_pos rfl
def folE (G : Lnd) (A : Int → Int → Int) (w : Int) (n : Nat) (p k h B : Int) : Prop := ∃ t : Int, 0 ≤ t ∧ HI G A w n p k h = h + t ∧ t ≤ B
theorem follow {G : Lnd} (hw : WF G) {e : Int → Int} {A : Int → Int → Int} {w : Int} (he : enO G 0 (lkG G) (enG G e)) (w0 : 0 ≤ w) (w1 : w < p2_ ((G 0 3))) (hW : 0 < wtG G w)
    (hA : ∀ p k, stO G w p k → p ≠ (G 0 7) → A p k = AA G 0 (lkG G) (enG G e) k p) : ∀ (m : Nat) (p k h : Int) (n : Nat), muF G e p k = m → m ≤ n → stO G w p k → VF G e k p < 1152921504606846976 → folE G A w n p k h (VF G e k p - e w) := by
  have hN := hw.N; unfold wfN at hN
  have ht := thrG hw
  have hr := VV_rng hw (lkG_ok hw) he
  have h64 := p2_lt64 hw
  intro m; induction m using Nat.strongRecOn with
  | _ m ih =>
    intro p k h n hm hn hst hV
    obtain ⟨hp, hkk, hag, hs⟩ := id hst
    have hlk := lkG_pos hw w0 w1 hW hag
    have hD := (VV_is hw 0 (enG G e) (lkG_ok hw) k hkk.1 hkk.2 hlk)
    have hgol : ∀ q, 0 ≤ q → q < (G 0 0) → q = (G 0 7) → VF G e k q = enG G e k := fun q q0 q1 hq => by
      have := (hD q q0 (by omega)).1 (decide_eq_true (Or.inl hq))
      show VV G 0 (lkG G) (enG G e) k q = _
      rw [this]; unfold bS; rw [if_pos hq]
    have hew := enG_ge hw (e := e) w0 w1 hag hW
    by_cases hg : p = (G 0 7)
    · refine ⟨0, Int.le_refl _, ?_, ?_⟩
      · cases n with
        | zero => unfold HI; rw [if_pos hg]; omega
        | succ n => unfold HI; rw [if_pos hg]; omega
      · rw [hgol p hp.1 hp.2 hg]; omega
    · have hfm : fm_ k ((G 5 p)) < 0 := seen_fm.mpr hs
      have hfx : fxS G k p = false := decide_eq_false (fun hh => by rcases hh with hh | hh <;> omega)
      have hVst : VF G e k p = stq 1152921504606846976 (cS G 0 (lkG G) k) (eS G 0 (lkG G) (VF G e) k) ((G 0 0)).toNat (VF G e k) p := (hD p hp.1 (by omega)).2 hfx
      have hAA : A p k = actF G 0 (lkG G) (VF G e) k (VF G e k) p := by
        rw [hA p k hst hg]; unfold AA actS; rw [if_neg hg, if_neg (by omega)]
      rw [stq_mn] at hVst
      have hbnd : ∀ k' d, k' = k → 0 ≤ d → d < (G 0 3) → dg k d = 0 → (0 < lkG G (k + thr_ d) → VF G e (k + thr_ d) p ≤ 1152921504606846976) ∧ (0 < lkG G (k + 2 * thr_ d) → VF G e (k + 2 * thr_ d) p ≤ 1152921504606846976) := fun k' d _ d0 d1 hd => by
        have b1 := dg_lt (v := 1) hkk.1 (by omega) hkk.2 d0 d1 hd (by decide)
        have b2 := dg_lt (v := 2) hkk.1 (by omega) hkk.2 d0 d1 hd (by decide)
        exact ⟨fun hl => (hr _ (by omega) (by omega) hl p hp.1 hp.2).2.1, fun hl => (hr _ (by omega) (by omega) hl p hp.1 hp.2).2.1⟩
      have hcl : ∀ p' k', cnt_ (fun q => decide (VF G e k' q < VF G e k' p')) ((G 0 0)).toNat ≤ ((G 0 0)).toNat := fun p' k' => cnt_le _ _
      -- one step on
      have stp : ∀ a, A p k = a → 0 ≤ a → actOK G k p a → muF G e (wkP a p) (wkK G w a k) < m → VF G e (wkK G w a k) (wkP a p) < 1152921504606846976 → VF G e (wkK G w a k) (wkP a p) + wkH G a p k ≤ VF G e k p → folE G A w n p k h (VF G e k p - e w) := by
        intro a ha a0 hok hmu hVn hle
        have hst' := st_step hw hst hok a0
        have hH := wkH_rng hw hp.1 hp.2 hok a0
        obtain ⟨n', rfl⟩ : ∃ n', n = n' + 1 := ⟨n - 1, by omega⟩
        obtain ⟨t, t0, t1, t2⟩ := ih _ hmu (wkP a p) (wkK G w a k) (h + wkH G a p k) n' rfl (by omega) hst' hVn
        refine ⟨wkH G a p k + t, by omega, ?_, by omega⟩
        unfold HI
        rw [if_neg hg, ha, if_neg (by omega), t1]; omega
      unfold actF aw_ at hAA
      by_cases hc : mn_ (wcS G 0 (lkG G) (VF G e) k p) (mn_ (cand 1152921504606846976 (cS G 0 (lkG G) k) (VF G e k) p) 1152921504606846976 ((G 0 0)).toNat) ((G 0 5)).toNat < mn_ (cand 1152921504606846976 (cS G 0 (lkG G) k) (VF G e k) p) 1152921504606846976 ((G 0 0)).toNat
      · rw [if_pos hc] at hAA
        obtain ⟨a1, a2, a3, -⟩ := am_first (d := -1) ((G 0 5)).toNat hc
        rw [← hVst] at a3
        generalize hz : am_ (wcS G 0 (lkG G) (VF G e) k p) (mn_ (cand 1152921504606846976 (cS G 0 (lkG G) k) (VF G e k) p) 1152921504606846976 ((G 0 0)).toNat) (-1) ((G 0 5)).toNat = z at *
        unfold wcS at a3
        by_cases hcc : G 6 z = p ∧ dg k (G 7 z) = 0
        · rw [if_pos hcc, csS_0] at a3
          have hWz := hw.W z a1 (by omega)
          have hok : actOK G k p (100 + z) := Or.inr (Or.inr ⟨by omega, by omega, by rw [show 100 + z - 100 = z by omega]; exact hcc⟩)
          have e1 : wkP (100 + z) p = p := if_pos (by omega)
          have e2 : wkK G w (100 + z) k = lrn k (p2_ (G 7 z)) w := by unfold wkK; rw [if_pos (by omega), show 100 + z - 100 = z by omega]
          have e3 : wkH G (100 + z) p k = G 8 z := by unfold wkH; rw [if_pos (by omega), show 100 + z - 100 = z by omega]
          have e4 := lrn_one (w := w) hkk.1 (show k < 729 by omega) hWz.2.1.1 (show G 7 z < 6 by omega) hcc.2
          have hu := unk_lrn hw (w := w) (r := p2_ (G 7 z)) hWz.2.1.1 hWz.2.1.2 hcc.2 (by rw [bt_p2 hWz.2.1.1 (by omega) hWz.2.1.1 (by omega), if_pos rfl])
          have hb := hbnd k (G 7 z) rfl hWz.2.1.1 hWz.2.1.2 hcc.2
          have hlk1 := lkG_pos hw w0 w1 hW (lrn_ag (r := p2_ (G 7 z)) hag)
          rw [e4] at hlk1
          have hge := leV_ge2 (v := VF G e) (p := p) hlk1 hb.1 hb.2
          rw [← e4] at hge
          refine stp (100 + z) hAA (by omega) hok ?_ ?_ ?_
          · rw [e1, e2]
            unfold muF at hm ⊢
            have := hcl p (lrn k (p2_ (G 7 z)) w)
            omega
          · rw [e1, e2]; omega
          · rw [e1, e2, e3]; omega
        · rw [if_neg hcc] at a3; omega
      · rw [if_neg hc] at hAA
        have hVc : VF G e k p = mn_ (cand 1152921504606846976 (cS G 0 (lkG G) k) (VF G e k) p) 1152921504606846976 ((G 0 0)).toNat := by
          have := mn_le_top (wcS G 0 (lkG G) (VF G e) k p) (mn_ (cand 1152921504606846976 (cS G 0 (lkG G) k) (VF G e k) p) 1152921504606846976 ((G 0 0)).toNat) ((G 0 5)).toNat
          omega
        obtain ⟨a1, a2, a3, -⟩ := am_first (g := cand 1152921504606846976 (cS G 0 (lkG G) k) (VF G e k) p) (top := 1152921504606846976) (d := -2) ((G 0 0)).toNat (by omega)
        rw [← hVc] at a3
        generalize hz : am_ (cand 1152921504606846976 (cS G 0 (lkG G) k) (VF G e k) p) 1152921504606846976 (-2) ((G 0 0)).toNat = z at *
        unfold cand at a3
        by_cases hcc : 0 < cS G 0 (lkG G) k p z
        · rw [if_pos hcc] at a3
          have hps := cS_pos hw hp.1 (show p < 10 by omega) a1 (show z < 10 by omega) hcc
          have hcs : cS G 0 (lkG G) k p z = pas G p z k := csS_0
          have hok : actOK G k p z := Or.inr (Or.inl ⟨a1, by omega, hps⟩)
          have e1 : wkP z p = z := if_neg (by omega)
          have e2 : wkK G w z k = lrn k ((G 5 z)) w := if_neg (by omega)
          have e3 : wkH G z p k = pas G p z k := if_neg (by omega)
          by_cases hzg : z = (G 0 7)
          · obtain ⟨n', rfl⟩ : ∃ n', n = n' + 1 := ⟨n - 1, by
              have hpos := cnt_pos (P := fun q => decide (VF G e k q < VF G e k p)) ((G 0 0)).toNat z a1 a2 (decide_eq_true (by omega))
              unfold muF at hm; omega⟩
            refine ⟨pas G p z k, by omega, ?_, ?_⟩
            · unfold HI
              rw [if_neg hg, hAA, if_neg (by omega), e1, e2, e3]
              cases n' with
              | zero => unfold HI; rw [if_pos hzg]
              | succ n' => unfold HI; rw [if_pos hzg]
            · have := hgol z a1 (by omega) hzg; omega
          · have hle := V_learn hw he w0 w1 hW a1 (show z < (G 0 0) by omega) hzg _ k rfl hkk.1 hkk.2 hag
            refine stp z hAA a1 hok ?_ ?_ ?_
            · rw [e1, e2]
              by_cases hf : fm_ k ((G 5 z)) < 0
              · rw [lrn_id hkk.1 (by omega) (seen_fm.mp hf)]
                unfold muF at hm ⊢
                have hlt : cnt_ (fun q => decide (VF G e k q < VF G e k z)) ((G 0 0)).toNat < cnt_ (fun q => decide (VF G e k q < VF G e k p)) ((G 0 0)).toNat := by
                  refine cnt_lt _ z a1 a2 (fun i i0 i1 hi => ?_) (by simp) (by simp; omega)
                  rw [decide_eq_true_eq] at hi ⊢; omega
                omega
              · have hmm := fm_in hw a1 (show z < 10 by omega) (k := k) (by omega)
                have hu := unk_lrn hw (w := w) (r := (G 5 z)) (show 0 ≤ fm_ k ((G 5 z)) by omega) hmm.1 hmm.2.1 hmm.2.2
                unfold muF at hm ⊢
                have := hcl z (lrn k ((G 5 z)) w)
                omega
            · rw [e1, e2]; omega
            · rw [e1, e2, e3]; omega
        · rw [if_neg hcc] at a3; omega
/-- from the start: hours and what ending costs are at most the value where nothing is known -/
theorem follow_start {G : Lnd} (hw : WF G) {e : Int → Int} {A : Int → Int → Int} {w : Int} (he : enO G 0 (lkG G) (enG G e)) (w0 : 0 ≤ w) (w1 : w < p2_ ((G 0 3))) (hW : 0 < wtG G w) (hs : 0 ≤ (G 0 6)) (hsg : (G 0 6) ≠ (G 0 7))
    (hA : ∀ p k, stO G w p k → p ≠ (G 0 7) → A p k = AA G 0 (lkG G) (enG G e) k p) (hV : VF G e 0 ((G 0 6)) < 1152921504606846976) : 0 ≤ hoursF G A w ∧ hoursF G A w ≤ VF G e 0 ((G 0 6)) - e w := by
  have hN := hw.N; unfold wfN at hN
  have ht := thrG hw
  have d0 : ∀ i, 0 ≤ i → i < 6 → dg 0 i = 0 := fun i i0 i6 => by rcases six_ i0 i6 with e | e | e | e | e | e <;> rw [e] <;> decide
  have hag : agB 0 w = true := by rw [agB_iff]; exact fun i i0 i6 => Or.inl (d0 i i0 i6)
  have hst := st_start hw (w := w) hs
  have hle := V_learn hw he w0 w1 hW hs (by omega) hsg _ 0 rfl (by decide) (by omega) hag
  have hmu : muF G e ((G 0 6)) (lrn 0 ((G 5 ((G 0 6)))) w) ≤ 100 := by
    unfold muF unk
    have c1 := cnt_le (fun q => decide (VF G e (lrn 0 ((G 5 ((G 0 6)))) w) q < VF G e (lrn 0 ((G 5 ((G 0 6)))) w) ((G 0 6)))) ((G 0 0)).toNat
    have c2 := cnt_le (fun i => decide (dg (lrn 0 ((G 5 ((G 0 6)))) w) i = 0)) ((G 0 3)).toNat
    omega
  obtain ⟨t, t0, t1, t2⟩ := follow hw he w0 w1 hW hA _ ((G 0 6)) (lrn 0 ((G 5 ((G 0 6)))) w) 0 100 rfl hmu hst (by omega)
  unfold hoursF
  omega
