/-! THE REFERENCE: its fixed point is the class's, the top apart -/
def rel3 (x y : Int) : Prop := (x < 1152921504606846976 ∧ y = x) ∨ (1152921504606846976 ≤ x ∧ 4000000000000000000 ≤ y)
theorem mn_up {g g' : Int → Int} {s : Int} (hs : s ≤ 1152921504606846976) : ∀ n : Nat, (∀ i : Int, 0 ≤ i → i < n → rel3 (g i) (g' i)) → mn_ g' (upV s) n = upV (mn_ g s n)
  | 0, _ => rfl
  | n + 1, h => by
    have ih := mn_up hs n (fun i a b => h i a (by omega))
    have hn := h n (by omega) (by omega)
    have ht := mn_le_top g s n
    unfold rel3 at hn
    rw [mn_S, mn_S, ih]
    unfold upV
    by_cases q : g n < mn_ g s n
    · rw [if_pos q]
      by_cases q2 : mn_ g s n < 1152921504606846976
      · rw [if_pos q2, if_pos (by omega), if_pos (by omega)]; omega
      · rw [if_neg q2, if_pos (by omega), if_pos (by omega)]; omega
    · rw [if_neg q]
      by_cases q2 : mn_ g s n < 1152921504606846976
      · rw [if_pos q2, if_neg (by omega)]
      · rw [if_neg q2, if_neg (by omega)]
def cR (G : Lnd) (sm : Int) (lik : Int → Int) (k : Int) : Int → Int → Int := cS G sm lik k
def eR (G : Lnd) (st k : Int) (bo : Int → Int) (p : Int) : Int := mn_ (boF G st k bo p) 4000000000000000000 ((G 0 5)).toNat
def stR (G : Lnd) (sm : Int) (lik : Int → Int) (k : Int) (bo R : Int → Int) (p : Int) : Int := stq 4000000000000000000 (cR G sm lik k) (eR G (sT sm lik k) k bo) ((G 0 0)).toNat R p
theorem st_rng {G : Lnd} {sm k : Int} {lik : Int → Int} (hl : likO G lik) (k0 : 0 ≤ k) (k1 : k < thr_ ((G 0 3))) (hlk : 0 < lik k) : 1 ≤ sT sm lik k ∧ sT sm lik k ≤ 20000000000 := by
  have := hl.1 k k0 k1
  unfold sT; split <;> omega
theorem lsF_st {G : Lnd} (hw : WF G) {sm k p : Int} {lik bo R : Int → Int} (hl : likO G lik) (k0 : 0 ≤ k) (k1 : k < thr_ ((G 0 3))) (hlk : 0 < lik k) (p0 : 0 ≤ p) (p1 : p < (G 0 0)) : lsF G (sT sm lik k) k R bo p = stR G sm lik k bo R p := by
  have hN := hw.N; unfold wfN at hN
  have hst := st_rng (sm := sm) hl k0 k1 hlk
  have e : mn_ (goF G (sT sm lik k) k R p) 4000000000000000000 ((G 0 0)).toNat = mn_ (cand 4000000000000000000 (cR G sm lik k) R p) 4000000000000000000 ((G 0 0)).toNat := by
    refine mn_top_congr _ (fun q q0 q1 => ?_)
    have hpr := pasB_rng hw (p := p) (q := q) (op := opn k) (sh := sht k) p0 (by omega) q0 (by omega)
    unfold goF cand cR cS
    rw [csS_sT]
    unfold pas
    by_cases h : 0 < pasB G p q (opn k) (sht k)
    · have hc : 0 < pasB G p q (opn k) (sht k) * sT sm lik k := Int.mul_pos h (by omega)
      rw [if_pos h, if_pos hc]
      unfold aft
      by_cases h2 : R q < 4000000000000000000
      · rw [if_pos h2]; exact Or.inl (by rw [Int.mul_comm, Int.add_comm])
      · rw [if_neg h2]; exact Or.inr (by omega)
    · have e0 : pasB G p q (opn k) (sht k) = 0 := by omega
      rw [e0, if_neg (by decide), if_neg (by rw [Int.zero_mul]; decide)]; exact Or.inl rfl
  unfold lsF stR stq
  rw [e, mn_shift (boF G (sT sm lik k) k bo p) (t := 4000000000000000000) (mn_le_top _ _ _)]
  rfl
/-- what buying a word is worth -/
def boV (G : Lnd) (sm : Int) (lik : Int → Int) (v : Int → Int → Int) (k w : Int) : Int := upV (leV sm lik v k (G 6 w) (G 7 w))
theorem leV_B {G : Lnd} (hw : WF G) {sm k p d : Int} {lik : Int → Int} {v : Int → Int → Int} (hl : likO G lik) (hB : vB G lik v) (k0 : 0 ≤ k) (k1 : k < thr_ ((G 0 3))) (hlk : 0 < lik k) (d0 : 0 ≤ d) (d1 : d < (G 0 3)) (hd : dg k d = 0) (p0 : 0 ≤ p) (p1 : p < (G 0 0)) : -2000000000000000 ≤ leV sm lik v k p d ∧ leV sm lik v k p d ≤ 1152921504606846976 ∧ (leV sm lik v k p d < 1152921504606846976 → leV sm lik v k p d ≤ 200000000000000000) := by
  have hN := hw.N; unfold wfN at hN
  have b1 := dg_lt (v := 1) k0 (by omega) k1 d0 d1 hd (by decide)
  have b2 := dg_lt (v := 2) k0 (by omega) k1 d0 d1 hd (by decide)
  rw [show k + 1 * thr_ d = k + thr_ d by omega] at b1
  have hs := hl.2 k d k0 k1 d0 d1 hd
  have c1 := fun h => hB _ b1.1 b1.2 h p p0 p1
  have c2 := fun h => hB _ b2.1 b2.2 h p p0 p1
  unfold leV
  by_cases q1 : lik (k + thr_ d) ≤ 0
  · rw [if_pos q1]; have := c2 (by omega); omega
  · rw [if_neg q1]
    have := c1 (by omega)
    by_cases q2 : lik (k + 2 * thr_ d) ≤ 0
    · rw [if_pos q2]; omega
    · rw [if_neg q2]
      have := c2 (by omega)
      split
      · omega
      · split
        · omega
        · unfold max_; split <;> (try split) <;> omega
theorem upV_rng {x : Int} (h : -2000000000000000 ≤ x) : -2000000000000000 ≤ upV x ∧ upV x ≤ 4000000000000000000 := by unfold upV; split <;> omega
theorem aft_v1 {st h x : Int} (q : x < 1152921504606846976) : aft st h (upV x) = st * h + x := by
  unfold aft upV; rw [if_pos q, if_pos (by omega)]
theorem aft_v2 {st h x : Int} (q : 1152921504606846976 ≤ x) : aft st h (upV x) = 4000000000000000000 := by
  unfold aft upV; rw [if_neg (by omega)]
theorem rel_go {G : Lnd} (hw : WF G) {sm k p q : Int} {lik : Int → Int} {v : Int → Int → Int} (hl : likO G lik) (hB : vB G lik v) (k0 : 0 ≤ k) (k1 : k < thr_ ((G 0 3))) (hlk : 0 < lik k) (p0 : 0 ≤ p) (p1 : p < (G 0 0)) (q0 : 0 ≤ q) (q1 : q < (G 0 0)) : rel3 (cand 1152921504606846976 (cS G sm lik k) (v k) p q) (goF G (sT sm lik k) k (fun q => upV (v k q)) p q) := by
  have hN := hw.N; unfold wfN at hN
  have hst := st_rng (sm := sm) hl k0 k1 hlk
  have hpr := pasB_rng hw (p := p) (q := q) (op := opn k) (sh := sht k) p0 (by omega) q0 (by omega)
  have hb := hB k k0 k1 hlk q q0 q1
  unfold goF cand cS
  rw [csS_sT]
  unfold pas rel3
  by_cases h : 0 < pasB G p q (opn k) (sht k)
  · have hc : 0 < pasB G p q (opn k) (sht k) * sT sm lik k := Int.mul_pos h (by omega)
    have hc2 : pasB G p q (opn k) (sht k) * sT sm lik k ≤ 198 * 20000000000 := Int.le_trans (Int.mul_le_mul_of_nonneg_right hpr.2 (by omega)) (Int.mul_le_mul_of_nonneg_left hst.2 (by decide))
    rw [if_pos h, if_pos hc]
    by_cases z1 : v k q < 1152921504606846976
    · have e1 : aft (sT sm lik k) (pasB G p q (opn k) (sht k)) ((fun q => upV (v k q)) q) = sT sm lik k * pasB G p q (opn k) (sht k) + v k q := aft_v1 z1
      rw [e1, Int.mul_comm (sT sm lik k)]; exact Or.inl (by omega)
    · have e1 : aft (sT sm lik k) (pasB G p q (opn k) (sht k)) ((fun q => upV (v k q)) q) = 4000000000000000000 := aft_v2 (by omega)
      rw [e1]; exact Or.inr (by omega)
  · have e0 : pasB G p q (opn k) (sht k) = 0 := by omega
    rw [e0, Int.zero_mul, if_neg (by decide), if_neg (by decide)]; exact Or.inr (by decide)
theorem rel_bo {G : Lnd} (hw : WF G) {sm k p w : Int} {lik : Int → Int} {v : Int → Int → Int} (hl : likO G lik) (hB : vB G lik v) (k0 : 0 ≤ k) (k1 : k < thr_ ((G 0 3))) (hlk : 0 < lik k) (w0 : 0 ≤ w) (w1 : w < (G 0 5)) : rel3 (wcS G sm lik v k p w) (boF G (sT sm lik k) k (boV G sm lik v k) p w) := by
  have hst := st_rng (sm := sm) hl k0 k1 hlk
  have hWw := hw.W w w0 w1
  unfold wcS boF rel3
  by_cases h : G 6 w = p ∧ dg k (G 7 w) = 0
  · rw [if_pos h, if_pos h]
    have hb := leV_B hw (sm := sm) hl hB k0 k1 hlk hWw.2.1.1 hWw.2.1.2 h.2 hWw.1.1 hWw.1.2
    unfold boV
    rw [← h.1, csS_sT]
    have hc : 0 < G 8 w * sT sm lik k := Int.mul_pos (by omega) (by omega)
    have hc2 : G 8 w * sT sm lik k ≤ 99 * 20000000000 := Int.le_trans (Int.mul_le_mul_of_nonneg_right (by omega) (by omega)) (Int.mul_le_mul_of_nonneg_left hst.2 (by decide))
    unfold aft upV
    by_cases h2 : leV sm lik v k (G 6 w) (G 7 w) < 1152921504606846976
    · rw [if_pos h2, if_pos (by omega), Int.mul_comm (sT sm lik k)]; exact Or.inl (by omega)
    · rw [if_neg h2, if_neg (by decide)]; exact Or.inr (by omega)
  · rw [if_neg h, if_neg h]; exact Or.inr (by decide)
theorem stR_up {G : Lnd} (hw : WF G) {sm k p : Int} {lik : Int → Int} {v : Int → Int → Int} (hl : likO G lik) (hB : vB G lik v) (k0 : 0 ≤ k) (k1 : k < thr_ ((G 0 3))) (hlk : 0 < lik k) (p0 : 0 ≤ p) (p1 : p < (G 0 0)) : stR G sm lik k (boV G sm lik v k) (fun q => upV (v k q)) p = upV (stq 1152921504606846976 (cS G sm lik k) (eS G sm lik v k) ((G 0 0)).toNat (v k) p) := by
  rw [← lsF_st hw hl k0 k1 hlk p0 p1, stq_mn]
  unfold lsF
  have e1 := mn_up (g := cand 1152921504606846976 (cS G sm lik k) (v k) p) (g' := goF G (sT sm lik k) k (fun q => upV (v k q)) p) (Int.le_refl 1152921504606846976) ((G 0 0)).toNat (fun i i0 i1 => rel_go hw hl hB k0 k1 hlk p0 p1 i0 (by omega))
  rw [show upV 1152921504606846976 = 4000000000000000000 from rfl] at e1
  rw [e1]
  exact mn_up (mn_le_top _ _ _) ((G 0 5)).toNat (fun i i0 i1 => rel_bo hw hl hB k0 k1 hlk i0 (by omega))
/-- the class's values, told the reference's way, are its fixed point -/
theorem fixR {G : Lnd} (hw : WF G) {sm k : Int} {lik en : Int → Int} {v : Int → Int → Int} (hl : likO G lik) (hB : vB G lik v) (k0 : 0 ≤ k) (k1 : k < thr_ ((G 0 3))) (hlk : 0 < lik k) (hvk : isVk G sm lik en v k (v k)) : isFix 4000000000000000000 (cR G sm lik k) (eR G (sT sm lik k) k (boV G sm lik v k)) (fxS G k) (fun p => upV (v k p)) ((G 0 0)).toNat (fun p => upV (v k p)) := by
  have hN := hw.N; unfold wfN at hN
  intro p p0 p1
  refine ⟨fun _ => rfl, fun hx => ?_⟩
  have e := stR_up hw (sm := sm) hl hB k0 k1 hlk p0 (show p < (G 0 0) by omega)
  show upV (v k p) = stR G sm lik k (boV G sm lik v k) (fun q => upV (v k q)) p
  rw [e]
  have e2 : v k p = stq 1152921504606846976 (cS G sm lik k) (eS G sm lik v k) ((G 0 0)).toNat (v k) p := (hvk p p0 (by omega)).2 hx
  rw [← e2]
theorem rel_eq {x y V : Int} (h : rel3 x y) (hV : V < 1152921504606846976) : x = V ↔ y = V := by unfold rel3 at h; omega
/-- what the first of the least is -/
theorem act_q {G : Lnd} (hw : WF G) {sm k p q : Int} {lik : Int → Int} {v : Int → Int → Int} (hl : likO G lik) (hB : vB G lik v) (k0 : 0 ≤ k) (k1 : k < thr_ ((G 0 3))) (hlk : 0 < lik k) (p0 : 0 ≤ p) (p1 : p < (G 0 0)) (hst : v k p = stq 1152921504606846976 (cS G sm lik k) (eS G sm lik v k) ((G 0 0)).toNat (v k) p) (hV : v k p < 1152921504606846976) (q0 : 0 ≤ q) (q1 : q < (G 0 0)) (h1 : goF G (sT sm lik k) k (fun q => upV (v k q)) p q = v k p) (h2 : ∀ j, 0 ≤ j → j < q → goF G (sT sm lik k) k (fun q => upV (v k q)) p j ≠ v k p) : actF G sm lik v k (v k) p = q := by
  have hr := fun j j0 j1 => rel_eq (rel_go hw (sm := sm) hl hB k0 k1 hlk p0 p1 (q := j) j0 j1) hV
  rw [stq_mn] at hst
  have hc := (hr q q0 q1).mpr h1
  have t1 := mn_le_top (wcS G sm lik v k p) (mn_ (cand 1152921504606846976 (cS G sm lik k) (v k) p) 1152921504606846976 ((G 0 0)).toNat) ((G 0 5)).toNat
  have t2 := mn_le (cand 1152921504606846976 (cS G sm lik k) (v k) p) 1152921504606846976 ((G 0 0)).toNat q q0 (by omega)
  unfold actF aw_
  rw [if_neg (by omega)]
  obtain ⟨a0, a1, a2, a3⟩ := am_first (g := cand 1152921504606846976 (cS G sm lik k) (v k) p) (top := 1152921504606846976) (d := -2) ((G 0 0)).toNat (by omega)
  refine first_uniq (v := v k p) a0 q0 (by omega) hc (fun j j0 j1 => by have := a3 j j0 j1; omega) (fun j j0 j1 e => h2 j j0 j1 ((hr j j0 (by omega)).mp e))
theorem no_cand {G : Lnd} (hw : WF G) {sm k p : Int} {lik : Int → Int} {v : Int → Int → Int} (hl : likO G lik) (hB : vB G lik v) (k0 : 0 ≤ k) (k1 : k < thr_ ((G 0 3))) (hlk : 0 < lik k) (p0 : 0 ≤ p) (p1 : p < (G 0 0)) (hV : v k p < 1152921504606846976) (h0 : ∀ j, 0 ≤ j → j < (G 0 0) → goF G (sT sm lik k) k (fun q => upV (v k q)) p j ≠ v k p) : mn_ (cand 1152921504606846976 (cS G sm lik k) (v k) p) 1152921504606846976 ((G 0 0)).toNat ≠ v k p := by
  intro e
  rcases mn_att (cand 1152921504606846976 (cS G sm lik k) (v k) p) 1152921504606846976 ((G 0 0)).toNat with h | ⟨i, i0, i1, h⟩
  · omega
  · exact h0 i i0 (by omega) ((rel_eq (rel_go hw (sm := sm) hl hB k0 k1 hlk p0 p1 (q := i) i0 (by omega)) hV).mp (by omega))
theorem act_w {G : Lnd} (hw : WF G) {sm k p w : Int} {lik : Int → Int} {v : Int → Int → Int} (hl : likO G lik) (hB : vB G lik v) (k0 : 0 ≤ k) (k1 : k < thr_ ((G 0 3))) (hlk : 0 < lik k) (p0 : 0 ≤ p) (p1 : p < (G 0 0)) (hst : v k p = stq 1152921504606846976 (cS G sm lik k) (eS G sm lik v k) ((G 0 0)).toNat (v k) p) (hV : v k p < 1152921504606846976) (h0 : ∀ j, 0 ≤ j → j < (G 0 0) → goF G (sT sm lik k) k (fun q => upV (v k q)) p j ≠ v k p) (w0 : 0 ≤ w) (w1 : w < (G 0 5)) (h1 : boF G (sT sm lik k) k (boV G sm lik v k) p w = v k p) (h2 : ∀ j, 0 ≤ j → j < w → boF G (sT sm lik k) k (boV G sm lik v k) p j ≠ v k p) : actF G sm lik v k (v k) p = 100 + w := by
  have hr := fun j j0 j1 => rel_eq (rel_bo hw (sm := sm) hl hB k0 k1 hlk (p := p) (w := j) j0 j1) hV
  have hno := no_cand hw hl hB k0 k1 hlk p0 p1 hV h0
  rw [stq_mn] at hst
  have hc := (hr w w0 w1).mpr h1
  have t1 := mn_le_top (wcS G sm lik v k p) (mn_ (cand 1152921504606846976 (cS G sm lik k) (v k) p) 1152921504606846976 ((G 0 0)).toNat) ((G 0 5)).toNat
  unfold actF aw_
  rw [if_pos (by omega)]
  obtain ⟨a0, a1, a2, a3⟩ := am_first (g := wcS G sm lik v k p) (top := mn_ (cand 1152921504606846976 (cS G sm lik k) (v k) p) 1152921504606846976 ((G 0 0)).toNat) (d := -1) ((G 0 5)).toNat (by omega)
  have := first_uniq (g := wcS G sm lik v k p) (v := v k p) a0 w0 (by omega) hc (fun j j0 j1 => by have := a3 j j0 j1; omega) (fun j j0 j1 e => h2 j j0 j1 ((hr j j0 (by omega)).mp e))
  omega
theorem act_n {G : Lnd} (hw : WF G) {sm k p : Int} {lik : Int → Int} {v : Int → Int → Int} (hl : likO G lik) (hB : vB G lik v) (k0 : 0 ≤ k) (k1 : k < thr_ ((G 0 3))) (hlk : 0 < lik k) (p0 : 0 ≤ p) (p1 : p < (G 0 0)) (hst : v k p = stq 1152921504606846976 (cS G sm lik k) (eS G sm lik v k) ((G 0 0)).toNat (v k) p) (hV : v k p < 1152921504606846976) (h0 : ∀ j, 0 ≤ j → j < (G 0 0) → goF G (sT sm lik k) k (fun q => upV (v k q)) p j ≠ v k p) (h2 : ∀ j, 0 ≤ j → j < (G 0 5) → boF G (sT sm lik k) k (boV G sm lik v k) p j ≠ v k p) : False := by
  have hr := fun j j0 j1 => rel_eq (rel_bo hw (sm := sm) hl hB k0 k1 hlk (p := p) (w := j) j0 j1) hV
  have hno := no_cand hw hl hB k0 k1 hlk p0 p1 hV h0
  rw [stq_mn] at hst
  rcases mn_att (wcS G sm lik v k p) (mn_ (cand 1152921504606846976 (cS G sm lik k) (v k) p) 1152921504606846976 ((G 0 0)).toNat) ((G 0 5)).toNat with h | ⟨i, i0, i1, h⟩
  · omega
  · exact h2 i i0 (by omega) ((hr i i0 (by omega)).mp (by omega))
theorem act_top {G : Lnd} {sm k p : Int} {lik : Int → Int} {v : Int → Int → Int} (hst : v k p = stq 1152921504606846976 (cS G sm lik k) (eS G sm lik v k) ((G 0 0)).toNat (v k) p) (hV : ¬ v k p < 1152921504606846976) : actF G sm lik v k (v k) p = -2 := by
  rw [stq_mn] at hst
  have t1 := mn_le_top (wcS G sm lik v k p) (mn_ (cand 1152921504606846976 (cS G sm lik k) (v k) p) 1152921504606846976 ((G 0 0)).toNat) ((G 0 5)).toNat
  have t2 := mn_le_top (cand 1152921504606846976 (cS G sm lik k) (v k) p) 1152921504606846976 ((G 0 0)).toNat
  unfold actF aw_
  rw [if_neg (by omega)]
  exact am_dfl _ (by omega)
/-- what is not seen at the goal costs what comes to be known -/
def enL (G : Lnd) (sm : Int) (lik en : Int → Int) : Prop := ∀ k d, 0 ≤ k → k < thr_ ((G 0 3)) → 0 < lik k → 0 ≤ d → d < (G 0 3) → dg k d = 0 → en k = leV sm lik (fun k' _ => en k') k 0 d
theorem vS_of {G : Lnd} (hw : WF G) {sm : Int} {lik en : Int → Int} {v : Int → Int → Int} (hl : likO G lik) (hV : isV G sm lik en v) (hE : enL G sm lik en) {p : Int} (p0 : 0 ≤ p) (p1 : p < (G 0 0)) : vS G sm lik v p := by
  have hN := hw.N; unfold wfN at hN
  intro k d k0 k1 hlk d0 d1 hm hf
  have hfm : fm_ k ((G 5 p)) = d := fm_eq d0 (by omega) hm hf
  have hfx : fxS G k p = true := decide_eq_true (Or.inr (by omega))
  have h1 : v k p = bS G sm lik en v k p := (hV k k0 k1 hlk p p0 (by omega)).1 hfx
  unfold bS at h1
  by_cases hg : p = (G 0 7)
  · rw [if_pos hg] at h1
    rw [h1, hE k d k0 k1 hlk d0 d1 hm.2]
    have b1 := dg_lt (v := 1) k0 (by omega) k1 d0 d1 hm.2 (by decide)
    have b2 := dg_lt (v := 2) k0 (by omega) k1 d0 d1 hm.2 (by decide)
    rw [show k + 1 * thr_ d = k + thr_ d by omega] at b1
    have hs := hl.2 k d k0 k1 d0 d1 hm.2
    have go : ∀ k', 0 ≤ k' → k' < thr_ ((G 0 3)) → 0 < lik k' → v k' p = en k' := fun k' a b c => by
      have h2 : v k' p = bS G sm lik en v k' p := (hV k' a b c p p0 (by omega)).1 (decide_eq_true (Or.inl hg))
      unfold bS at h2; rw [if_pos hg] at h2; exact h2
    unfold leV
    by_cases q1 : lik (k + thr_ d) ≤ 0
    · rw [if_pos q1, if_pos q1, go _ b2.1 b2.2 (by omega)]
    · rw [if_neg q1, if_neg q1, go _ b1.1 b1.2 (by omega)]
      by_cases q2 : lik (k + 2 * thr_ d) ≤ 0
      · rw [if_pos q2, if_pos q2]
      · rw [if_neg q2, if_neg q2, go _ b2.1 b2.2 (by omega)]
  · rw [if_neg hg, hfm] at h1; exact h1
theorem enL_0 {G : Lnd} {lik : Int → Int} : enL G 1 lik (fun _ => 0) := by
  intro k d _ _ _ _ _ _
  unfold leV
  dsimp only
  split
  · rfl
  · split
    · rfl
    · rw [if_neg (by decide), if_neg (by decide)]; rfl
theorem enL_G {G : Lnd} (hw : WF G) {e : Int → Int} (he : ∀ w, 0 ≤ w → w < p2_ ((G 0 3)) → 0 < wtG G w → -100000000 ≤ e w ∧ e w ≤ 100000000) : enL G 0 (lkG G) (enG G e) := by
  have hN := hw.N; unfold wfN at hN
  have ht := thrG hw
  intro k d k0 k1 hlk d0 d1 hd
  have hsp := enG_split hw (e := e) k0 (by omega) d0 (by omega) hd
  have hs := (lkG_ok hw).2 k d k0 k1 d0 d1 hd
  have r1 := fun hl => enG_rng hw (e := e) (B := 100000000) (k := k + thr_ d) (fun w w0 w1 hW => he w w0 w1 hW) hl (by decide)
  have r2 := fun hl => enG_rng hw (e := e) (B := 100000000) (k := k + 2 * thr_ d) (fun w w0 w1 hW => he w w0 w1 hW) hl (by decide)
  have n1 := fun hl => enG_none hw (e := e) (k := k + thr_ d) hl
  have n2 := fun hl => enG_none hw (e := e) (k := k + 2 * thr_ d) hl
  unfold leV
  by_cases q1 : lkG G (k + thr_ d) ≤ 0
  · rw [if_pos q1, hsp]
    have a := n1 q1; have b := r2 (by omega)
    unfold max_; rw [if_pos (by omega)]
  · rw [if_neg q1]
    have a := r1 (by omega)
    by_cases q2 : lkG G (k + 2 * thr_ d) ≤ 0
    · rw [if_pos q2, hsp]
      have b := n2 q2
      unfold max_; rw [if_neg (by omega)]
    · rw [if_neg q2, hsp]
      have b := r2 (by omega)
      dsimp only
      rw [if_neg (by omega), if_neg (by omega), if_pos rfl]
