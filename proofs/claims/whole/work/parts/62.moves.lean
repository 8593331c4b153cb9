/-! THE REFERENCE: a plan's moves; who goes round never ends -/
def frW (M N : aM) : Prop := ∀ b j, b ≠ 104 → b ≠ 113 → ¬ (b = 86 ∧ (j = 45 ∨ j = 46 ∨ j = 47)) → N b j = M b j
theorem frW_refl (M : aM) : frW M M := fun _ _ _ _ _ => rfl
theorem frW_tr {M N K : aM} (h1 : frW M N) (h2 : frW N K) : frW M K := fun b j a c d => (h2 b j a c d).trans (h1 b j a c d)
theorem frW_H {M N : aM} (h : frH M N) : frW M N := fun b j a c _ => h b j a c
theorem frW.G {G : Lnd} {M N : aM} (h : frW M N) (hG : rfG G M) : rfG G N := hG.of (fun b j hb => h b j (by unfold inG at hb; omega) (by unfold inG at hb; omega) (by unfold inG at hb; omega))
theorem frW.D {G : Lnd} {D : Int → Int → Int} {plan : Int} {M N : aM} (h : frW M N) (hD : rfD G D plan M) : rfD G D plan N := hD.of (fun b j hb => h b j (by omega) (by omega) (by omega))
theorem hopI.of {G : Lnd} {M N : aM} (h : hopI G M) (e : ∀ j, N 113 j = M 113 j) : hopI G N := fun k x p a1 a2 a3 a4 a5 a6 => by rw [e]; exact h k x p a1 a2 a3 a4 a5 a6
/-- the walker's three cells -/
def atM (p k h : Int) (M : aM) : Prop := M 86 45 = p ∧ M 86 46 = k ∧ M 86 47 = h
theorem s_X12_moves {M : aM} {W : aW} {Q : Int → aM → aW → Prop} {G : Lnd} {D : Int → Int → Int} {plan w p k t : Int} (hG : rfG G M) (hg0 : 0 ≤ (G 0 7)) (hH : hopI G M) (hD : rfD G D plan M) (hO : planOK G D plan) (pl1 : plan ≤ 6) (w0 : 0 ≤ w) (w1 : w < p2_ ((G 0 3))) (hW : 0 < wtG G w) (hA : atM p k t M) (hs : stO G w p k) (hp : p ≠ (G 0 7))
    (y0 : doF G D plan p k < 0 → ∀ N, frH M N → hopI G N → Q 0 N W)
    (y1 : 0 ≤ doF G D plan p k → ∀ N, frW M N → hopI G N → atM (wkP (doF G D plan p k) p) (wkK G w (doF G D plan p k) k) (t + wkH G (doF G D plan p k) p k) N → Q 1 N W) : CallI 229 [vR 86, vI plan, vI w] (M, W) Q := by
  have hn := hG.n
  have ht := hG.t
  have hw := hG.W
  obtain ⟨a45, a46, a47⟩ := hA
  obtain ⟨⟨p0, p1⟩, ⟨k0, k1⟩, hag, hse⟩ := hs
  have hlk := lkG_pos hw w0 w1 hW hag
  have hok := doF_ok hw hO p0 p1 k0 k1 hlk hse
  refine e_X12_moves _ _ _ _ _ ?_
  rw [a45, a46]
  refine s_X12_actOf hG hg0 hH hD hO.1.1 pl1 p0 p1 hp k0 k1 hlk (seen_fm.mpr hse) (fun N hf hI => ?_)
  have hGN := hf.G hG
  have b45 : N 86 45 = p := by rw [hf _ _ (by decide) (by decide)]; exact a45
  have b46 : N 86 46 = k := by rw [hf _ _ (by decide) (by decide)]; exact a46
  have b47 : N 86 47 = t := by rw [hf _ _ (by decide) (by decide)]; exact a47
  generalize doF G D plan p k = a at hok y0 y1
  unfold actOK at hok
  rw [b45, b46, b47]
  refine ⟨by omega, fun q => ⟨by omega, fun q2 => ⟨by omega, ?_⟩, fun q2 => ?_⟩, fun q => y0 (by omega) N hf hI⟩
  · have hpa : 0 < pas G p a k := by omega
    have hb := (pasB_hr hw (p := p) (q := a) (op := opn k) (sh := sht k) p0 (by omega) q (by omega))
    have hb0 : 0 ≤ (G 4 (p * 10 + a)) := by
      refine Classical.byContradiction (fun hno => ?_)
      have := hb.1 (by omega); unfold pas at hpa; omega
    obtain ⟨hb1, hb2⟩ := hb.2 hb0
    have e2 : hrB G ((G 4 (p * 10 + a))) (opn k) (sht k) = pas G p a k := by unfold pas at hpa ⊢; rcases hb2 with c | c <;> omega
    have hpr := pasB_rng hw (p := p) (q := a) (op := opn k) (sh := sht k) p0 (by omega) q (by omega)
    rw [hGN.b98 p0 (by omega) q (by omega)]
    refine s_X12_hoursOf hGN hb0 hb1 k0 (by omega) ?_
    rw [e2]
    have hpr2 : 0 ≤ pas G p a k ∧ pas G p a k ≤ 198 := hpr
    have hfr : frW N (up_ (up_ N 86 47 (t + pas G p a k)) 86 45 a) := fun b j c1 c2 c3 => by
      unfold up_
      rw [if_neg (by omega), if_neg (by omega)]
    have e46 : up_ (up_ N 86 47 (t + pas G p a k)) 86 45 a 86 46 = k := by rw [up_j _ _ _ (by decide), up_j _ _ _ (by decide)]; exact b46
    rw [e46]
    refine ⟨by omega, s_X12_learns (hfr.G hGN) q (by omega) k0 (by omega) w0 (by omega) ?_⟩
    refine y1 q _ (frW_tr (frW_H hf) (frW_tr hfr (fun b j c1 c2 c3 => by unfold up_; rw [if_neg (by omega)]))) (hI.of (fun j => by rw [up_b _ _ _ _ (by decide), up_b _ _ _ _ (by decide), up_b _ _ _ _ (by decide)])) ⟨?_, ?_, ?_⟩
    · unfold wkP; rw [if_neg (by omega), up_j _ _ _ (by decide), up_s]
    · unfold wkK; rw [if_neg (by omega), up_s]
    · unfold wkH; rw [if_neg (by omega), up_j _ _ _ (by decide), up_j _ _ _ (by decide), up_s]
  · have hWw := hw.W (a - 100) (by omega) (by omega)
    have hm := hGN.w96 (w := a - 100) (by omega) (by omega)
    rw [hm.2.1, hm.2.2]
    refine ⟨by omega, fun v10 e10 => ⟨by omega, by omega, by omega, ?_⟩⟩
    have hd : dg k v10 = 0 := by rw [e10]; omega
    have h6 : up_ N 86 47 (t + G 8 (a - 100)) 86 46 = k := by rw [up_j _ _ _ (by decide)]; exact b46
    rw [h6, up_b _ _ _ _ (show (99 : Int) ≠ 86 by decide), bit_e w0 (by omega) (by omega) (by omega), hGN.D3 v10 (by omega) (by omega)]
    refine y1 q _ (frW_tr (frW_H hf) (fun b j c1 c2 c3 => by unfold up_; rw [if_neg (by omega), if_neg (by omega)])) (hI.of (fun j => by rw [up_b _ _ _ _ (by decide), up_b _ _ _ _ (by decide)])) ⟨?_, ?_, ?_⟩
    · unfold wkP; rw [if_pos (by omega), up_j _ _ _ (by decide), up_j _ _ _ (by decide)]; exact b45
    · unfold wkK; rw [if_pos (by omega), up_s, ← e10, lrn_one k0 (by omega) (by omega) (by omega) hd]
    · unfold wkH; rw [if_pos (by omega), up_j _ _ _ (by decide), up_s]
theorem s_X12_setsOut {M : aM} {W : aW} {Q : aM → aW → Prop} {G : Lnd} {w : Int} (hG : rfG G M) (hs : 0 ≤ (G 0 6)) (w0 : 0 ≤ w) (w1 : w < 64) (h : ∀ N, frW M N → (∀ j, N 113 j = M 113 j) → atM ((G 0 6)) (lrn 0 ((G 5 ((G 0 6)))) w) 0 N → Q N W) : CallV 230 [vR 86, vI w] (M, W) Q := by
  have hn := hG.n
  have hfr : frW M (up_ M 86 45 ((G 0 6))) := fun b j c1 c2 c3 => by unfold up_; rw [if_neg (by omega)]
  refine e_X12_setsOut _ _ _ _ ?_
  rw [hG.N.2.2.2.2.2.1, up_s]
  refine s_X12_learns (hfr.G hG) hs (by omega) (by decide) (by decide) w0 w1 ?_
  refine h _ (frW_tr hfr (fun b j c1 c2 c3 => by unfold up_; rw [if_neg (by omega), if_neg (by omega)])) (fun j => by rw [up_b _ _ _ _ (by decide), up_b _ _ _ _ (by decide), up_b _ _ _ _ (by decide)]) ⟨?_, ?_, ?_⟩
  · rw [up_j _ _ _ (by decide), up_j _ _ _ (by decide), up_s]
  · rw [up_j _ _ _ (by decide), up_s]
  · rw [up_s]
-- who goes round
def hstP (G : Lnd) (A : Int → Int → Int) (w k s : Int) (hp : Int → Int) : Prop := (∀ t, 0 ≤ t → t ≤ s → 0 ≤ hp t ∧ hp t < (G 0 0)) ∧ ∀ t, 0 ≤ t → t < s → hp t ≠ (G 0 7) ∧ A (hp t) k = hp (t + 1) ∧ lrn k ((G 5 (hp (t + 1)))) w = k
theorem hst_sh {G : Lnd} {A : Int → Int → Int} {w k s i j : Int} {hp : Int → Int} (h : hstP G A w k s hp) (i0 : 0 ≤ i) (ij : i < j) (e : hp i = hp j) : ∀ m : Nat, j + m ≤ s → hp (i + m) = hp (j + m)
  | 0, _ => by rw [show i + ((0 : Nat) : Int) = i by omega, show j + ((0 : Nat) : Int) = j by omega]; exact e
  | m + 1, hm => by
    have ih := hst_sh h i0 ij e m (by omega)
    have a := (h.2 (i + m) (by omega) (by omega)).2.1
    have b := (h.2 (j + m) (by omega) (by omega)).2.1
    rw [show i + ((m + 1 : Nat) : Int) = i + m + 1 by omega, show j + ((m + 1 : Nat) : Int) = j + m + 1 by omega, ← a, ← b, ih]
theorem HI_S (G : Lnd) (A : Int → Int → Int) (w : Int) (n : Nat) (p k h : Int) : HI G A w (n + 1) p k h = if p = (G 0 7) then h else if A p k < 0 then -2 else HI G A w n (wkP (A p k) p) (wkK G w (A p k) k) (h + wkH G (A p k) p k) := rfl
theorem cyc_n {G : Lnd} {A : Int → Int → Int} {w k s i : Int} {hp : Int → Int} (hP : (G 0 0) ≤ 10) (h : hstP G A w k s hp) (i0 : 0 ≤ i) (is : i < s) (e : hp i = hp s) : ∀ (n : Nat) (t x : Int), i ≤ t → t ≤ s → HI G A w n (hp t) k x = -2 := by
  have ng : ∀ t, i ≤ t → t ≤ s → hp t ≠ (G 0 7) := fun t a b => by
    by_cases c : t = s
    · rw [c, ← e]; exact (h.2 i i0 is).1
    · exact (h.2 t (by omega) (by omega)).1
  intro n; induction n with
  | zero =>
    intro t x a b
    show (if hp t = (G 0 7) then x else -2) = -2
    rw [if_neg (ng t a b)]
  | succ n ih =>
    have go : ∀ t x, i ≤ t → t < s → HI G A w (n + 1) (hp t) k x = -2 := fun t x a b => by
      obtain ⟨c1, c2, c3⟩ := h.2 t (by omega) b
      have c4 := h.1 (t + 1) (by omega) (by omega)
      rw [HI_S, if_neg c1, c2, if_neg (by omega)]
      unfold wkP wkK
      rw [if_neg (by omega), if_neg (by omega), c3]
      exact ih (t + 1) _ (by omega) (by omega)
    intro t x a b
    by_cases c : t = s
    · rw [c, ← e]; exact go i x (Int.le_refl _) is
    · exact go t x a (by omega)
theorem cyc {G : Lnd} {A : Int → Int → Int} {w k s : Int} {hp : Int → Int} (hP : (G 0 0) ≤ 10) (h : hstP G A w k s hp) {n : Nat} {x : Int} (hne : HI G A w n (hp s) k x ≠ -2) (s0 : 0 ≤ s) (hP0 : 0 ≤ (G 0 0)) : s + 1 ≤ (G 0 0) := by
  refine php_le (f := hp) hP0 (by omega) (fun i a b => h.1 i a (by omega)) (fun i j a b c e => hne ?_)
  have sh := hst_sh h a b e (s - j).toNat (by omega)
  rw [show j + ((s - j).toNat : Int) = s by omega] at sh
  exact cyc_n hP h (by omega) (by omega) sh n s x (by omega) (Int.le_refl _)
/-- who learns nothing new by a move has gone; else fewer are unknown -/
theorem wkK_cs {G : Lnd} (hw : WF G) {w p k a : Int} (h : stO G w p k) (ha : actOK G k p a) (a0 : 0 ≤ a) : (wkK G w a k = k ∧ a < 100 ∧ a < (G 0 0)) ∨ (wkK G w a k ≠ k ∧ unk G (wkK G w a k) < unk G k) := by
  have hN := hw.N; unfold wfN at hN
  have ht := thrG hw
  obtain ⟨⟨p0, p1⟩, ⟨k0, k1⟩, hag, hse⟩ := h
  unfold actOK at ha
  unfold wkK
  have gen : ∀ r j, 0 ≤ j → j < (G 0 3) → dg k j = 0 → bt r j = 1 → lrn k r w ≠ k ∧ unk G (lrn k r w) < unk G k := fun r j j0 j1 hd hb => by
    have hu := unk_lrn hw (w := w) j0 j1 hd hb
    exact ⟨fun e => by rw [e] at hu; omega, hu⟩
  by_cases q : 100 ≤ a
  · have hWw := hw.W (a - 100) (by omega) (by omega)
    rw [if_pos q]
    refine Or.inr (gen _ (G 7 (a - 100)) hWw.2.1.1 hWw.2.1.2 (by omega) ?_)
    rw [bt_p2 hWw.2.1.1 (by omega) hWw.2.1.1 (by omega), if_pos rfl]
  · rw [if_neg q]
    by_cases hm : fm_ k ((G 5 a)) < 0
    · refine Or.inl ⟨lrn_id k0 (by omega) (fun i i0 i6 hb => seen_fm.mp hm i i0 i6 hb), by omega, by omega⟩
    · have hf := fm_in hw (k := k) a0 (show a < 10 by omega) (by omega)
      exact Or.inr (gen _ _ (by omega) hf.1 hf.2.1 hf.2.2)
theorem hst_0 {G : Lnd} {A : Int → Int → Int} {w k p : Int} (p0 : 0 ≤ p) (p1 : p < (G 0 0)) : hstP G A w k 0 (fun _ => p) := ⟨fun _ _ _ => ⟨p0, p1⟩, fun t a b => by omega⟩
theorem hst_s {G : Lnd} {A : Int → Int → Int} {w k s q : Int} {hp : Int → Int} (h : hstP G A w k s hp) (s0 : 0 ≤ s) (hg : hp s ≠ (G 0 7)) (hA : A (hp s) k = q) (q0 : 0 ≤ q) (q1 : q < (G 0 0)) (hl : lrn k ((G 5 q)) w = k) : hstP G A w k (s + 1) (upF hp (s + 1) q) := by
  refine ⟨fun t a b => ?_, fun t a b => ?_⟩
  · unfold upF
    by_cases e : t = s + 1
    · rw [if_pos e]; exact ⟨q0, q1⟩
    · rw [if_neg e]; exact h.1 t a (by omega)
  · unfold upF
    rw [if_neg (show ¬ t = s + 1 by omega)]
    by_cases e : t = s
    · subst e; rw [if_pos rfl]; exact ⟨hg, hA, hl⟩
    · rw [if_neg (show ¬ t + 1 = s + 1 by omega)]; exact h.2 t a (by omega)
theorem unk_le6 {G : Lnd} (hw : WF G) (k : Int) : unk G k ≤ 6 := by
  have hN := hw.N; unfold wfN at hN
  have := cnt_le (fun i => decide (dg k i = 0)) ((G 0 3)).toNat
  unfold unk; omega
/-- how many hours a plan takes that ends -/
theorem HI_bd {G : Lnd} (hw : WF G) {D : Int → Int → Int} {plan w : Int} (hO : planOK G D plan) (w0 : 0 ≤ w) (w1 : w < p2_ ((G 0 3))) (hW : 0 < wtG G w) : ∀ (m n : Nat) (s p k h : Int) (hp : Int → Int), 11 * (unk G k : Int) + 10 - s = m → 0 ≤ s → s ≤ 10 → hp s = p → hstP G (doF G D plan) w k s hp → stO G w p k → 0 ≤ HI G (doF G D plan) w n p k h → HI G (doF G D plan) w n p k h ≤ h + 198 * (10 - s) + 1980 * unk G k := by
  have hN := hw.N; unfold wfN at hN
  intro m; induction m using Nat.strongRecOn with
  | _ m ih =>
    intro n s p k h hp hm s0 s1 hps hst ho h0
    have hlk := lkG_pos hw w0 w1 hW ho.2.2.1
    have hok := doF_ok hw hO ho.1.1 ho.1.2 ho.2.1.1 ho.2.1.2 hlk ho.2.2.2
    have hs9 := cyc (n := n) (x := h) (by omega) hst (by rw [hps]; omega) s0 (by omega)
    cases n with
    | zero =>
      have e : HI G (doF G D plan) w 0 p k h = if p = (G 0 7) then h else -2 := rfl
      rw [e] at h0 ⊢
      by_cases g : p = (G 0 7)
      · rw [if_pos g]; omega
      · rw [if_neg g] at h0; omega
    | succ n =>
      rw [HI_S] at h0 ⊢
      by_cases g : p = (G 0 7)
      · rw [if_pos g]; omega
      · rw [if_neg g] at h0 ⊢
        by_cases c : doF G D plan p k < 0
        · rw [if_pos c] at h0; omega
        · rw [if_neg c] at h0 ⊢
          have hk := wkH_rng hw ho.1.1 ho.1.2 hok (by omega)
          have hst2 := st_step hw ho hok (by omega)
          rcases wkK_cs hw ho hok (by omega) with ⟨c1, c2, c3⟩ | ⟨c1, c2⟩
          · have e1 : wkP (doF G D plan p k) p = doF G D plan p k := by unfold wkP; rw [if_neg (by omega)]
            rw [c1, e1] at h0 hst2 ⊢
            have hl : lrn k ((G 5 (doF G D plan p k))) w = k := by unfold wkK at c1; rw [if_neg (by omega)] at c1; exact c1
            have hst3 := hst_s hst s0 (by rw [hps]; exact g) (q := doF G D plan p k) (by rw [hps]) (by omega) c3 hl
            have := ih (11 * (unk G k : Int) + 10 - (s + 1)).toNat (by omega) n (s + 1) _ k _ _ (by omega) (by omega) (by omega) (by unfold upF; rw [if_pos rfl]) hst3 hst2 h0
            omega
          · have := ih (11 * (unk G (wkK G w (doF G D plan p k) k) : Int) + 10 - 0).toNat (by omega) n 0 _ _ _ (fun _ => wkP (doF G D plan p k) p) (by omega) (by decide) (by decide) rfl (hst_0 hst2.1.1 hst2.1.2) hst2 h0
            omega
theorem hoursF_bd {G : Lnd} (hw : WF G) {D : Int → Int → Int} {plan w : Int} (hO : planOK G D plan) (w0 : 0 ≤ w) (w1 : w < p2_ ((G 0 3))) (hW : 0 < wtG G w) (hs : 0 ≤ (G 0 6)) (h : 0 ≤ hoP G D plan w) : hoP G D plan w ≤ 13860 := by
  have hs2 := st_start hw (w := w) hs
  have hu := unk_le6 hw (lrn 0 ((G 5 ((G 0 6)))) w)
  have := HI_bd hw hO w0 w1 hW (11 * (unk G (lrn 0 ((G 5 ((G 0 6)))) w) : Int) + 10 - 0).toNat 100 0 ((G 0 6)) _ 0 (fun _ => (G 0 6)) (by omega) (by decide) (by decide) rfl (hst_0 hs2.1.1 hs2.1.2) hs2 h
  unfold hoP hoursF
  omega
theorem s_X12_hoursIn {M : aM} {W : aW} {Q : Int → aM → aW → Prop} {G : Lnd} {D : Int → Int → Int} {plan w : Int} (hG : rfG G M) (hg0 : 0 ≤ (G 0 7)) (hs : 0 ≤ (G 0 6)) (hH : hopI G M) (hD : rfD G D plan M) (hO : planOK G D plan) (pl1 : plan ≤ 6) (w0 : 0 ≤ w) (w1 : w < p2_ ((G 0 3))) (hW : 0 < wtG G w)
    (h : ∀ N, frW M N → hopI G N → Q (hoP G D plan w) N W) : CallL 231 [vR 86, vI plan, vI w] (M, W) Q := by
  have hn := hG.n
  have ht := hG.t
  have hw := hG.W
  have key : ∀ (m n : Nat) (s p k t : Int) (hp : Int → Int) (d4 : aL) (N : aM), 11 * (unk G k : Int) + 10 - s = m → 0 ≤ s → s ≤ 10 → hp s = p → hstP G (doF G D plan) w k s hp → stO G w p k → atM p k t N → frW M N → hopI G N → hoP G D plan w = HI G (doF G D plan) w n p k t → 11 * (unk G k : Int) + 11 ≤ n + s → 0 ≤ t → Xs 231 (7, [some (some (vR 86)), some (some (vI plan)), some (some (vI w)), some (some (vI s)), d4], [], (N, W)) (QL Q) := by
    intro m; induction m using Nat.strongRecOn with
    | _ m ih =>
      intro n s p k t hp d4 N hm s0 s1 hps hst ho hA hf hI he hnn t0
      have hGN := hf.G hG
      have hlk := lkG_pos hw w0 w1 hW ho.2.2.1
      have hok := doF_ok hw hO ho.1.1 ho.1.2 ho.2.1.1 ho.2.1.2 hlk ho.2.2.2
      have hfin := h N hf hI
      rw [he] at hfin
      refine k_X12_hoursIn_7 _ _ _ _ _ _ _ ?_
      rw [hGN.N.2.2.2.2.2.2, hA.1, hA.2.1]
      have hb1 := ho.1; have hb2 := ho.2.1
      refine ⟨by omega, fun g => ?_, fun g v1 e1 => ?_⟩
      · rw [HI_gol _ _ _ g] at hfin
        rw [hA.2.2]; exact hfin
      · obtain ⟨n', rfl⟩ : ∃ n', n = n' + 1 := ⟨n - 1, by omega⟩
        rw [HI_S, if_neg g] at hfin he
        refine s_X12_moves hGN hg0 hI (hf.D hD) hO pl1 w0 w1 hW hA ho g (fun c K fK IK => ⟨by decide, fun y => absurd rfl y, fun _ => ?_⟩) (fun c K fK IK AK => ⟨by decide, fun _ => ?_, fun y => absurd (by decide) y⟩)
        · have := h K (frW_tr hf (frW_H fK)) IK
          rw [he, if_pos c] at this; exact this
        · rw [if_neg (by omega)] at he
          have hk := wkH_rng hw ho.1.1 ho.1.2 hok c
          have hst2 := st_step hw ho hok c
          rw [AK.2.1, e1]
          have hb3 := hst2.2.1
          rcases wkK_cs hw ho hok c with ⟨c1, c2, c3⟩ | ⟨c1, c2⟩
          · have e2 : wkP (doF G D plan p k) p = doF G D plan p k := by unfold wkP; rw [if_neg (by omega)]
            rw [c1, e2] at he hst2 AK
            rw [c1]
            have hl : lrn k ((G 5 (doF G D plan p k))) w = k := by unfold wkK at c1; rw [if_neg (by omega)] at c1; exact c1
            have hst3 := hst_s hst s0 (by rw [hps]; exact g) (q := doF G D plan p k) (by rw [hps]) c c3 hl
            refine ⟨by omega, fun y => absurd rfl y, fun _ => ⟨by omega, fun y => ?_, fun y => ?_⟩⟩
            · exact ih (11 * (unk G k : Int) + 10 - (s + 1)).toNat (by omega) n' (s + 1) _ k _ _ _ K (by omega) (by omega) (by omega) (by unfold upF; rw [if_pos rfl]) hst3 hst2 AK (frW_tr hf fK) IK he (by omega) (by omega)
            · have := h K (frW_tr hf fK) IK
              have e3 : hoP G D plan w = -2 := by
                rw [he]
                refine Classical.byContradiction (fun hne => ?_)
                have := cyc (n := n') (x := t + wkH G (doF G D plan p k) p k) (by omega) hst3 (by rw [show upF hp (s + 1) (doF G D plan p k) (s + 1) = doF G D plan p k by unfold upF; rw [if_pos rfl]]; exact hne) (by omega) (by omega)
                omega
              rw [e3] at this; exact this
          · refine ⟨by omega, fun _ => ⟨by decide, fun _ => ?_, fun y => absurd (by decide) y⟩, fun y => absurd (fun e => c1 e.symm) y⟩
            exact ih (11 * (unk G (wkK G w (doF G D plan p k) k) : Int) + 10 - 0).toNat (by omega) n' 0 _ _ _ (fun _ => wkP (doF G D plan p k) p) _ K (by omega) (by decide) (by decide) rfl (hst_0 hst2.1.1 hst2.1.2) hst2 AK (frW_tr hf fK) IK he (by omega) (by omega)
  refine e_X12_hoursIn _ _ _ _ _ ?_
  refine s_X12_setsOut hG hs w0 (by omega) (fun N hf h113 hA => ?_)
  have hs2 := st_start hw (w := w) hs
  have hu := unk_le6 hw (lrn 0 ((G 5 ((G 0 6)))) w)
  exact key (11 * (unk G (lrn 0 ((G 5 ((G 0 6)))) w) : Int) + 10 - 0).toNat 100 0 ((G 0 6)) _ 0 (fun _ => (G 0 6)) _ N (by omega) (by decide) (by decide) rfl (hst_0 hs2.1.1 hs2.1.2) hs2 hA hf (hH.of h113) rfl (by omega) (Int.le_refl _)
