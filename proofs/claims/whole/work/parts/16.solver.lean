/-! SOLVER: what is best at each place and known -/
def csS (sm : Int) (lik : Int → Int) (k h : Int) : Int := if sm = 0 then h else h * lik k
def leV (sm : Int) (lik : Int → Int) (v : Int → Int → Int) (k p d : Int) : Int :=
  if lik (k + thr_ d) ≤ 0 then v (k + 2 * thr_ d) p else if lik (k + 2 * thr_ d) ≤ 0 then v (k + thr_ d) p else if 1152921504606846976 ≤ v (k + thr_ d) p then 1152921504606846976 else if 1152921504606846976 ≤ v (k + 2 * thr_ d) p then 1152921504606846976 else if sm = 0 then max_ (v (k + thr_ d) p) (v (k + 2 * thr_ d) p) else v (k + thr_ d) p + v (k + 2 * thr_ d) p
def pas (G : Lnd) (p q k : Int) : Int := pasB G p q (opn k) (sht k)
def cS (G : Lnd) (sm : Int) (lik : Int → Int) (k p q : Int) : Int := csS sm lik k (pas G p q k)
def wcS (G : Lnd) (sm : Int) (lik : Int → Int) (v : Int → Int → Int) (k p w : Int) : Int := if G 6 w = p ∧ dg k (G 7 w) = 0 then leV sm lik v k p (G 7 w) + csS sm lik k (G 8 w) else 1152921504606846976
def eS (G : Lnd) (sm : Int) (lik : Int → Int) (v : Int → Int → Int) (k p : Int) : Int := mn_ (wcS G sm lik v k p) 1152921504606846976 ((G 0 5)).toNat
def fxS (G : Lnd) (k p : Int) : Bool := decide (p = (G 0 7) ∨ 0 ≤ fm_ k ((G 5 p)))
def bS (G : Lnd) (sm : Int) (lik en : Int → Int) (v : Int → Int → Int) (k p : Int) : Int := if p = (G 0 7) then en k else leV sm lik v k p (fm_ k ((G 5 p)))
def isVk (G : Lnd) (sm : Int) (lik en : Int → Int) (v : Int → Int → Int) (k : Int) (f : Int → Int) : Prop := isFix 1152921504606846976 (cS G sm lik k) (eS G sm lik v k) (fxS G k) (bS G sm lik en v k) ((G 0 0)).toNat f
def isV (G : Lnd) (sm : Int) (lik en : Int → Int) (v : Int → Int → Int) : Prop := ∀ k, 0 ≤ k → k < thr_ ((G 0 3)) → 0 < lik k → isVk G sm lik en v k (v k)
def likO (G : Lnd) (lik : Int → Int) : Prop := (∀ k, 0 ≤ k → k < thr_ ((G 0 3)) → 0 ≤ lik k ∧ lik k ≤ 20000000000) ∧ (∀ k d, 0 ≤ k → k < thr_ ((G 0 3)) → 0 ≤ d → d < (G 0 3) → dg k d = 0 → lik k = lik (k + thr_ d) + lik (k + 2 * thr_ d))
/-- what a value is depends on those of who knows more -/
theorem leV_congr {G : Lnd} (hw : WF G) {sm k p d : Int} {lik : Int → Int} {v v' : Int → Int → Int} (hl : likO G lik) (k0 : 0 ≤ k) (k1 : k < thr_ ((G 0 3))) (hlk : 0 < lik k) (d0 : 0 ≤ d) (d1 : d < (G 0 3)) (hd : dg k d = 0) (h : ∀ k', k < k' → k' < thr_ ((G 0 3)) → 0 < lik k' → v k' p = v' k' p) : leV sm lik v k p d = leV sm lik v' k p d := by
  have hN := hw.N; unfold wfN at hN
  have b1 := dg_lt (v := 1) k0 (by omega) k1 d0 d1 hd (by decide)
  have b2 := dg_lt (v := 2) k0 (by omega) k1 d0 d1 hd (by decide)
  have ht := thr_le d0 (show d ≤ 6 by omega)
  have hs := hl.2 k d k0 k1 d0 d1 hd
  have l1 := hl.1 (k + thr_ d) (by omega) (by omega)
  have l2 := hl.1 (k + 2 * thr_ d) (by omega) (by omega)
  unfold leV
  by_cases c1 : lik (k + thr_ d) ≤ 0
  · rw [if_pos c1, if_pos c1]; exact h _ (by omega) (by omega) (by omega)
  · rw [if_neg c1, if_neg c1]
    have e1 := h _ (show k < k + thr_ d by omega) (by omega) (by omega)
    by_cases c2 : lik (k + 2 * thr_ d) ≤ 0
    · rw [if_pos c2, if_pos c2, e1]
    · rw [if_neg c2, if_neg c2, e1, h _ (show k < k + 2 * thr_ d by omega) (by omega) (by omega)]
theorem fm_in {G : Lnd} (hw : WF G) {k p : Int} (p0 : 0 ≤ p) (p1 : p < 10) (h : 0 ≤ fm_ k ((G 5 p))) : fm_ k ((G 5 p)) < (G 0 3) ∧ dg k (fm_ k ((G 5 p))) = 0 ∧ bt ((G 5 p)) (fm_ k ((G 5 p))) = 1 := by
  have hN := hw.N; unfold wfN at hN
  rcases fm_cs k ((G 5 p)) with ⟨h1, -⟩ | ⟨h1, h2, h3, -⟩
  · omega
  · refine ⟨?_, h3.2, h3.1⟩
    have hs := hw.S.1 p p0 p1
    refine Classical.byContradiction (fun hno => ?_)
    have := bt_hi hs.1 (by omega) hs.2 (show (G 0 3) ≤ fm_ k ((G 5 p)) by omega) h2
    omega
theorem isVk_congr {G : Lnd} (hw : WF G) {sm k : Int} {lik en : Int → Int} {v v' : Int → Int → Int} {f : Int → Int} (hl : likO G lik) (k0 : 0 ≤ k) (k1 : k < thr_ ((G 0 3))) (hlk : 0 < lik k) (h : ∀ k', k < k' → k' < thr_ ((G 0 3)) → 0 < lik k' → ∀ p, 0 ≤ p → p < (G 0 0) → v k' p = v' k' p) (hf : isVk G sm lik en v k f) : isVk G sm lik en v' k f := by
  have hN := hw.N; unfold wfN at hN
  intro p p0 p1
  have p1' : p < (G 0 0) := by omega
  have hp := hf p p0 p1
  refine ⟨fun hx => ?_, fun hx => ?_⟩
  · rw [hp.1 hx]
    unfold bS
    by_cases hg : p = (G 0 7)
    · rw [if_pos hg, if_pos hg]
    · rw [if_neg hg, if_neg hg]
      have hx' := of_decide_eq_true hx
      have hm := fm_in hw p0 (show p < 10 by omega) (k := k) (by omega)
      exact leV_congr hw hl k0 k1 hlk (by omega) hm.1 hm.2.1 (fun k' a b c => h k' a b c p p0 p1')
  · rw [hp.2 hx]
    have e : eS G sm lik v k p = eS G sm lik v' k p := by
      unfold eS
      refine mn_congr _ (fun w w0 w1 => ?_)
      unfold wcS
      have hW := hw.W w w0 (by omega)
      by_cases hc : G 6 w = p ∧ dg k (G 7 w) = 0
      · rw [if_pos hc, if_pos hc, leV_congr hw hl k0 k1 hlk hW.2.1.1 hW.2.1.2 hc.2 (fun k' a b c => h k' a b c p p0 p1')]
      · rw [if_neg hc, if_neg hc]
    unfold stq; rw [e]
theorem isV_uniq {G : Lnd} (hw : WF G) {sm : Int} {lik en : Int → Int} {v v' : Int → Int → Int} (hl : likO G lik) (h : isV G sm lik en v) (h' : isV G sm lik en v') : ∀ k, 0 ≤ k → k < thr_ ((G 0 3)) → 0 < lik k → ∀ p, 0 ≤ p → p < (G 0 0) → v k p = v' k p := by
  have key : ∀ (n : Nat) (k : Int), 0 ≤ k → k < thr_ ((G 0 3)) → 0 < lik k → (thr_ ((G 0 3)) - k).toNat = n → ∀ p, 0 ≤ p → p < (G 0 0) → v k p = v' k p := by
    intro n; induction n using Nat.strongRecOn with
    | _ n ih =>
      intro k k0 k1 hlk hn p p0 p1
      have h1 := isVk_congr hw hl k0 k1 hlk (fun k' a b c => ih (thr_ ((G 0 3)) - k').toNat (by omega) k' (by omega) b c rfl) (h k k0 k1 hlk)
      exact fix_uniq h1 (h' k k0 k1 hlk) p p0 (by omega)
  exact fun k k0 k1 hlk => key _ k k0 k1 hlk rfl
theorem isV_ex {G : Lnd} (hw : WF G) (sm : Int) {lik : Int → Int} (en : Int → Int) (hl : likO G lik) : ∃ v, isV G sm lik en v := by
  have key : ∀ n : Nat, ∃ v, ∀ k, 0 ≤ k → k < thr_ ((G 0 3)) → thr_ ((G 0 3)) - n ≤ k → 0 < lik k → isVk G sm lik en v k (v k) := by
    intro n; induction n with
    | zero => exact ⟨fun _ _ => 0, fun k a b c => by omega⟩
    | succ n ih =>
      obtain ⟨v, hv⟩ := ih
      obtain ⟨D, hD⟩ := fix_ex 1152921504606846976 (cS G sm lik (thr_ ((G 0 3)) - n - 1)) (eS G sm lik v (thr_ ((G 0 3)) - n - 1)) (fxS G (thr_ ((G 0 3)) - n - 1)) (bS G sm lik en v (thr_ ((G 0 3)) - n - 1)) ((G 0 0)).toNat
      refine ⟨fun k p => if k = thr_ ((G 0 3)) - n - 1 then D p else v k p, fun k k0 k1 k2 hlk => ?_⟩
      refine isVk_congr (v := v) hw hl k0 k1 hlk (fun k' a b _ p _ _ => ?_) ?_
      · show v k' p = if k' = thr_ ((G 0 3)) - n - 1 then D p else v k' p
        rw [if_neg (by omega)]
      · by_cases hk : k = thr_ ((G 0 3)) - n - 1
        · rw [hk]
          have e : (fun p => if thr_ ((G 0 3)) - (n : Int) - 1 = thr_ ((G 0 3)) - n - 1 then D p else v (thr_ ((G 0 3)) - n - 1) p) = D := by funext p; rw [if_pos rfl]
          show isVk G sm lik en v (thr_ ((G 0 3)) - n - 1) (fun p => if thr_ ((G 0 3)) - (n : Int) - 1 = thr_ ((G 0 3)) - n - 1 then D p else v (thr_ ((G 0 3)) - n - 1) p)
          rw [e]; exact hD
        · have e : (fun p => if k = thr_ ((G 0 3)) - (n : Int) - 1 then D p else v k p) = v k := by funext p; rw [if_neg hk]
          show isVk G sm lik en v k (fun p => if k = thr_ ((G 0 3)) - (n : Int) - 1 then D p else v k p)
          rw [e]; exact hv k k0 k1 (by omega) hlk
  obtain ⟨v, hv⟩ := key (thr_ ((G 0 3))).toNat
  exact ⟨v, fun k k0 k1 hlk => hv k k0 k1 (by omega) hlk⟩
/-- THE VALUE of a place and a known -/
noncomputable def VV (G : Lnd) (sm : Int) (lik en : Int → Int) : Int → Int → Int := @dite (Int → Int → Int) (∃ v, isV G sm lik en v) (Classical.propDecidable _) (fun h => Classical.choose h) (fun _ => fun _ _ => 0)
theorem VV_is {G : Lnd} (hw : WF G) (sm : Int) {lik : Int → Int} (en : Int → Int) (hl : likO G lik) : isV G sm lik en (VV G sm lik en) := by
  have h := isV_ex hw sm en hl
  unfold VV; rw [dif_pos h]; exact Classical.choose_spec h
/-- a first place that is told after 100 -/
def aw_ (g : Int → Int) (top dfl : Int) (n : Nat) : Int := if mn_ g top n < top then 100 + am_ g top (-1) n else dfl
theorem aw_succ (g : Int → Int) (top d : Int) {x : Int} (h : 0 ≤ x) : aw_ g top d (x + 1).toNat = if g x < mn_ g top x.toNat then 100 + x else aw_ g top d x.toNat := by
  have h1 := mn_le_top g top x.toNat
  unfold aw_; rw [mn_succ _ _ h, am_succ _ _ _ h]
  by_cases hc : g x < mn_ g top x.toNat
  · rw [if_pos hc, if_pos hc, if_pos hc, if_pos (by omega)]
  · rw [if_neg hc, if_neg hc, if_neg hc]
/-- WHAT IS DONE, by values f of the places -/
def actF (G : Lnd) (sm : Int) (lik : Int → Int) (v : Int → Int → Int) (k : Int) (f : Int → Int) (p : Int) : Int :=
  aw_ (wcS G sm lik v k p) (mn_ (cand 1152921504606846976 (cS G sm lik k) f p) 1152921504606846976 ((G 0 0)).toNat) (am_ (cand 1152921504606846976 (cS G sm lik k) f p) 1152921504606846976 (-2) ((G 0 0)).toNat) ((G 0 5)).toNat
def actS (G : Lnd) (sm : Int) (lik : Int → Int) (v : Int → Int → Int) (k p : Int) : Int := if p = (G 0 7) then -2 else if 0 ≤ fm_ k ((G 5 p)) then -2 else actF G sm lik v k (v k) p
noncomputable def AA (G : Lnd) (sm : Int) (lik en : Int → Int) (k p : Int) : Int := actS G sm lik (VV G sm lik en) k p
theorem stq_mn {G : Lnd} {sm k p : Int} {lik : Int → Int} {v : Int → Int → Int} {f : Int → Int} : stq 1152921504606846976 (cS G sm lik k) (eS G sm lik v k) ((G 0 0)).toNat f p = mn_ (wcS G sm lik v k p) (mn_ (cand 1152921504606846976 (cS G sm lik k) f p) 1152921504606846976 ((G 0 0)).toNat) ((G 0 5)).toNat := by
  rw [mn_shift _ (mn_le_top _ _ _)]; rfl
-- the class's rows
def svO (x : Int) : Prop := x = 50 ∨ x = 55 ∨ x = 60 ∨ x = 73
def lkA (a : Int) : Prop := a = 39 ∨ a = 68
theorem sv_o {x : Int} (h : svO x) : okO 86 9 x = true := by rcases h with rfl | rfl | rfl | rfl <;> rfl
theorem sv_a1 {x : Int} (h : svO x) : okO 86 21 (x + 1) = true := by rcases h with rfl | rfl | rfl | rfl <;> rfl
theorem sv_a2 {x : Int} (h : svO x) : okO 86 20 (x + 2) = true := by rcases h with rfl | rfl | rfl | rfl <;> rfl
theorem sv_a3 {x : Int} (h : svO x) : okO 86 20 (x + 3) = true := by rcases h with rfl | rfl | rfl | rfl <;> rfl
theorem sv_l1 {x : Int} (h : svO x) : ln_ (x + 1) = 7290 := by rcases h with rfl | rfl | rfl | rfl <;> rfl
theorem sv_l2 {x : Int} (h : svO x) : ln_ (x + 2) = 7290 := by rcases h with rfl | rfl | rfl | rfl <;> rfl
theorem sv_l3 {x : Int} (h : svO x) : ln_ (x + 3) = 100 := by rcases h with rfl | rfl | rfl | rfl <;> rfl
theorem sv_ps {x : Int} (h : svO x) : psA (x + 3) := by unfold psA; rcases h with rfl | rfl | rfl | rfl <;> decide
theorem lk_o {a : Int} (h : lkA a) : okO 86 21 a = true := by rcases h with rfl | rfl <;> rfl
theorem lk_l {a : Int} (h : lkA a) : ln_ a = 729 := by rcases h with rfl | rfl <;> rfl
theorem sv_g {x a : Int} (h : svO x) (h2 : lkA a) : 44 < x ∧ (a < x ∨ a = 68) ∧ (x = 50 ∨ x = 55 ∨ x = 60 ∨ x = 73) ∧ (a = 39 ∨ a = 68) := by
  rcases h with rfl | rfl | rfl | rfl <;> rcases h2 with rfl | rfl <;> decide
/-- the Solver at x stands on the land at c, on the row a of LIKELY -/
def svM (x c a : Int) (G : Lnd) (lik : Int → Int) (sm : Int) (M : aM) : Prop := M x 4 = c ∧ M x 5 = a ∧ M x 6 = sm ∧ (sm = 0 ∨ sm = 1) ∧ ∀ k, 0 ≤ k → k < thr_ ((G 0 3)) → M a k = lik k
def chV (x : Int) (G : Lnd) (lik : Int → Int) (v : Int → Int → Int) (k : Int) (M : aM) : Prop := ∀ k', k < k' → k' < thr_ ((G 0 3)) → 0 < lik k' → ∀ p, 0 ≤ p → p < (G 0 0) → M (x + 1) (k' * 10 + p) = v k' p
def vOK (G : Lnd) (lik : Int → Int) (v : Int → Int → Int) (k : Int) : Prop := ∀ k', k < k' → k' < thr_ ((G 0 3)) → 0 < lik k' → ∀ p, 0 ≤ p → p < (G 0 0) → -1000000000000000 ≤ v k' p ∧ v k' p ≤ 1152921504606846976
theorem s_X9_cost {M : aM} {W : aW} {Q : Int → aM → aW → Prop} {G : Lnd} {x c a sm h0 k : Int} {lik : Int → Int} (hx : svO x) (ha : lkA a) (hw : WF G) (hm : svM x c a G lik sm M) (k0 : 0 ≤ k) (k1 : k < thr_ ((G 0 3))) (hh : inI h0) (h : Q (csS sm lik k h0) M W) : CallL 112 [vR x, vI h0, vI k] (M, W) Q := by
  have hN := hw.N; unfold wfN at hN
  have ht := thr_le hN.2.2.2.1.1 hN.2.2.2.1.2
  obtain ⟨-, m5, m6, ms, ml⟩ := hm
  refine e_X9_cost _ _ _ _ _ _ ?_
  unfold csS at h
  rw [m6, m5]
  refine ⟨sv_o hx, by omega, fun hz => ⟨hh, ?_⟩, fun hz => ⟨hh, sv_o hx, ⟨lk_o ha, k0, by rw [lk_l ha]; omega⟩, ?_⟩⟩
  · rw [if_pos hz] at h; exact h
  · rw [if_neg hz] at h; rw [ml k k0 k1]; exact h
theorem s_X9_learnt {M : aM} {W : aW} {Q : Int → aM → aW → Prop} {G : Lnd} {x c a sm k p d : Int} {lik : Int → Int} {v : Int → Int → Int} (hx : svO x) (ha : lkA a) (hw : WF G) (hm : svM x c a G lik sm M) (hl : likO G lik) (k0 : 0 ≤ k) (k1 : k < thr_ ((G 0 3))) (hlk : 0 < lik k) (p0 : 0 ≤ p) (p1 : p < (G 0 0)) (d0 : 0 ≤ d) (d1 : d < (G 0 3)) (hd : dg k d = 0) (hc : chV x G lik v k M) (hv : vOK G lik v k)
    (h : -2000000000000000 ≤ leV sm lik v k p d → leV sm lik v k p d ≤ 2305843009213693952 → Q (leV sm lik v k p d) M W) : CallL 113 [vR x, vI p, vI k, vI d] (M, W) Q := by
  have hN := hw.N; unfold wfN at hN
  have ht := thr_le hN.2.2.2.1.1 hN.2.2.2.1.2
  obtain ⟨-, m5, m6, ms, ml⟩ := hm
  have b1 := dg_lt (v := 1) k0 (by omega) k1 d0 d1 hd (by decide)
  have b2 := dg_lt (v := 2) k0 (by omega) k1 d0 d1 hd (by decide)
  have htd := thr_le d0 (show d ≤ 6 by omega)
  have hs := hl.2 k d k0 k1 d0 d1 hd
  have l1 := hl.1 (k + thr_ d) (by omega) (by omega)
  have l2 := hl.1 (k + 2 * thr_ d) (by omega) (by omega)
  refine e_X9_learnt _ _ _ _ _ _ _ ?_
  have hd7 : 0 ≤ d ∧ d < 7 := by omega
  refine ⟨hd7, fun o ho => ⟨hd7, fun s hs2 => ⟨sv_o hx, ⟨sv_a1 hx, by rw [sv_l1 hx]; omega⟩, fun v3 hv3 => ⟨sv_o hx, ⟨sv_a1 hx, by rw [sv_l1 hx]; omega⟩, fun v4 hv4 => ⟨sv_o hx, ?_⟩⟩⟩⟩⟩
  have eo : o = k + thr_ d := ho
  have es : s = k + 2 * thr_ d := by omega
  subst eo; subst es
  rw [m5, m6, lk_l ha, ml _ (by omega) (by omega), ml _ (by omega) (by omega)]
  have e3 : 0 < lik (k + thr_ d) → v3 = v (k + thr_ d) p := fun q => by rw [hv3, hc _ (by omega) (by omega) q p p0 p1]
  have e4 : 0 < lik (k + 2 * thr_ d) → v4 = v (k + 2 * thr_ d) p := fun q => by rw [hv4, hc _ (by omega) (by omega) q p p0 p1]
  have r3 : 0 < lik (k + thr_ d) → -1000000000000000 ≤ v3 ∧ v3 ≤ 1152921504606846976 := fun q => by rw [e3 q]; exact hv _ (by omega) (by omega) q p p0 p1
  have r4 : 0 < lik (k + 2 * thr_ d) → -1000000000000000 ≤ v4 ∧ v4 ≤ 1152921504606846976 := fun q => by rw [e4 q]; exact hv _ (by omega) (by omega) q p p0 p1
  have go : ∀ y, y = leV sm lik v k p d → -2000000000000000 ≤ y → y ≤ 2305843009213693952 → Q y M W := fun y hy a1 a2 => by rw [hy] at a1 a2 ⊢; exact h a1 a2
  refine ⟨⟨lk_o ha, by omega, by omega⟩, by omega, fun hz => ⟨sv_o hx, ⟨lk_o ha, by omega, by omega⟩, by omega, fun hp => by omega, fun hp => ?_⟩, fun hz => ?_⟩
  · refine go _ ?_ (by omega) (by omega)
    unfold leV; rw [if_pos hz]; exact e4 (by omega)
  · refine ⟨sv_o hx, ⟨lk_o ha, by omega, by omega⟩, by omega, fun hp => ⟨by omega, fun h1 => ?_, fun h1 => ⟨by omega, fun h2 => ⟨sv_o hx, by omega, fun h3 => ⟨by omega, ?_⟩, fun h3 => ?_⟩, fun h2 => ?_⟩⟩, fun hp => ⟨sv_o hx, ⟨lk_o ha, by omega, by omega⟩, by omega, fun h1 => ?_, fun h1 => by omega⟩⟩
    · refine go _ ?_ (by omega) (by omega)
      unfold leV; rw [if_neg hz, if_neg (by omega), ← e3 (by omega), if_pos (by omega)]
    · refine go _ ?_ (by unfold max_; split <;> omega) (by unfold max_; split <;> omega)
      unfold leV; rw [if_neg hz, if_neg (by omega), ← e3 (by omega), ← e4 (by omega), if_neg (by omega), if_neg (by omega), if_pos h3]
    · refine go _ ?_ (by omega) (by omega)
      unfold leV; rw [if_neg hz, if_neg (by omega), ← e3 (by omega), ← e4 (by omega), if_neg (by omega), if_neg (by omega), if_neg h3]
    · refine go _ ?_ (by omega) (by omega)
      unfold leV; rw [if_neg hz, if_neg (by omega), ← e3 (by omega), ← e4 (by omega), if_neg (by omega), if_pos (by omega)]
    · refine go _ ?_ (by omega) (by omega)
      unfold leV; rw [if_neg hz, if_pos (by omega)]; exact e3 (by omega)
