/-! BELLS: the greatest sum of weights in time -/
def mxg (P : Int → Bool) (g : Int → Int) : Nat → Int
  | 0 => 0
  | n + 1 => if P n = true then max_ (mxg P g n) (g n) else mxg P g n
theorem mxg_S (P : Int → Bool) (g : Int → Int) {x : Int} (h : 0 ≤ x) : mxg P g (x + 1).toNat = if P x = true then max_ (mxg P g x.toNat) (g x) else mxg P g x.toNat := by
  have e : (x + 1).toNat = x.toNat + 1 := by omega
  have e2 : ((x.toNat : Nat) : Int) = x := by omega
  rw [e]; show (if P (x.toNat : Nat) = true then max_ (mxg P g x.toNat) (g (x.toNat : Nat)) else mxg P g x.toNat) = _; rw [e2]
theorem mxg_congr {P : Int → Bool} {g k : Int → Int} : ∀ n : Nat, (∀ i : Int, 0 ≤ i → i < n → P i = true → g i = k i) → mxg P g n = mxg P k n := by
  intro n; induction n with
  | zero => intro _; rfl
  | succ n ih =>
    intro h
    unfold mxg
    rw [ih (fun i a b c => h i a (by omega) c)]
    by_cases hp : P n = true
    · rw [h n (by omega) (by omega) hp]
    · rw [if_neg hp, if_neg hp]
theorem mxg_rng {P : Int → Bool} {g : Int → Int} {B : Int} (hB : 0 ≤ B) : ∀ n : Nat, (∀ i : Int, 0 ≤ i → i < n → P i = true → g i ≤ B) → 0 ≤ mxg P g n ∧ mxg P g n ≤ B := by
  intro n; induction n with
  | zero => intro _; exact ⟨Int.le_refl _, hB⟩
  | succ n ih =>
    intro h
    have h1 := ih (fun i a b c => h i a (by omega) c)
    unfold mxg
    by_cases hp : P n = true
    · rw [if_pos hp]
      have := h n (by omega) (by omega) hp
      unfold max_; split <;> omega
    · rw [if_neg hp]; exact h1
def blG (G : Lnd) (k p h q : Int) : Bool := decide (0 < pas G p q k ∧ pas G p q k ≤ h)
def blW (G : Lnd) (k p h w : Int) : Bool := decide (G 6 w = p ∧ dg k (G 7 w) = 0 ∧ G 8 w ≤ h)
def blg (G : Lnd) (f : Int → Int → Int → Int) (k p h q : Int) : Int := f k q (h - pas G p q k)
def blw (G : Lnd) (f : Int → Int → Int → Int) (k p h w : Int) : Int := f (k + thr_ (G 7 w)) p (h - G 8 w) + f (k + 2 * thr_ (G 7 w)) p (h - G 8 w)
noncomputable def blR (G : Lnd) (f : Int → Int → Int → Int) (k p h : Int) : Int :=
  if p = (G 0 7) then lkG G k else if lkG G k = 0 then lkG G k else if 0 ≤ fm_ k ((G 5 p)) then f (k + thr_ (fm_ k ((G 5 p)))) p h + f (k + 2 * thr_ (fm_ k ((G 5 p)))) p h else max_ (mxg (blG G k p h) (blg G f k p h) ((G 0 0)).toNat) (mxg (blW G k p h) (blw G f k p h) ((G 0 5)).toNat)
def isBL (G : Lnd) (f : Int → Int → Int → Int) (k h : Int) : Prop := ∀ p, 0 ≤ p → p < (G 0 0) → f k p h = blR G f k p h
theorem blR_congr {G : Lnd} (hw : WF G) {f g : Int → Int → Int → Int} {k p h : Int} (k0 : 0 ≤ k) (k1 : k < thr_ ((G 0 3))) (p0 : 0 ≤ p) (p1 : p < (G 0 0)) (h0 : 0 ≤ h) (h49 : h < 49) (he : ∀ k' h', 0 ≤ h' → h' < 49 → k' < thr_ ((G 0 3)) → (k < k' ∨ (k' = k ∧ h' < h)) → ∀ p, 0 ≤ p → p < (G 0 0) → f k' p h' = g k' p h') : blR G f k p h = blR G g k p h := by
  have hN := hw.N; unfold wfN at hN
  have ht := thrG hw
  have step : ∀ d, 0 ≤ d → d < (G 0 3) → dg k d = 0 → ∀ h', 0 ≤ h' → h' < 49 → f (k + thr_ d) p h' = g (k + thr_ d) p h' ∧ f (k + 2 * thr_ d) p h' = g (k + 2 * thr_ d) p h' := fun d d0 d1 hd h' q0 q1 => by
    have b1 := dg_lt (v := 1) k0 (by omega) k1 d0 d1 hd (by decide)
    have b2 := dg_lt (v := 2) k0 (by omega) k1 d0 d1 hd (by decide)
    have htd := thr_le d0 (show d ≤ 6 by omega)
    exact ⟨he _ _ q0 q1 (by omega) (by omega) p p0 p1, he _ _ q0 q1 (by omega) (by omega) p p0 p1⟩
  unfold blR
  split
  · rfl
  · split
    · rfl
    · split
      · rename_i hf
        have hm := fm_in hw p0 (show p < 10 by omega) (k := k) hf
        have := step _ hf hm.1 hm.2.1 h h0 h49
        rw [this.1, this.2]
      · rw [mxg_congr (g := blg G f k p h) (k := blg G g k p h) _ (fun q q0 q1 hP => by
          have hP' := of_decide_eq_true hP
          unfold blg
          exact he k _ (by omega) (by omega) k1 (by omega) q q0 (by omega)),
          mxg_congr (g := blw G f k p h) (k := blw G g k p h) _ (fun w w0 w1 hP => by
          have hP' := of_decide_eq_true hP
          have hW := hw.W w w0 (by omega)
          have := step _ hW.2.1.1 hW.2.1.2 hP'.2.1 (h - G 8 w) (by omega) (by omega)
          unfold blw
          rw [this.1, this.2])]
theorem isBL_ex {G : Lnd} (hw : WF G) : ∃ f, ∀ k h, 0 ≤ k → k < thr_ ((G 0 3)) → 0 ≤ h → h < 49 → isBL G f k h := by
  have ht := thrG hw
  have key : ∀ n : Nat, ∃ f, ∀ k h, 0 ≤ k → k < thr_ ((G 0 3)) → 0 ≤ h → h < 49 → (thr_ ((G 0 3)) - 1 - k) * 49 + h < n → isBL G f k h := by
    intro n; induction n with
    | zero => exact ⟨fun _ _ _ => 0, fun k h a b c d e => by omega⟩
    | succ n ih =>
      obtain ⟨f, hf⟩ := ih
      refine ⟨fun k p h => if (thr_ ((G 0 3)) - 1 - k) * 49 + h = n ∧ 0 ≤ h ∧ h < 49 then blR G f k p h else f k p h, fun k h k0 k1 h0 h1 hr p p0 p1 => ?_⟩
      have hc : blR G f k p h = blR G (fun k p h => if (thr_ ((G 0 3)) - 1 - k) * 49 + h = n ∧ 0 ≤ h ∧ h < 49 then blR G f k p h else f k p h) k p h := by
        refine blR_congr hw k0 k1 p0 p1 h0 h1 (fun k' h' q0 q1 kk' ho p' _ _ => ?_)
        show _ = if (thr_ ((G 0 3)) - 1 - k') * 49 + h' = n ∧ 0 ≤ h' ∧ h' < 49 then blR G f k' p' h' else f k' p' h'
        rw [if_neg (by omega)]
      rw [← hc]
      show (if (thr_ ((G 0 3)) - 1 - k) * 49 + h = n ∧ 0 ≤ h ∧ h < 49 then blR G f k p h else f k p h) = _
      by_cases he : (thr_ ((G 0 3)) - 1 - k) * 49 + h = n
      · rw [if_pos ⟨he, h0, h1⟩]
      · rw [if_neg (fun q => he q.1)]; exact hf k h k0 k1 h0 h1 (by omega) p p0 p1
  obtain ⟨f, hf⟩ := key (729 * 49)
  exact ⟨f, fun k h k0 k1 h0 h1 => hf k h k0 k1 h0 h1 (by omega)⟩
theorem isBL_uniq {G : Lnd} (hw : WF G) {f g : Int → Int → Int → Int} (hf : ∀ k h, 0 ≤ k → k < thr_ ((G 0 3)) → 0 ≤ h → h < 49 → isBL G f k h) (hg : ∀ k h, 0 ≤ k → k < thr_ ((G 0 3)) → 0 ≤ h → h < 49 → isBL G g k h) : ∀ k h p, 0 ≤ k → k < thr_ ((G 0 3)) → 0 ≤ h → h < 49 → 0 ≤ p → p < (G 0 0) → f k p h = g k p h := by
  have key : ∀ (n : Nat) (k h : Int), 0 ≤ k → k < thr_ ((G 0 3)) → 0 ≤ h → h < 49 → ((thr_ ((G 0 3)) - 1 - k) * 49 + h).toNat = n → ∀ p, 0 ≤ p → p < (G 0 0) → f k p h = g k p h := by
    intro n; induction n using Nat.strongRecOn with
    | _ n ih =>
      intro k h k0 k1 h0 h1 hn p p0 p1
      rw [hf k h k0 k1 h0 h1 p p0 p1, hg k h k0 k1 h0 h1 p p0 p1]
      exact blR_congr hw k0 k1 p0 p1 h0 h1 (fun k' h' q0 q1 kk' ho p' a b => ih ((thr_ ((G 0 3)) - 1 - k') * 49 + h').toNat (by omega) k' h' (by omega) kk' q0 q1 rfl p' a b)
  exact fun k h p k0 k1 h0 h1 p0 p1 => key _ k h k0 k1 h0 h1 rfl p p0 p1
noncomputable def BL (G : Lnd) : Int → Int → Int → Int := @dite (Int → Int → Int → Int) (∃ f, ∀ k h, 0 ≤ k → k < thr_ ((G 0 3)) → 0 ≤ h → h < 49 → isBL G f k h) (Classical.propDecidable _) (fun h => Classical.choose h) (fun _ => fun _ _ _ => 0)
theorem BL_is {G : Lnd} (hw : WF G) : ∀ k h, 0 ≤ k → k < thr_ ((G 0 3)) → 0 ≤ h → h < 49 → isBL G (BL G) k h := by
  have h := isBL_ex hw
  unfold BL; rw [dif_pos h]; exact Classical.choose_spec h
theorem BL_rng {G : Lnd} (hw : WF G) : ∀ k h p, 0 ≤ k → k < thr_ ((G 0 3)) → 0 ≤ h → h < 49 → 0 ≤ p → p < (G 0 0) → 0 ≤ BL G k p h ∧ BL G k p h ≤ lkG G k := by
  have hN := hw.N; unfold wfN at hN
  have ht := thrG hw
  have key : ∀ (n : Nat) (k h : Int), 0 ≤ k → k < thr_ ((G 0 3)) → 0 ≤ h → h < 49 → ((thr_ ((G 0 3)) - 1 - k) * 49 + h).toNat = n → ∀ p, 0 ≤ p → p < (G 0 0) → 0 ≤ BL G k p h ∧ BL G k p h ≤ lkG G k := by
    intro n; induction n using Nat.strongRecOn with
    | _ n ih =>
      intro k h k0 k1 h0 h1 hn p p0 p1
      have hl := lkG_rng hw k
      have step : ∀ d, 0 ≤ d → d < (G 0 3) → dg k d = 0 → ∀ h', 0 ≤ h' → h' < 49 → 0 ≤ BL G (k + thr_ d) p h' + BL G (k + 2 * thr_ d) p h' ∧ BL G (k + thr_ d) p h' + BL G (k + 2 * thr_ d) p h' ≤ lkG G k := fun d d0 d1 hd h' q0 q1 => by
        have b1 := dg_lt (v := 1) k0 (by omega) k1 d0 d1 hd (by decide)
        have b2 := dg_lt (v := 2) k0 (by omega) k1 d0 d1 hd (by decide)
        have htd := thr_le d0 (show d ≤ 6 by omega)
        have i1 := ih ((thr_ ((G 0 3)) - 1 - (k + thr_ d)) * 49 + h').toNat (by omega) (k + thr_ d) h' (by omega) (by omega) q0 q1 rfl p p0 p1
        have i2 := ih ((thr_ ((G 0 3)) - 1 - (k + 2 * thr_ d)) * 49 + h').toNat (by omega) (k + 2 * thr_ d) h' (by omega) (by omega) q0 q1 rfl p p0 p1
        have hs := (lkG_ok hw).2 k d k0 k1 d0 d1 hd
        omega
      rw [BL_is hw k h k0 k1 h0 h1 p p0 p1]
      unfold blR
      split
      · omega
      · split
        · omega
        · split
          · rename_i hf
            have hm := fm_in hw p0 (show p < 10 by omega) (k := k) hf
            exact step _ hf hm.1 hm.2.1 h h0 h1
          · have g1 := mxg_rng (P := blG G k p h) (g := blg G (BL G) k p h) hl.1 ((G 0 0)).toNat (fun q q0 q1 hP => by
              have hP' := of_decide_eq_true hP
              unfold blg
              exact (ih ((thr_ ((G 0 3)) - 1 - k) * 49 + (h - pas G p q k)).toNat (by omega) k _ k0 k1 (by omega) (by omega) rfl q q0 (by omega)).2)
            have g2 := mxg_rng (P := blW G k p h) (g := blw G (BL G) k p h) hl.1 ((G 0 5)).toNat (fun w w0 w1 hP => by
              have hP' := of_decide_eq_true hP
              have hW := hw.W w w0 (by omega)
              unfold blw
              exact (step _ hW.2.1.1 hW.2.1.2 hP'.2.1 (h - G 8 w) (by omega) (by omega)).2)
            unfold max_; split <;> omega
  exact fun k h p k0 k1 h0 h1 p0 p1 => key _ k h k0 k1 h0 h1 rfl p p0 p1
-- the class's table
/-- the row of sums: where it is, how long -/
def suM (M : aM) (W : aW) (L : Int) : Prop := okD (M, W) 20 (M 78 2) = true ∧ lD_ W.2.1 (M 78 2) = L ∧ (M 78 2 = 79 ∨ 126 ≤ M 78 2) ∧ 0 ≤ L ∧ L ≤ 357210
def beO (G : Lnd) (c : Int) (M : aM) : Prop := cty c ∧ clG c G M ∧ WF G ∧ cdM M ∧ M 78 5 = c
theorem s_X1_at {M : aM} {W : aW} {Q : Int → aM → aW → Prop} {G : Lnd} {c k p : Int} (hB : beO G c M) (h : Q ((k * (G 0 0) + p) * 49) M W) : CallI 14 [vR 78, vI k, vI p] (M, W) Q := by
  refine e_X1_at _ _ _ _ _ ?_
  rw [hB.2.2.2.2, hB.2.1.1]
  exact ⟨ct_o hB.1, h⟩
theorem ix_rng {G : Lnd} (hw : WF G) {k p h : Int} (k0 : 0 ≤ k) (k1 : k < thr_ ((G 0 3))) (p0 : 0 ≤ p) (p1 : p < (G 0 0)) (h0 : 0 ≤ h) (h1 : h < 49) : 0 ≤ (k * (G 0 0) + p) * 49 + h ∧ (k * (G 0 0) + p) * 49 + h < thr_ ((G 0 3)) * (G 0 0) * 49 := by
  have hN := hw.N; unfold wfN at hN
  have a1 : 0 ≤ k * (G 0 0) := Int.mul_nonneg k0 (by omega)
  have a2 : (k + 1) * (G 0 0) ≤ thr_ ((G 0 3)) * (G 0 0) := Int.mul_le_mul_of_nonneg_right (by omega) (by omega)
  rw [Int.add_mul, Int.one_mul] at a2
  omega
theorem ix_inj {G : Lnd} {k p h k' p' h' : Int} (p0 : 0 ≤ p) (p1 : p < (G 0 0)) (h0 : 0 ≤ h) (h1 : h < 49) (p0' : 0 ≤ p') (p1' : p' < (G 0 0)) (h0' : 0 ≤ h') (h1' : h' < 49) (he : (k * (G 0 0) + p) * 49 + h = (k' * (G 0 0) + p') * 49 + h') : k = k' ∧ p = p' ∧ h = h' := by
  have e1 : k * (G 0 0) + p = k' * (G 0 0) + p' := by omega
  have e2 : h = h' := by omega
  have e3 : k = k' := by
    rcases Int.lt_trichotomy k k' with hl | hl | hl
    · have := Int.mul_le_mul_of_nonneg_right (show k + 1 ≤ k' by omega) (show 0 ≤ (G 0 0) by omega)
      rw [Int.add_mul, Int.one_mul] at this; omega
    · exact hl
    · have := Int.mul_le_mul_of_nonneg_right (show k' + 1 ≤ k by omega) (show 0 ≤ (G 0 0) by omega)
      rw [Int.add_mul, Int.one_mul] at this; omega
  refine ⟨e3, ?_, e2⟩
  rw [e3] at e1; omega
/-- the sums of those that come before (k, h) are right -/
def blD (G : Lnd) (s : Int) (k h : Int) (M : aM) : Prop := ∀ k' h', 0 ≤ k' → k' < thr_ ((G 0 3)) → 0 ≤ h' → h' < 49 → (k < k' ∨ (k' = k ∧ h' < h)) → ∀ p, 0 ≤ p → p < (G 0 0) → M s ((k' * (G 0 0) + p) * 49 + h') = BL G k' p h'
theorem s_X1_learnt {M : aM} {W : aW} {Q : Int → aM → aW → Prop} {G : Lnd} {c k p d h0 L hb : Int} (hB : beO G c M) (hS : suM M W L) (hL : thr_ ((G 0 3)) * (G 0 0) * 49 ≤ L) (k0 : 0 ≤ k) (k1 : k < thr_ ((G 0 3))) (p0 : 0 ≤ p) (p1 : p < (G 0 0)) (d0 : 0 ≤ d) (d1 : d < (G 0 3)) (hd : dg k d = 0) (q0 : 0 ≤ h0) (q1 : h0 < 49) (hD : blD G (M 78 2) k hb M)
    (h : Q (BL G (k + thr_ d) p h0 + BL G (k + 2 * thr_ d) p h0) M W) : CallI 20 [vR 78, vI k, vI p, vI d, vI h0] (M, W) Q := by
  have hw := hB.2.2.1
  have hN := hw.N; unfold wfN at hN
  have ht := thrG hw
  have b1 := dg_lt (v := 1) k0 (by omega) k1 d0 d1 hd (by decide)
  have b2 := dg_lt (v := 2) k0 (by omega) k1 d0 d1 hd (by decide)
  have htd := thr_le d0 (show d ≤ 6 by omega)
  obtain ⟨s1, s2, -⟩ := hS
  have i1 := ix_rng hw (show 0 ≤ k + thr_ d by omega) (by omega) p0 p1 q0 q1
  have i2 := ix_rng hw (show 0 ≤ k + 2 * thr_ d by omega) (by omega) p0 p1 q0 q1
  have v1 := hD (k + thr_ d) h0 (by omega) (by omega) q0 q1 (by omega) p p0 p1
  have v2 := hD (k + 2 * thr_ d) h0 (by omega) (by omega) q0 q1 (by omega) p p0 p1
  refine e_X1_learnt _ _ _ _ _ _ _ ?_
  refine ⟨by omega, fun v hv => ?_⟩
  have hv' : v + thr_ d = k + 2 * thr_ d := by omega
  rw [hv', hv]
  refine s_X1_at hB ⟨⟨s1, by omega, by rw [s2]; omega⟩, by omega, s_X1_at hB ⟨⟨s1, by omega, by rw [s2]; omega⟩, ?_⟩⟩
  rw [v1, v2]; exact h
theorem s_X1_mostByGoing {M : aM} {W : aW} {Q : Int → aM → aW → Prop} {G : Lnd} {c k p h0 L : Int} (hB : beO G c M) (hS : suM M W L) (hL : thr_ ((G 0 3)) * (G 0 0) * 49 ≤ L) (k0 : 0 ≤ k) (k1 : k < thr_ ((G 0 3))) (p0 : 0 ≤ p) (p1 : p < (G 0 0)) (q0 : 0 ≤ h0) (q1 : h0 < 49) (hps : ∀ p q, 0 ≤ p → p < 10 → 0 ≤ q → q < 10 → M 80 (p * 10 + q) = pas G p q k) (hD : blD G (M 78 2) k h0 M)
    (h : Q (mxg (blG G k p h0) (blg G (BL G) k p h0) ((G 0 0)).toNat) M W) : CallI 18 [vR 78, vI k, vI p, vI h0] (M, W) Q := by
  have hw := hB.2.2.1
  have hN := hw.N; unfold wfN at hN
  have ht := thrG hw
  have hl := lkG_rng hw k
  obtain ⟨s1, s2, -⟩ := hS
  have key : ∀ (n : Nat) (x4 x5 : Int) (d6 : aL), 0 ≤ x5 → x5 ≤ (G 0 0) → ((G 0 0) - x5).toNat = n → x4 = mxg (blG G k p h0) (blg G (BL G) k p h0) x5.toNat → (0 ≤ x4 ∧ x4 ≤ 100000000) → Xs 18 (6, [some (some (vR 78)), some (some (vI k)), some (some (vI p)), some (some (vI h0)), some (some (vI x4)), some (some (vI x5)), d6], [], (M, W)) (QI Q) := by
    intro n; induction n using Nat.strongRecOn with
    | _ n ih =>
      intro x4 x5 d6 j0 j1 hn hx hr
      refine k_X1_mostByGoing_6 _ _ _ _ _ _ _ _ _ ?_
      rw [hB.2.2.2.2, hB.2.1.1]
      refine ⟨ct_o hB.1, by omega, fun hge => ?_, fun hlt => ⟨by omega, fun v hv => ?_⟩⟩
      · have e : x5 = (G 0 0) := by omega
        rw [e] at hx; rw [hx]; exact h
      · rw [hps p x5 p0 (by omega) j0 (by omega)] at hv
        have hpr := pasB_rng (op := opn k) (sh := sht k) hw p0 (show p < 10 by omega) j0 (show x5 < 10 by omega)
        have hpe : pas G p x5 k = pasB G p x5 (opn k) (sht k) := rfl
        have skip : ∀ d6 : aL, blG G k p h0 x5 = false → Xs 18 (6, [some (some (vR 78)), some (some (vI k)), some (some (vI p)), some (some (vI h0)), some (some (vI x4)), some (some (vI (x5 + 1))), d6], [], (M, W)) (QI Q) := fun d6 hf => ih ((G 0 0) - (x5 + 1)).toNat (by omega) x4 (x5 + 1) _ (by omega) (by omega) rfl (by rw [mxg_S _ _ j0, hf, if_neg (by decide)]; exact hx) hr
        refine ⟨by omega, fun hz => skip _ (decide_eq_false (fun q => by have := q.1; omega)), fun hp => ⟨by omega, fun hgt => skip _ (decide_eq_false (fun q => by have := q.2; omega)), fun hle => ?_⟩⟩
        have i1 := ix_rng hw k0 k1 j0 (show x5 < (G 0 0) by omega) (show 0 ≤ h0 - v by omega) (show h0 - v < 49 by omega)
        have v1 := hD k (h0 - v) k0 k1 (by omega) (by omega) (by omega) x5 j0 (by omega)
        have vr := BL_rng hw k (h0 - v) x5 k0 k1 (by omega) (by omega) j0 (by omega)
        refine s_X1_at hB ?_
        rw [show (k * (G 0 0) + x5) * 49 + h0 - v = (k * (G 0 0) + x5) * 49 + (h0 - v) by omega, v1]
        refine ⟨⟨s1, by omega, by rw [s2]; omega⟩, by omega, ?_⟩
        refine ih ((G 0 0) - (x5 + 1)).toNat (by omega) _ (x5 + 1) _ (by omega) (by omega) rfl ?_ (by unfold max_; split <;> omega)
        rw [mxg_S _ _ j0, if_pos (show blG G k p h0 x5 = true from decide_eq_true ⟨by omega, by omega⟩), ← hx]
        unfold blg; rw [hv]
  refine e_X1_mostByGoing _ _ _ _ _ _ ?_
  exact key _ 0 0 _ (by omega) (by omega) rfl rfl (by decide)
theorem s_X1_mostByHearing {M : aM} {W : aW} {Q : Int → aM → aW → Prop} {G : Lnd} {c k p h0 L : Int} (hB : beO G c M) (hS : suM M W L) (hL : thr_ ((G 0 3)) * (G 0 0) * 49 ≤ L) (k0 : 0 ≤ k) (k1 : k < thr_ ((G 0 3))) (p0 : 0 ≤ p) (p1 : p < (G 0 0)) (q0 : 0 ≤ h0) (q1 : h0 < 49) (hD : blD G (M 78 2) k h0 M)
    (h : Q (mxg (blW G k p h0) (blw G (BL G) k p h0) ((G 0 5)).toNat) M W) : CallI 19 [vR 78, vI k, vI p, vI h0] (M, W) Q := by
  have hw := hB.2.2.1
  have hk := hB.1
  have hG := hB.2.1
  have hN := hw.N; unfold wfN at hN
  have ht := thrG hw
  have hl := lkG_rng hw k
  have key : ∀ (n : Nat) (x4 x5 : Int) (d6 d7 : aL), 0 ≤ x5 → x5 ≤ (G 0 5) → ((G 0 5) - x5).toNat = n → x4 = mxg (blW G k p h0) (blw G (BL G) k p h0) x5.toNat → (0 ≤ x4 ∧ x4 ≤ 200000000) → Xs 19 (6, [some (some (vR 78)), some (some (vI k)), some (some (vI p)), some (some (vI h0)), some (some (vI x4)), some (some (vI x5)), d6, d7], [], (M, W)) (QI Q) := by
    intro n; induction n using Nat.strongRecOn with
    | _ n ih =>
      intro x4 x5 d6 d7 j0 j1 hn hx hr
      refine k_X1_mostByHearing_6 _ _ _ _ _ _ _ _ _ _ ?_
      rw [hB.2.2.2.2, hG.1, ct_l7 hk, ct_l8 hk]
      refine ⟨ct_o hk, by omega, fun hge => ?_, fun hlt => ⟨ct_o hk, ⟨ct_a7 hk, j0, by omega⟩, fun v1 hv1 => ⟨ct_o hk, ⟨ct_a8 hk, j0, by omega⟩, fun v2 hv2 => ?_⟩⟩⟩
      · have e : x5 = (G 0 5) := by omega
        rw [e] at hx; rw [hx]; exact h
      · rw [hG.2.2.2.2.2.2.2.1] at hv1
        rw [hG.2.2.2.2.2.2.2.2] at hv2
        rw [hG.2.2.2.2.2.2.1, ct_l6 hk]
        have hW := hw.W x5 j0 (by omega)
        have skip : ∀ d6 d7 : aL, blW G k p h0 x5 = false → Xs 19 (6, [some (some (vR 78)), some (some (vI k)), some (some (vI p)), some (some (vI h0)), some (some (vI x4)), some (some (vI (x5 + 1))), d6, d7], [], (M, W)) (QI Q) := fun d6 d7 hf => ih ((G 0 5) - (x5 + 1)).toNat (by omega) x4 (x5 + 1) _ _ (by omega) (by omega) rfl (by rw [mxg_S _ _ j0, hf, if_neg (by decide)]; exact hx) hr
        refine ⟨by omega, fun hneg => skip _ _ (decide_eq_false (fun q => by have := q.2.2; omega)), fun hpos => ⟨ct_o hk, ⟨ct_a6 hk, j0, by omega⟩, by omega, fun hne => skip _ _ (decide_eq_false (fun q => hne q.1)), fun he => ?_⟩⟩
        refine s_X2_digit hB.2.2.2.1 k0 (by omega) (by omega) (by omega) ⟨by have := dg_rng k v1; omega, fun hd => skip _ _ (decide_eq_false (fun q => hd (by rw [hv1]; exact q.2.1))), fun hd => ?_⟩
        have hd0 : dg k v1 = 0 := Classical.byContradiction hd
        refine s_X1_learnt hB hS hL k0 k1 p0 p1 (by omega) (by omega) hd0 (by omega) (by omega) hD ?_
        have htd := thr_le (show 0 ≤ v1 by omega) (show v1 ≤ 6 by omega)
        have b1 := dg_lt (v := 1) k0 (by omega) k1 (show 0 ≤ v1 by omega) (show v1 < (G 0 3) by omega) hd0 (by decide)
        have b2 := dg_lt (v := 2) k0 (by omega) k1 (show 0 ≤ v1 by omega) (show v1 < (G 0 3) by omega) hd0 (by decide)
        have r1 := BL_rng hw (k + thr_ v1) v2 p (by omega) (by omega) (by omega) (by omega) p0 p1
        have r2 := BL_rng hw (k + 2 * thr_ v1) v2 p (by omega) (by omega) (by omega) (by omega) p0 p1
        have l1 := lkG_rng hw (k + thr_ v1); have l2 := lkG_rng hw (k + 2 * thr_ v1)
        refine ⟨by omega, ?_⟩
        refine ih ((G 0 5) - (x5 + 1)).toNat (by omega) _ (x5 + 1) _ _ (by omega) (by omega) rfl ?_ (by unfold max_; split <;> omega)
        rw [mxg_S _ _ j0, if_pos (show blW G k p h0 x5 = true from decide_eq_true ⟨Classical.byContradiction he, by rw [← hv1]; exact hd0, by omega⟩), ← hx]
        unfold blw; rw [← hv1, ← hv2]
  refine e_X1_mostByHearing _ _ _ _ _ _ ?_
  exact key _ 0 0 _ _ (by omega) (by omega) rfl rfl (by decide)
