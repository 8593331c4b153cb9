/-! THE CLASS: Reader, what its small methods do -/
abbrev PRes : Type := (Int × Int) ⊕ (Int × Lnd)
def fnN (r : Int → Int) (v : Int) : Nat → Int → Int
  | 0, _ => -1
  | k + 1, i => if r i = v then i else fnN r v k (i + 1)
/-- the first of m slots that holds v; -1 -/
def fnd (r : Int → Int) (v m : Int) : Int := fnN r v m.toNat 0
theorem fnN_rng (r : Int → Int) (v : Int) : ∀ (k : Nat) (i : Int), fnN r v k i = -1 ∨ (i ≤ fnN r v k i ∧ fnN r v k i < i + k ∧ r (fnN r v k i) = v) := by
  intro k
  induction k with
  | zero => intro i; exact Or.inl rfl
  | succ k ih =>
    intro i
    have e : fnN r v (k + 1) i = if r i = v then i else fnN r v k (i + 1) := rfl
    rw [e]
    by_cases h : r i = v
    · rw [if_pos h]; exact Or.inr ⟨by omega, by omega, h⟩
    · rw [if_neg h]
      rcases ih (i + 1) with g | ⟨g1, g2, g3⟩
      · exact Or.inl g
      · exact Or.inr ⟨by omega, by omega, g3⟩
theorem fnd_rng (r : Int → Int) (v m : Int) (h : 0 ≤ m) : fnd r v m = -1 ∨ (0 ≤ fnd r v m ∧ fnd r v m < m ∧ r (fnd r v m) = v) := by
  unfold fnd
  rcases fnN_rng r v m.toNat 0 with g | ⟨g1, g2, g3⟩
  · exact Or.inl g
  · exact Or.inr ⟨by omega, by omega, g3⟩
def flt (tp : Int → Int) (n k a : Int) : PRes := Sum.inl (k, tS tp n a)
def plcK (tp : Int → Int) (n : Int) (G : Lnd) (a : Int) (k : Int → PRes) : PRes :=
  if tK tp n a ≠ 10 then flt tp n 1 a else if fnd (G 9) (tV tp n a) ((G 0 0)) < 0 then flt tp n 4 a else k (fnd (G 9) (tV tp n a) ((G 0 0)))
def cauK (tp : Int → Int) (n : Int) (G : Lnd) (a : Int) (k : Int → PRes) : PRes :=
  if tK tp n a ≠ 10 then flt tp n 1 a else if fnd (G 10) (tV tp n a) ((G 0 1)) < 0 then flt tp n 4 a else k (fnd (G 10) (tV tp n a) ((G 0 1)))
def numK (tp : Int → Int) (n m a : Int) (k : Int → PRes) : PRes :=
  if tK tp n a ≠ 11 then flt tp n 1 a else if tV tp n a < 1 ∨ m < tV tp n a then flt tp n 2 a else k (tV tp n a)
def dbtN (G : Lnd) (p q : Int) : Int := if (G 4 (p * 10 + q)) < 0 then -1 else (G 2 (((G 4 (p * 10 + q))) * 7 + 6))
def dbtK (tp : Int → Int) (n : Int) (G : Lnd) (a : Int) (k : Int → PRes) : PRes :=
  plcK tp n G a (fun p => plcK tp n G (a + 1) (fun q => if dbtN G p q < 0 then flt tp n 4 (a + 1) else k (dbtN G p q)))
/-- what holds of the land while it is read -/
def pW (G : Lnd) : Prop := WF G ∧ (0 ≤ G 0 4 ∧ G 0 4 ≤ 8) ∧ (∀ j, 0 ≤ j → j < (G 0 0) → 0 ≤ G 9 j ∧ G 9 j < 387420489) ∧ (∀ j, 0 ≤ j → j < (G 0 1) → 0 ≤ G 10 j ∧ G 10 j < 387420489)
def rdA (tp : Int → Int) (n a : Int) : Prop := 0 ≤ a ∧ (0 < a → tK tp n (a - 1) ≠ 13)
def rdT (tp : Int → Int) (n a : Int) (M : aM) : Prop := M 20 8 = a ∧ M 20 9 = tK tp n a ∧ M 20 10 = tV tp n a
def rdN (G : Lnd) (M : aM) : Prop := (∀ j, M 25 j = G 9 j) ∧ ∀ j, M 26 j = G 10 j
/-- the reader stands at token a and has read the land G into cell c -/
def rdS (tp : Int → Int) (n c a : Int) (G : Lnd) (M : aM) : Prop := tkM tp n 601 M ∧ M 20 7 = c ∧ rdT tp n a M ∧ (M 20 11 = 0 ∧ M 20 12 = -1) ∧ clG c G M ∧ rdN G M ∧ rdA tp n a ∧ pW G
def rdF (M : aM) (f a : Int) : Prop := M 20 11 = f ∧ M 20 12 = a
def frD (c : Int) (M N : aM) : Prop := ∀ b j, b ≠ 20 → b ≠ 25 → b ≠ 26 → (b < c ∨ c + 8 < b) → N b j = M b j
theorem frD_refl (c : Int) (M : aM) : frD c M M := fun _ _ _ _ _ _ => rfl
theorem frD_tr {c : Int} {M N K : aM} (h1 : frD c M N) (h2 : frD c N K) : frD c M K := fun b j q1 q2 q3 q4 => (h2 b j q1 q2 q3 q4).trans (h1 b j q1 q2 q3 q4)
theorem vlF_rng {tp : Int → Int} {n s : Int} (h : s ≤ n) : 0 ≤ vlF tp n s ∧ vlF tp n s < 387420489 := by
  unfold vlF
  by_cases h1 : n ≤ s
  · rw [if_pos h1]; decide
  · rw [if_neg h1]
    cases h2 : smL (tp s) with
    | true =>
      rw [if_pos rfl]
      have := cdF_rng tp s (edW tp n s - s).toNat (fun i a b => (smL_iff _).1 (runT_in h i a (by unfold edW at b; have := runT_ge (f := smL) (tp := tp) h; omega)))
      unfold cdW; omega
    | false =>
      rw [if_neg (by decide)]
      cases h3 : dgL (tp s) with
      | true =>
        rw [if_pos rfl]
        have := nbF_rng tp s (edD tp n s - s).toNat (fun i a b => (dgL_iff _).1 (runT_in h i a (by unfold edD at b; have := runT_ge (f := dgL) (tp := tp) h; omega)))
        unfold nbD; omega
      | false => rw [if_neg (by decide)]; decide
theorem tV_rng {tp : Int → Int} {n : Int} (h : 0 ≤ n) (i : Int) : 0 ≤ tV tp n i ∧ tV tp n i < 387420489 := vlF_rng (tS_rng h i).2
theorem tK_rng (tp : Int → Int) (n i : Int) : 0 ≤ tK tp n i ∧ tK tp n i ≤ 14 := kdF_rng _ _ _
theorem rdA_le {tp : Int → Int} {n a : Int} (n0 : 0 ≤ n) (h : rdA tp n a) : a ≤ n := by
  obtain ⟨h0, h1⟩ := h
  by_cases e : a = 0
  · omega
  · have := tK_13 n0 (i := a - 1) (by omega) (h1 (by omega)); omega
theorem rdA_s {tp : Int → Int} {n a : Int} (h : rdA tp n a) (hk : tK tp n a ≠ 13) : rdA tp n (a + 1) := ⟨by have := h.1; omega, fun _ => by rw [show a + 1 - 1 = a by omega]; exact hk⟩
-- a word of the frame: only the reader's fields 8, 9, 10 change
theorem rdS.mv {tp : Int → Int} {n c a a' : Int} {G : Lnd} {M N : aM} (h : rdS tp n c a G M) (hk : cty c) (hf : ∀ b j, ¬ (b = 20 ∧ (j = 8 ∨ j = 9 ∨ j = 10)) → N b j = M b j) (ht : rdT tp n a' N) (ha : rdA tp n a') : rdS tp n c a' G N := by
  obtain ⟨h1, h2, h3, h4, h5, h6, h7, h8⟩ := h
  have hc := ct_rng hk
  refine ⟨fun i i0 i1 hp => ?_, ?_, ht, ?_, h5.ag hk (lo := 20) (hi := 20) (fun b j hb => hf b j (by omega)) (by omega), ⟨fun j => ?_, fun j => ?_⟩, ha, h8⟩
  · rw [hf 22 i (by omega), hf 23 i (by omega), hf 24 i (by omega)]; exact h1 i i0 i1 hp
  · rw [hf 20 7 (by omega)]; exact h2
  · rw [hf 20 11 (by omega), hf 20 12 (by omega)]; exact h4
  · rw [hf 25 j (by omega)]; exact h6.1 j
  · rw [hf 26 j (by omega)]; exact h6.2 j
theorem s_X8_moveTo' {M : aM} {W : aW} {Q : aM → aW → Prop} {tp : Int → Int} {n a : Int} (n0 : 0 ≤ n) (n1 : n ≤ 600) (ht : tkM tp n 601 M) (ha : rdA tp n a) (h : ∀ N, (∀ b j, ¬ (b = 20 ∧ (j = 8 ∨ j = 9 ∨ j = 10)) → N b j = M b j) → rdT tp n a N → Q N W) : CallV 88 [vR 20, vI a] (M, W) Q := by
  have hl := rdA_le n0 ha
  have h0 := ha.1
  have g := ht a h0 (by omega) ha.2
  refine e_X8_moveTo _ _ _ _ ?_
  have e1 : (up_ M 20 8 a) 20 8 = a := up_s _ _ _ _
  rw [e1]
  have e2 : (up_ (up_ M 20 8 a) 20 9 ((up_ M 20 8 a) 22 a)) 20 8 = a := by rw [up_j _ _ _ (by decide)]; exact e1
  rw [e2]
  refine ⟨by omega, fun q => by omega, fun _ => ⟨by omega, fun q => by omega, fun _ => ⟨by omega, by omega, h _ (fun b j q => ?_) ⟨?_, ?_, ?_⟩⟩⟩⟩
  · unfold up_; rw [if_neg (by omega), if_neg (by omega), if_neg (by omega)]
  · rw [up_j _ _ _ (by decide), up_j _ _ _ (by decide), up_s]
  · rw [up_j _ _ _ (by decide), up_s, up_b _ _ _ _ (by decide)]; exact g.1
  · rw [up_s, up_b _ _ _ _ (by decide), up_b _ _ _ _ (by decide)]; exact g.2.2
theorem s_X8_moveTo {M : aM} {W : aW} {Q : aM → aW → Prop} {tp : Int → Int} {n c a x : Int} {G : Lnd} (n0 : 0 ≤ n) (n1 : n ≤ 600) (hk : cty c) (hS : rdS tp n c a G M) (hx : x = a + 1) (ht : tK tp n a ≠ 13) (h : ∀ N, (∀ b j, b ≠ 20 → N b j = M b j) → rdS tp n c (a + 1) G N → Q N W) : CallV 88 [vR 20, vI x] (M, W) Q := by
  rw [hx]
  have ha := rdA_s hS.2.2.2.2.2.2.1 ht
  exact s_X8_moveTo' n0 n1 hS.1 ha (fun N f1 t1 => h N (fun b j q => f1 b j (by omega)) (hS.mv hk f1 t1 ha))
theorem s_X8_fail {M : aM} {W : aW} {Q : Int → aM → aW → Prop} {tp : Int → Int} {n c a f : Int} {G : Lnd} (n0 : 0 ≤ n) (n1 : n ≤ 600) (hS : rdS tp n c a G M) (h : ∀ N, (∀ b j, ¬ (b = 20 ∧ (j = 11 ∨ j = 12)) → N b j = M b j) → rdF N f (tS tp n a) → Q 0 N W) : CallI 89 [vR 20, vI f] (M, W) Q := by
  have ha := hS.2.2.2.2.2.2.1
  have hl := rdA_le n0 ha
  have h0 := ha.1
  have g := hS.1 a h0 (by omega) ha.2
  refine e_X8_fail _ _ _ _ ?_
  have e1 : (up_ M 20 11 f) 20 8 = a := by rw [up_j _ _ _ (by decide)]; exact hS.2.2.1.1
  rw [e1]
  refine ⟨by omega, h _ (fun b j q => ?_) ⟨?_, ?_⟩⟩
  · unfold up_; rw [if_neg (by omega), if_neg (by omega)]
  · rw [up_j _ _ _ (by decide), up_s]
  · rw [up_s, up_b _ _ _ _ (by decide)]; exact g.2.1
theorem s_X8_numberOf {M : aM} {W : aW} {Q : Int → aM → aW → Prop} {x1 m L : Int} (hk : okO 86 20 x1 = true) (hL : ln_ x1 = L) (m0 : 0 ≤ m) (m1 : m ≤ L) (hL2 : L ≤ 100) (hr : ∀ j, 0 ≤ j → j < m → inI (M x1 j)) (hv : inI (M 20 10)) (h : Q (fnd (M x1) (M 20 10) m) M W) : CallI 103 [vR 20, vR x1, vI m] (M, W) Q := by
  have key : ∀ (k : Nat) (i : Int), 0 ≤ i → i + k = m → fnd (M x1) (M 20 10) m = fnN (M x1) (M 20 10) k i → Xs 103 (2, [some (some (vR 20)), some (some (vR x1)), some (some (vI m)), some (some (vI i))], [], (M, W)) (QI Q) := by
    intro k
    induction k with
    | zero =>
      intro i i0 i1 e
      refine k_X8_numberOf_2 _ _ _ _ _ _ ?_
      refine ⟨by omega, fun _ => ?_, fun q => by omega⟩
      rw [e] at h; exact h
    | succ k ih =>
      intro i i0 i1 e
      have e1 : fnN (M x1) (M 20 10) (k + 1) i = if M x1 i = M 20 10 then i else fnN (M x1) (M 20 10) k (i + 1) := rfl
      refine k_X8_numberOf_2 _ _ _ _ _ _ ?_
      refine ⟨by omega, fun q => by omega, fun _ => ⟨hk, by omega, fun q => by omega, fun _ => ⟨⟨hk, by omega, by omega⟩, ⟨hr i i0 (by omega), hv⟩, fun q => ?_, fun q => ?_⟩⟩⟩
      · rw [e1, if_neg q] at e
        exact ih (i + 1) (by omega) (by omega) e
      · rw [e1, if_pos (Decidable.not_not.mp q)] at e
        rw [e] at h; exact h
  refine e_X8_numberOf _ _ _ _ _ ?_
  exact key m.toNat 0 (by decide) (by omega) rfl
