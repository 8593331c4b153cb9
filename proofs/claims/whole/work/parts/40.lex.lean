/-! THE CLASS: Reader, tokens -/
def smL (x : Int) : Bool := decide (97 ≤ x ∧ x ≤ 122)
def dgL (x : Int) : Bool := decide (48 ≤ x ∧ x ≤ 57)
def wsL (x : Int) : Bool := decide (x = 10 ∨ x = 32)
def runL (f : Int → Bool) (tp : Int → Int) : Nat → Int → Int
  | 0, s => s
  | k + 1, s => if f (tp s) = true then runL f tp k (s + 1) else s
/-- the first place from s that f doesn't take, at most n -/
def runT (f : Int → Bool) (tp : Int → Int) (n s : Int) : Int := runL f tp (n - s).toNat s
theorem runT_stop {f : Int → Bool} {tp : Int → Int} {n s : Int} (h : n ≤ s) : runT f tp n s = s := by
  unfold runT; rw [show (n - s).toNat = 0 by omega]; rfl
theorem runT_yes {f : Int → Bool} {tp : Int → Int} {n s : Int} (h : s < n) (hf : f (tp s) = true) : runT f tp n s = runT f tp n (s + 1) := by
  unfold runT; rw [show (n - s).toNat = (n - (s + 1)).toNat + 1 by omega]
  show (if f (tp s) = true then _ else _) = _
  rw [if_pos hf]
theorem runT_no {f : Int → Bool} {tp : Int → Int} {n s : Int} (hf : f (tp s) = false) : runT f tp n s = s := by
  unfold runT
  cases (n - s).toNat with
  | zero => rfl
  | succ k => show (if f (tp s) = true then _ else _) = _; rw [hf]; rfl
theorem runT_all {f : Int → Bool} {tp : Int → Int} {n : Int} : ∀ (k : Nat) (s : Int), (n - s).toNat = k → s ≤ n → s ≤ runT f tp n s ∧ runT f tp n s ≤ n ∧ (∀ i, s ≤ i → i < runT f tp n s → f (tp i) = true) ∧ (runT f tp n s < n → f (tp (runT f tp n s)) = false) := by
  intro k
  induction k with
  | zero => intro s hk hs; rw [runT_stop (by omega)]; exact ⟨by omega, hs, fun i _ _ => by omega, fun _ => by omega⟩
  | succ k ih =>
    intro s hk hs
    cases hf : f (tp s) with
    | false => rw [runT_no hf]; exact ⟨by omega, hs, fun i _ _ => by omega, fun _ => hf⟩
    | true =>
      rw [runT_yes (by omega) hf]
      have h := ih (s + 1) (by omega) (by omega)
      refine ⟨by omega, h.2.1, fun i i0 i1 => ?_, h.2.2.2⟩
      by_cases e : i = s
      · rw [e]; exact hf
      · exact h.2.2.1 i (by omega) i1
theorem runT_ge {f : Int → Bool} {tp : Int → Int} {n s : Int} (h : s ≤ n) : s ≤ runT f tp n s := (runT_all _ s rfl h).1
theorem runT_le {f : Int → Bool} {tp : Int → Int} {n s : Int} (h : s ≤ n) : runT f tp n s ≤ n := (runT_all _ s rfl h).2.1
theorem runT_in {f : Int → Bool} {tp : Int → Int} {n s : Int} (h : s ≤ n) : ∀ i, s ≤ i → i < runT f tp n s → f (tp i) = true := (runT_all _ s rfl h).2.2.1
theorem runT_end {f : Int → Bool} {tp : Int → Int} {n s : Int} (h : s ≤ n) : runT f tp n s < n → f (tp (runT f tp n s)) = false := (runT_all _ s rfl h).2.2.2
/-- the number of a word of up to six letters, by 27; of more, that of the first six -/
def cdF (tp : Int → Int) (s : Int) : Nat → Int
  | 0 => 0
  | k + 1 => if k < 6 then cdF tp s k * 27 + tp (s + k) - 97 + 1 else cdF tp s k
def nbF (tp : Int → Int) (s : Int) : Nat → Int
  | 0 => 0
  | k + 1 => if nbF tp s k < 1000 then nbF tp s k * 10 + tp (s + k) - 48 else nbF tp s k
def langL (w : Int) : Int := if w = 0 then 8740067 else if w = 1 then 1629833 else if w = 2 then 365260 else if w = 3 then 2436392 else if w = 4 then 79 else if w = 5 then 453701 else if w = 6 then 377776 else if w = 7 then 6953 else if w = 8 then 131638 else if w = 9 then 555 else 0
def kwL (v : Int) : Nat → Int → Int
  | 0, _ => 10
  | k + 1, w => if langL w = v then w else kwL v k (w + 1)
def kwF (v : Int) : Int := kwL v 10 0
def edW (tp : Int → Int) (n s : Int) : Int := runT smL tp n s
def edD (tp : Int → Int) (n s : Int) : Int := runT dgL tp n s
def cdW (tp : Int → Int) (n s : Int) : Int := cdF tp s (edW tp n s - s).toNat
def nbD (tp : Int → Int) (n s : Int) : Int := nbF tp s (edD tp n s - s).toNat
/-- kind, value and end of the token that begins at s -/
def kdF (tp : Int → Int) (n s : Int) : Int := if n ≤ s then 13 else if smL (tp s) = true then (if 6 < edW tp n s - s then 14 else kwF (cdW tp n s)) else if dgL (tp s) = true then 11 else if tp s = 59 then 12 else 14
def vlF (tp : Int → Int) (n s : Int) : Int := if n ≤ s then 0 else if smL (tp s) = true then cdW tp n s else if dgL (tp s) = true then nbD tp n s else 0
def nxF (tp : Int → Int) (n s : Int) : Int := if n ≤ s then s else if smL (tp s) = true then edW tp n s else if dgL (tp s) = true then edD tp n s else s + 1
def psN (tp : Int → Int) (n : Int) : Nat → Int
  | 0 => 0
  | k + 1 => nxF tp n (runT wsL tp n (psN tp n k))
/-- where token i begins -/
def tS (tp : Int → Int) (n i : Int) : Int := runT wsL tp n (psN tp n i.toNat)
def tK (tp : Int → Int) (n i : Int) : Int := kdF tp n (tS tp n i)
def tV (tp : Int → Int) (n i : Int) : Int := vlF tp n (tS tp n i)
theorem tS_0 (tp : Int → Int) (n : Int) : tS tp n 0 = runT wsL tp n 0 := rfl
theorem tS_s (tp : Int → Int) (n : Int) {i : Int} (h : 0 ≤ i) : tS tp n (i + 1) = runT wsL tp n (nxF tp n (tS tp n i)) := by
  unfold tS; rw [show (i + 1).toNat = i.toNat + 1 by omega]; rfl
theorem nxF_le {tp : Int → Int} {n s : Int} (h : s ≤ n) : s ≤ nxF tp n s ∧ nxF tp n s ≤ n ∧ (s < n → s < nxF tp n s) := by
  unfold nxF
  by_cases h1 : n ≤ s
  · rw [if_pos h1]; omega
  · rw [if_neg h1]
    cases h2 : smL (tp s) with
    | true =>
      rw [if_pos rfl]; unfold edW
      rw [runT_yes (by omega) h2]
      have a := runT_ge (f := smL) (tp := tp) (n := n) (s := s + 1) (by omega)
      have b := runT_le (f := smL) (tp := tp) (n := n) (s := s + 1) (by omega)
      omega
    | false =>
      rw [if_neg (by decide)]
      cases h3 : dgL (tp s) with
      | true =>
        rw [if_pos rfl]; unfold edD
        rw [runT_yes (by omega) h3]
        have a := runT_ge (f := dgL) (tp := tp) (n := n) (s := s + 1) (by omega)
        have b := runT_le (f := dgL) (tp := tp) (n := n) (s := s + 1) (by omega)
        omega
      | false => rw [if_neg (by decide)]; omega
theorem psN_le {tp : Int → Int} {n : Int} (h : 0 ≤ n) : ∀ k, 0 ≤ psN tp n k ∧ psN tp n k ≤ n := by
  intro k
  induction k with
  | zero => exact ⟨by show (0 : Int) ≤ 0; omega, h⟩
  | succ k ih =>
    have a := runT_ge (f := wsL) (tp := tp) ih.2
    have b := runT_le (f := wsL) (tp := tp) ih.2
    have c := nxF_le (tp := tp) b
    show 0 ≤ nxF _ _ _ ∧ nxF _ _ _ ≤ n
    omega
theorem tS_rng {tp : Int → Int} {n : Int} (h : 0 ≤ n) (i : Int) : 0 ≤ tS tp n i ∧ tS tp n i ≤ n := by
  have a := psN_le (tp := tp) h i.toNat
  have b := runT_ge (f := wsL) (tp := tp) a.2
  have c := runT_le (f := wsL) (tp := tp) a.2
  unfold tS; omega
theorem kwL_rng (v : Int) : ∀ (k : Nat) (w : Int), 0 ≤ w → w + k ≤ 10 → 0 ≤ kwL v k w ∧ kwL v k w ≤ 10 := by
  intro k
  induction k with
  | zero => intro w _ _; exact ⟨by show (0 : Int) ≤ 10; decide, by show (10 : Int) ≤ 10; decide⟩
  | succ k ih =>
    intro w h0 h1
    have e : kwL v (k + 1) w = if langL w = v then w else kwL v k (w + 1) := rfl
    rw [e]
    split
    · omega
    · exact ih _ (by omega) (by omega)
theorem kdF_rng (tp : Int → Int) (n s : Int) : 0 ≤ kdF tp n s ∧ kdF tp n s ≤ 14 := by
  have := kwL_rng (cdW tp n s) 10 0 (by decide) (by decide)
  unfold kdF kwF
  repeat' split
  all_goals omega
theorem kdF_13 (tp : Int → Int) (n s : Int) : kdF tp n s = 13 ↔ n ≤ s := by
  have := kwL_rng (cdW tp n s) 10 0 (by decide) (by decide)
  unfold kdF kwF
  repeat' split
  all_goals omega
theorem tK_13 {tp : Int → Int} {n : Int} (h : 0 ≤ n) {i : Int} (i0 : 0 ≤ i) (h1 : tK tp n i ≠ 13) : i ≤ tS tp n i ∧ tS tp n i < n ∧ (0 < i → tK tp n (i - 1) ≠ 13) := by
  have key : ∀ (k : Nat) (i : Int), i.toNat = k → 0 ≤ i → tK tp n i ≠ 13 → i ≤ tS tp n i ∧ tS tp n i < n ∧ (0 < i → tK tp n (i - 1) ≠ 13) := by
    intro k
    induction k with
    | zero =>
      intro i hk i0 h1
      have a := tS_rng (tp := tp) h i
      have b : ¬ n ≤ tS tp n i := fun q => h1 ((kdF_13 _ _ _).2 q)
      omega
    | succ k ih =>
      intro i hk i0 h1
      have b : ¬ n ≤ tS tp n i := fun q => h1 ((kdF_13 _ _ _).2 q)
      have e := tS_s tp n (i := i - 1) (by omega)
      rw [show i - 1 + 1 = i by omega] at e
      have r := tS_rng (tp := tp) h (i - 1)
      have c := nxF_le (tp := tp) r.2
      have d := runT_ge (f := wsL) (tp := tp) c.2.1
      have g : tK tp n (i - 1) ≠ 13 := fun q => by
        have q := (kdF_13 _ _ _).1 q
        have := runT_le (f := wsL) (tp := tp) c.2.1
        omega
      have j := ih (i - 1) (by omega) (by omega) g
      omega
  exact key _ i rfl i0 h1
/-- the tokens are in their rows -/
def tkM (tp : Int → Int) (n k : Int) (M : aM) : Prop := ∀ i, 0 ≤ i → i < k → (0 < i → tK tp n (i - 1) ≠ 13) → M 22 i = tK tp n i ∧ M 23 i = tS tp n i ∧ M 24 i = tV tp n i
def lgM (M : aM) : Prop := ∀ w, 0 ≤ w → w < 10 → M 21 w = langL w
theorem s_X8_put {M : aM} {W : aW} {Q : aM → aW → Prop} {x1 x2 x3 k : Int} (hk : M 20 4 = k) (k0 : 0 ≤ k) (k1 : k ≤ 600) (h : ∀ N, (∀ b j, ¬ (b = 20 ∧ j = 4) → ¬ ((b = 22 ∨ b = 23 ∨ b = 24) ∧ j = k) → N b j = M b j) → N 20 4 = k + 1 → N 22 k = x1 → N 23 k = x2 → N 24 k = x3 → Q N W) : CallV 87 [vR 20, vI x1, vI x2, vI x3] (M, W) Q := by
  refine e_X8_put _ _ _ _ _ _ ?_
  have e1 : (up_ M 22 (M 20 4) x1) 20 4 = k := by rw [up_b _ _ _ _ (by decide)]; exact hk
  rw [e1]
  have e2 : (up_ (up_ M 22 (M 20 4) x1) 23 k x2) 20 4 = k := by rw [up_b _ _ _ _ (by decide)]; exact e1
  rw [e2]
  have e3 : (up_ (up_ (up_ M 22 (M 20 4) x1) 23 k x2) 24 k x3) 20 4 = k := by rw [up_b _ _ _ _ (by decide)]; exact e2
  rw [e3, hk]
  refine ⟨by omega, fun hge => by omega, fun _ => ⟨by omega, by omega, by omega, h _ (fun b j q1 q2 => ?_) (up_s _ _ _ _) ?_ ?_ ?_⟩⟩
  · unfold up_; rw [if_neg q1, if_neg (by omega), if_neg (by omega), if_neg (by omega)]
  · rw [up_b _ _ _ _ (by decide), up_b _ _ _ _ (by decide), up_b _ _ _ _ (by decide), up_s]
  · rw [up_b _ _ _ _ (by decide), up_b _ _ _ _ (by decide), up_s]
  · rw [up_b _ _ _ _ (by decide), up_s]
theorem cdF_rng (tp : Int → Int) (s : Int) : ∀ k : Nat, (∀ i : Int, s ≤ i → i < s + k → 97 ≤ tp i ∧ tp i ≤ 122) → 0 ≤ cdF tp s k ∧ cdF tp s k < 387420489 ∧ (k = 0 → cdF tp s k < 1) ∧ (k ≤ 1 → cdF tp s k < 27) ∧ (k ≤ 2 → cdF tp s k < 729) ∧ (k ≤ 3 → cdF tp s k < 19683) ∧ (k ≤ 4 → cdF tp s k < 531441) ∧ (k ≤ 5 → cdF tp s k < 14348907) := by
  intro k
  induction k with
  | zero => intro _; show 0 ≤ (0 : Int) ∧ (0 : Int) < 387420489 ∧ (0 = 0 → (0 : Int) < 1) ∧ (0 ≤ 1 → (0 : Int) < 27) ∧ (0 ≤ 2 → (0 : Int) < 729) ∧ (0 ≤ 3 → (0 : Int) < 19683) ∧ (0 ≤ 4 → (0 : Int) < 531441) ∧ (0 ≤ 5 → (0 : Int) < 14348907); omega
  | succ k ih =>
    intro hl
    have h := ih (fun i a b => hl i a (by omega))
    have hc := hl (s + k) (by omega) (by omega)
    have e : cdF tp s (k + 1) = if k < 6 then cdF tp s k * 27 + tp (s + k) - 97 + 1 else cdF tp s k := rfl
    by_cases hk : k < 6
    · rw [if_pos hk] at e
      omega
    · rw [if_neg hk] at e
      omega
theorem nbF_rng (tp : Int → Int) (s : Int) : ∀ k : Nat, (∀ i : Int, s ≤ i → i < s + k → 48 ≤ tp i ∧ tp i ≤ 57) → 0 ≤ nbF tp s k ∧ nbF tp s k < 10000 := by
  intro k
  induction k with
  | zero => intro _; show 0 ≤ (0 : Int) ∧ (0 : Int) < 10000; omega
  | succ k ih =>
    intro hl
    have h := ih (fun i a b => hl i a (by omega))
    have hc := hl (s + k) (by omega) (by omega)
    have e : nbF tp s (k + 1) = if nbF tp s k < 1000 then nbF tp s k * 10 + tp (s + k) - 48 else nbF tp s k := rfl
    by_cases hk : nbF tp s k < 1000
    · rw [if_pos hk] at e; omega
    · rw [if_neg hk] at e; omega
theorem smL_iff (x : Int) : smL x = true ↔ 97 ≤ x ∧ x ≤ 122 := by unfold smL; exact decide_eq_true_iff
theorem dgL_iff (x : Int) : dgL x = true ↔ 48 ≤ x ∧ x ≤ 57 := by unfold dgL; exact decide_eq_true_iff
theorem wsL_iff (x : Int) : wsL x = true ↔ x = 10 ∨ x = 32 := by unfold wsL; exact decide_eq_true_iff
theorem smL_no {x : Int} (h : ¬ (97 ≤ x ∧ x ≤ 122)) : smL x = false := by
  cases e : smL x with
  | false => rfl
  | true => exact absurd ((smL_iff x).1 e) h
theorem dgL_no {x : Int} (h : ¬ (48 ≤ x ∧ x ≤ 57)) : dgL x = false := by
  cases e : dgL x with
  | false => rfl
  | true => exact absurd ((dgL_iff x).1 e) h
theorem wsL_no {x : Int} (h : ¬ (x = 10 ∨ x = 32)) : wsL x = false := by
  cases e : wsL x with
  | false => rfl
  | true => exact absurd ((wsL_iff x).1 e) h

theorem s_X8_cutWord {M : aM} {W : aW} {Q : Int → aM → aW → Prop} {n s k : Int} {tp : Int → Int} (ht : ∀ i, 0 ≤ i → i < n → M 1 i = tp i) (hl : lgM M) (h4 : M 20 4 = k) (k0 : 0 ≤ k) (k1 : k ≤ 600) (s0 : 0 ≤ s) (s1 : s ≤ n) (n1 : n ≤ 600) (hb : ∀ i, 0 ≤ i → i < n → inI (tp i)) (h : ∀ N, (∀ b j, ¬ (b = 20 ∧ j = 4) → ¬ ((b = 22 ∨ b = 23 ∨ b = 24) ∧ j = k) → N b j = M b j) → N 20 4 = k + 1 → N 22 k = (if 6 < edW tp n s - s then 14 else kwF (cdW tp n s)) → N 23 k = s → N 24 k = cdW tp n s → Q (edW tp n s) N W) : CallI 85 [vR 20, vR 1, vI n, vI s] (M, W) Q := by
  have hin : ∀ i, s ≤ i → i < edW tp n s → 97 ≤ tp i ∧ tp i ≤ 122 := fun i a b => (smL_iff _).1 (runT_in s1 i a b)
  have hr1 := runT_ge (f := smL) (tp := tp) s1
  have hr2 := runT_le (f := smL) (tp := tp) s1
  have fold1 : runT smL tp n s = edW tp n s := rfl
  rw [fold1] at hr1 hr2
  have hcd := cdF_rng tp s (edW tp n s - s).toNat (fun i a b => hin i a (by omega))
  have fold2 : cdF tp s (edW tp n s - s).toNat = cdW tp n s := rfl
  rw [fold2] at hcd
  have fin : ∀ f, f = (if 6 < edW tp n s - s then 14 else kwF (cdW tp n s)) → CallV 87 [vR 20, vI f, vI s, vI (cdW tp n s)] (M, W) (fun M1 W1 => Q (edW tp n s) M1 W1) := by
    intro f hf
    exact s_X8_put h4 k0 k1 (fun N f1 e1 e2 e3 e4 => h N f1 e1 (e2.trans hf) e3 e4)
  have key2 : ∀ (m : Nat) (w : Int), 0 ≤ w → w + m = 10 → 10 ≤ w + m → edW tp n s - s ≤ 6 → kwF (cdW tp n s) = kwL (cdW tp n s) m w → Xs 85 (83, [some (some (vR 20)), some (some (vR 1)), some (some (vI n)), some (some (vI s)), some (some (vI (cdW tp n s))), some (some (vI (edW tp n s))), some (some (vI 10)), some (some (vI w))], [], (M, W)) (QI Q) := by
    intro m
    induction m with
    | zero =>
      intro w w0 w1 w2 he hk
      refine k_X8_cutWord_83 _ _ _ _ _ _ _ _ _ ?_
      refine ⟨by omega, fun _ => fin 10 ?_, fun q => by omega⟩
      rw [if_neg (by omega), hk]; rfl
    | succ m ih =>
      intro w w0 w1 w2 he hk
      have e : kwL (cdW tp n s) (m + 1) w = if langL w = cdW tp n s then w else kwL (cdW tp n s) m (w + 1) := rfl
      have hlw := hl w w0 (by omega)
      have hlr : 0 ≤ langL w ∧ langL w ≤ 8740067 := by unfold langL; repeat' split
                                                       all_goals omega
      refine k_X8_cutWord_83 _ _ _ _ _ _ _ _ _ ?_
      rw [hlw]
      refine ⟨by omega, fun q => by omega, fun _ => ⟨by omega, fun q => absurd rfl q, fun _ => ⟨by omega, by omega, fun hne => ?_, fun heq => ?_⟩⟩⟩
      · rw [e, if_neg hne] at hk
        exact ih (w + 1) (by omega) (by omega) (by omega) he hk
      · have heq : langL w = cdW tp n s := Decidable.not_not.mp heq
        rw [e, if_pos heq] at hk
        refine k_X8_cutWord_83 _ _ _ _ _ _ _ _ _ ?_
        refine ⟨by omega, fun _ => fin w ?_, fun _ => ⟨by omega, fun _ => fin w ?_, fun q => by omega⟩⟩
        · rw [if_neg (by omega), hk]
        · rw [if_neg (by omega), hk]
  have go2 : ∀ _ : Int, (edW tp n s - s ≤ 6 → Xs 85 (83, [some (some (vR 20)), some (some (vR 1)), some (some (vI n)), some (some (vI s)), some (some (vI (cdW tp n s))), some (some (vI (edW tp n s))), some (some (vI 10)), some (some (vI 0))], [], (M, W)) (QI Q)) := fun _ he => key2 10 0 (by decide) (by decide) (by decide) he rfl
  have go3 : 6 < edW tp n s - s → Xs 85 (83, [some (some (vR 20)), some (some (vR 1)), some (some (vI n)), some (some (vI s)), some (some (vI (cdW tp n s))), some (some (vI (edW tp n s))), some (some (vI 14)), some (some (vI 0))], [], (M, W)) (QI Q) := by
    intro he
    refine k_X8_cutWord_83 _ _ _ _ _ _ _ _ _ ?_
    refine ⟨by omega, fun q => by omega, fun _ => ⟨by omega, fun _ => fin 14 (by rw [if_pos he]), fun q => absurd (Decidable.not_not.mp q) (by decide)⟩⟩
  have key : ∀ (m : Nat) (e : Int) (d6 d7 : aL), (n - e).toNat = m → s ≤ e → e ≤ edW tp n s → edW tp n e = edW tp n s → Xs 85 (6, [some (some (vR 20)), some (some (vR 1)), some (some (vI n)), some (some (vI s)), some (some (vI (cdF tp s (e - s).toNat))), some (some (vI e)), d6, d7], [], (M, W)) (QI Q) := by
    intro m
    induction m with
    | zero =>
      intro e d6 d7 hm he he2 hr
      have e1 : e = edW tp n s := by omega
      refine k_X8_cutWord_6 _ _ _ _ _ _ _ _ _ ?_
      rw [e1, fold2]
      exact ⟨by omega, fun _ => ⟨by omega, fun q => go2 0 q, fun q => go3 (by omega)⟩, fun q => by omega⟩
    | succ m ih =>
      intro e d6 d7 hm he he2 hr
      have hbe := hb e (by omega) (by omega)
      have stop : ¬ (97 ≤ tp e ∧ tp e ≤ 122) → e = edW tp n s := fun q => by rw [← hr]; unfold edW; rw [runT_no (smL_no q)]
      refine k_X8_cutWord_6 _ _ _ _ _ _ _ _ _ ?_
      rw [ht e (by omega) (by omega)]
      refine ⟨by omega, fun q => by omega, fun _ => ⟨by omega, hbe, fun q => ?_, fun q1 => ⟨by omega, hbe, fun q => ?_, fun q2 => ?_⟩⟩⟩
      · have e1 := stop (by omega)
        rw [e1, fold2]
        exact ⟨by omega, fun q => go2 0 q, fun q => go3 (by omega)⟩
      · have e1 := stop (by omega)
        rw [e1, fold2]
        exact ⟨by omega, fun q => go2 0 q, fun q => go3 (by omega)⟩
      · have hs : smL (tp e) = true := (smL_iff _).2 (by omega)
        have hr' : edW tp n (e + 1) = edW tp n s := by rw [← hr]; unfold edW; rw [runT_yes (by omega) hs]
        have he3 : e + 1 ≤ edW tp n s := by
          rw [← hr']; exact runT_ge (by omega)
        have e0 : (e + 1 - s).toNat = (e - s).toNat + 1 := by omega
        have es : cdF tp s ((e - s).toNat + 1) = if (e - s).toNat < 6 then cdF tp s (e - s).toNat * 27 + tp (s + (e - s).toNat) - 97 + 1 else cdF tp s (e - s).toNat := rfl
        have eo : s + ((e - s).toNat : Int) = e := by omega
        rw [eo] at es
        have g := ih (e + 1) d6 d7 (by omega) (by omega) he3 hr'
        rw [e0, es] at g
        refine ⟨by omega, fun q => ?_, fun q => ⟨by omega, fun v hv => ?_⟩⟩
        · rw [if_neg (by omega)] at g; exact g
        · rw [if_pos (by omega)] at g
          rw [hv]; exact g
  refine e_X8_cutWord _ _ _ _ _ ?_
  have g := key (n - s).toNat s none none rfl (by omega) hr1 rfl
  rw [show (s - s).toNat = 0 by omega] at g
  exact g
theorem s_X8_cutNumber {M : aM} {W : aW} {Q : Int → aM → aW → Prop} {n s k : Int} {tp : Int → Int} (ht : ∀ i, 0 ≤ i → i < n → M 1 i = tp i) (h4 : M 20 4 = k) (k0 : 0 ≤ k) (k1 : k ≤ 600) (s0 : 0 ≤ s) (s1 : s ≤ n) (n1 : n ≤ 600) (hb : ∀ i, 0 ≤ i → i < n → inI (tp i)) (h : ∀ N, (∀ b j, ¬ (b = 20 ∧ j = 4) → ¬ ((b = 22 ∨ b = 23 ∨ b = 24) ∧ j = k) → N b j = M b j) → N 20 4 = k + 1 → N 22 k = 11 → N 23 k = s → N 24 k = nbD tp n s → Q (edD tp n s) N W) : CallI 86 [vR 20, vR 1, vI n, vI s] (M, W) Q := by
  have hin : ∀ i, s ≤ i → i < edD tp n s → 48 ≤ tp i ∧ tp i ≤ 57 := fun i a b => (dgL_iff _).1 (runT_in s1 i a b)
  have hr1 := runT_ge (f := dgL) (tp := tp) s1
  have hr2 := runT_le (f := dgL) (tp := tp) s1
  have fold1 : runT dgL tp n s = edD tp n s := rfl
  rw [fold1] at hr1 hr2
  have fold2 : nbF tp s (edD tp n s - s).toNat = nbD tp n s := rfl
  have fin : CallV 87 [vR 20, vI 11, vI s, vI (nbD tp n s)] (M, W) (fun M1 W1 => Q (edD tp n s) M1 W1) := by
    exact s_X8_put h4 k0 k1 (fun N f1 e1 e2 e3 e4 => h N f1 e1 e2 e3 e4)
  have key : ∀ (m : Nat) (e : Int), (n - e).toNat = m → s ≤ e → e ≤ edD tp n s → edD tp n e = edD tp n s → Xs 86 (6, [some (some (vR 20)), some (some (vR 1)), some (some (vI n)), some (some (vI s)), some (some (vI (nbF tp s (e - s).toNat))), some (some (vI e))], [], (M, W)) (QI Q) := by
    intro m
    induction m with
    | zero =>
      intro e hm he he2 hr
      have e1 : e = edD tp n s := by omega
      refine k_X8_cutNumber_6 _ _ _ _ _ _ _ ?_
      rw [e1, fold2]
      exact ⟨by omega, fun _ => fin, fun q => by omega⟩
    | succ m ih =>
      intro e hm he he2 hr
      have hbe := hb e (by omega) (by omega)
      have stop : ¬ (48 ≤ tp e ∧ tp e ≤ 57) → e = edD tp n s := fun q => by rw [← hr]; unfold edD; rw [runT_no (dgL_no q)]
      have hnr := nbF_rng tp s (e - s).toNat (fun i a b => hin i a (by omega))
      refine k_X8_cutNumber_6 _ _ _ _ _ _ _ ?_
      rw [ht e (by omega) (by omega)]
      refine ⟨by omega, fun q => by omega, fun _ => ⟨by omega, hbe, fun q => ?_, fun q1 => ⟨by omega, hbe, fun q => ?_, fun q2 => ?_⟩⟩⟩
      · have e1 := stop (by omega)
        rw [e1, fold2]; exact fin
      · have e1 := stop (by omega)
        rw [e1, fold2]; exact fin
      · have hs : dgL (tp e) = true := (dgL_iff _).2 (by omega)
        have hr' : edD tp n (e + 1) = edD tp n s := by rw [← hr]; unfold edD; rw [runT_yes (by omega) hs]
        have he3 : e + 1 ≤ edD tp n s := by
          rw [← hr']; exact runT_ge (by omega)
        have e0 : (e + 1 - s).toNat = (e - s).toNat + 1 := by omega
        have es : nbF tp s ((e - s).toNat + 1) = if nbF tp s (e - s).toNat < 1000 then nbF tp s (e - s).toNat * 10 + tp (s + (e - s).toNat) - 48 else nbF tp s (e - s).toNat := rfl
        have eo : s + ((e - s).toNat : Int) = e := by omega
        rw [eo] at es
        have g := ih (e + 1) (by omega) (by omega) he3 hr'
        rw [e0, es] at g
        refine ⟨by omega, fun q => ?_, fun q => ⟨by omega, fun v hv => ?_⟩⟩
        · rw [if_neg (by omega)] at g; exact g
        · rw [if_pos (by omega)] at g
          rw [hv]; exact g
  refine e_X8_cutNumber _ _ _ _ _ ?_
  have g := key (n - s).toNat s rfl (by omega) hr1 rfl
  rw [show (s - s).toNat = 0 by omega] at g
  exact g

/-- the rows of tokens after put: one more is there -/
theorem tkM.put {tp : Int → Int} {n k : Int} {M N : aM} (h : tkM tp n k M) (hf : ∀ b j, ¬ (b = 20 ∧ j = 4) → ¬ ((b = 22 ∨ b = 23 ∨ b = 24) ∧ j = k) → N b j = M b j) (a : N 22 k = tK tp n k) (b : N 23 k = tS tp n k) (c : N 24 k = tV tp n k) : tkM tp n (k + 1) N := by
  intro i i0 i1 hp
  by_cases e : i = k
  · rw [e]; exact ⟨a, b, c⟩
  · rw [hf 22 i (by omega) (by omega), hf 23 i (by omega) (by omega), hf 24 i (by omega) (by omega)]
    exact h i i0 (by omega) hp
theorem s_X8_cut {M : aM} {W : aW} {Q : aM → aW → Prop} {n : Int} {tp : Int → Int} (ht : ∀ i, 0 ≤ i → i < n → M 1 i = tp i) (hl : lgM M) (n0 : 0 ≤ n) (n1 : n ≤ 600) (hb : ∀ i, 0 ≤ i → i < n → inI (tp i)) (h : ∀ N, (∀ b j, ¬ (b = 20 ∧ j = 4) → b ≠ 22 → b ≠ 23 → b ≠ 24 → N b j = M b j) → tkM tp n 601 N → Q N W) : CallV 84 [vR 20, vR 1, vI n] (M, W) Q := by
  have fin : ∀ (N : aM) (k : Int), (∀ b j, ¬ (b = 20 ∧ j = 4) → b ≠ 22 → b ≠ 23 → b ≠ 24 → N b j = M b j) → 0 ≤ k → k ≤ n → N 20 4 = k → tkM tp n k N → tS tp n k = n → CallV 87 [vR 20, vI 13, vI n, vI 0] (N, W) (fun M1 W1 => Q M1 W1) := by
    intro N k hf k0 k1 h4 hk he
    refine s_X8_put h4 k0 (by omega) (fun N2 f1 e1 e2 e3 e4 => h N2 (fun b j q1 q2 q3 q4 => by rw [f1 b j q1 (by omega)]; exact hf b j q1 q2 q3 q4) ?_)
    have ek : tK tp n k = 13 := (kdF_13 _ _ _).2 (by omega)
    have ev : tV tp n k = 0 := by unfold tV vlF; rw [if_pos (by omega)]
    have g := hk.put f1 (e2.trans ek.symm) (e3.trans he.symm) (e4.trans ev.symm)
    intro i i0 i1 hp
    by_cases hik : i < k + 1
    · exact g i i0 hik hp
    · have q := tK_13 n0 (i := i - 1) (by omega) (hp (by omega))
      exfalso
      have mono : ∀ (m : Nat), tK tp n (k + m) = 13 := by
        intro m
        induction m with
        | zero => rw [show k + ((0 : Nat) : Int) = k by omega]; exact ek
        | succ m ih =>
          by_cases hc : tK tp n (k + ((m + 1 : Nat) : Int)) = 13
          · exact hc
          · have := (tK_13 n0 (i := k + ((m + 1 : Nat) : Int)) (by omega) hc).2.2 (by omega)
            rw [show k + ((m + 1 : Nat) : Int) - 1 = k + (m : Int) by omega] at this
            exact absurd ih this
      have := mono (i - 1 - k).toNat
      rw [show k + ((i - 1 - k).toNat : Int) = i - 1 by omega] at this
      exact hp (by omega) this
  have key : ∀ (m : Nat) (N : aM) (x3 x4 k : Int) (d5 : aL), (n - x3).toNat = m → (∀ b j, ¬ (b = 20 ∧ j = 4) → b ≠ 22 → b ≠ 23 → b ≠ 24 → N b j = M b j) → 0 ≤ k → k ≤ x4 → x4 ≤ x3 → x3 ≤ n → N 20 4 = k → tkM tp n k N → runT wsL tp n x3 = tS tp n k → Xs 84 (10, [some (some (vR 20)), some (some (vR 1)), some (some (vI n)), some (some (vI x3)), some (some (vI x4)), d5], [], (N, W)) (QV Q) := by
    intro m
    induction m using Nat.strongRecOn with
    | ind m ih =>
      intro N x3 x4 k d5 hm hf k0 k1 k2 k3 h4 hk hp
      have fin' : x3 ≥ n → CallV 87 [vR 20, vI 13, vI n, vI 0] (N, W) (fun M1 W1 => Q M1 W1) := fun q => fin N k hf k0 (by omega) h4 hk (by rw [← hp, runT_stop (by omega)]; omega)
      refine k_X8_cut_10 _ _ _ _ _ _ _ ?_
      refine ⟨by omega, fun q => fin' (by omega), fun _ => ⟨by omega, fun q => fin' q, fun hlt => ⟨by omega, fun v hv => ?_⟩⟩⟩
      rw [hf 1 x3 (by omega) (by decide) (by decide) (by decide), ht x3 (by omega) (by omega)] at hv
      have hbv := hb x3 (by omega) (by omega)
      rw [← hv] at hbv
      have hws : (v = 10 ∨ v = 32) → Xs 84 (10, [some (some (vR 20)), some (some (vR 1)), some (some (vI n)), some (some (vI (x3 + 1))), some (some (vI (x4 + 1))), some (some (vI v))], [], (N, W)) (QV Q) := fun q => by
        have hs : wsL (tp x3) = true := (wsL_iff _).2 (by omega)
        exact ih (n - (x3 + 1)).toNat (by omega) N (x3 + 1) (x4 + 1) k _ rfl hf k0 (by omega) (by omega) (by omega) h4 hk (by rw [← hp, runT_yes (by omega) hs])
      have hnw : ¬ (v = 10 ∨ v = 32) → tS tp n k = x3 := fun q => by rw [← hp, runT_no (wsL_no (by omega))]
      have hit : ∀ (N2 : aM), (∀ b j, ¬ (b = 20 ∧ j = 4) → ¬ ((b = 22 ∨ b = 23 ∨ b = 24) ∧ j = k) → N2 b j = N b j) → N2 20 4 = k + 1 → N2 22 k = tK tp n k → N2 23 k = x3 → N2 24 k = tV tp n k → tS tp n k = x3 → Xs 84 (10, [some (some (vR 20)), some (some (vR 1)), some (some (vI n)), some (some (vI (nxF tp n x3))), some (some (vI (x4 + 1))), some (some (vI v))], [], (N2, W)) (QV Q) := by
        intro N2 f1 e1 e2 e3 e4 hs
        have hnx := nxF_le (tp := tp) (n := n) (s := x3) (by omega)
        refine ih (n - nxF tp n x3).toNat (by omega) N2 _ (x4 + 1) (k + 1) _ rfl (fun b j q1 q2 q3 q4 => by rw [f1 b j q1 (by omega)]; exact hf b j q1 q2 q3 q4) (by omega) (by omega) (by omega) (by omega) e1 (hk.put f1 e2 (e3.trans hs.symm) e4) ?_
        rw [tS_s tp n k0, hs]
      have hoth : ¬ (v = 10 ∨ v = 32) → ¬ (97 ≤ v ∧ v ≤ 122) → ¬ (48 ≤ v ∧ v ≤ 57) → (v ≠ 59 → CallV 87 [vR 20, vI 14, vI x3, vI 0] (N, W) (fun M6 W7 => Xs 84 (10, [some (some (vR 20)), some (some (vR 1)), some (some (vI n)), some (some (vI (x3 + 1))), some (some (vI (x4 + 1))), some (some (vI v))], [], (M6, W7)) (QV Q))) ∧ (¬ v ≠ 59 → CallV 87 [vR 20, vI 12, vI x3, vI 0] (N, W) (fun M6 W7 => Xs 84 (10, [some (some (vR 20)), some (some (vR 1)), some (some (vI n)), some (some (vI (x3 + 1))), some (some (vI (x4 + 1))), some (some (vI v))], [], (M6, W7)) (QV Q))) := by
        intro a1 a2 a3
        have hs := hnw a1
        have enx : nxF tp n x3 = x3 + 1 := by unfold nxF; rw [if_neg (by omega), smL_no (by omega), if_neg (by decide), dgL_no (by omega), if_neg (by decide)]
        have ek : tK tp n k = if v = 59 then 12 else 14 := by unfold tK kdF; rw [hs, if_neg (by omega), smL_no (by omega), if_neg (by decide), dgL_no (by omega), if_neg (by decide), hv]
        have ev : tV tp n k = 0 := by unfold tV vlF; rw [hs, if_neg (by omega), smL_no (by omega), if_neg (by decide), dgL_no (by omega), if_neg (by decide)]
        refine ⟨fun q => s_X8_put h4 k0 (by omega) (fun N2 f1 e1 e2 e3 e4 => ?_), fun q => s_X8_put h4 k0 (by omega) (fun N2 f1 e1 e2 e3 e4 => ?_)⟩
        · have g := hit N2 f1 e1 (by rw [e2, ek, if_neg q]) e3 (e4.trans ev.symm) hs
          rw [enx] at g; exact g
        · have g := hit N2 f1 e1 (by rw [e2, ek, if_pos (Decidable.not_not.mp q)]) e3 (e4.trans ev.symm) hs
          rw [enx] at g; exact g
      have ht2 : ∀ i, 0 ≤ i → i < n → N 1 i = tp i := fun i i0 i1 => by rw [hf 1 i (by omega) (by decide) (by decide) (by decide)]; exact ht i i0 i1
      have hl2 : lgM N := fun w w0 w1 => by rw [hf 21 w (by omega) (by decide) (by decide) (by decide)]; exact hl w w0 w1
      have hdig : ¬ (v = 10 ∨ v = 32) → (48 ≤ v ∧ v ≤ 57) → CallI 86 [vR 20, vR 1, vI n, vI x3] (N, W) (fun r M6 W7 => Xs 84 (10, [some (some (vR 20)), some (some (vR 1)), some (some (vI n)), some (some (vI r)), some (some (vI (x4 + 1))), some (some (vI v))], [], (M6, W7)) (QV Q)) := by
        intro a1 a2
        have hs := hnw a1
        have hd : dgL (tp x3) = true := (dgL_iff _).2 (by omega)
        refine s_X8_cutNumber ht2 h4 k0 (by omega) (by omega) (by omega) n1 hb (fun N2 f1 e1 e2 e3 e4 => ?_)
        have enx : nxF tp n x3 = edD tp n x3 := by unfold nxF; rw [if_neg (by omega), smL_no (by omega), if_neg (by decide), if_pos hd]
        have ek : tK tp n k = 11 := by unfold tK kdF; rw [hs, if_neg (by omega), smL_no (by omega), if_neg (by decide), if_pos hd]
        have ev : tV tp n k = nbD tp n x3 := by unfold tV vlF; rw [hs, if_neg (by omega), smL_no (by omega), if_neg (by decide), if_pos hd]
        have g := hit N2 f1 e1 (e2.trans ek.symm) e3 (e4.trans ev.symm) hs
        rw [enx] at g; exact g
      have hlet : (97 ≤ v ∧ v ≤ 122) → CallI 85 [vR 20, vR 1, vI n, vI x3] (N, W) (fun r M6 W7 => Xs 84 (10, [some (some (vR 20)), some (some (vR 1)), some (some (vI n)), some (some (vI r)), some (some (vI (x4 + 1))), some (some (vI v))], [], (M6, W7)) (QV Q)) := by
        intro a2
        have hs := hnw (by omega)
        have hd : smL (tp x3) = true := (smL_iff _).2 (by omega)
        refine s_X8_cutWord ht2 hl2 h4 k0 (by omega) (by omega) (by omega) n1 hb (fun N2 f1 e1 e2 e3 e4 => ?_)
        have enx : nxF tp n x3 = edW tp n x3 := by unfold nxF; rw [if_neg (by omega), if_pos hd]
        have ek : tK tp n k = (if 6 < edW tp n x3 - x3 then 14 else kwF (cdW tp n x3)) := by unfold tK kdF; rw [hs, if_neg (by omega), if_pos hd]
        have ev : tV tp n k = cdW tp n x3 := by unfold tV vlF; rw [hs, if_neg (by omega), if_pos hd]
        have g := hit N2 f1 e1 (e2.trans ek.symm) e3 (e4.trans ev.symm) hs
        rw [enx] at g; exact g
      refine ⟨hbv, fun q => hws (by omega), fun q10 => ⟨hbv, fun q32 => ⟨hbv, fun q97 => ⟨hbv, fun q48 => ⟨hbv, ?_⟩, fun q48 => ⟨hbv, fun q57 => ⟨hbv, ?_⟩, fun q57 => hdig (by omega) (by omega)⟩⟩, fun q97 => ⟨hbv, fun q122 => ⟨hbv, fun q48 => ⟨hbv, ?_⟩, fun q48 => ⟨hbv, fun q57 => ⟨hbv, ?_⟩, fun q57 => hdig (by omega) (by omega)⟩⟩, fun q122 => hlet (by omega)⟩⟩, fun q32 => hws (by omega)⟩⟩
      all_goals exact hoth (by omega) (by omega) (by omega)
  refine e_X8_cut _ _ _ _ ?_
  have hf0 : ∀ b j, ¬ (b = 20 ∧ j = 4) → b ≠ 22 → b ≠ 23 → b ≠ 24 → up_ M 20 4 0 b j = M b j := fun b j q1 _ _ _ => by unfold up_; rw [if_neg q1]
  exact key (n - 0).toNat _ 0 0 0 none rfl hf0 (by decide) (by decide) (by decide) n0 (up_s _ _ _ _) (fun i a b => by omega) (tS_0 tp n).symm
