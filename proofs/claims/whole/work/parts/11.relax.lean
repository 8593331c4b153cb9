/-! LEAST VALUES: a running least and where it was first found; values that are each the least of their neighbours' and a cost -/
def mn_ (g : Int → Int) (top : Int) : Nat → Int
  | 0 => top
  | n + 1 => if g n < mn_ g top n then g n else mn_ g top n
def am_ (g : Int → Int) (top dfl : Int) : Nat → Int
  | 0 => dfl
  | n + 1 => if g n < mn_ g top n then n else am_ g top dfl n
theorem mn_S (g : Int → Int) (top : Int) (n : Nat) : mn_ g top (n + 1) = if g n < mn_ g top n then g n else mn_ g top n := rfl
theorem am_S (g : Int → Int) (top dfl : Int) (n : Nat) : am_ g top dfl (n + 1) = if g n < mn_ g top n then (n : Int) else am_ g top dfl n := rfl
theorem mn_le_top (g : Int → Int) (top : Int) : ∀ n, mn_ g top n ≤ top := by
  intro n; induction n with
  | zero => exact Int.le_refl _
  | succ n ih => unfold mn_; split <;> omega
theorem mn_le (g : Int → Int) (top : Int) : ∀ (n : Nat) (i : Int), 0 ≤ i → i < n → mn_ g top n ≤ g i := by
  intro n; induction n with
  | zero => intro i h0 h1; omega
  | succ n ih =>
    intro i h0 h1
    unfold mn_
    by_cases hi : i = (n : Int)
    · subst hi; split <;> omega
    · have := ih i h0 (by omega)
      split <;> omega
theorem mn_att (g : Int → Int) (top : Int) : ∀ n, mn_ g top n = top ∨ ∃ i : Int, 0 ≤ i ∧ i < n ∧ mn_ g top n = g i := by
  intro n; induction n with
  | zero => exact Or.inl rfl
  | succ n ih =>
    unfold mn_
    by_cases h : g n < mn_ g top n
    · rw [if_pos h]; exact Or.inr ⟨n, by omega, by omega, rfl⟩
    · rw [if_neg h]
      rcases ih with ih | ⟨i, h0, h1, h2⟩
      · exact Or.inl ih
      · exact Or.inr ⟨i, h0, by omega, h2⟩
theorem mn_mono {g k : Int → Int} {s t : Int} (hs : s ≤ t) : ∀ n : Nat, (∀ i : Int, 0 ≤ i → i < n → g i ≤ k i) → mn_ g s n ≤ mn_ k t n := by
  intro n; induction n with
  | zero => intro _; exact hs
  | succ n ih =>
    intro h
    have h1 := ih (fun i h0 h1 => h i h0 (by omega))
    have h2 := h n (by omega) (by omega)
    unfold mn_
    split <;> split <;> omega
theorem mn_congr {g k : Int → Int} {s : Int} : ∀ n : Nat, (∀ i : Int, 0 ≤ i → i < n → g i = k i) → mn_ g s n = mn_ k s n := by
  intro n; induction n with
  | zero => intro _; rfl
  | succ n ih =>
    intro h
    unfold mn_
    rw [ih (fun i h0 h1 => h i h0 (by omega)), h n (by omega) (by omega)]
theorem am_congr {g k : Int → Int} {s d : Int} : ∀ n : Nat, (∀ i : Int, 0 ≤ i → i < n → g i = k i) → am_ g s d n = am_ k s d n := by
  intro n; induction n with
  | zero => intro _; rfl
  | succ n ih =>
    intro h
    unfold am_
    rw [ih (fun i h0 h1 => h i h0 (by omega)), mn_congr n (fun i h0 h1 => h i h0 (by omega)), h n (by omega) (by omega)]
/-- values that reach the top count for nothing -/
theorem mn_top_congr {g k : Int → Int} {s : Int} : ∀ n : Nat, (∀ i : Int, 0 ≤ i → i < n → g i = k i ∨ (s ≤ g i ∧ s ≤ k i)) → mn_ g s n = mn_ k s n := by
  intro n; induction n with
  | zero => intro _; rfl
  | succ n ih =>
    intro h
    have h1 := ih (fun i h0 h1 => h i h0 (by omega))
    have h2 := mn_le_top g s n
    unfold mn_
    rw [← h1]
    rcases h n (by omega) (by omega) with h3 | h3
    · rw [h3]
    · rw [if_neg (by omega), if_neg (by omega)]
theorem am_top_congr {g k : Int → Int} {s d : Int} : ∀ n : Nat, (∀ i : Int, 0 ≤ i → i < n → g i = k i ∨ (s ≤ g i ∧ s ≤ k i)) → am_ g s d n = am_ k s d n := by
  intro n; induction n with
  | zero => intro _; rfl
  | succ n ih =>
    intro h
    have h1 := mn_top_congr n (fun i h0 h1 => h i h0 (by omega))
    have h2 := mn_le_top g s n
    unfold am_
    rw [← h1, ← ih (fun i h0 h1 => h i h0 (by omega))]
    rcases h n (by omega) (by omega) with h3 | h3
    · rw [h3]
    · rw [if_neg (by omega), if_neg (by omega)]
theorem am_dfl {g : Int → Int} {top d : Int} : ∀ n, mn_ g top n = top → am_ g top d n = d := by
  intro n; induction n with
  | zero => intro _; rfl
  | succ n ih =>
    intro h
    unfold mn_ at h; unfold am_
    by_cases hc : g n < mn_ g top n
    · rw [if_pos hc] at h; have := mn_le_top g top n; omega
    · rw [if_neg hc] at h ⊢; exact ih h
/-- the first place of the least -/
theorem am_first {g : Int → Int} {top d : Int} : ∀ n : Nat, mn_ g top n < top → 0 ≤ am_ g top d n ∧ am_ g top d n < n ∧ g (am_ g top d n) = mn_ g top n ∧ ∀ j : Int, 0 ≤ j → j < am_ g top d n → mn_ g top n < g j := by
  intro n; induction n with
  | zero => intro h; exact absurd h (Int.lt_irrefl _)
  | succ n ih =>
    intro h
    rw [mn_S] at h; rw [am_S, mn_S]
    by_cases hc : g n < mn_ g top n
    · rw [if_pos hc, if_pos hc]
      refine ⟨by omega, by omega, rfl, fun j h0 h1 => ?_⟩
      have := mn_le g top n j h0 h1
      omega
    · rw [if_neg hc] at h; rw [if_neg hc, if_neg hc]
      obtain ⟨a, b, c, e⟩ := ih h
      exact ⟨a, by omega, c, e⟩
theorem first_uniq {g : Int → Int} {v : Int} {a b : Int} (a0 : 0 ≤ a) (b0 : 0 ≤ b) (ha : g a = v) (hb : g b = v) (ha' : ∀ j, 0 ≤ j → j < a → g j ≠ v) (hb' : ∀ j, 0 ≤ j → j < b → g j ≠ v) : a = b := by
  rcases Int.lt_trichotomy a b with h | h | h
  · exact absurd ha (hb' a a0 h)
  · exact h
  · exact absurd hb (ha' b b0 h)
theorem mn_succ (g : Int → Int) (top : Int) {x : Int} (h : 0 ≤ x) : mn_ g top (x + 1).toNat = if g x < mn_ g top x.toNat then g x else mn_ g top x.toNat := by
  have e : (x + 1).toNat = x.toNat + 1 := by omega
  have e2 : ((x.toNat : Nat) : Int) = x := by omega
  rw [e]
  show (if g (x.toNat : Nat) < mn_ g top x.toNat then g (x.toNat : Nat) else mn_ g top x.toNat) = _
  rw [e2]
theorem am_succ (g : Int → Int) (top d : Int) {x : Int} (h : 0 ≤ x) : am_ g top d (x + 1).toNat = if g x < mn_ g top x.toNat then x else am_ g top d x.toNat := by
  have e : (x + 1).toNat = x.toNat + 1 := by omega
  have e2 : ((x.toNat : Nat) : Int) = x := by omega
  rw [e]
  show (if g (x.toNat : Nat) < mn_ g top x.toNat then ((x.toNat : Nat) : Int) else am_ g top d x.toNat) = _
  rw [e2]
/-- a least that goes on from another's -/
theorem mn_shift (g : Int → Int) {s t : Int} (h : s ≤ t) : ∀ n, mn_ g s n = if mn_ g t n < s then mn_ g t n else s := by
  intro n; induction n with
  | zero => unfold mn_; split <;> omega
  | succ n ih =>
    have := mn_le_top g t n
    unfold mn_; rw [ih]
    split <;> split <;> (try split) <;> (try split) <;> omega
/-- how many hold -/
def cnt_ (P : Int → Bool) : Nat → Nat
  | 0 => 0
  | n + 1 => cnt_ P n + (if P n = true then 1 else 0)
theorem cnt_le (P : Int → Bool) : ∀ n, cnt_ P n ≤ n := by
  intro n; induction n with
  | zero => exact Nat.le_refl _
  | succ n ih => unfold cnt_; split <;> omega
theorem cnt_mono {P R : Int → Bool} : ∀ n : Nat, (∀ i : Int, 0 ≤ i → i < n → P i = true → R i = true) → cnt_ P n ≤ cnt_ R n := by
  intro n; induction n with
  | zero => intro _; exact Nat.le_refl _
  | succ n ih =>
    intro h
    have h1 := ih (fun i a b => h i a (by omega))
    have h2 := h n (by omega) (by omega)
    unfold cnt_
    cases hp : P n <;> cases hr : R n <;> simp_all <;> omega
theorem cnt_lt {P R : Int → Bool} : ∀ (n : Nat) (j : Int), 0 ≤ j → j < n → (∀ i : Int, 0 ≤ i → i < n → P i = true → R i = true) → P j = false → R j = true → cnt_ P n < cnt_ R n := by
  intro n; induction n with
  | zero => intro j a b; omega
  | succ n ih =>
    intro j a b h h1 h2
    have h4 := h n (by omega) (by omega)
    unfold cnt_
    by_cases hj : j = (n : Int)
    · subst hj
      have h3 := cnt_mono (P := P) (R := R) n (fun i a b => h i a (by omega))
      rw [h1, h2]; simp; omega
    · have h3 := ih j a (by omega) (fun i a b => h i a (by omega)) h1 h2
      cases hp : P n <;> cases hr : R n <;> simp_all <;> omega
theorem cnt_full {P : Int → Bool} : ∀ n : Nat, n ≤ cnt_ P n → ∀ i : Int, 0 ≤ i → i < n → P i = true := by
  intro n; induction n with
  | zero => intro _ i a b; omega
  | succ n ih =>
    intro h i a b
    have := cnt_le P n
    unfold cnt_ at h
    cases hp : P n with
    | false => rw [hp] at h; simp at h; omega
    | true =>
      rw [hp] at h; simp at h
      by_cases hj : i = (n : Int)
      · subst hj; exact hp
      · exact ih (by omega) i a (by omega)
theorem cnt_pos {P : Int → Bool} : ∀ (n : Nat) (j : Int), 0 ≤ j → j < n → P j = true → 1 ≤ cnt_ P n := by
  intro n; induction n with
  | zero => intro j a b; omega
  | succ n ih =>
    intro j a b h
    unfold cnt_
    by_cases hj : j = (n : Int)
    · subst hj; rw [h]; simp
    · have := ih j a (by omega) h; omega
/-- a least one among those that hold -/
theorem least_ex {P : Int → Prop} {D : Int → Int} : ∀ n : Nat, (∃ i : Int, 0 ≤ i ∧ i < n ∧ P i) → ∃ i : Int, 0 ≤ i ∧ i < n ∧ P i ∧ ∀ j : Int, 0 ≤ j → j < n → P j → D i ≤ D j := by
  intro n; induction n with
  | zero => intro ⟨i, a, b, _⟩; omega
  | succ n ih =>
    intro ⟨i, a, b, hi⟩
    by_cases hq : ∃ i : Int, 0 ≤ i ∧ i < n ∧ P i
    · obtain ⟨k, a1, b1, h1, h2⟩ := ih hq
      by_cases hn : P n ∧ D n < D k
      · refine ⟨n, by omega, by omega, hn.1, fun j c e hj => ?_⟩
        by_cases he : j = (n : Int)
        · subst he; omega
        · have := h2 j c (by omega) hj; omega
      · refine ⟨k, a1, by omega, h1, fun j c e hj => ?_⟩
        by_cases he : j = (n : Int)
        · subst he
          have : ¬ D n < D k := fun q => hn ⟨hj, q⟩
          omega
        · exact h2 j c (by omega) hj
    · have hin : i = (n : Int) := by
        refine Classical.byContradiction (fun hne => hq ⟨i, a, by omega, hi⟩)
      subst hin
      refine ⟨n, a, b, hi, fun j c e hj => ?_⟩
      have : j = (n : Int) := Classical.byContradiction (fun hne => hq ⟨j, c, by omega, hj⟩)
      subst this; omega
theorem low_ex (g : Int → Int) : ∀ n : Nat, ∃ L : Int, ∀ i : Int, 0 ≤ i → i < n → L ≤ g i := by
  intro n; induction n with
  | zero => exact ⟨0, fun i a b => by omega⟩
  | succ n ih =>
    obtain ⟨L, h⟩ := ih
    by_cases hc : L ≤ g n
    · refine ⟨L, fun i a b => ?_⟩
      by_cases hj : i = (n : Int)
      · subst hj; exact hc
      · exact h i a (by omega)
    · refine ⟨g n, fun i a b => ?_⟩
      by_cases hj : i = (n : Int)
      · subst hj; omega
      · have := h i a (by omega); omega
-- the system
def cand (I : Int) (c : Int → Int → Int) (f : Int → Int) (p q : Int) : Int := if 0 < c p q then f q + c p q else I
def stq (I : Int) (c : Int → Int → Int) (e : Int → Int) (n : Nat) (f : Int → Int) (p : Int) : Int := if e p < mn_ (cand I c f p) I n then e p else mn_ (cand I c f p) I n
def isFix (I : Int) (c : Int → Int → Int) (e : Int → Int) (fx : Int → Bool) (b : Int → Int) (n : Nat) (f : Int → Int) : Prop :=
  ∀ p : Int, 0 ≤ p → p < n → (fx p = true → f p = b p) ∧ (fx p = false → f p = stq I c e n f p)
theorem stq_le_I (I : Int) (c : Int → Int → Int) (e : Int → Int) (n : Nat) (f : Int → Int) (p : Int) : stq I c e n f p ≤ I := by
  have := mn_le_top (cand I c f p) I n
  unfold stq; split <;> omega
theorem stq_le_e (I : Int) (c : Int → Int → Int) (e : Int → Int) (n : Nat) (f : Int → Int) (p : Int) : stq I c e n f p ≤ e p := by
  unfold stq; split <;> omega
theorem stq_le_c {I : Int} {c : Int → Int → Int} {e : Int → Int} {n : Nat} {f : Int → Int} {p q : Int} (h0 : 0 ≤ q) (h1 : q < n) (hc : 0 < c p q) : stq I c e n f p ≤ f q + c p q := by
  have h := mn_le (cand I c f p) I n q h0 h1
  unfold cand at h; rw [if_pos hc] at h
  unfold stq cand; split <;> omega
theorem stq_att {I : Int} {c : Int → Int → Int} {e : Int → Int} {n : Nat} {f : Int → Int} {p : Int} (h : stq I c e n f p < I) : stq I c e n f p = e p ∨ ∃ q : Int, 0 ≤ q ∧ q < n ∧ 0 < c p q ∧ stq I c e n f p = f q + c p q := by
  unfold stq at h ⊢
  by_cases h1 : e p < mn_ (cand I c f p) I n
  · rw [if_pos h1]; exact Or.inl rfl
  · rw [if_neg h1] at h ⊢
    rcases mn_att (cand I c f p) I n with h2 | ⟨q, a, b, h2⟩
    · omega
    · refine Or.inr ⟨q, a, b, ?_⟩
      rw [h2] at h ⊢
      unfold cand at h ⊢
      by_cases hc : 0 < c p q
      · rw [if_pos hc]; exact ⟨hc, rfl⟩
      · rw [if_neg hc] at h; omega
theorem stq_mono {I : Int} {c : Int → Int → Int} {e : Int → Int} {n : Nat} {f g : Int → Int} (p : Int) (h : ∀ q : Int, 0 ≤ q → q < n → f q ≤ g q) : stq I c e n f p ≤ stq I c e n g p := by
  have h1 : mn_ (cand I c f p) I n ≤ mn_ (cand I c g p) I n := mn_mono (Int.le_refl _) n (fun q a b => by
    have := h q a b
    unfold cand; split <;> omega)
  unfold stq; split <;> split <;> omega
theorem fix_le {I : Int} {c : Int → Int → Int} {e : Int → Int} {fx : Int → Bool} {b : Int → Int} {n : Nat} {f g : Int → Int} (hf : isFix I c e fx b n f) (hg : isFix I c e fx b n g) : ∀ p : Int, 0 ≤ p → p < n → f p ≤ g p := by
  obtain ⟨L, hL⟩ := low_ex g n
  have key : ∀ (m : Nat) (p : Int), 0 ≤ p → p < n → (g p - L).toNat = m → f p ≤ g p := by
    intro m; induction m using Nat.strongRecOn with
    | _ m ih =>
      intro p a bb hm
      cases hx : fx p with
      | true => rw [(hf p a bb).1 hx, (hg p a bb).1 hx]; exact Int.le_refl _
      | false =>
        have h1 := (hf p a bb).2 hx
        have h2 := (hg p a bb).2 hx
        by_cases hI : g p < I
        · rw [h2] at hI
          rcases stq_att hI with h3 | ⟨q, a1, b1, h3, h4⟩
          · rw [h1, h2, h3]; exact stq_le_e _ _ _ _ _ _
          · rw [← h2] at h4
            have h5 := hL q a1 b1
            have h6 := hL p a bb
            have h7 := ih (g q - L).toNat (by omega) q a1 b1 rfl
            have h8 := stq_le_c (I := I) (e := e) (f := f) (p := p) a1 b1 h3
            omega
        · have := stq_le_I I c e n f p; omega
  exact fun p a b => key _ p a b rfl
theorem fix_uniq {I : Int} {c : Int → Int → Int} {e : Int → Int} {fx : Int → Bool} {b : Int → Int} {n : Nat} {f g : Int → Int} (hf : isFix I c e fx b n f) (hg : isFix I c e fx b n g) : ∀ p : Int, 0 ≤ p → p < n → f p = g p := fun p a b => Int.le_antisymm (fix_le hf hg p a b) (fix_le hg hf p a b)
def sm_ (g : Int → Nat) : Nat → Nat
  | 0 => 0
  | n + 1 => sm_ g n + g n
theorem sm_le {g k : Int → Nat} : ∀ n : Nat, (∀ i : Int, 0 ≤ i → i < n → g i ≤ k i) → sm_ g n ≤ sm_ k n := by
  intro n; induction n with
  | zero => intro _; exact Nat.le_refl _
  | succ n ih =>
    intro h
    have h1 := ih (fun i a b => h i a (by omega)); have h2 := h n (by omega) (by omega)
    unfold sm_; omega
theorem sm_lt {g k : Int → Nat} : ∀ (n : Nat) (j : Int), 0 ≤ j → j < n → (∀ i : Int, 0 ≤ i → i < n → g i ≤ k i) → g j < k j → sm_ g n < sm_ k n := by
  intro n; induction n with
  | zero => intro j a b; omega
  | succ n ih =>
    intro j a b h hj
    have h2 := h n (by omega) (by omega)
    unfold sm_
    by_cases he : j = (n : Int)
    · subst he; have h1 := sm_le (g := g) (k := k) n (fun i a b => h i a (by omega)); omega
    · have h1 := ih j a (by omega) (fun i a b => h i a (by omega)) hj; omega
theorem fix_ex (I : Int) (c : Int → Int → Int) (e : Int → Int) (fx : Int → Bool) (b : Int → Int) (n : Nat) : ∃ f, isFix I c e fx b n f := by
  obtain ⟨L1, h1⟩ := low_ex e n
  obtain ⟨L2, h2⟩ := low_ex b n
  have hL : ∃ L : Int, L ≤ I ∧ L ≤ L1 ∧ L ≤ L2 := ⟨min I (min L1 L2), by omega, by omega, by omega⟩
  obtain ⟨L, l0, l1, l2⟩ := hL
  have key : ∀ (m : Nat) (f : Int → Int), (∀ p : Int, 0 ≤ p → p < n → L ≤ f p ∧ (fx p = true → f p = b p) ∧ (fx p = false → stq I c e n f p ≤ f p)) → sm_ (fun p => (f p - L).toNat) n = m → ∃ f, isFix I c e fx b n f := by
    intro m; induction m using Nat.strongRecOn with
    | _ m ih =>
      intro f hf hm
      by_cases hq : isFix I c e fx b n f
      · exact ⟨f, hq⟩
      · let f' : Int → Int := fun p => if fx p = true then b p else stq I c e n f p
        have hle : ∀ p : Int, 0 ≤ p → p < n → f' p ≤ f p := by
          intro p a bb
          show (if fx p = true then b p else stq I c e n f p) ≤ f p
          cases hx : fx p with
          | true => simp; rw [(hf p a bb).2.1 hx]; omega
          | false => simp; exact (hf p a bb).2.2 hx
        have hlow : ∀ p : Int, 0 ≤ p → p < n → L ≤ f' p := by
          intro p a bb
          show L ≤ (if fx p = true then b p else stq I c e n f p)
          cases hx : fx p with
          | true => simp; have := h2 p a bb; omega
          | false =>
            simp
            by_cases hI : stq I c e n f p < I
            · rcases stq_att hI with h3 | ⟨q, a1, b1, h3, h4⟩
              · rw [h3]; have := h1 p a bb; omega
              · have := (hf q a1 b1).1; omega
            · omega
        have hne : ∃ p : Int, 0 ≤ p ∧ p < n ∧ f' p < f p := by
          refine Classical.byContradiction (fun hno => hq (fun p a bb => ⟨(hf p a bb).2.1, fun hx => ?_⟩))
          have e1 : f' p = stq I c e n f p := by show (if fx p = true then b p else stq I c e n f p) = _; rw [hx]; rfl
          have e2 := hle p a bb
          have e3 : ¬ f' p < f p := fun hlt => hno ⟨p, a, bb, hlt⟩
          omega
        obtain ⟨j, j0, j1, hj⟩ := hne
        refine ih (sm_ (fun p => (f' p - L).toNat) n) ?_ f' ?_ rfl
        · rw [← hm]
          refine sm_lt n j j0 j1 (fun i a bb => ?_) ?_
          · have := hle i a bb; omega
          · have := hlow j j0 j1
            show (f' j - L).toNat < (f j - L).toNat
            omega
        · intro p a bb
          refine ⟨hlow p a bb, fun hx => ?_, fun hx => ?_⟩
          · show (if fx p = true then b p else stq I c e n f p) = _; rw [hx]; rfl
          · have e1 : f' p = stq I c e n f p := by show (if fx p = true then b p else stq I c e n f p) = _; rw [hx]; rfl
            rw [e1]; exact stq_mono p hle
  refine key _ (fun p => if fx p = true then b p else I) (fun p a bb => ?_) rfl
  cases hx : fx p with
  | true => simp; have := h2 p a bb; omega
  | false => simp; exact ⟨l0, stq_le_I _ _ _ _ _ _⟩
/-- a whole round settles one more, as long as one isn't -/
theorem fix_round {I : Int} {c : Int → Int → Int} {e : Int → Int} {fx : Int → Bool} {b : Int → Int} {n : Nat} {D f f' : Int → Int} (hD : isFix I c e fx b n D)
    (h1 : ∀ p : Int, 0 ≤ p → p < n → D p ≤ f' p ∧ f' p ≤ f p ∧ (fx p = true → f p = b p) ∧ (fx p = false → f p ≤ I ∧ f' p ≤ stq I c e n f p))
    (h2 : ¬ ∀ p : Int, 0 ≤ p → p < n → f p = D p) : cnt_ (fun p => decide (f p = D p)) n < cnt_ (fun p => decide (f' p = D p)) n := by
  have hex : ∃ i : Int, 0 ≤ i ∧ i < n ∧ f i ≠ D i := by
    refine Classical.byContradiction (fun hno => h2 (fun p a bb => ?_))
    exact Classical.byContradiction (fun hne => hno ⟨p, a, bb, hne⟩)
  obtain ⟨p, a, bb, hp, hmin⟩ := least_ex (D := D) n hex
  have hlt : D p < f p := by have := h1 p a bb; omega
  have hx : fx p = false := by
    cases hx : fx p with
    | false => rfl
    | true => have q1 := (h1 p a bb).2.2.1 hx; have q2 := (hD p a bb).1 hx; omega
  have hDI : D p < I := by have := ((h1 p a bb).2.2.2 hx).1; omega
  have hDp := (hD p a bb).2 hx
  have hst : stq I c e n f p ≤ D p := by
    rw [hDp] at hDI
    rcases stq_att hDI with h3 | ⟨q, a1, b1, h3, h4⟩
    · rw [hDp, h3]; exact stq_le_e _ _ _ _ _ _
    · have hq : f q = D q := Classical.byContradiction (fun hne => by have := hmin q a1 b1 hne; omega)
      have := stq_le_c (I := I) (e := e) (f := f) (p := p) a1 b1 h3
      omega
  have hfin : f' p = D p := by
    have q1 := h1 p a bb
    have q2 := (q1.2.2.2 hx).2
    omega
  refine cnt_lt n p a bb (fun i i0 i1 hi => ?_) ?_ ?_
  · have q1 := h1 i i0 i1
    simp only [decide_eq_true_eq] at hi ⊢
    omega
  · simp only [decide_eq_false_iff_not]; exact hp
  · simp only [decide_eq_true_eq]; exact hfin
/-- above a fixed point a step stays above it -/
theorem fix_above {I : Int} {c : Int → Int → Int} {e : Int → Int} {fx : Int → Bool} {b : Int → Int} {n : Nat} {D f : Int → Int} (hD : isFix I c e fx b n D) (h : ∀ p : Int, 0 ≤ p → p < n → D p ≤ f p) {p : Int} (p0 : 0 ≤ p) (p1 : p < n) (hx : fx p = false) : D p ≤ stq I c e n f p := by
  rw [(hD p p0 p1).2 hx]; exact stq_mono p h
/-- how great a value below the top can be -/
theorem fix_bound {I : Int} {c : Int → Int → Int} {e : Int → Int} {fx : Int → Bool} {b : Int → Int} {n : Nat} {D : Int → Int} (hD : isFix I c e fx b n D) {B C : Int} (hC : 0 ≤ C) (hb : ∀ p : Int, 0 ≤ p → p < n → fx p = true → b p < I → b p ≤ B) (he : ∀ p : Int, 0 ≤ p → p < n → e p < I → e p ≤ B) (hc : ∀ p q : Int, 0 ≤ p → p < n → 0 ≤ q → q < n → c p q ≤ C) :
    ∀ p : Int, 0 ≤ p → p < n → D p < I → D p ≤ B + C * (cnt_ (fun q => decide (D q < D p)) n : Int) := by
  obtain ⟨L, hL⟩ := low_ex D n
  have key : ∀ (m : Nat) (p : Int), 0 ≤ p → p < n → (D p - L).toNat = m → D p < I → D p ≤ B + C * (cnt_ (fun q => decide (D q < D p)) n : Int) := by
    intro m; induction m using Nat.strongRecOn with
    | _ m ih =>
      intro p a bb hm hI
      have hpos : 0 ≤ C * (cnt_ (fun q => decide (D q < D p)) n : Int) := Int.mul_nonneg hC (by omega)
      cases hx : fx p with
      | true => have q1 := (hD p a bb).1 hx; have := hb p a bb hx (by omega); omega
      | false =>
        have h2 := (hD p a bb).2 hx
        rw [h2] at hI
        rcases stq_att hI with h3 | ⟨q, a1, b1, h3, h4⟩
        · have := he p a bb (by omega); omega
        · rw [← h2] at h4 hI
          have h5 := hL q a1 b1
          have h7 := ih (D q - L).toNat (by omega) q a1 b1 rfl (by omega)
          have h8 : cnt_ (fun r => decide (D r < D q)) n < cnt_ (fun r => decide (D r < D p)) n := by
            refine cnt_lt n q a1 b1 (fun i i0 i1 hi => ?_) (by simp) (by simp; omega)
            simp only [decide_eq_true_eq] at hi ⊢; omega
          have h9 := hc p q a bb a1 b1
          have h10 : C * (cnt_ (fun r => decide (D r < D q)) n : Int) + C ≤ C * (cnt_ (fun r => decide (D r < D p)) n : Int) := by
            have : C * ((cnt_ (fun r => decide (D r < D q)) n : Int) + 1) ≤ C * (cnt_ (fun r => decide (D r < D p)) n : Int) := Int.mul_le_mul_of_nonneg_left (by omega) hC
            rw [Int.mul_add, Int.mul_one] at this; exact this
          omega
  exact fun p a b => key _ p a b rfl
theorem am_d {g : Int → Int} {top d e : Int} : ∀ n : Nat, (mn_ g top n = top → d = e) → am_ g top d n = am_ g top e n := by
  intro n; induction n with
  | zero => intro h; exact h rfl
  | succ n ih =>
    intro h
    unfold mn_ at h; unfold am_
    by_cases hc : g n < mn_ g top n
    · rw [if_pos hc, if_pos hc]
    · rw [if_neg hc] at h; rw [if_neg hc, if_neg hc]; exact ih h
