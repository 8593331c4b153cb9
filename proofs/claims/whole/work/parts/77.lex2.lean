/-! THE REFERENCE: tokens -/
/-- the two numbers of words tell words apart -/
theorem cd_inj {tp tq : Int → Int} {s t : Int} : ∀ (k l : Nat), k ≤ 6 → l ≤ 6 → (∀ i : Int, 0 ≤ i → i < k → 97 ≤ tp (s + i) ∧ tp (s + i) ≤ 122) → (∀ i : Int, 0 ≤ i → i < l → 97 ≤ tq (t + i) ∧ tq (t + i) ≤ 122) → cdF tp s k = cdF tq t l → k = l ∧ ∀ i : Int, 0 ≤ i → i < k → tp (s + i) = tq (t + i) := by
  have nn : ∀ (tp : Int → Int) (s : Int) (k : Nat), (∀ i : Int, 0 ≤ i → i < k → 97 ≤ tp (s + i) ∧ tp (s + i) ≤ 122) → 0 ≤ cdF tp s k := fun tp s k h => (cdF_rng tp s k (fun i i0 i1 => by have := h (i - s) (by omega) (by omega); rw [show s + (i - s) = i by omega] at this; exact this)).1
  have S : ∀ (tp : Int → Int) (s : Int) (k : Nat), k < 6 → cdF tp s (k + 1) = cdF tp s k * 27 + tp (s + k) - 97 + 1 := fun tp s k h => if_pos h
  intro k
  induction k with
  | zero =>
    intro l hk hl h1 h2 he
    cases l with
    | zero => exact ⟨rfl, fun i i0 i1 => by omega⟩
    | succ l =>
      rw [S _ _ _ (by omega)] at he
      have := nn tq t l (fun i i0 i1 => h2 i i0 (by omega))
      have := h2 l (by omega) (by omega)
      have e0 : cdF tp s 0 = 0 := rfl
      omega
  | succ k ih =>
    intro l hk hl h1 h2 he
    rw [S _ _ _ (by omega)] at he
    have a1 := nn tp s k (fun i i0 i1 => h1 i i0 (by omega))
    have a2 := h1 k (by omega) (by omega)
    cases l with
    | zero =>
      have e0 : cdF tq t 0 = 0 := rfl
      omega
    | succ l =>
      rw [S _ _ _ (by omega)] at he
      have b1 := nn tq t l (fun i i0 i1 => h2 i i0 (by omega))
      have b2 := h2 l (by omega) (by omega)
      have c := ih l (by omega) (by omega) (fun i i0 i1 => h1 i i0 (by omega)) (fun i i0 i1 => h2 i i0 (by omega)) (by omega)
      have e : k = l := c.1
      subst e
      refine ⟨rfl, fun i i0 i1 => ?_⟩
      by_cases q : i = k
      · rw [q]; omega
      · exact c.2 i i0 (by omega)
theorem cd_congr {tp tq : Int → Int} {s t : Int} : ∀ (k : Nat), (∀ i : Int, 0 ≤ i → i < k → tp (s + i) = tq (t + i)) → cdF tp s k = cdF tq t k := by
  intro k
  induction k with
  | zero => intro _; rfl
  | succ k ih =>
    intro h
    have e := ih (fun i i0 i1 => h i i0 (by omega))
    have e2 := h k (by omega) (by omega)
    unfold cdF
    rw [e, e2]
def pkL (tp : Int → Int) (s k : Int) : Nat → Int
  | 0 => 0
  | j + 1 => pkL tp s k j * 32 + (if (j : Int) < k then tp (s + j) - 96 else 0)
theorem pkL_S (tp : Int → Int) (s k : Int) (j : Nat) : pkL tp s k (j + 1) = pkL tp s k j * 32 + (if (j : Int) < k then tp (s + j) - 96 else 0) := rfl
theorem pk_dig {tp : Int → Int} {s k : Int} {j : Int} (j0 : 0 ≤ j) (h : ∀ i : Int, 0 ≤ i → i < k → 97 ≤ tp (s + i) ∧ tp (s + i) ≤ 122) : 0 ≤ (if j < k then tp (s + j) - 96 else 0) ∧ (if j < k then tp (s + j) - 96 else 0) ≤ 26 ∧ (j < k → 1 ≤ (if j < k then tp (s + j) - 96 else 0)) ∧ (¬ j < k → (if j < k then tp (s + j) - 96 else 0) = 0) := by
  split
  · rename_i c; have := h j j0 c; omega
  · omega
theorem pk_rng {tp : Int → Int} {s k : Int} (h : ∀ i : Int, 0 ≤ i → i < k → 97 ≤ tp (s + i) ∧ tp (s + i) ≤ 122) : ∀ j : Nat, 0 ≤ pkL tp s k j ∧ (j ≤ 1 → pkL tp s k j < 32) ∧ (j ≤ 2 → pkL tp s k j < 1024) ∧ (j ≤ 3 → pkL tp s k j < 32768) ∧ (j ≤ 4 → pkL tp s k j < 1048576) ∧ (j ≤ 5 → pkL tp s k j < 33554432) ∧ (j ≤ 6 → pkL tp s k j < 1073741824) ∧ (j = 0 → pkL tp s k j = 0) := by
  intro j
  induction j with
  | zero =>
    have e : pkL tp s k 0 = 0 := rfl
    rw [e]; omega
  | succ j ih =>
    have hd := pk_dig (j := j) (by omega) h
    rw [pkL_S]
    generalize (if (j : Int) < k then tp (s + j) - 96 else 0) = d at *
    refine ⟨by omega, fun q => ?_, fun q => ?_, fun q => ?_, fun q => ?_, fun q => ?_, fun q => ?_, fun q => by omega⟩
    · have := ih.2.2.2.2.2.2.2 (by omega); omega
    · have := ih.2.1 (by omega); omega
    · have := ih.2.2.1 (by omega); omega
    · have := ih.2.2.2.1 (by omega); omega
    · have := ih.2.2.2.2.1 (by omega); omega
    · have := ih.2.2.2.2.2.1 (by omega); omega
theorem pk_inj {tp tq : Int → Int} {s t k l : Int} (h1 : ∀ i : Int, 0 ≤ i → i < k → 97 ≤ tp (s + i) ∧ tp (s + i) ≤ 122) (h2 : ∀ i : Int, 0 ≤ i → i < l → 97 ≤ tq (t + i) ∧ tq (t + i) ≤ 122) : ∀ j : Nat, pkL tp s k j = pkL tq t l j → ∀ i : Int, 0 ≤ i → i < j → (if i < k then tp (s + i) - 96 else 0) = (if i < l then tq (t + i) - 96 else 0) := by
  intro j
  induction j with
  | zero => intro _ i i0 i1; omega
  | succ j ih =>
    intro he i i0 i1
    rw [pkL_S, pkL_S] at he
    have a := pk_dig (j := j) (by omega) h1
    have b := pk_dig (j := j) (by omega) h2
    by_cases q : i = j
    · rw [q]; omega
    · exact ih (by omega) i i0 (by omega)
/-- a word's two numbers -/
def nmR (x y : Int) : Prop := ∃ (tp : Int → Int) (s : Int) (k : Nat), k ≤ 6 ∧ (∀ i : Int, 0 ≤ i → i < k → 97 ≤ tp (s + i) ∧ tp (s + i) ≤ 122) ∧ x = cdF tp s k ∧ y = pkL tp s k 6
theorem nmR_i {x y x' y' : Int} (h : nmR x y) (h' : nmR x' y') : x = x' ↔ y = y' := by
  obtain ⟨tp, s, k, hk, hl, hx, hy⟩ := h
  obtain ⟨tq, t, l, hk', hl', hx', hy'⟩ := h'
  constructor
  · intro e
    have c := cd_inj k l hk hk' hl hl' (by omega)
    have e2 : k = l := c.1
    subst e2
    rw [hy, hy']
    have g : ∀ j : Nat, pkL tp s k j = pkL tq t k j := by
      intro j
      induction j with
      | zero => rfl
      | succ j ih =>
        rw [pkL_S, pkL_S, ih]
        by_cases q : (j : Int) < k
        · rw [if_pos q, if_pos q, c.2 j (by omega) q]
        · rw [if_neg q, if_neg q]
    exact g 6
  · intro e
    have c := pk_inj hl hl' 6 (by omega)
    have e2 : k = l := by
      refine Classical.byContradiction (fun hne => ?_)
      rcases (show k < l ∨ l < k by omega) with q | q
      · have a := c k (by omega) (by omega)
        have b := hl' k (by omega) (by omega)
        rw [if_neg (by omega), if_pos (by omega)] at a
        omega
      · have a := c l (by omega) (by omega)
        have b := hl l (by omega) (by omega)
        rw [if_pos (by omega), if_neg (by omega)] at a
        omega
    subst e2
    rw [hx, hx']
    refine cd_congr k (fun i i0 i1 => ?_)
    have a := c i i0 (by omega)
    rw [if_pos i1, if_pos i1] at a
    omega
theorem nmR_r {x y : Int} (h : nmR x y) : 0 ≤ y ∧ y < 1073741824 := by
  obtain ⟨tp, s, k, hk, hl, hx, hy⟩ := h
  have := pk_rng hl 6
  rw [hy]
  exact ⟨this.1, this.2.2.2.2.2.2.1 (by decide)⟩
/-- the reference reads this text -/
def lxS (tp : Int → Int) (n : Int) (M : aM) : Prop := (0 ≤ n ∧ n ≤ 600) ∧ (∀ i, 0 ≤ i → i < n → -128 ≤ tp i ∧ tp i ≤ 127) ∧ M 86 6 = n ∧ (∀ i, 0 ≤ i → i < n → M 87 i = tp i % 256) ∧ rwM M
theorem lxS.of {tp : Int → Int} {n : Int} {M N : aM} (h : lxS tp n M) (e : ∀ b j, b = 87 ∨ b = 88 ∨ (b = 86 ∧ j = 6) → N b j = M b j) : lxS tp n N := by
  obtain ⟨a, b, c, d, f⟩ := h
  exact ⟨a, b, by rw [e _ _ (by omega)]; exact c, fun i i0 i1 => by rw [e _ _ (by omega)]; exact d i i0 i1, f.of (fun j => e _ _ (by omega))⟩
theorem s_X12_isSmall {M : aM} {W : aW} {Q : Int → aM → aW → Prop} {tp : Int → Int} {n x : Int} (hL : lxS tp n M) (x0 : 0 ≤ x) (x1 : x ≤ 600) (y1 : x < n → smL (tp x) = true → Q 1 M W) (y0 : (n ≤ x ∨ smL (tp x) = false) → Q 0 M W) : CallI 158 [vR 86, vI x] (M, W) Q := by
  obtain ⟨a, b, c, d, -⟩ := hL
  refine e_X12_isSmall _ _ _ _ ?_
  rw [c]
  refine ⟨by omega, fun q => ⟨Or.inl rfl, y0 (Or.inl (by omega))⟩, fun q => ?_⟩
  rw [d x x0 (by omega)]
  have hb := b x x0 (by omega)
  refine ⟨by omega, by omega, fun q1 => ⟨Or.inl rfl, y0 (Or.inr (smL_no (by omega)))⟩, fun q1 => ⟨by omega, by omega, fun q2 => ⟨Or.inl rfl, y0 (Or.inr (smL_no (by omega)))⟩, fun q2 => ⟨Or.inr rfl, y1 (by omega) ((smL_iff _).mpr (by omega))⟩⟩⟩
theorem s_X12_isDigit {M : aM} {W : aW} {Q : Int → aM → aW → Prop} {tp : Int → Int} {n x : Int} (hL : lxS tp n M) (x0 : 0 ≤ x) (x1 : x ≤ 600) (y1 : x < n → dgL (tp x) = true → Q 1 M W) (y0 : (n ≤ x ∨ dgL (tp x) = false) → Q 0 M W) : CallI 159 [vR 86, vI x] (M, W) Q := by
  obtain ⟨a, b, c, d, -⟩ := hL
  refine e_X12_isDigit _ _ _ _ ?_
  rw [c]
  refine ⟨by omega, fun q => ⟨Or.inl rfl, y0 (Or.inl (by omega))⟩, fun q => ?_⟩
  rw [d x x0 (by omega)]
  have hb := b x x0 (by omega)
  refine ⟨by omega, by omega, fun q1 => ⟨Or.inl rfl, y0 (Or.inr (dgL_no (by omega)))⟩, fun q1 => ⟨by omega, by omega, fun q2 => ⟨Or.inl rfl, y0 (Or.inr (dgL_no (by omega)))⟩, fun q2 => ⟨Or.inr rfl, y1 (by omega) ((dgL_iff _).mpr (by omega))⟩⟩⟩
theorem or_shl {x d : Int} (x0 : 0 ≤ x) (x1 : x < 33554432) (d0 : 0 ≤ d) (d1 : d < 32) : or_ (shl_ x 5) d = x * 32 + d := by
  obtain ⟨a, rfl⟩ : ∃ a : Nat, x = a := ⟨x.toNat, by omega⟩
  obtain ⟨b, rfl⟩ : ∃ b : Nat, d = b := ⟨d.toNat, by omega⟩
  have e1 : shl_ (a : Int) 5 = ((a * 32 : Nat) : Int) := by
    unfold shl_
    show (Int32.ofInt (a : Int) <<< (Int32.ofInt 5 &&& 31)).toBitVec.toInt = _
    have e : (Int32.ofInt (a : Int) <<< (Int32.ofInt 5 &&& 31)).toBitVec.toNat = a * 32 := by
      rw [Int32.toBitVec_shiftLeft]
      have e5 : ((Int32.ofInt 5 &&& 31).toBitVec.smod 32).toNat = 5 := by decide
      have ea : (Int32.ofInt (a : Int)).toBitVec.toNat = a := by
        show (BitVec.ofInt 32 (a : Int)).toNat = a
        rw [BitVec.toNat_ofInt]
        have : (((2 ^ 32 : Nat)) : Int) = 4294967296 := by decide
        rw [this]; omega
      show ((Int32.ofInt (a : Int)).toBitVec <<< ((Int32.ofInt 5 &&& 31).toBitVec.smod 32)).toNat = _
      rw [BitVec.shiftLeft_eq', BitVec.toNat_shiftLeft, e5, ea, Nat.shiftLeft_eq]
      omega
    rw [BitVec.toInt_eq_toNat_of_lt (by omega), e]
  rw [e1]
  unfold or_
  show ((Int32.ofInt ((a * 32 : Nat) : Int)).toBitVec ||| (Int32.ofInt (b : Int)).toBitVec).toInt = _
  have f : ∀ c : Nat, c < 4294967296 → (Int32.ofInt (c : Int)).toBitVec.toNat = c := fun c hc => by
    show (BitVec.ofInt 32 (c : Int)).toNat = c
    rw [BitVec.toNat_ofInt]
    have : (((2 ^ 32 : Nat)) : Int) = 4294967296 := by decide
    rw [this]; omega
  have g : ((Int32.ofInt ((a * 32 : Nat) : Int)).toBitVec ||| (Int32.ofInt (b : Int)).toBitVec).toNat = a * 32 + b := by
    rw [BitVec.toNat_or, f _ (by omega), f _ (by omega)]
    have := Nat.shiftLeft_add_eq_or_of_lt (i := 5) (b := b) (by omega) a
    rw [Nat.shiftLeft_eq] at this
    exact this.symm
  rw [BitVec.toInt_eq_toNat_of_lt (by omega), g]
  omega
theorem s_X12_packed {M : aM} {W : aW} {Q : Int → aM → aW → Prop} {tp : Int → Int} {n a b : Int} (hL : lxS tp n M) (a0 : 0 ≤ a) (ab : a ≤ b) (b6 : b ≤ a + 6) (bn : b ≤ n) (hl : ∀ i, a ≤ i → i < b → smL (tp i) = true) (h : Q (pkL tp a (b - a) 6) M W) : CallI 161 [vR 86, vI a, vI b] (M, W) Q := by
  obtain ⟨c1, c2, c3, c4, -⟩ := hL
  have hl' : ∀ i : Int, 0 ≤ i → i < b - a → 97 ≤ tp (a + i) ∧ tp (a + i) ≤ 122 := fun i i0 i1 => (smL_iff _).mp (hl (a + i) (by omega) (by omega))
  have key : ∀ (m j : Nat), j ≤ 6 → 6 - j = m → Xs 161 (5, [some (some (vR 86)), some (some (vI a)), some (some (vI b)), some (some (vI (pkL tp a (b - a) j))), some (some (vI (a + j)))], [], (M, W)) (QI Q) := by
    intro m
    induction m with
    | zero =>
      intro j hj hm
      have e : j = 6 := by omega
      subst e
      refine k_X12_packed_5 _ _ _ _ _ _ _ ?_
      exact ⟨by omega, fun _ => h, fun hlt => by omega⟩
    | succ m ih =>
      intro j hj hm
      have hr := pk_rng hl' j
      have hr5 := hr.2.2.2.2.2.1 (by omega)
      have nx := ih (j + 1) (by omega) (by omega)
      rw [pkL_S, show a + ((j + 1 : Nat) : Int) = a + j + 1 by omega] at nx
      refine k_X12_packed_5 _ _ _ _ _ _ _ ?_
      refine ⟨by omega, fun hge => by omega, fun _ => ⟨by omega, fun hge v ev => ?_, fun hlt => ⟨by omega, fun v ev => ?_⟩⟩⟩
      · rw [or_shl hr.1 hr5 (by decide) (by decide)] at ev
        rw [if_neg (by omega), ← ev] at nx; exact nx
      · have hq := hl' j (by omega) (by omega)
        rw [c4 (a + j) (by omega) (by omega), show tp (a + j) % 256 = tp (a + j) by omega, or_shl hr.1 hr5 (by omega) (by omega)] at ev
        rw [if_pos (by omega), ← ev] at nx; exact nx
  refine e_X12_packed _ _ _ _ _ ?_
  have := key 6 0 (by decide) rfl
  rw [show a + ((0 : Nat) : Int) = a by omega] at this
  exact this
