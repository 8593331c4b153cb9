/-! ROWS: all rows by numbers, the first of the best -/
def gL (L : List Int) (i : Int) : Int := L.getD i.toNat 0
def tabL (f : Int → Int) : List Int := [f 0, f 1, f 2, f 3, f 4, f 5]
theorem gL_tab (f : Int → Int) {i : Int} (i0 : 0 ≤ i) (i6 : i < 6) : gL (tabL f) i = f i := by
  rcases six_ i0 i6 with rfl | rfl | rfl | rfl | rfl | rfl <;> rfl
def riF (f : Int → Int) : Nat → Int
  | 0 => -1
  | n + 1 => if f (n + 1) < f n then riF f n else n
def otF (f : Int → Int) (r : Int) : Nat → Int
  | 0 => 0
  | n + 1 => if r < (n : Int) + 1 ∧ f ((n : Int) + 1) < f r then otF f r n else (n : Int) + 1
def swF (f : Int → Int) (i j : Int) : Int → Int := upF (upF f i (f j)) j (f i)
def rvF (f : Int → Int) (a b : Int) : Nat → Int → Int
  | 0 => f
  | n + 1 => if a < b then rvF (swF f a b) (a + 1) (b - 1) n else f
def npL (size : Int) (L : List Int) : Option (List Int) := if riF (gL L) (size - 1).toNat < 0 then none else some (tabL (rvF (swF (gL L) (riF (gL L) (size - 1).toNat) (otF (gL L) (riF (gL L) (size - 1).toNat) (size - 1).toNat)) (riF (gL L) (size - 1).toNat + 1) (size - 1) 6))
theorem rvF_S (f : Int → Int) (a b : Int) (n : Nat) : rvF f a b (n + 1) = if a < b then rvF (swF f a b) (a + 1) (b - 1) n else f := rfl
theorem otF_S (f : Int → Int) (r : Int) (n : Nat) : otF f r (n + 1) = if r < (n : Int) + 1 ∧ f ((n : Int) + 1) < f r then otF f r n else (n : Int) + 1 := rfl
theorem riF_S (f : Int → Int) (n : Nat) : riF f (n + 1) = if f (n + 1) < f n then riF f n else (n : Int) := rfl
theorem riF_rng (f : Int → Int) : ∀ n : Nat, -1 ≤ riF f n ∧ riF f n < n := by
  intro n; induction n with
  | zero => exact ⟨by show (-1 : Int) ≤ -1; decide, by show (-1 : Int) < 0; decide⟩
  | succ n ih => unfold riF; split <;> omega
theorem otF_rng (f : Int → Int) (r : Int) : ∀ n : Nat, 0 ≤ otF f r n ∧ otF f r n ≤ n := by
  intro n; induction n with
  | zero => exact ⟨by show (0 : Int) ≤ 0; decide, by show (0 : Int) ≤ 0; decide⟩
  | succ n ih => unfold otF; split <;> omega
/-- entries in a range, all six below six -/
def inR (size : Int) (f : Int → Int) : Prop := (∀ i, 0 ≤ i → i < 6 → 0 ≤ f i ∧ f i < 6) ∧ ∀ i, 0 ≤ i → i < size → 0 ≤ f i ∧ f i < size
theorem inR_sw {size : Int} {f : Int → Int} (h : inR size f) (hs : size ≤ 6) {i j : Int} (i0 : 0 ≤ i) (i1 : i < size) (j0 : 0 ≤ j) (j1 : j < size) : inR size (swF f i j) := by
  have a1 := h.2 i i0 i1; have a2 := h.2 j j0 j1
  refine ⟨fun k k0 k1 => ?_, fun k k0 k1 => ?_⟩
  · have a3 := h.1 k k0 k1
    unfold swF upF; split
    · omega
    · split <;> omega
  · have a3 := h.2 k k0 k1
    unfold swF upF; split
    · omega
    · split <;> omega
theorem inR_rv {size : Int} (hs : size ≤ 6) : ∀ (n : Nat) (f : Int → Int) (a b : Int), inR size f → 0 ≤ a → b < size → inR size (rvF f a b n) := by
  intro n; induction n with
  | zero => intro f a b h _ _; exact h
  | succ n ih =>
    intro f a b h a0 b1
    unfold rvF; split
    · exact ih _ _ _ (inR_sw h hs a0 (by omega) (by omega) b1) (by omega) (by omega)
    · exact h
theorem inR_congr {size : Int} {f g : Int → Int} (hs : size ≤ 6) (h : inR size f) (he : ∀ i, 0 ≤ i → i < 6 → g i = f i) : inR size g := ⟨fun i i0 i1 => by rw [he i i0 i1]; exact h.1 i i0 i1, fun i i0 i1 => by rw [he i i0 (by omega)]; exact h.2 i i0 i1⟩
theorem inR_np {size : Int} (s0 : 0 ≤ size) (hs : size ≤ 6) {L L' : List Int} (h : inR size (gL L)) (he : npL size L = some L') : inR size (gL L') := by
  unfold npL at he
  have hr := riF_rng (gL L) (size - 1).toNat
  have ho := otF_rng (gL L) (riF (gL L) (size - 1).toNat) (size - 1).toNat
  split at he
  · cases he
  · have := Option.some.inj he
    subst this
    exact inR_congr hs (inR_rv hs 6 _ _ _ (inR_sw h hs (by omega) (by omega) ho.1 (by omega)) (by omega) (by omega)) (fun i i0 i1 => gL_tab _ i0 i1)
theorem s_X0_swap {M : aM} {W : aW} {Q : aM → aW → Prop} {f : Int → Int} {i j : Int} (i0 : 0 ≤ i) (i1 : i < 6) (j0 : 0 ≤ j) (j1 : j < 6) (hm : ∀ k, 0 ≤ k → k < 6 → M 47 k = f k) (h : ∀ N, ag 47 47 M N → (∀ k, 0 ≤ k → k < 6 → N 47 k = swF f i j k) → Q N W) : CallV 11 [vR 65, vR 47, vI i, vI j] (M, W) Q := by
  refine e_X0_swap _ _ _ _ _ ?_
  refine ⟨by omega, fun v hv => ⟨by omega, by omega, by omega, h _ (ag_tr (ag_up _ (by decide) (by decide)) (ag_up _ (by decide) (by decide))) (fun k k0 k1 => ?_)⟩⟩
  unfold swF upF
  by_cases hkj : k = j
  · rw [if_pos hkj, hkj, up_s, hv]; exact hm i i0 i1
  · rw [if_neg hkj, up_j _ _ _ hkj]
    by_cases hki : k = i
    · rw [if_pos hki, hki, up_s]; exact hm j j0 j1
    · rw [if_neg hki, up_j _ _ _ hki]; exact hm k k0 k1
theorem s_X0_permute {M : aM} {W : aW} {Q : Int → aM → aW → Prop} {f : Int → Int} {size : Int} (s0 : 0 ≤ size) (s6 : size ≤ 6) (hf : inR size f) (hm : ∀ k, 0 ≤ k → k < 6 → M 47 k = f k)
    (h : ∀ r N, ag 47 47 M N → ((r = 0 ∧ riF f (size - 1).toNat < 0 ∧ N = M) ∨ (r = 1 ∧ 0 ≤ riF f (size - 1).toNat ∧ ∀ k, 0 ≤ k → k < 6 → N 47 k = rvF (swF f (riF f (size - 1).toNat) (otF f (riF f (size - 1).toNat) (size - 1).toNat)) (riF f (size - 1).toNat + 1) (size - 1) 6 k)) → Q r N W) : CallI 10 [vR 65, vR 47, vI size] (M, W) Q := by
  have l69 : ∀ (n : Nat) (r x4 x5 : Int) (g : Int → Int) (N : aM), 0 ≤ r → r = riF f (size - 1).toNat → r + 1 < size → 0 ≤ x5 → x5 + n = 6 → ag 47 47 M N → (∀ k, 0 ≤ k → k < 6 → N 47 k = g k) → rvF g (r + 1 + x5) (size - 1 - x5) n = rvF (swF f r (otF f r (size - 1).toNat)) (r + 1) (size - 1) 6 → Xs 10 (69, [some (some (vR 65)), some (some (vR 47)), some (some (vI size)), some (some (vI r)), some (some (vI x4)), some (some (vI x5))], [], (N, W)) (QI Q) := by
    intro n; induction n with
    | zero =>
      intro r x4 x5 g N r0 hr r1 h0 hn hag hg he
      refine k_X0_permute_69 _ _ _ _ _ _ _ ?_
      refine ⟨by omega, fun hge => ?_, fun hlt => by omega⟩
      refine h 1 N hag (Or.inr ⟨rfl, by omega, fun k k0 k1 => ?_⟩)
      rw [hg k k0 k1, ← hr, ← he]; rfl
    | succ n ih =>
      intro r x4 x5 g N r0 hr r1 h0 hn hag hg he
      rw [rvF_S] at he
      refine k_X0_permute_69 _ _ _ _ _ _ _ ?_
      refine ⟨by omega, fun hge => ?_, fun hlt => ?_⟩
      · rw [if_neg (by omega)] at he
        refine h 1 N hag (Or.inr ⟨rfl, by omega, fun k k0 k1 => ?_⟩)
        rw [hg k k0 k1, ← hr, ← he]
      · rw [if_pos (by omega)] at he
        refine s_X0_swap (f := g) (by omega) (by omega) (by omega) (by omega) hg (fun K hK hk => ?_)
        exact ih r x4 (x5 + 1) _ K r0 hr r1 (by omega) (by omega) (ag_tr hag hK) hk (by rw [show r + 1 + (x5 + 1) = r + 1 + x5 + 1 by omega, show size - 1 - (x5 + 1) = size - 1 - x5 - 1 by omega]; exact he)
  have l36 : ∀ (n : Nat) (r x4 : Int) (d5 : aL), 0 ≤ r → r = riF f (size - 1).toNat → r + 1 < size → x4 = n → x4 ≤ size - 1 → otF f r n = otF f r (size - 1).toNat → Xs 10 (36, [some (some (vR 65)), some (some (vR 47)), some (some (vI size)), some (some (vI r)), some (some (vI x4)), d5], [], (M, W)) (QI Q) := by
    intro n; induction n with
    | zero =>
      intro r x4 d5 r0 hr r1 hx h1 he
      refine k_X0_permute_36 _ _ _ _ _ _ _ ?_
      refine ⟨by omega, fun hle => ?_, fun hgt => by omega⟩
      refine s_X0_swap (f := f) (by omega) (by omega) (by omega) (by omega) hm (fun K hK hk => ?_)
      refine l69 6 r x4 0 _ K r0 hr r1 (by decide) (by decide) hK hk ?_
      rw [show r + 1 + 0 = r + 1 by omega, show size - 1 - 0 = size - 1 by omega, ← he, hx]; rfl
    | succ n ih =>
      intro r x4 d5 r0 hr r1 hx h1 he
      have hx' : x4 = (n : Int) + 1 := by omega
      rw [otF_S] at he
      have fin : otF f r (size - 1).toNat = x4 → CallV 11 [vR 65, vR 47, vI r, vI x4] (M, W) (fun M1 W2 => Xs 10 (69, [some (some (vR 65)), some (some (vR 47)), some (some (vI size)), some (some (vI r)), some (some (vI x4)), some (some (vI 0))], [], (M1, W2)) (QI Q)) := fun ho => by
        refine s_X0_swap (f := f) (by omega) (by omega) (by omega) (by omega) hm (fun K hK hk => ?_)
        refine l69 6 r x4 0 _ K r0 hr r1 (by decide) (by decide) hK hk ?_
        rw [show r + 1 + 0 = r + 1 by omega, show size - 1 - 0 = size - 1 by omega, ho]
      have g1 := hf.1 x4 (by omega) (by omega)
      have g2 := hf.1 r r0 (by omega)
      refine k_X0_permute_36 _ _ _ _ _ _ _ ?_
      rw [hm x4 (by omega) (by omega), hm r r0 (by omega)]
      refine ⟨by omega, fun hle => fin ?_, fun hgt => ⟨by omega, by omega, by omega, fun hge => fin ?_, fun hlt => ?_⟩⟩
      · rw [← he, if_neg (by omega)]; omega
      · rw [← he, if_neg (fun q => by have := q.2; rw [← hx'] at this; omega)]; omega
      · rw [if_pos ⟨by omega, by rw [← hx']; omega⟩] at he
        exact ih r (x4 + (-1)) _ r0 hr r1 (by omega) (by omega) he
  have l4 : ∀ (n : Nat) (x3 : Int) (d4 d5 : aL), x3 + 1 = n → x3 + 1 < size → riF f n = riF f (size - 1).toNat → Xs 10 (4, [some (some (vR 65)), some (some (vR 47)), some (some (vI size)), some (some (vI x3)), d4, d5], [], (M, W)) (QI Q) := by
    intro n; induction n with
    | zero =>
      intro x3 d4 d5 hx h1 he
      refine k_X0_permute_4 _ _ _ _ _ _ _ ?_
      have e : riF f (size - 1).toNat = -1 := he.symm
      exact ⟨by omega, fun _ => ⟨by omega, fun hge => by omega, fun _ => h 0 M (ag_refl _ _ _) (Or.inl ⟨rfl, by omega, rfl⟩)⟩, fun hge => by omega⟩
    | succ n ih =>
      intro x3 d4 d5 hx h1 he
      have hx' : x3 = (n : Int) := by omega
      rw [riF_S] at he
      have g1 := hf.1 x3 (by omega) (by omega)
      have g2 := hf.1 (x3 + 1) (by omega) (by omega)
      refine k_X0_permute_4 _ _ _ _ _ _ _ ?_
      rw [hm x3 (by omega) (by omega), hm (x3 + 1) (by omega) (by omega)]
      refine ⟨by omega, fun hneg => by omega, fun _ => ⟨by omega, by omega, by omega, fun hle => ⟨by omega, fun _ v hv => ?_, fun hno => by omega⟩, fun hgt => ?_⟩⟩
      · rw [if_neg (by rw [← hx']; omega)] at he
        exact l36 (size - 1).toNat x3 v _ (by omega) (by omega) h1 (by omega) (by omega) rfl
      · rw [if_pos (by rw [← hx']; omega)] at he
        exact ih (x3 + (-1)) _ _ (by omega) (by omega) he
  refine e_X0_permute _ _ _ _ ?_
  intro v hv
  rw [hv]
  by_cases hs : size = 0
  · subst hs
    refine k_X0_permute_4 _ _ _ _ _ _ _ ?_
    exact ⟨by decide, fun _ => ⟨by decide, fun hge => absurd hge (by decide), fun _ => h 0 M (ag_refl _ _ _) (Or.inl ⟨rfl, by show (-1 : Int) < 0; decide, rfl⟩)⟩, fun hno => absurd (by decide) hno⟩
  · exact l4 (size - 1).toNat _ _ _ (by omega) (by omega) rfl
/-- a plan that tries by a row -/
def pdR (L : List Int) (t : Int) : Int → Int := if t = 7 then gL L else fun _ => 0
noncomputable def mnR (G : Lnd) (L : List Int) : Int := mnF (hoP G (pdR L) 7) (wtG G) (p2_ ((G 0 3))).toNat
noncomputable def frU (G : Lnd) (L : List Int) (s : Int × List Int) : Int × List Int := if 0 ≤ mnR G L ∧ (s.1 < 0 ∨ mnR G L < s.1) then (mnR G L, L) else s
noncomputable def frF (G : Lnd) : Nat → List Int → Int × List Int → Int × List Int
  | 0, _, s => s
  | n + 1, L, s => match npL ((G 0 3)) L with
    | none => frU G L s
    | some L' => frF G n L' (frU G L s)
def L06 : List Int := [0, 1, 2, 3, 4, 5]
noncomputable def frE (G : Lnd) : Int × List Int := frF G 729 L06 (-2, L06)
theorem pdR_ok {G : Lnd} (hw : WF G) {L : List Int} (h : inR ((G 0 3)) (gL L)) : planOK G (pdR L) 7 := by
  have hN := hw.N; unfold wfN at hN
  exact ⟨by decide, fun h => absurd h (by decide), fun h => absurd h (by decide), fun _ => ⟨by omega, fun i i0 i1 => h.2 i i0 i1⟩, fun h => absurd h (by decide)⟩
theorem pdR_cl {G : Lnd} (hw : WF G) {L : List Int} {M : aM} (h : inR ((G 0 3)) (gL L)) (hm : ∀ i, 0 ≤ i → i < 6 → M 47 i = gL L i) : clD G (pdR L) 7 M := by
  have hN := hw.N; unfold wfN at hN
  exact ⟨fun h => absurd h (by decide), fun h => absurd h (by decide), fun h => absurd h (by decide), fun h => absurd h (by decide), fun _ => ⟨⟨by omega, fun i i0 i1 => h.2 i i0 i1⟩, fun i i0 i1 => hm i i0 (by omega)⟩, fun h => absurd h (by decide)⟩
theorem mnR_rng {G : Lnd} (hw : WF G) (hs : 0 ≤ (G 0 6)) {L : List Int} (h : inR ((G 0 3)) (gL L)) : -2 ≤ mnR G L ∧ mnR G L ≤ 1000000000000000 := by
  have h64 := p2_lt64 hw
  unfold mnR mnF
  cases hb : ngB (hoP G (pdR L) 7) (wtG G) (p2_ ((G 0 3))).toNat with
  | true => rw [if_pos rfl]; omega
  | false =>
    rw [if_neg (by decide)]
    have hh : ∀ w : Int, 0 ≤ w → w < (p2_ ((G 0 3))).toNat → 0 ≤ mnT (hoP G (pdR L) 7) (wtG G) w ∧ mnT (hoP G (pdR L) 7) (wtG G) w ≤ wtG G w * 19800 := fun w w0 w1 => by
      have hn := wtG_nn hw w
      unfold mnT
      by_cases hW : 0 < wtG G w
      · rw [if_pos hW]
        have hr := hoursF_rng hw (pdR_ok hw h) w0 (show w < p2_ ((G 0 3)) by omega) hW hs
        have h0 := ngB_cs _ hb w w0 w1 hW
        exact ⟨Int.mul_nonneg hn h0, Int.mul_le_mul_of_nonneg_left hr.2.1 hn⟩
      · rw [if_neg hW]; have := Int.mul_nonneg hn (show (0 : Int) ≤ 19800 by decide); omega
    have a1 := su_nn _ (fun w w0 w1 => (hh w w0 w1).1)
    have a2 := su_le _ (fun w w0 w1 => (hh w w0 w1).2)
    rw [su_mul] at a2
    have a3 : su_ (wtG G) (p2_ ((G 0 3))).toNat ≤ 100000000 := wt_sum hw (by decide)
    have a4 : su_ (mnT (hoP G (pdR L) 7) (wtG G)) (p2_ ((G 0 3))).toNat ≤ su_ (wtG G) (p2_ ((G 0 3))).toNat * 19800 := a2
    omega
theorem s_X0_findRow {M : aM} {W : aW} {Q : aM → aW → Prop} {G : Lnd} {c : Int} (hP : clP c G M) (m7 : M 65 7 = c) (hs : 0 ≤ (G 0 6)) (hca : M 65 8 = 0 ∨ (M 65 8 = 1 ∧ M 65 9 = (frE G).1 ∧ ∀ i, 0 ≤ i → i < 6 → M 72 i = gL (frE G).2 i))
    (h : ∀ N, (∀ b j, ¬ (b = 65 ∧ (j = 8 ∨ j = 9)) → b ≠ 47 → b ≠ 72 → N b j = M b j) → N 65 8 = 1 → N 65 9 = (frE G).1 → (∀ i, 0 ≤ i → i < 6 → N 72 i = gL (frE G).2 i) → Q N W) : CallV 9 [vR 65] (M, W) Q := by
  have hw := hP.2.2.1
  have hk := hP.1
  have hN := hw.N; unfold wfN at hN
  have l57 : ∀ (n : Nat) (x2 x3 : Int) (d4 d5 : aL) (L : List Int) (s : Int × List Int) (N : aM), 0 ≤ x3 → x3 + n = 729 → (∀ b j, ¬ (b = 65 ∧ (j = 8 ∨ j = 9)) → b ≠ 47 → b ≠ 72 → N b j = M b j) → N 65 8 = 1 → N 65 9 = s.1 → (∀ i, 0 ≤ i → i < 6 → N 72 i = gL s.2 i) → (-2 ≤ s.1 ∧ s.1 ≤ 1000000000000000) →
      ((x2 = 1 ∧ inR ((G 0 3)) (gL L) ∧ (∀ i, 0 ≤ i → i < 6 → N 47 i = gL L i) ∧ frF G n L s = frE G) ∨ (x2 = 0 ∧ s = frE G)) → Xs 9 (57, [some (some (vR 65)), some (some (vR 47)), some (some (vI x2)), some (some (vI x3)), d4, d5], [], (N, W)) (QV Q) := by
    intro n; induction n with
    | zero =>
      intro x2 x3 d4 d5 L s N h0 hn hfr e8 e9 e72 hsr hx
      have hse : s = frE G := by
        rcases hx with ⟨-, -, -, hx⟩ | ⟨-, hx⟩
        · exact hx
        · exact hx
      refine k_X0_findRow_57 _ _ _ _ _ _ _ ?_
      exact ⟨by omega, fun _ => h N hfr e8 (by rw [e9, hse]) (fun i i0 i1 => by rw [e72 i i0 i1, hse]), fun hlt => by omega⟩
    | succ n ih =>
      intro x2 x3 d4 d5 L s N h0 hn hfr e8 e9 e72 hsr hx
      have hPN : clP c G N := hP.of (fun b j hb => hfr b j (by unfold inP at hb; omega) (by unfold inP at hb; omega) (by unfold inP at hb; omega))
      have e7 : N 65 7 = c := by rw [hfr 65 7 (by decide) (by decide) (by decide)]; exact m7
      refine k_X0_findRow_57 _ _ _ _ _ _ _ ?_
      refine ⟨by omega, fun hge => by omega, fun _ => ⟨by omega, fun hz => ?_, fun hnz => ?_⟩⟩
      · rcases hx with ⟨hx, -⟩ | ⟨-, hx⟩
        · omega
        · exact h N hfr e8 (by rw [e9, hx]) (fun i i0 i1 => by rw [e72 i i0 i1, hx])
      · obtain ⟨hR, hm, he⟩ : inR ((G 0 3)) (gL L) ∧ (∀ i, 0 ≤ i → i < 6 → N 47 i = gL L i) ∧ frF G (n + 1) L s = frE G := by
          rcases hx with ⟨-, hx⟩ | ⟨hx, -⟩
          · exact hx
          · omega
        refine s_X7_meanOf hPN (pdR_cl hw hR hm) (pdR_ok hw hR) hs ?_
        have hr := mnR_rng hw hs hR
        rw [show mnF (hoP G (pdR L) 7) (wtG G) (p2_ ((G 0 3))).toNat = mnR G L from rfl]
        -- to the next row
        have nxt : ∀ (K : aM) (s' : Int × List Int) (d4 d5 : aL), frU G L s = s' → (∀ b j, ¬ (b = 65 ∧ (j = 8 ∨ j = 9)) → b ≠ 47 → b ≠ 72 → K b j = M b j) → K 65 8 = 1 → K 65 9 = s'.1 → (∀ i, 0 ≤ i → i < 6 → K 72 i = gL s'.2 i) → (∀ i, 0 ≤ i → i < 6 → K 47 i = gL L i) → (-2 ≤ s'.1 ∧ s'.1 ≤ 1000000000000000) → CallI 10 [vR 65, vR 47, vI ((G 0 3))] (K, W) (fun r6 M4 W5 => Xs 9 (57, [some (some (vR 65)), some (some (vR 47)), some (some (vI r6)), some (some (vI (x3 + 1))), d4, d5], [], (M4, W5)) (QV Q)) := by
          intro K s' d4 d5 hs' hfrK k8 k9 k72 k47 hsr'
          refine s_X0_permute (f := gL L) (by omega) (by omega) hR k47 (fun r T hT hres => ?_)
          have hfrT : ∀ b j, ¬ (b = 65 ∧ (j = 8 ∨ j = 9)) → b ≠ 47 → b ≠ 72 → T b j = M b j := fun b j q1 q2 q3 => by rw [hT b j (by omega)]; exact hfrK b j q1 q2 q3
          unfold frF at he
          rcases hres with ⟨hr0, hneg, -⟩ | ⟨hr1, hpos, hrow⟩
          · have hnp : npL ((G 0 3)) L = none := by unfold npL; rw [if_pos hneg]
            rw [hnp] at he
            exact ih r (x3 + 1) d4 d5 L s' T (by omega) (by omega) hfrT (by rw [hT _ _ (by omega)]; exact k8) (by rw [hT _ _ (by omega)]; exact k9) (fun i i0 i1 => by rw [hT _ _ (by omega)]; exact k72 i i0 i1) hsr' (Or.inr ⟨hr0, by rw [← hs']; exact he⟩)
          · have hnp : npL ((G 0 3)) L = some (tabL (rvF (swF (gL L) (riF (gL L) ((G 0 3) - 1).toNat) (otF (gL L) (riF (gL L) ((G 0 3) - 1).toNat) ((G 0 3) - 1).toNat)) (riF (gL L) ((G 0 3) - 1).toNat + 1) ((G 0 3) - 1) 6)) := by unfold npL; rw [if_neg (by omega)]
            have hR' := inR_np (by omega) (by omega) hR hnp
            rw [hnp] at he
            exact ih r (x3 + 1) d4 d5 _ s' T (by omega) (by omega) hfrT (by rw [hT _ _ (by omega)]; exact k8) (by rw [hT _ _ (by omega)]; exact k9) (fun i i0 i1 => by rw [hT _ _ (by omega)]; exact k72 i i0 i1) hsr' (Or.inl ⟨hr1, hR', fun i i0 i1 => by rw [gL_tab _ i0 i1]; exact hrow i i0 i1, by rw [← hs']; exact he⟩)
        -- this row is better
        have better : (0 ≤ mnR G L ∧ (s.1 < 0 ∨ mnR G L < s.1)) → (okO 86 3 ((ce_ (up_ N 65 9 (mnR G L)) 72 (fun j => if 0 ≤ j ∧ j < 6 then (up_ N 65 9 (mnR G L)) 47 j else (up_ N 65 9 (mnR G L)) 72 j)) 65 7) = true) ∧ CallI 10 [vR 65, vR 47, vI ((ce_ (up_ N 65 9 (mnR G L)) 72 (fun j => if 0 ≤ j ∧ j < 6 then (up_ N 65 9 (mnR G L)) 47 j else (up_ N 65 9 (mnR G L)) 72 j)) ((ce_ (up_ N 65 9 (mnR G L)) 72 (fun j => if 0 ≤ j ∧ j < 6 then (up_ N 65 9 (mnR G L)) 47 j else (up_ N 65 9 (mnR G L)) 72 j)) 65 7) 3)] ((ce_ (up_ N 65 9 (mnR G L)) 72 (fun j => if 0 ≤ j ∧ j < 6 then (up_ N 65 9 (mnR G L)) 47 j else (up_ N 65 9 (mnR G L)) 72 j)), W) (fun r6 M4 W5 => Xs 9 (57, [some (some (vR 65)), some (some (vR 47)), some (some (vI r6)), some (some (vI (x3 + 1))), some (some (vL (mnR G L))), some none], [], (M4, W5)) (QV Q)) := by
          intro hb
          generalize hKd : ce_ (up_ N 65 9 (mnR G L)) 72 (fun j => if 0 ≤ j ∧ j < 6 then (up_ N 65 9 (mnR G L)) 47 j else (up_ N 65 9 (mnR G L)) 72 j) = K
          have hK : ∀ b j, b ≠ 72 → ¬ (b = 65 ∧ j = 9) → K b j = N b j := fun b j q1 q2 => by rw [← hKd]; unfold ce_ up_; rw [if_neg q1, if_neg q2]
          have k7 : K 65 7 = c := by rw [hK 65 7 (by decide) (by decide)]; exact e7
          have hcr := ct_rng hk
          have kD : K c 3 = (G 0 3) := by rw [hK c 3 (by omega) (by omega)]; exact hPN.2.1.1 3
          have k72 : ∀ i, 0 ≤ i → i < 6 → K 72 i = gL L i := fun i i0 i1 => by
            rw [← hKd]; unfold ce_; rw [if_pos rfl]; dsimp only; rw [if_pos ⟨i0, i1⟩, up_b _ _ _ _ (by decide)]; exact hm i i0 i1
          rw [k7, kD]
          refine ⟨ct_o hk, nxt K (mnR G L, L) _ _ (by unfold frU; rw [if_pos hb]) (fun b j q1 q2 q3 => by rw [hK b j q3 (by omega)]; exact hfr b j q1 q2 q3) (by rw [hK 65 8 (by decide) (by decide)]; exact e8) ?_ k72 (fun i i0 i1 => by rw [hK 47 i (by decide) (by omega)]; exact hm i i0 i1) (by show -2 ≤ mnR G L ∧ mnR G L ≤ _; omega)⟩
          rw [← hKd]; unfold ce_; rw [if_neg (by decide), up_s]
        have same : ¬ (0 ≤ mnR G L ∧ (s.1 < 0 ∨ mnR G L < s.1)) → (okO 86 3 (N 65 7) = true) ∧ CallI 10 [vR 65, vR 47, vI (N (N 65 7) 3)] (N, W) (fun r6 M4 W5 => Xs 9 (57, [some (some (vR 65)), some (some (vR 47)), some (some (vI r6)), some (some (vI (x3 + 1))), some (some (vL (mnR G L))), some none], [], (M4, W5)) (QV Q)) := by
          intro hb
          rw [e7, hPN.2.1.1]
          exact ⟨ct_o hk, nxt N s _ _ (by unfold frU; rw [if_neg hb]) hfr e8 e9 e72 hm hsr⟩
        rw [e9]
        exact ⟨by omega, fun hneg => same (by omega), fun hpos => ⟨by omega, fun hs0 => better ⟨by omega, Or.inl hs0⟩, fun hs0 => ⟨by omega, fun hge => same (by omega), fun hlt => better ⟨by omega, Or.inr (by omega)⟩⟩⟩⟩
  have l30 : ∀ (n : Nat) (x2 : Int) (d3 d4 d5 : aL) (N : aM), 0 ≤ x2 → x2 ≤ 6 → (6 - x2).toNat = n → (∀ b j, ¬ (b = 65 ∧ (j = 8 ∨ j = 9)) → b ≠ 47 → b ≠ 72 → N b j = M b j) → N 65 8 = 1 → N 65 9 = -2 → (∀ i, 0 ≤ i → i < x2 → N 47 i = i ∧ N 72 i = i) → Xs 9 (30, [some (some (vR 65)), some (some (vR 47)), some (some (vI x2)), d3, d4, d5], [], (N, W)) (QV Q) := by
    intro n; induction n using Nat.strongRecOn with
    | _ n ih =>
      intro x2 d3 d4 d5 N h0 h1 hn hfr e8 e9 hi
      refine k_X0_findRow_30 _ _ _ _ _ _ _ ?_
      refine ⟨by omega, fun hge => ?_, fun hlt => ⟨by omega, by omega, ?_⟩⟩
      · have hL : ∀ i, 0 ≤ i → i < 6 → gL L06 i = i := fun i i0 i1 => by rcases six_ i0 i1 with e | e | e | e | e | e <;> rw [e] <;> rfl
        have hRL : inR ((G 0 3)) (gL L06) := ⟨fun i i0 i1 => by rw [hL i i0 i1]; omega, fun i i0 i1 => by rw [hL i i0 (by omega)]; omega⟩
        exact l57 729 1 0 _ _ L06 (-2, L06) N (by decide) (by decide) hfr e8 e9 (fun i i0 i1 => by rw [(hi i i0 (by omega)).2]; exact (hL i i0 i1).symm) (by decide) (Or.inl ⟨rfl, hRL, fun i i0 i1 => by rw [(hi i i0 (by omega)).1]; exact (hL i i0 i1).symm, rfl⟩)
      · refine ih (6 - (x2 + 1)).toNat (by omega) (x2 + 1) _ _ _ _ (by omega) (by omega) rfl (fun b j q1 q2 q3 => by rw [up_b _ _ _ _ q3, up_b _ _ _ _ q2]; exact hfr b j q1 q2 q3) (by rw [up_b _ _ _ _ (by decide), up_b _ _ _ _ (by decide)]; exact e8) (by rw [up_b _ _ _ _ (by decide), up_b _ _ _ _ (by decide)]; exact e9) (fun i i0 i1 => ?_)
        by_cases he : i = x2
        · rw [he, up_s, up_b _ _ _ _ (by decide), up_s]; exact ⟨rfl, rfl⟩
        · rw [up_b _ _ _ (b := 47) _ (by decide), up_j _ _ _ he, up_j _ _ _ he, up_b _ _ _ _ (by decide)]; exact hi i i0 (by omega)
  refine e_X0_findRow _ _ _ ?_
  refine ⟨by rcases hca with e | ⟨e, -⟩ <;> omega, fun hz => ?_, fun hnz => ?_⟩
  · refine l30 _ 0 _ _ _ _ (by omega) (by omega) rfl (fun b j q1 q2 q3 => ?_) ?_ (up_s _ _ _ _) (fun i a b => by omega)
    · unfold up_; rw [if_neg (by omega), if_neg (by omega)]
    · rw [up_j _ _ _ (by decide), up_s]
  · rcases hca with e | ⟨e, e9, e72⟩
    · omega
    · exact h M (fun _ _ _ _ _ => rfl) e e9 e72
theorem s_X0_settle {M : aM} {W : aW} {Q : aM → aW → Prop} {c : Int} (h : ∀ N, (∀ b j, ¬ (b = 65 ∧ (j = 7 ∨ j = 8)) → b ≠ 70 → b ≠ 71 → N b j = M b j) → N 65 7 = c → N 65 8 = 0 → (∀ i, 0 ≤ i → i < 6 → N 70 i = -9 ∧ N 71 i = -9) → Q N W) : CallV 1 [vR 65, vR c] (M, W) Q := by
  have key : ∀ (n : Nat) (x2 : Int) (N : aM), 0 ≤ x2 → x2 ≤ 6 → (6 - x2).toNat = n → (∀ b j, ¬ (b = 65 ∧ (j = 7 ∨ j = 8)) → b ≠ 70 → b ≠ 71 → N b j = M b j) → N 65 7 = c → N 65 8 = 0 → (∀ i, 0 ≤ i → i < x2 → N 70 i = -9 ∧ N 71 i = -9) → Xs 1 (12, [some (some (vR 65)), some (some (vR c)), some (some (vI x2))], [], (N, W)) (QV Q) := by
    intro n; induction n using Nat.strongRecOn with
    | _ n ih =>
      intro x2 N h0 h1 hn hfr e7 e8 hi
      refine k_X0_settle_12 _ _ _ _ _ ?_
      refine ⟨by omega, fun hge => h N hfr e7 e8 (fun i i0 i1 => hi i i0 (by omega)), fun hlt => ⟨by omega, by omega, ?_⟩⟩
      refine ih (6 - (x2 + 1)).toNat (by omega) (x2 + 1) _ (by omega) (by omega) rfl (fun b j q1 q2 q3 => by rw [up_b _ _ _ _ q3, up_b _ _ _ _ q2]; exact hfr b j q1 q2 q3) (by rw [up_b _ _ _ _ (by decide), up_b _ _ _ _ (by decide)]; exact e7) (by rw [up_b _ _ _ _ (by decide), up_b _ _ _ _ (by decide)]; exact e8) (fun i i0 i1 => ?_)
      by_cases he : i = x2
      · rw [he, up_s, up_b _ _ _ _ (by decide), up_s]; exact ⟨rfl, rfl⟩
      · rw [up_b _ _ _ (b := 70) _ (by decide), up_j _ _ _ he, up_j _ _ _ he, up_b _ _ _ _ (by decide)]; exact hi i i0 (by omega)
  refine e_X0_settle _ _ _ _ ?_
  refine key _ 0 _ (by omega) (by omega) rfl (fun b j q1 q2 q3 => ?_) ?_ (up_s _ _ _ _) (fun i a b => by omega)
  · unfold up_; rw [if_neg (by omega), if_neg (by omega)]
  · rw [up_j _ _ _ (by decide), up_s]
