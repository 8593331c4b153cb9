/-! THE REFERENCE: tokens read; names, causes, ends -/
theorem fnN_s {r : Int → Int} {v : Int} : ∀ (k : Nat) (i x : Int), i ≤ x → x < i + k → r x = v → (∀ j, i ≤ j → j < x → r j ≠ v) → fnN r v k i = x := by
  intro k
  induction k with
  | zero => intro i x h1 h2; omega
  | succ k ih =>
    intro i x h1 h2 h3 h4
    unfold fnN
    by_cases c : r i = v
    · rw [if_pos c]
      refine Classical.byContradiction (fun hne => ?_)
      exact h4 i (Int.le_refl _) (by omega) c
    · rw [if_neg c]
      have hne : i ≠ x := fun e => c (by rw [e]; exact h3)
      exact ih (i + 1) x (by omega) (by omega) h3 (fun j j0 j1 => h4 j (by omega) j1)
theorem fnN_n {r : Int → Int} {v : Int} : ∀ (k : Nat) (i : Int), (∀ j, i ≤ j → j < i + k → r j ≠ v) → fnN r v k i = -1 := by
  intro k
  induction k with
  | zero => intro i _; rfl
  | succ k ih =>
    intro i h
    unfold fnN
    rw [if_neg (h i (Int.le_refl _) (by omega))]
    exact ih (i + 1) (fun j j0 j1 => h j (by omega) (by omega))
theorem u_placeOf {M : aM} {W : aW} {Q : Int → aM → aW → Prop} {G : Lnd} {x v : Int} (hG : rdG G M) (hp : pW G) (hx : nmR v x) (h : Q (fnd (G 9) v ((G 0 0))) M W) : CallI 165 [vR 86, vI x] (M, W) Q := by
  have hN := hp.1.N; unfold wfN at hN
  have hxr := nmR_r hx
  have key : ∀ (m : Nat) (i : Int), 0 ≤ i → i ≤ (G 0 0) → ((G 0 0) - i).toNat = m → (∀ j, 0 ≤ j → j < i → G 9 j ≠ v) → Xs 165 (2, [some (some (vR 86)), some (some (vI x)), some (some (vI i))], [], (M, W)) (QI Q) := by
    intro m
    induction m with
    | zero =>
      intro i i0 i1 hm hno
      have e : fnd (G 9) v ((G 0 0)) = -1 := fnN_n _ 0 (fun j j0 j1 => hno j j0 (by omega))
      rw [e] at h
      refine k_X12_placeOf_2 _ _ _ _ _ ?_
      rw [show (8 : Int) = 8 + 0 from rfl, hG.1 0 (by decide) (by decide)]
      exact ⟨by omega, fun _ => h, fun hlt => by omega⟩
    | succ m ih =>
      intro i i0 i1 hm hno
      have hi := hG.2.1 i i0 (by omega)
      have hir := nmR_r hi
      have he := nmR_i hi hx
      refine k_X12_placeOf_2 _ _ _ _ _ ?_
      rw [show (8 : Int) = 8 + 0 from rfl, hG.1 0 (by decide) (by decide)]
      refine ⟨by omega, fun hge => by omega, fun _ => ⟨by omega, by omega, fun hne => ih (i + 1) (by omega) (by omega) (by omega) (fun j j0 j1 => ?_), fun heq => ?_⟩⟩
      · by_cases e : j = i
        · rw [e]; exact fun q => hne (he.mp q)
        · exact hno j j0 (by omega)
      · have e : fnd (G 9) v ((G 0 0)) = i := fnN_s _ 0 i i0 (by omega) (he.mpr (Classical.byContradiction heq)) (fun j j0 j1 => hno j j0 j1)
        rw [e] at h; exact h
  refine e_X12_placeOf _ _ _ _ ?_
  exact key _ 0 (by decide) (by omega) rfl (fun j j0 j1 => by omega)
theorem u_causeBy {M : aM} {W : aW} {Q : Int → aM → aW → Prop} {G : Lnd} {x v : Int} (hG : rdG G M) (hp : pW G) (hx : nmR v x) (h : Q (fnd (G 10) v ((G 0 1))) M W) : CallI 166 [vR 86, vI x] (M, W) Q := by
  have hN := hp.1.N; unfold wfN at hN
  have hxr := nmR_r hx
  have e9 : M 89 9 = (G 0 1) := hG.1 1 (by decide) (by decide)
  have key : ∀ (m : Nat) (i : Int), 0 ≤ i → i ≤ (G 0 1) → ((G 0 1) - i).toNat = m → (∀ j, 0 ≤ j → j < i → G 10 j ≠ v) → Xs 166 (2, [some (some (vR 86)), some (some (vI x)), some (some (vI i))], [], (M, W)) (QI Q) := by
    intro m
    induction m with
    | zero =>
      intro i i0 i1 hm hno
      have e : fnd (G 10) v ((G 0 1)) = -1 := fnN_n _ 0 (fun j j0 j1 => hno j j0 (by omega))
      rw [e] at h
      refine k_X12_causeBy_2 _ _ _ _ _ ?_
      rw [e9]
      exact ⟨by omega, fun _ => h, fun hlt => by omega⟩
    | succ m ih =>
      intro i i0 i1 hm hno
      have hi := (hG.2.2.1 i i0 (by omega)).1
      have hir := nmR_r hi
      have he := nmR_i hi hx
      refine k_X12_causeBy_2 _ _ _ _ _ ?_
      rw [e9]
      refine ⟨by omega, fun hge => by omega, fun _ => ⟨by omega, by omega, fun hne => ih (i + 1) (by omega) (by omega) (by omega) (fun j j0 j1 => ?_), fun heq => ?_⟩⟩
      · by_cases e : j = i
        · rw [e]; exact fun q => hne (he.mp q)
        · exact hno j j0 (by omega)
      · have e : fnd (G 10) v ((G 0 1)) = i := fnN_s _ 0 i i0 (by omega) (he.mpr (Classical.byContradiction heq)) (fun j j0 j1 => hno j j0 j1)
        rw [e] at h; exact h
  refine e_X12_causeBy _ _ _ _ ?_
  exact key _ 0 (by decide) (by omega) rfl (fun j j0 j1 => by omega)
/-- road r goes between p and q -/
def cnn (G : Lnd) (r p q : Int) : Prop := ((G 2 (r * 7 + 0)) = p ∧ (G 2 (r * 7 + 1)) = q) ∨ ((G 2 (r * 7 + 0)) = q ∧ (G 2 (r * 7 + 1)) = p)
theorem u_roadBetween {M : aM} {W : aW} {Q : Int → aM → aW → Prop} {G : Lnd} {p q : Int} (hG : rdG G M) (hp : pW G) (p0 : 0 ≤ p) (p1 : p < (G 0 0)) (q0 : 0 ≤ q) (q1 : q < (G 0 0)) (h : Q ((G 4 (p * 10 + q))) M W) : CallI 167 [vR 86, vI p, vI q] (M, W) Q := by
  have hw := hp.1
  have hN := hw.N; unfold wfN at hN
  have hB := hw.B
  have e10 : M 89 10 = (G 0 2) := hG.1 2 (by decide) (by decide)
  have hbc := hB.1 p q p0 (by omega) q0 (by omega)
  have key : ∀ (m : Nat) (i : Int) (d4 : aL), 0 ≤ i → i ≤ (G 0 2) → ((G 0 2) - i).toNat = m → (∀ j, 0 ≤ j → j < i → ¬ cnn G j p q) → Xs 167 (2, [some (some (vR 86)), some (some (vI p)), some (some (vI q)), some (some (vI i)), d4], [], (M, W)) (QI Q) := by
    intro m
    induction m with
    | zero =>
      intro i d4 i0 i1 hm hno
      have e : (G 4 (p * 10 + q)) = -1 := by
        rcases hbc with c | ⟨c1, c2, c3⟩
        · exact c
        · exact absurd c3 (hno _ c1 (by omega))
      rw [e] at h
      refine k_X12_roadBetween_2 _ _ _ _ _ _ _ ?_
      rw [e10]
      exact ⟨by omega, fun _ => h, fun hlt => by omega⟩
    | succ m ih =>
      intro i d4 i0 i1 hm hno
      have hR := hw.R i i0 (by omega)
      have f0 : M 93 (168 + 7 * i) = (G 2 (i * 7 + 0)) := by
        have := hG.2.2.2.1 i 0 i0 (by omega) (by decide) (by decide)
        rw [show 168 + 7 * i + 0 = 168 + 7 * i by omega] at this; exact this
      have f1 := hG.2.2.2.1 i 1 i0 (by omega) (by decide) (by decide)
      have nx : ∀ d4, ¬ cnn G i p q → Xs 167 (2, [some (some (vR 86)), some (some (vI p)), some (some (vI q)), some (some (vI (i + 1))), d4], [], (M, W)) (QI Q) := fun d4 hc => ih (i + 1) _ (by omega) (by omega) (by omega) (fun j j0 j1 => by
        by_cases e : j = i
        · rw [e]; exact hc
        · exact hno j j0 (by omega))
      have yes : cnn G i p q → Q i M W := fun hc => by
        have hb := hB.2 i i0 (by omega)
        have e : (G 4 (p * 10 + q)) = i := by
          rcases hc with ⟨a, b⟩ | ⟨a, b⟩
          · rw [← a, ← b]; exact hb.1
          · rw [← a, ← b]; exact hb.2
        rw [e] at h; exact h
      refine k_X12_roadBetween_2 _ _ _ _ _ _ _ ?_
      rw [e10]
      refine ⟨by omega, fun hge => by omega, fun _ v ev => ?_⟩
      rw [ev, f0, f1]
      refine ⟨by omega, by omega, fun a => ⟨by omega, by omega, fun b => nx _ (fun c => ?_), fun b => ⟨by omega, by omega, fun c => nx _ (fun d => ?_), fun c => yes ?_⟩⟩, fun a => ⟨by omega, by omega, fun b => yes ?_, fun b => ⟨by omega, by omega, fun c => nx _ (fun d => ?_), fun c => ⟨by omega, by omega, fun d => nx _ (fun e => ?_), fun d => yes ?_⟩⟩⟩⟩
      · unfold cnn at c; omega
      · unfold cnn at d; omega
      · unfold cnn; omega
      · unfold cnn; omega
      · unfold cnn at d; omega
      · unfold cnn at e; omega
      · unfold cnn; omega
  refine e_X12_roadBetween _ _ _ _ _ ?_
  exact key _ 0 _ (by decide) (by omega) rfl (fun j j0 j1 => by omega)
theorem kd2 {k : Int} (k0 : 0 ≤ k) : kdR k = 2 ↔ k = 10 := by
  unfold kdR
  constructor
  · intro h
    split at h
    · exact absurd h (by decide)
    · split at h
      · assumption
      · split at h
        · exact absurd h (by decide)
        · split at h
          · exact absurd h (by decide)
          · split at h <;> exact absurd h (by decide)
  · intro h; rw [h]; rfl
theorem kd3 {k : Int} (k0 : 0 ≤ k) : kdR k = 3 ↔ k = 11 := by
  unfold kdR
  constructor
  · intro h
    split at h
    · exact absurd h (by decide)
    · split at h
      · exact absurd h (by decide)
      · split at h
        · assumption
        · split at h
          · exact absurd h (by decide)
          · split at h <;> exact absurd h (by decide)
  · intro h; rw [h]; rfl
theorem kd4 {k : Int} (k0 : 0 ≤ k) : kdR k = 4 ↔ k = 12 := by
  unfold kdR
  constructor
  · intro h
    split at h
    · exact absurd h (by decide)
    · split at h
      · exact absurd h (by decide)
      · split at h
        · exact absurd h (by decide)
        · split at h
          · assumption
          · split at h <;> exact absurd h (by decide)
  · intro h; rw [h]; rfl
theorem kd1 {k : Int} (k0 : 0 ≤ k) : kdR k = 1 ↔ k ≤ 9 := by
  unfold kdR
  constructor
  · intro h
    split at h
    · assumption
    · split at h
      · exact absurd h (by decide)
      · split at h
        · exact absurd h (by decide)
        · split at h
          · exact absurd h (by decide)
          · split at h <;> exact absurd h (by decide)
  · intro h; rw [if_pos h]
theorem kd0 {k : Int} (k0 : 0 ≤ k) : kdR k = 0 ↔ k = 13 := by
  unfold kdR
  constructor
  · intro h
    split at h
    · exact absurd h (by decide)
    · split at h
      · exact absurd h (by decide)
      · split at h
        · exact absurd h (by decide)
        · split at h
          · exact absurd h (by decide)
          · split at h
            · assumption
            · exact absurd h (by decide)
  · intro h; rw [h]; rfl
theorem frJ_19 {M : aM} {v : Int} : frJ M (up_ M 86 19 v) := frJ_up (by unfold dfC; omega)
theorem rdR.u19 {tp : Int → Int} {n a : Int} {G : Lnd} {M : aM} (h : rdR tp n a G M) (v : Int) : rdR tp n a G (up_ M 86 19 v) := by
  obtain ⟨h1, h2, h3, h4, h5, h6, h7⟩ := h
  have e : ∀ b j, ¬ (b = 86 ∧ j = 19) → up_ M 86 19 v b j = M b j := fun b j c => if_neg c
  exact ⟨h1.of (fun b j c => e b j (by omega)), h2, ⟨by rw [e _ _ (by decide)]; exact h3.1, by rw [e _ _ (by decide)]; exact h3.2.1, by rw [e _ _ (by decide)]; exact h3.2.2.1, by rw [e _ _ (by decide)]; exact h3.2.2.2.1, by rw [e _ _ (by decide)]; exact h3.2.2.2.2.1, by rw [e _ _ (by decide)]; exact h3.2.2.2.2.2⟩, h4.of (fun b j c => e b j (by omega)), h5, h6, ⟨by rw [e _ _ (by decide)]; exact h7.1, by rw [e _ _ (by decide)]; exact h7.2⟩⟩
theorem u_spot {M : aM} {W : aW} {Q : Int → aM → aW → Prop} {tp : Int → Int} {n a : Int} {G : Lnd} (hS : rdR tp n a G M) (k1 : ∀ f N, frJ M N → rdW N f (tS tp n a) → (∀ k, plcK tp n G a k = flt tp n f a) → Q 0 N W) (k2 : ∀ p N, 0 ≤ p → p < (G 0 0) → frJ M N → rdR tp n a G N → N 86 19 = p → tK tp n a = 10 → (∀ k, plcK tp n G a k = k p) → Q 1 N W) : CallI 168 [vR 86] (M, W) Q := by
  have hp := hS.p
  have hN := hp.1.N; unfold wfN at hN
  have hk0 := tK_rng tp n a
  have e8 : M 86 8 = kdR (tK tp n a) := hS.T.2.2.1
  have hkr := kdR_rng (tK tp n a)
  refine e_X12_spotRead _ _ _ ?_
  rw [e8]
  refine ⟨by omega, fun he => ?_, fun hne => u_wrong hS (fun N fN wN => ⟨Or.inl rfl, k1 1 N fN wN (fun k => ?_)⟩)⟩
  · have h10 := (kd2 hk0.1).mp he
    have hnm := hS.T.2.2.2.2.1 h10
    have hf := fnd_rng (G 9) (tV tp n a) ((G 0 0)) (by omega)
    refine u_placeOf hS.g hp hnm ?_
    rw [up_s]
    refine ⟨by omega, fun hge => ⟨Or.inr rfl, k2 _ _ hge (by omega) frJ_19 (hS.u19 _) (up_s _ _ _ _) h10 (fun k => ?_)⟩, fun hlt => u_wrong (hS.u19 _) (fun N fN wN => ⟨by decide, fun _ => ⟨Or.inl rfl, k1 4 N (frJ_tr frJ_19 fN) wN (fun k => ?_)⟩, fun y => absurd rfl y⟩)⟩
    · unfold plcK; rw [if_neg (fun y => y h10), if_neg (by omega)]
    · unfold plcK; rw [if_neg (fun y => y h10), if_pos (by omega)]
  · unfold plcK; rw [if_pos (fun y => hne ((kd2 hk0.1).mpr y))]
theorem u_number {M : aM} {W : aW} {Q : Int → aM → aW → Prop} {tp : Int → Int} {n a : Int} {G : Lnd} (hS : rdR tp n a G M) {m : Int} (m0 : 1 ≤ m) (m1 : m ≤ 99) (k1 : ∀ f N, frJ M N → rdW N f (tS tp n a) → (∀ k, numK tp n m a k = flt tp n f a) → Q 0 N W) (k2 : ∀ v, 1 ≤ v → v ≤ m → M 86 9 = v → tK tp n a = 11 → (∀ k, numK tp n m a k = k v) → Q 1 M W) : CallI 164 [vR 86, vI 1, vI m] (M, W) Q := by
  have hk0 := tK_rng tp n a
  have e8 : M 86 8 = kdR (tK tp n a) := hS.T.2.2.1
  have hkr := kdR_rng (tK tp n a)
  refine e_X12_numberRead _ _ _ _ _ ?_
  rw [e8]
  refine ⟨by omega, fun he => ?_, fun hne => u_wrong hS (fun N fN wN => ⟨Or.inl rfl, k1 1 N fN wN (fun k => ?_)⟩)⟩
  · have h11 := (kd3 hk0.1).mp he
    have hnb := hS.T.2.2.2.2.2 h11
    have hb1 := hnb.1
    have hb2 := hnb.2
    have bad : ¬ (1 ≤ M 86 9 ∧ M 86 9 ≤ m) → CallI 156 [vR 86, vI 2] (M, W) (fun r3 M1 W2 => (inI r3) ∧ ((r3 = 0 → ((0 : Int) = 0 ∨ (0 : Int) = 1) ∧ Q 0 M1 W2) ∧ (¬ r3 = 0 → ((1 : Int) = 0 ∨ (1 : Int) = 1) ∧ Q 1 M1 W2))) := fun hb => u_wrong hS (fun N fN wN => ⟨by decide, fun _ => ⟨Or.inl rfl, k1 2 N fN wN (fun k => by
      unfold numK; rw [if_neg (fun y => y h11), if_pos (by omega)])⟩, fun y => absurd rfl y⟩)
    refine ⟨by omega, fun hlt => bad (by omega), fun hge => ⟨by omega, fun hle => ⟨Or.inr rfl, ?_⟩, fun hgt => bad (by omega)⟩⟩
    have ev : M 86 9 = tV tp n a := by omega
    exact k2 (M 86 9) (by omega) hle rfl h11 (fun k => by
      unfold numK; rw [if_neg (fun y => y h11), if_neg (by omega), ev])
  · unfold numK; rw [if_pos (fun y => hne ((kd3 hk0.1).mpr y))]
theorem rdR.gr {tp : Int → Int} {n a : Int} {G H : Lnd} {M N : aM} (h : rdR tp n a G M) (e : ∀ b j, (b = 87 ∨ b = 88 ∨ (b = 86 ∧ 4 ≤ j ∧ j ≤ 10)) → N b j = M b j) (hg : rdG H N) (hp : pW H) (hs : snI H) : rdR tp n a H N := by
  obtain ⟨h1, h2, h3, -, -, -, h7⟩ := h
  exact ⟨h1.of (fun b j c => e b j (by omega)), h2, ⟨by rw [e _ _ (by omega)]; exact h3.1, by rw [e _ _ (by omega)]; exact h3.2.1, by rw [e _ _ (by omega)]; exact h3.2.2.1, by rw [e _ _ (by omega)]; exact h3.2.2.2.1, by rw [e _ _ (by omega)]; exact h3.2.2.2.2.1, by rw [e _ _ (by omega)]; exact h3.2.2.2.2.2⟩, hg, hp, hs, ⟨by rw [e _ _ (by omega)]; exact h7.1, by rw [e _ _ (by omega)]; exact h7.2⟩⟩
theorem rdPl_S (tp : Int → Int) (n : Int) (k : Nat) (G : Lnd) (a : Int) : rdPl tp n (k + 1) G a = if tK tp n a ≠ 10 then Sum.inr (a, G) else if 10 ≤ (G 0 0) then flt tp n 2 a else if 0 ≤ fnd (G 9) (tV tp n a) ((G 0 0)) then flt tp n 3 a else rdPl tp n k (addP G (tV tp n a)) (a + 1) := rfl
theorem u_places {M : aM} {W : aW} {Q : Int → aM → aW → Prop} {tp : Int → Int} {n a : Int} {G : Lnd} (hS : rdR tp n a G M) (ht : tK tp n a ≠ 13) (k1 : ∀ x e N, frJ M N → rdW N x (tS tp n e) → (rdPls tp n G a) = flt tp n x e → Q 0 N W) (k2 : ∀ b H N, frJ M N → rdR tp n b H N → a < b → (rdPls tp n G a) = Sum.inr (b, H) → Q 1 N W) : CallI 169 [vR 86] (M, W) Q := by
  have l18 : tK tp n (a + 1) = 10 → ∀ (k : Nat) (b : Int) (G' : Lnd) (N : aM), frJ M N → rdR tp n b G' N → a < b → 11 ≤ (G' 0 0) + k → rdPl tp n k G' b = rdPls tp n G a → Xs 169 (18, [some (some (vR 86))], [], (N, W)) (QI Q) := by
    intro h10' k
    induction k with
    | zero =>
      intro b G' N fN hN hab hk he
      have hNN := hN.p.1.N; unfold wfN at hNN
      omega
    | succ k ih =>
      intro b G' N fN hN hab hk he
      have hp := hN.p
      have hNN := hp.1.N; unfold wfN at hNN
      have hk0 := tK_rng tp n b
      have e8 : N 86 8 = kdR (tK tp n b) := hN.T.2.2.1
      have hkr := kdR_rng (tK tp n b)
      have e89 : N 89 8 = (G' 0 0) := hN.g.1 0 (by decide) (by decide)
      rw [rdPl_S] at he
      refine k_X12_placesRead_18 _ _ _ ?_
      rw [e8, e89]
      refine ⟨by omega, fun hne => ?_, fun heq => ⟨by omega, fun hlt => ?_, fun hge => u_wrong hN (fun K fK wK => ⟨Or.inl rfl, k1 2 b K (frJ_tr fN fK) wK ?_⟩)⟩⟩
      · rw [if_pos (fun y => hne ((kd2 hk0.1).mpr y))] at he
        exact k2 b G' N fN hN hab he.symm
      · have h10 := (kd2 hk0.1).mp (Classical.byContradiction heq)
        rw [if_neg (fun y => y h10), if_neg (by omega)] at he
        have hnm := hN.T.2.2.2.2.1 h10
        have hf := fnd_rng (G' 9) (tV tp n b) ((G' 0 0)) (by omega)
        refine u_placeOf hN.g hp hnm ⟨by omega, fun hneg => ?_, fun hpos => u_wrong hN (fun K fK wK => ⟨Or.inl rfl, k1 3 b K (frJ_tr fN fK) wK ?_⟩)⟩
        · rw [if_neg (by omega)] at he
          have hvr := tV_rng (tp := tp) hN.L.1.1 b
          have ec : up_ N 90 (10 + (G' 0 0)) (N 86 9) 89 8 = (G' 0 0) := by rw [up_b _ _ _ _ (by decide)]; exact e89
          rw [e89, ec]
          refine ⟨by omega, ?_⟩
          have hg : rdG (addP G' (tV tp n b)) (up_ (up_ N 90 (10 + (G' 0 0)) (N 86 9)) 89 8 ((G' 0 0) + 1)) := by
            obtain ⟨g1, g2, g3, g4, g5, g6, g7⟩ := hN.g
            have e : ∀ b j, b ≠ 90 → ¬ (b = 89 ∧ j = 8) → up_ (up_ N 90 (10 + (G' 0 0)) (N 86 9)) 89 8 ((G' 0 0) + 1) b j = N b j := fun b j c1 c2 => by rw [show ∀ K : aM, up_ K 89 8 ((G' 0 0) + 1) b j = K b j from fun K => if_neg c2, up_b _ _ _ _ c1]
            refine ⟨fun j j0 j1 => ?_, fun i i0 i1 => ?_, fun i i0 i1 => ?_, fun r f r0 r1 f0 f1 => ?_, fun d d0 d1 => ?_, fun s s0 s1 => ?_, fun w w0 w1 => ?_⟩
            · by_cases c : j = 0
              · subst c; rw [show (8 : Int) + 0 = 8 from rfl, up_s]; rfl
              · rw [e _ _ (by decide) (by omega), g1 j j0 j1]
                exact (up_j _ _ _ c).symm
            · have i1' : i < (G' 0 0) + 1 := i1
              rw [up_b _ _ _ _ (by decide)]
              show nmR (up_ G' 9 ((G' 0 0)) (tV tp n b) 9 i) _
              by_cases c : i = (G' 0 0)
              · subst c; rw [up_s, up_s]; exact hnm
              · rw [up_j _ _ _ c, up_j _ _ _ (by omega)]; exact g2 i i0 (by omega)
            · rw [e 91 _ (by decide) (by omega), e 92 _ (by decide) (by omega)]; exact g3 i i0 i1
            · rw [e _ _ (by decide) (by omega)]; exact g4 r f r0 r1 f0 f1
            · rw [e _ _ (by decide) (by omega)]; exact g5 d d0 d1
            · rw [e 95 _ (by decide) (by omega), e 95 _ (by decide) (by omega)]; exact g6 s s0 s1
            · rw [e 96 _ (by decide) (by omega), e 96 _ (by decide) (by omega), e 96 _ (by decide) (by omega)]; exact g7 w w0 w1
          have hR := hN.gr (H := addP G' (tV tp n b)) (N := up_ (up_ N 90 (10 + (G' 0 0)) (N 86 9)) 89 8 ((G' 0 0) + 1)) (fun b j c => by rw [up_b _ _ _ _ (by omega), up_b _ _ _ _ (by omega)]) hg (addP_W hp (by omega) hvr.1 hvr.2) (snI_P hN.s _)
          have fR : frJ N (up_ (up_ N 90 (10 + (G' 0 0)) (N 86 9)) 89 8 ((G' 0 0) + 1)) := frJ_tr (frJ_up (by unfold dfC; omega)) (frJ_up (by unfold dfC; omega))
          refine u_take hR (by omega) (fun K fK hK => ih (b + 1) _ K (frJ_tr fN (frJ_tr fR (frJ_L fK))) hK (by omega) ?_ he)
          show 11 ≤ (G' 0 0) + 1 + (k : Int)
          omega
        · rw [if_pos (by omega)] at he; exact he.symm
      · have h10 := (kd2 hk0.1).mp (Classical.byContradiction heq)
        rw [if_neg (fun y => y h10), if_pos (by omega)] at he; exact he.symm
  refine e_X12_placesRead _ _ _ ?_
  refine u_take hS ht (fun N fN hN => ?_)
  have hk0 := tK_rng tp n (a + 1)
  have e8 : N 86 8 = kdR (tK tp n (a + 1)) := hN.T.2.2.1
  have hkr := kdR_rng (tK tp n (a + 1))
  have hNN := hN.p.1.N; unfold wfN at hNN
  rw [e8]
  refine ⟨by omega, fun he => ?_, fun hne => u_wrong hN (fun K fK wK => ⟨Or.inl rfl, k1 1 (a + 1) K (frJ_tr (frJ_L fN) fK) wK ?_⟩)⟩
  · have h10 := (kd2 hk0.1).mp he
    refine l18 h10 11 (a + 1) G N (frJ_L fN) hN (by omega) (by omega) ?_
    unfold rdPls; rw [if_neg (fun y => y h10)]
  · unfold rdPls; rw [if_pos (fun y => hne ((kd2 hk0.1).mpr y))]
theorem u_end {M : aM} {W : aW} {Q : Int → aM → aW → Prop} {tp : Int → Int} {n a : Int} {G : Lnd} (hS : rdR tp n a G M) {z : Int} (hx : z = 6 ∨ z = 7) (ht : tK tp n a ≠ 13) (k1 : ∀ x e N, frJ M N → rdW N x (tS tp n e) → (rdEnd tp n z G a) = flt tp n x e → Q 0 N W) (k2 : ∀ b H N, frJ M N → rdR tp n b H N → a < b → (rdEnd tp n z G a) = Sum.inr (b, H) → Q 1 N W) : CallI 176 [vR 86, vI (z - 6)] (M, W) Q := by
  have hp := hS.p
  have hNN := hp.1.N; unfold wfN at hNN
  have eM : M 89 (14 + (z - 6)) = G 0 z := by rw [show 14 + (z - 6) = 8 + z by omega]; exact hS.g.1 z (by omega) (by omega)
  have hx0 : -1 ≤ G 0 z ∧ G 0 z < (G 0 0) := by
    rcases hx with e | e <;> subst e <;> omega
  unfold rdEnd at k1 k2
  refine e_X12_endRead _ _ _ _ ?_
  rw [eM]
  refine ⟨by omega, by omega, fun he => u_take hS ht (fun N fN hN => u_spot hN (fun f K fK wK hk => ⟨by decide, fun y => absurd rfl y, fun _ => k1 f (a + 1) K (frJ_tr (frJ_L fN) fK) wK ?_⟩) (fun p K p0 p1 fK hK e19 h10 hk => ⟨by decide, fun _ => ⟨by omega, ?_⟩, fun y => absurd (by decide) y⟩)), fun hne => u_wrong hS (fun K fK wK => ⟨Or.inl rfl, k1 3 a K fK wK ?_⟩)⟩
  · rw [if_neg (by omega)]; exact hk _
  · rw [e19]
    have hg : rdG (up_ G 0 z p) (up_ K 89 (14 + (z - 6)) p) := by
      obtain ⟨g1, g2, g3, g4, g5, g6, g7⟩ := hK.g
      have e : ∀ b j, ¬ (b = 89 ∧ j = 14 + (z - 6)) → up_ K 89 (14 + (z - 6)) p b j = K b j := fun b j c => if_neg c
      have e0 : ∀ j, j ≠ z → up_ G 0 z p 0 j = G 0 j := fun j hj => up_j _ _ _ hj
      refine ⟨fun j j0 j1 => ?_, fun i i0 i1 => ?_, fun i i0 i1 => ?_, fun r f r0 r1 f0 f1 => ?_, fun d d0 d1 => ?_, fun s s0 s1 => ?_, fun w w0 w1 => ?_⟩
      · by_cases c : j = z
        · subst c; rw [show 14 + (j - 6) = 8 + j by omega, up_s, up_s]
        · rw [e _ _ (by omega), e0 j c]; exact g1 j j0 j1
      · rw [e0 0 (by omega)] at i1; rw [e _ _ (by omega)]; exact g2 i i0 i1
      · rw [e0 1 (by omega)] at i1; rw [e 91 _ (by omega), e 92 _ (by omega)]; exact g3 i i0 i1
      · rw [e0 2 (by omega)] at r1; rw [e _ _ (by omega)]; exact g4 r f r0 r1 f0 f1
      · rw [e0 3 (by omega)] at d1; rw [e _ _ (by omega)]; exact g5 d d0 d1
      · rw [e0 4 (by omega)] at s1; rw [e 95 _ (by omega), e 95 _ (by omega)]; exact g6 s s0 s1
      · rw [e0 5 (by omega)] at w1; rw [e 96 _ (by omega), e 96 _ (by omega), e 96 _ (by omega)]; exact g7 w w0 w1
    have hR := hK.gr (H := up_ G 0 z p) (N := up_ K 89 (14 + (z - 6)) p) (fun b j c => up_b _ _ _ _ (by omega)) hg (setE_W hp hx p0 p1) (snI_E hK.s hx)
    refine u_take hR (by omega) (fun L fL hL => k2 (a + 1 + 1) _ L (frJ_tr (frJ_L fN) (frJ_tr fK (frJ_tr (frJ_up (by unfold dfC; omega)) (frJ_L fL)))) hL (by omega) ?_)
    rw [if_neg (by omega), hk, show a + 1 + 1 = a + 2 by omega]
  · rw [if_pos (by omega)]
