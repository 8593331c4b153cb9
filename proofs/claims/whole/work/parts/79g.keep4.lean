/-! THE REFERENCE: a land is kept, its tables -/
def rfC (G : Lnd) (M : aM) : Prop := (∀ j, 0 ≤ j → j < 8 → M 89 j = G 0 j) ∧ (∀ c, 0 ≤ c → c < (G 0 1) → M 92 c = G 1 c) ∧ (∀ r f, 0 ≤ r → r < (G 0 2) → 0 ≤ f → f < 7 → M 93 (7 * r + f) = (G 2 (r * 7 + f))) ∧ (∀ d, 0 ≤ d → d < (G 0 3) → M 94 d = G 3 d) ∧ (∀ s, 0 ≤ s → s < G 0 4 → M 95 (2 * s) = G 11 (2 * s) ∧ M 95 (2 * s + 1) = G 11 (2 * s + 1)) ∧ ∀ w, 0 ≤ w → w < (G 0 5) → M 96 (3 * w) = G 6 w ∧ M 96 (3 * w + 1) = G 7 w ∧ M 96 (3 * w + 2) = G 8 w
theorem rfC.of {G : Lnd} {M N : aM} (h : rfC G M) (e : ∀ b j, 89 ≤ b → b ≤ 96 → N b j = M b j) : rfC G N := by
  obtain ⟨a, b, c, d, f, g⟩ := h
  exact ⟨fun j j0 j1 => by rw [e _ _ (by decide) (by decide)]; exact a j j0 j1, fun j j0 j1 => by rw [e _ _ (by decide) (by decide)]; exact b j j0 j1, fun r f r0 r1 f0 f1 => by rw [e _ _ (by decide) (by decide)]; exact c r f r0 r1 f0 f1, fun j j0 j1 => by rw [e _ _ (by decide) (by decide)]; exact d j j0 j1, fun j j0 j1 => by rw [e 95 _ (by decide) (by decide), e 95 _ (by decide) (by decide)]; exact f j j0 j1, fun j j0 j1 => by rw [e 96 _ (by decide) (by decide), e 96 _ (by decide) (by decide), e 96 _ (by decide) (by decide)]; exact g j j0 j1⟩
theorem u_doubts {M : aM} {W : aW} {Q : Int → aM → aW → Prop} (h : Q (M 89 3) M W) : CallI 181 [vR 86] (M, W) Q := by
  refine e_X12_doubts _ _ _ ?_
  exact h
def snK (G : Lnd) (k p d : Int) : Prop := ∃ r : Int, 0 ≤ r ∧ r < k ∧ (G 2 (r * 7 + 6)) = d ∧ ((G 2 (r * 7 + 0)) = p ∨ (G 2 (r * 7 + 1)) = p)
def snS (G : Lnd) (k p d : Int) : Prop := ∃ s : Int, 0 ≤ s ∧ s < k ∧ G 11 (2 * s) = p ∧ G 11 (2 * s + 1) = d
theorem snK_0 {G : Lnd} {p d : Int} : ¬ snK G 0 p d := fun ⟨r, r0, r1, _⟩ => by omega
theorem snS_0 {G : Lnd} {p d : Int} : ¬ snS G 0 p d := fun ⟨r, r0, r1, _⟩ => by omega
theorem snK_s {G : Lnd} {k p d : Int} (k0 : 0 ≤ k) : snK G (k + 1) p d ↔ (snK G k p d ∨ ((G 2 (k * 7 + 6)) = d ∧ ((G 2 (k * 7 + 0)) = p ∨ (G 2 (k * 7 + 1)) = p))) := by
  constructor
  · intro ⟨r, r0, r1, r2, r3⟩
    by_cases c : r = k
    · subst c; exact Or.inr ⟨r2, r3⟩
    · exact Or.inl ⟨r, r0, by omega, r2, r3⟩
  · intro h
    rcases h with ⟨r, r0, r1, r2, r3⟩ | ⟨h1, h2⟩
    · exact ⟨r, r0, by omega, r2, r3⟩
    · exact ⟨k, k0, by omega, h1, h2⟩
theorem snS_s {G : Lnd} {k p d : Int} (k0 : 0 ≤ k) : snS G (k + 1) p d ↔ (snS G k p d ∨ (G 11 (2 * k) = p ∧ G 11 (2 * k + 1) = d)) := by
  constructor
  · intro ⟨r, r0, r1, r2, r3⟩
    by_cases c : r = k
    · subst c; exact Or.inr ⟨r2, r3⟩
    · exact Or.inl ⟨r, r0, by omega, r2, r3⟩
  · intro h
    rcases h with ⟨r, r0, r1, r2, r3⟩ | ⟨h1, h2⟩
    · exact ⟨r, r0, by omega, r2, r3⟩
    · exact ⟨k, k0, by omega, h1, h2⟩
def kpB (G : Lnd) (k : Int) (N : aM) : Prop := ∀ p q, 0 ≤ p → p < 10 → 0 ≤ q → q < 10 → N 98 (10 * p + q) = if 0 ≤ (G 4 (p * 10 + q)) ∧ (G 4 (p * 10 + q)) < k then (G 4 (p * 10 + q)) else -1
def kpS (S : Int → Int → Prop) (N : aM) : Prop := ∀ p, 0 ≤ p → p < 10 → (0 ≤ N 97 p ∧ N 97 p < 64) ∧ ∀ d, 0 ≤ d → d < 6 → (bt (N 97 p) d = 1 ↔ S p d)
theorem or_bit {x n : Int} (x0 : 0 ≤ x) (x1 : x < 64) (n0 : 0 ≤ n) (n1 : n < 6) : or_ x (shl_ 1 n) = oBit x n := by
  have hp := p2_64 n0 n1
  rw [shl_e n0 (by omega), or_e x0 x1 hp.1 hp.2]; rfl
theorem kp_261 {M : aM} {W : aW} {Q : aM → aW → Prop} {d2 d3 : aL} {G : Lnd} (hC : rfC G M) (hp : pW G) (h98 : ∀ j, 0 ≤ j → j < 100 → M 98 j = -1) (h97 : ∀ j, 0 ≤ j → j < 10 → M 97 j = 0)
    (h : ∀ N d2, (∀ b j, b ≠ 97 → b ≠ 98 → N b j = M b j) → kpB G ((G 0 2)) N → kpS (snK G ((G 0 2))) N → Xs 182 (399, [some (some (vR 86)), some (some (vI 0)), d2, d3], [], (N, W)) (QV Q)) : Xs 182 (261, [some (some (vR 86)), some (some (vI 0)), d2, d3], [], (M, W)) (QV Q) := by
  have hw := hp.1
  have hN := hw.N; unfold wfN at hN
  have hB := hw.B
  have key : ∀ (m : Nat) (k : Int) (d2 : aL) (N : aM), 0 ≤ k → k ≤ (G 0 2) → ((G 0 2) - k).toNat = m → (∀ b j, b ≠ 97 → b ≠ 98 → N b j = M b j) → kpB G k N → kpS (snK G k) N → Xs 182 (261, [some (some (vR 86)), some (some (vI k)), d2, d3], [], (N, W)) (QV Q) := by
    intro m
    induction m with
    | zero =>
      intro k d2 N k0 k1 hm fN bN sN
      have e2 : N 89 2 = (G 0 2) := by rw [fN _ _ (by decide) (by decide)]; exact hC.1 2 (by decide) (by decide)
      have ek : k = (G 0 2) := by omega
      rw [ek] at bN sN
      refine k_X12_keep_261 _ _ _ _ _ _ ?_
      rw [e2]
      exact ⟨by omega, fun _ => h N _ fN bN sN, fun hlt => by omega⟩
    | succ m ih =>
      intro k d2 N k0 k1 hm fN bN sN
      have e2 : N 89 2 = (G 0 2) := by rw [fN _ _ (by decide) (by decide)]; exact hC.1 2 (by decide) (by decide)
      have hR := hw.R k k0 (by omega)
      have hBk := hB.2 k k0 (by omega)
      have f0 : N 93 (7 * k) = (G 2 (k * 7 + 0)) := by
        rw [fN _ _ (by decide) (by decide)]
        have := hC.2.2.1 k 0 k0 (by omega) (by decide) (by decide)
        rw [show 7 * k + 0 = 7 * k by omega] at this; exact this
      have f1 : N 93 (7 * k + 1) = (G 2 (k * 7 + 1)) := by rw [fN _ _ (by decide) (by decide)]; exact hC.2.2.1 k 1 k0 (by omega) (by decide) (by decide)
      have f6 : N 93 (7 * k + 6) = (G 2 (k * 7 + 6)) := by rw [fN _ _ (by decide) (by decide)]; exact hC.2.2.1 k 6 k0 (by omega) (by decide) (by decide)
      have s1 : ∀ (K : aM) (i v j : Int), up_ K 98 i v 93 j = K 93 j := fun K i v j => up_b _ _ _ _ (by decide)
      have s2 : ∀ (K : aM) (i v j : Int), up_ K 97 i v 93 j = K 93 j := fun K i v j => up_b _ _ _ _ (by decide)
      have s3 : ∀ (K : aM) (i v j : Int), up_ K 98 i v 97 j = K 97 j := fun K i v j => up_b _ _ _ _ (by decide)
      refine k_X12_keep_261 _ _ _ _ _ _ ?_
      rw [e2]
      refine ⟨by omega, fun hge => by omega, fun _ v1 ev => ?_⟩
      rw [ev]
      simp only [s1, s2, s3, f0, f1, f6]
      have bA : ∀ N' : aM, (∀ j, N' 98 j = up_ (up_ N 98 (10 * (G 2 (k * 7 + 0)) + (G 2 (k * 7 + 1))) k) 98 (10 * (G 2 (k * 7 + 1)) + (G 2 (k * 7 + 0))) k 98 j) → kpB G (k + 1) N' := fun N' e p q p0 p1 q0 q1 => by
        rw [e]
        have hpq := hB.1 p q p0 p1 q0 q1
        by_cases c1 : 10 * p + q = 10 * (G 2 (k * 7 + 1)) + (G 2 (k * 7 + 0))
        · have : p = (G 2 (k * 7 + 1)) ∧ q = (G 2 (k * 7 + 0)) := by omega
          rw [c1, up_s, this.1, this.2, hBk.2, if_pos ⟨k0, by omega⟩]
        · rw [up_j _ _ _ c1]
          by_cases c2 : 10 * p + q = 10 * (G 2 (k * 7 + 0)) + (G 2 (k * 7 + 1))
          · have : p = (G 2 (k * 7 + 0)) ∧ q = (G 2 (k * 7 + 1)) := by omega
            rw [c2, up_s, this.1, this.2, hBk.1, if_pos ⟨k0, by omega⟩]
          · rw [up_j _ _ _ c2, bN p q p0 p1 q0 q1]
            have hne : (G 4 (p * 10 + q)) ≠ k := fun z => by
              rcases hpq with y | ⟨-, -, y⟩
              · omega
              · rw [z] at y; omega
            by_cases c3 : 0 ≤ (G 4 (p * 10 + q)) ∧ (G 4 (p * 10 + q)) < k
            · rw [if_pos c3, if_pos (by omega)]
            · rw [if_neg c3, if_neg (by omega)]
      have sna := sN ((G 2 (k * 7 + 0))) (by omega) (by omega)
      have snb := sN ((G 2 (k * 7 + 1))) (by omega) (by omega)
      have fr : ∀ (i1 v1 i2 v2 : Int) (b j : Int), b ≠ 97 → b ≠ 98 → up_ (up_ N 98 i1 v1) 98 i2 v2 b j = M b j := fun i1 v1 i2 v2 b j c1 c2 => by rw [up_b _ _ _ _ c2, up_b _ _ _ _ c2]; exact fN b j c1 c2
      refine ⟨by omega, by omega, by omega, by omega, by omega, by omega, by omega, by omega, fun hge => ⟨by omega, by omega, by omega, by omega, by omega, by omega, by omega, by omega, ?_⟩, fun hlt => ih (k + 1) _ _ (by omega) (by omega) (by omega) (fun b j c1 c2 => fr _ _ _ _ b j c1 c2) (bA _ (fun j => rfl)) (fun p p0 p1 => ?_)⟩
      · rw [up_j _ _ _ (show (G 2 (k * 7 + 1)) ≠ (G 2 (k * 7 + 0)) by omega)]
        simp only [s3]
        rw [or_bit sna.1.1 sna.1.2 hge (by omega), or_bit snb.1.1 snb.1.2 hge (by omega)]
        refine ih (k + 1) _ _ (by omega) (by omega) (by omega) (fun b j c1 c2 => by rw [up_b _ _ _ _ c1, up_b _ _ _ _ c1]; exact fr _ _ _ _ b j c1 c2) (bA _ (fun j => by rw [up_b _ _ _ _ (by decide), up_b _ _ _ _ (by decide)])) (fun p p0 p1 => ?_)
        have old := sN p p0 p1
        by_cases cb : p = (G 2 (k * 7 + 1))
        · subst cb
          rw [up_s]
          refine ⟨oBit_rng _ _, fun d e0 e1 => ?_⟩
          rw [bt_oBit hge (by omega) e0 e1, snK_s k0, ← old.2 d e0 e1]
          constructor
          · intro z
            split at z
            · rename_i y
              rcases y with y | y
              · exact Or.inl y
              · exact Or.inr ⟨y.symm, Or.inr rfl⟩
            · exact absurd z (by decide)
          · intro z
            refine if_pos ?_
            rcases z with z | z
            · exact Or.inl z
            · exact Or.inr z.1.symm
        · rw [up_j _ _ _ cb]
          by_cases ca : p = (G 2 (k * 7 + 0))
          · subst ca
            rw [up_s]
            refine ⟨oBit_rng _ _, fun d e0 e1 => ?_⟩
            rw [bt_oBit hge (by omega) e0 e1, snK_s k0, ← old.2 d e0 e1]
            constructor
            · intro z
              split at z
              · rename_i y
                rcases y with y | y
                · exact Or.inl y
                · exact Or.inr ⟨y.symm, Or.inl rfl⟩
              · exact absurd z (by decide)
            · intro z
              refine if_pos ?_
              rcases z with z | z
              · exact Or.inl z
              · exact Or.inr z.1.symm
          · rw [up_j _ _ _ ca, s3, s3]
            refine ⟨old.1, fun d e0 e1 => ?_⟩
            rw [old.2 d e0 e1, snK_s k0]
            constructor
            · intro z; exact Or.inl z
            · intro z
              rcases z with z | z
              · exact z
              · rcases z.2 with y | y
                · exact absurd y.symm ca
                · exact absurd y.symm cb
      · have old := sN p p0 p1
        rw [s3, s3]
        refine ⟨old.1, fun d e0 e1 => ?_⟩
        rw [old.2 d e0 e1, snK_s k0]
        constructor
        · intro z; exact Or.inl z
        · intro z
          rcases z with z | z
          · exact z
          · omega
  refine key _ 0 _ M (by decide) (by omega) rfl (fun _ _ _ _ => rfl) (fun p q p0 p1 q0 q1 => ?_) (fun p p0 p1 => ?_)
  · rw [h98 _ (by omega) (by omega), if_neg (by omega)]
  · rw [h97 p p0 p1]
    refine ⟨by decide, fun d e0 e1 => ?_⟩
    rw [bt_hi (d := 0) (by decide) (by decide) (by decide) e0 e1]
    exact ⟨fun z => absurd z (by decide), fun z => absurd z snK_0⟩
theorem kp_399 {M : aM} {W : aW} {Q : aM → aW → Prop} {d2 d3 : aL} {G : Lnd} (hC : rfC G M) (hp : pW G) (hs : snI G) (hS : kpS (snK G ((G 0 2))) M)
    (h : ∀ N, (∀ b j, b ≠ 97 → ¬ (b = 86 ∧ (j = 22 ∨ j = 23)) → N b j = M b j) → (∀ p, 0 ≤ p → p < 10 → N 97 p = (G 5 p)) → N 86 22 = p2_ ((G 0 3)) → N 86 23 = 1 → Xs 182 (460, [some (some (vR 86)), some (some (vI 0)), d2, d3], [], (N, W)) (QV Q)) : Xs 182 (399, [some (some (vR 86)), some (some (vI 0)), d2, d3], [], (M, W)) (QV Q) := by
  have hw := hp.1
  have hN := hw.N; unfold wfN at hN
  have h4 := hp.2.1
  have key : ∀ (m : Nat) (k : Int) (N : aM), 0 ≤ k → k ≤ G 0 4 → (G 0 4 - k).toNat = m → (∀ b j, b ≠ 97 → N b j = M b j) → kpS (fun p d => snA G p d ∨ snS G k p d) N → Xs 182 (399, [some (some (vR 86)), some (some (vI k)), d2, d3], [], (N, W)) (QV Q) := by
    intro m
    induction m with
    | zero =>
      intro k N k0 k1 hm fN sN
      have e4 : N 89 4 = G 0 4 := by rw [fN _ _ (by decide)]; exact hC.1 4 (by decide) (by decide)
      have e3 : N 89 3 = (G 0 3) := by rw [fN _ _ (by decide)]; exact hC.1 3 (by decide) (by decide)
      have ek : k = G 0 4 := by omega
      refine k_X12_keep_399 _ _ _ _ _ _ ?_
      rw [e4]
      refine ⟨by omega, fun _ => u_doubts ?_, fun hlt => by omega⟩
      rw [e3, shl_e (by omega) (by omega)]
      refine h _ (fun b j c1 c2 => ?_) (fun p p0 p1 => ?_) ?_ (up_s _ _ _ _)
      · unfold up_; rw [if_neg (by omega), if_neg (by omega)]; exact fN b j c1
      · rw [up_b _ _ _ _ (by decide), up_b _ _ _ _ (by decide)]
        have old := sN p p0 p1
        have hsn := hw.sn64 p0 p1
        refine bt_ext old.1.1 old.1.2 hsn.1 hsn.2 (fun d e0 e1 => ?_)
        have a1 := old.2 d e0 e1
        have a2 := hs.1 p d p0 p1 e0 e1
        rw [ek] at a1
        have a3 : bt (N 97 p) d = 1 ↔ bt ((G 5 p)) d = 1 := a1.trans a2.symm
        have b1 := bt_cs (N 97 p) d
        have b2 := bt_cs ((G 5 p)) d
        omega
      · rw [up_j _ _ _ (by decide), up_s]
    | succ m ih =>
      intro k N k0 k1 hm fN sN
      have e4 : N 89 4 = G 0 4 := by rw [fN _ _ (by decide)]; exact hC.1 4 (by decide) (by decide)
      have f0 : N 95 (2 * k) = G 11 (2 * k) := by rw [fN _ _ (by decide)]; exact (hC.2.2.2.2.1 k k0 (by omega)).1
      have f1 : N 95 (2 * k + 1) = G 11 (2 * k + 1) := by rw [fN _ _ (by decide)]; exact (hC.2.2.2.2.1 k k0 (by omega)).2
      have hr := hs.2 k k0 (by omega)
      have old := sN (G 11 (2 * k)) (by omega) (by omega)
      refine k_X12_keep_399 _ _ _ _ _ _ ?_
      rw [e4, f0, f1, or_bit old.1.1 old.1.2 (by omega) (by omega)]
      refine ⟨by omega, fun hge => by omega, fun _ => ⟨by omega, by omega, by omega, by omega, ih (k + 1) _ (by omega) (by omega) (by omega) (fun b j c => by rw [up_b _ _ _ _ c]; exact fN b j c) (fun p p0 p1 => ?_)⟩⟩
      have oldp := sN p p0 p1
      by_cases c : p = G 11 (2 * k)
      · subst c
        rw [up_s]
        refine ⟨oBit_rng _ _, fun d e0 e1 => ?_⟩
        rw [bt_oBit (by omega) (by omega) e0 e1]
        have q := oldp.2 d e0 e1
        constructor
        · intro z
          split at z
          · rename_i y
            rcases y with y | y
            · rcases q.mp y with x | x
              · exact Or.inl x
              · exact Or.inr ((snS_s k0).mpr (Or.inl x))
            · exact Or.inr ((snS_s k0).mpr (Or.inr ⟨rfl, y.symm⟩))
          · exact absurd z (by decide)
        · intro z
          refine if_pos ?_
          rcases z with x | x
          · exact Or.inl (q.mpr (Or.inl x))
          · rcases (snS_s k0).mp x with y | y
            · exact Or.inl (q.mpr (Or.inr y))
            · exact Or.inr y.2.symm
      · rw [up_j _ _ _ c]
        refine ⟨oldp.1, fun d e0 e1 => ?_⟩
        rw [oldp.2 d e0 e1]
        constructor
        · intro z
          rcases z with x | x
          · exact Or.inl x
          · exact Or.inr ((snS_s k0).mpr (Or.inl x))
        · intro z
          rcases z with x | x
          · exact Or.inl x
          · rcases (snS_s k0).mp x with y | y
            · exact Or.inr y
            · exact absurd y.1.symm c
  refine key _ 0 M (by decide) (by omega) rfl (fun _ _ _ => rfl) (fun p p0 p1 => ?_)
  have old := hS p p0 p1
  refine ⟨old.1, fun d e0 e1 => ?_⟩
  rw [old.2 d e0 e1]
  exact ⟨fun z => Or.inl z, fun z => by
    rcases z with x | x
    · exact x
    · exact absurd x snS_0⟩
theorem thr_S {i : Int} (i0 : 0 ≤ i) (i6 : i < 6) : thr_ (i + 1) = 3 * thr_ i := by
  rcases six_ i0 i6 with e | e | e | e | e | e <;> subst e <;> rfl
def knG (G : Lnd) (i : Int) : Int := thr_ (if i ≤ (G 0 3) then i else (G 0 3))
theorem kp_460 {M : aM} {W : aW} {Q : aM → aW → Prop} {d2 d3 : aL} {G : Lnd} (hw : WF G) (h3 : M 89 3 = (G 0 3)) (h23 : M 86 23 = 1)
    (h : ∀ N, (∀ b j, b ≠ 99 → ¬ (b = 86 ∧ j = 23) → N b j = M b j) → D3 N → N 86 23 = thr_ ((G 0 3)) → Xs 182 (518, [some (some (vR 86)), some (some (vI 0)), some (some (vI 0)), d3], [], (N, W)) (QV Q)) : Xs 182 (460, [some (some (vR 86)), some (some (vI 0)), d2, d3], [], (M, W)) (QV Q) := by
  have hN := hw.N; unfold wfN at hN
  have key : ∀ (m : Nat) (i : Int) (N : aM), 0 ≤ i → i ≤ 7 → (7 - i).toNat = m → (∀ b j, b ≠ 99 → ¬ (b = 86 ∧ j = 23) → N b j = M b j) → (∀ j, 0 ≤ j → j < i → N 99 j = thr_ j) → N 86 23 = knG G i → Xs 182 (460, [some (some (vR 86)), some (some (vI i)), d2, d3], [], (N, W)) (QV Q) := by
    intro m
    induction m with
    | zero =>
      intro i N i0 i1 hm fN e99 e23
      have ei : i = 7 := by omega
      refine k_X12_keep_460 _ _ _ _ _ _ ?_
      refine ⟨by omega, fun _ => h N fN (fun j j0 j1 => e99 j j0 (by omega)) ?_, fun hlt => by omega⟩
      rw [e23]; unfold knG; rw [if_neg (by omega)]
    | succ m ih =>
      intro i N i0 i1 hm fN e99 e23
      have e3 : N 89 3 = (G 0 3) := by rw [fN _ _ (by decide) (by decide)]; exact h3
      have step : ∀ v, v = thr_ i → ((i ≥ (G 0 3) → Xs 182 (460, [some (some (vR 86)), some (some (vI (i + 1))), d2, d3], [], (up_ N 99 i v, W)) (QV Q)) ∧ (¬ i ≥ (G 0 3) → Xs 182 (460, [some (some (vR 86)), some (some (vI (i + 1))), d2, d3], [], (up_ (up_ N 99 i v) 86 23 ((up_ N 99 i v) 86 23 * 3), W)) (QV Q))) := fun v ev => by
        have c23 : up_ N 99 i v 86 23 = knG G i := by rw [up_b _ _ _ _ (by decide)]; exact e23
        have n99 : ∀ j, 0 ≤ j → j < i + 1 → up_ N 99 i v 99 j = thr_ j := fun j j0 j1 => by
          by_cases c : j = i
          · rw [c, up_s]; exact ev
          · rw [up_j _ _ _ c]; exact e99 j j0 (by omega)
        refine ⟨fun hge => ih (i + 1) _ (by omega) (by omega) (by omega) (fun b j c1 c2 => by rw [up_b _ _ _ _ c1]; exact fN b j c1 c2) n99 ?_, fun hlt => ih (i + 1) _ (by omega) (by omega) (by omega) (fun b j c1 c2 => by rw [show ∀ K : aM, ∀ x, up_ K 86 23 x b j = K b j from fun K x => if_neg c2, up_b _ _ _ _ c1]; exact fN b j c1 c2) (fun j j0 j1 => by rw [up_b _ _ _ _ (by decide)]; exact n99 j j0 j1) ?_⟩
        · rw [c23]
          unfold knG
          rw [if_neg (show ¬ i + 1 ≤ (G 0 3) by omega)]
          by_cases c : i ≤ (G 0 3)
          · rw [if_pos c, show i = (G 0 3) by omega]
          · rw [if_neg c]
        · rw [up_s, c23]
          unfold knG
          rw [if_pos (by omega), if_pos (by omega), thr_S i0 (by omega)]; omega
      refine k_X12_keep_460 _ _ _ _ _ _ ?_
      refine ⟨by omega, fun hge => by omega, fun _ => ⟨by omega, fun hne => ⟨by omega, by omega, u_doubts ?_⟩, fun heq => ⟨by omega, u_doubts ?_⟩⟩⟩
      · rw [up_b _ _ _ (b := 89) _ (by decide), e3, e99 (i - 1) (by omega) (by omega)]
        exact ⟨by omega, step _ (by
          have := thr_S (i := i - 1) (by omega) (by omega)
          rw [show i - 1 + 1 = i by omega] at this; exact this.symm)⟩
      · have ei : i = 0 := Classical.byContradiction heq
        rw [up_b _ _ _ (b := 89) _ (by decide), e3]
        exact ⟨by omega, step _ (by rw [ei]; rfl)⟩
  refine key _ 0 M (by decide) (by decide) rfl (fun _ _ _ _ => rfl) (fun j j0 j1 => by omega) ?_
  rw [h23]; unfold knG; rw [if_pos (by omega)]; rfl
theorem u_openIn {M : aM} {W : aW} {Q : Int → aM → aW → Prop} {G : Lnd} {k : Int} (hw : WF G) (h3 : M 89 3 = (G 0 3)) (hD : D3 M) (k0 : 0 ≤ k) (k1 : k < 2147483648) (h : Q (unk G k) M W) : CallI 184 [vR 86, vI k] (M, W) Q := by
  have hn := hw.N; unfold wfN at hn
  have key : ∀ (n : Nat) (x2 x3 : Int), 0 ≤ x3 → x3 ≤ (G 0 3) → ((G 0 3) - x3).toNat = n → x2 = (cnt_ (fun i => decide (dg k i = 0)) x3.toNat : Int) → Xs 184 (4, [some (some (vR 86)), some (some (vI k)), some (some (vI x2)), some (some (vI x3))], [], (M, W)) (QI Q) := by
    intro n; induction n using Nat.strongRecOn with
    | _ n ih =>
      intro x2 x3 h0 h1 hn2 hx
      have hs := cnt_succ (fun i => decide (dg k i = 0)) h0
      refine k_X12_openIn_4 _ _ _ _ _ _ ?_
      refine u_doubts ?_
      rw [h3]
      refine ⟨by omega, fun hge => ?_, fun hlt => s_X12_digit hD k0 k1 h0 (by omega) ?_⟩
      · have e : x3 = (G 0 3) := by omega
        subst e; rw [hx]; exact h
      · have hd := dg_rng k x3
        refine ⟨by omega, fun hz v hv => ?_, fun hz v hv => ?_⟩
        · rw [if_neg (by rw [decide_eq_true_eq]; exact hz)] at hs
          exact ih ((G 0 3) - (x3 + 1)).toNat (by omega) v (x3 + 1) (by omega) (by omega) rfl (by omega)
        · rw [if_pos (by rw [decide_eq_true_eq]; omega)] at hs
          exact ih ((G 0 3) - (x3 + 1)).toNat (by omega) v (x3 + 1) (by omega) (by omega) rfl (by omega)
  refine e_X12_openIn _ _ _ _ ?_
  exact key _ 0 0 (by decide) (by omega) rfl rfl
/-- one that is there -/
def prs (f : Int → Int) (n v : Int) : Prop := ∃ i : Int, 0 ≤ i ∧ i < n ∧ f i = v
def lxl (G : Lnd) (x y : Int) : Prop := unk G x < unk G y ∨ (unk G x = unk G y ∧ x < y)
/-- the order of knowns as far as it is laid -/
def tnI (G : Lnd) (o k n : Int) (N : aM) : Prop := 0 ≤ n ∧ (∀ i, 0 ≤ i → i < n → (0 ≤ N 100 i ∧ N 100 i < thr_ ((G 0 3))) ∧ ((unk G (N 100 i) : Int) < o ∨ ((unk G (N 100 i) : Int) = o ∧ N 100 i < k))) ∧ (∀ i j, 0 ≤ i → i < j → j < n → lxl G (N 100 i) (N 100 j)) ∧ ∀ v, 0 ≤ v → v < thr_ ((G 0 3)) → ((unk G v : Int) < o ∨ ((unk G v : Int) = o ∧ v < k)) → prs (N 100) n v
theorem lxl_ne {G : Lnd} {x y : Int} (h : lxl G x y) : x ≠ y := fun e => by
  subst e
  rcases h with c | c <;> omega
theorem kp_518 {M : aM} {W : aW} {Q : aM → aW → Prop} {d3 : aL} {G : Lnd} (hw : WF G) (h3 : M 89 3 = (G 0 3)) (hD : D3 M) (h23 : M 86 23 = thr_ ((G 0 3)))
    (h : ∀ N x1 d3, (∀ b j, b ≠ 100 → ¬ (b = 86 ∧ (j = 43 ∨ j = 41 ∨ j = 54)) → N b j = M b j) → trnO G N → N 86 43 = 0 → N 86 41 = 0 → N 86 54 = 0 → Xs 182 (587, [some (some (vR 86)), some (some (vI x1)), some (some (vI 0)), d3], [], (N, W)) (QV Q)) : Xs 182 (518, [some (some (vR 86)), some (some (vI 0)), some (some (vI 0)), d3], [], (M, W)) (QV Q) := by
  have hN := hw.N; unfold wfN at hN
  have ht := thrG hw
  have un : ∀ v, (unk G v : Int) ≤ (G 0 3) := fun v => by
    have := cnt_le (fun i => decide (dg v i = 0)) ((G 0 3)).toNat
    unfold unk; omega
  have l518 : ∀ (m : Nat) (n o : Int) (d3 : aL) (N : aM), 0 ≤ o → o ≤ (G 0 3) + 1 → ((G 0 3) + 1 - o).toNat = m → (∀ b j, b ≠ 100 → N b j = M b j) → tnI G o 0 n N → Xs 182 (518, [some (some (vR 86)), some (some (vI n)), some (some (vI o)), d3], [], (N, W)) (QV Q) := by
    intro m
    induction m with
    | zero =>
      intro n o d3 N o0 o1 hm fN tN
      have e3 : N 89 3 = (G 0 3) := by rw [fN _ _ (by decide)]; exact h3
      obtain ⟨n0, t1, t2, t3⟩ := tN
      refine k_X12_keep_518 _ _ _ _ _ _ ?_
      refine u_doubts ?_
      rw [e3]
      have nt : n = thr_ ((G 0 3)) := by
        have le1 := php_le (f := N 100) (m := thr_ ((G 0 3))) (s := n) (by omega) n0 (fun i i0 i1 => (t1 i i0 i1).1) (fun i j i0 ij j1 => lxl_ne (t2 i j i0 ij j1))
        have pv : ∀ v, 0 ≤ v → v < thr_ ((G 0 3)) → 0 ≤ fst_ (fun i => decide (N 100 i = v)) n.toNat ∧ fst_ (fun i => decide (N 100 i = v)) n.toNat < n ∧ N 100 (fst_ (fun i => decide (N 100 i = v)) n.toNat) = v := fun v v0 v1 => by
          have hu := un v
          obtain ⟨i, i0, i1, i2⟩ := t3 v v0 v1 (Or.inl (by omega))
          rcases fst_cs (fun i => decide (N 100 i = v)) n.toNat with ⟨-, b⟩ | ⟨a, b, c, -⟩
          · have := b i i0 (by omega)
            rw [decide_eq_false_iff_not] at this
            exact absurd i2 this
          · exact ⟨a, by omega, of_decide_eq_true c⟩
        have le2 := php_le (f := fun v => fst_ (fun i => decide (N 100 i = v)) n.toNat) (m := n) (s := thr_ ((G 0 3))) n0 (by omega) (fun v v0 v1 => ⟨(pv v v0 v1).1, (pv v v0 v1).2.1⟩) (fun v u v0 vu u1 e => by
          have a := (pv v v0 (by omega)).2.2
          have b := (pv u (by omega) u1).2.2
          have e' : fst_ (fun i => decide (N 100 i = v)) n.toNat = fst_ (fun i => decide (N 100 i = u)) n.toNat := e
          rw [e'] at a
          rw [a] at b
          omega)
        omega
      rw [nt] at t1 t2 t3
      refine ⟨by omega, fun _ => h _ _ _ (fun b j c1 c2 => ?_) ⟨fun i i0 i1 => ?_, fun i j i0 ij j1 => ?_, fun v v0 v1 => ?_⟩ ?_ ?_ ?_, fun hle => by omega⟩
      · unfold up_; rw [if_neg (by omega), if_neg (by omega), if_neg (by omega)]; exact fN b j c1
      · rw [up_b _ _ _ _ (by decide), up_b _ _ _ _ (by decide), up_b _ _ _ _ (by decide)]; exact (t1 i i0 i1).1
      · rw [up_b _ _ _ (b := 100) _ (by decide), up_b _ _ _ (b := 100) _ (by decide), up_b _ _ _ (b := 100) _ (by decide), up_b _ _ _ (b := 100) _ (by decide), up_b _ _ _ (b := 100) _ (by decide), up_b _ _ _ (b := 100) _ (by decide)]; exact t2 i j i0 ij j1
      · have hu := un v
        obtain ⟨i, i0, i1, i2⟩ := t3 v v0 v1 (Or.inl (by omega))
        exact ⟨i, i0, i1, by rw [up_b _ _ _ _ (by decide), up_b _ _ _ _ (by decide), up_b _ _ _ _ (by decide)]; exact i2⟩
      · rw [up_j _ _ _ (by decide), up_j _ _ _ (by decide), up_s]
      · rw [up_j _ _ _ (by decide), up_s]
      · rw [up_s]
    | succ m ih =>
      intro n o d3 N o0 o1 hm fN tN
      have l528 : ∀ (q : Nat) (n k : Int) (N : aM), 0 ≤ k → k ≤ thr_ ((G 0 3)) → (thr_ ((G 0 3)) - k).toNat = q → (∀ b j, b ≠ 100 → N b j = M b j) → tnI G o k n N → Xs 182 (528, [some (some (vR 86)), some (some (vI n)), some (some (vI o)), some (some (vI k))], [], (N, W)) (QV Q) := by
        intro q
        induction q with
        | zero =>
          intro n k N k0 k1 hq fN tN
          have e23 : N 86 23 = thr_ ((G 0 3)) := by rw [fN _ _ (by decide)]; exact h23
          obtain ⟨n0, t1, t2, t3⟩ := tN
          refine k_X12_keep_528 _ _ _ _ _ _ ?_
          rw [e23]
          refine ⟨by omega, fun _ => ih n (o + 1) _ N (by omega) (by omega) (by omega) fN ⟨n0, fun i i0 i1 => ?_, t2, fun v v0 v1 hv => t3 v v0 v1 (by omega)⟩, fun hlt => by omega⟩
          have := t1 i i0 i1
          exact ⟨this.1, by omega⟩
        | succ q ih2 =>
          intro n k N k0 k1 hq fN tN
          have e23 : N 86 23 = thr_ ((G 0 3)) := by rw [fN _ _ (by decide)]; exact h23
          have e3 : N 89 3 = (G 0 3) := by rw [fN _ _ (by decide)]; exact h3
          have hDN : D3 N := fun i i0 i1 => by rw [fN _ _ (by decide)]; exact hD i i0 i1
          obtain ⟨n0, t1, t2, t3⟩ := tN
          have hu := un k
          refine k_X12_keep_528 _ _ _ _ _ _ ?_
          rw [e23]
          refine ⟨by omega, fun hge => by omega, fun _ => u_openIn hw e3 hDN k0 (by omega) ⟨by omega, fun heq => ?_, fun hne => ih2 n (k + 1) N (by omega) (by omega) (by omega) fN ⟨n0, fun i i0 i1 => ?_, t2, fun v v0 v1 hv => t3 v v0 v1 ?_⟩⟩⟩
          · have gr : ∀ i, 0 ≤ i → i < n → lxl G (N 100 i) k := fun i i0 i1 => by
              have := (t1 i i0 i1).2
              unfold lxl; omega
            have le := php_le (f := fun i => if i = n then k else N 100 i) (m := thr_ ((G 0 3))) (s := n + 1) (by omega) (by omega) (fun i i0 i1 => by
              show 0 ≤ (if i = n then k else N 100 i) ∧ (if i = n then k else N 100 i) < thr_ ((G 0 3))
              split
              · omega
              · exact (t1 i i0 (by omega)).1) (fun i j i0 ij j1 => by
              show (if i = n then k else N 100 i) ≠ (if j = n then k else N 100 j)
              rw [if_neg (by omega)]
              split
              · exact lxl_ne (gr i i0 (by omega))
              · exact lxl_ne (t2 i j i0 ij (by omega)))
            have val : ∀ i, up_ N 100 n k 100 i = if i = n then k else N 100 i := fun i => by unfold up_; simp only [true_and]
            refine ⟨by omega, ih2 (n + 1) (k + 1) _ (by omega) (by omega) (by omega) (fun b j c => by rw [up_b _ _ _ _ c]; exact fN b j c) ⟨by omega, fun i i0 i1 => ?_, fun i j i0 ij j1 => ?_, fun v v0 v1 hv => ?_⟩⟩
            · rw [val]
              split
              · exact ⟨by omega, Or.inr ⟨heq, by omega⟩⟩
              · have := t1 i i0 (by omega); exact ⟨this.1, by omega⟩
            · rw [val, val, if_neg (by omega)]
              split
              · exact gr i i0 (by omega)
              · exact t2 i j i0 ij (by omega)
            · by_cases c : v = k
              · exact ⟨n, n0, by omega, by rw [val, if_pos rfl, c]⟩
              · obtain ⟨i, i0, i1, i2⟩ := t3 v v0 v1 (by omega)
                exact ⟨i, i0, Int.lt_trans i1 (Int.lt_succ n), by rw [val, if_neg (Int.ne_of_lt i1)]; exact i2⟩
          · have := t1 i i0 i1; exact ⟨this.1, by omega⟩
          · by_cases c : v = k
            · rw [c] at hv; rcases hv with x | x
              · exact Or.inl (by rw [c]; exact x)
              · exact absurd x.1 hne
            · omega
      have e3 : N 89 3 = (G 0 3) := by rw [fN _ _ (by decide)]; exact h3
      refine k_X12_keep_518 _ _ _ _ _ _ ?_
      refine u_doubts ?_
      rw [e3]
      exact ⟨by omega, fun hgt => by omega, fun _ => l528 _ n 0 N (by decide) (by omega) rfl fN tN⟩
  exact l518 _ 0 0 _ M (by decide) (by omega) rfl (fun _ _ _ => rfl) ⟨by decide, fun i i0 i1 => by omega, fun i j i0 ij j1 => by omega, fun v v0 v1 hv => by omega⟩
