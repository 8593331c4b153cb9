/-! THE LAND, as the class's own rows have it: G 0 the numbers of a Country, G 1 .. G 8 its rows -/
abbrev Lnd : Type := Int → Int → Int
def wfN (G : Lnd) : Prop := (0 ≤ (G 0 0) ∧ (G 0 0) ≤ 10) ∧ (0 ≤ (G 0 1) ∧ (G 0 1) ≤ 2) ∧ (0 ≤ (G 0 2) ∧ (G 0 2) ≤ 24) ∧ (0 ≤ (G 0 3) ∧ (G 0 3) ≤ 6) ∧ (0 ≤ (G 0 5) ∧ (G 0 5) ≤ 6) ∧ (-1 ≤ (G 0 6) ∧ (G 0 6) < (G 0 0)) ∧ (-1 ≤ (G 0 7) ∧ (G 0 7) < (G 0 0))
def wfR (G : Lnd) : Prop := ∀ r, 0 ≤ r → r < (G 0 2) → (0 ≤ (G 2 (r * 7 + 0)) ∧ (G 2 (r * 7 + 0)) < (G 0 0)) ∧ (0 ≤ (G 2 (r * 7 + 1)) ∧ (G 2 (r * 7 + 1)) < (G 0 0)) ∧ (G 2 (r * 7 + 0)) ≠ (G 2 (r * 7 + 1)) ∧ (1 ≤ (G 2 (r * 7 + 2)) ∧ (G 2 (r * 7 + 2)) ≤ 99) ∧ (0 ≤ (G 2 (r * 7 + 3)) ∧ (G 2 (r * 7 + 3)) ≤ 9) ∧ (-1 ≤ (G 2 (r * 7 + 4)) ∧ (G 2 (r * 7 + 4)) < (G 0 1)) ∧ (0 ≤ (G 2 (r * 7 + 5)) ∧ (G 2 (r * 7 + 5)) ≤ 99) ∧ (-1 ≤ (G 2 (r * 7 + 6)) ∧ (G 2 (r * 7 + 6)) < (G 0 3)) ∧ (0 ≤ (G 2 (r * 7 + 6)) ↔ (0 < (G 2 (r * 7 + 3)) ∨ 0 ≤ (G 2 (r * 7 + 4)))) ∧ ((G 2 (r * 7 + 6)) < 0 → (G 2 (r * 7 + 5)) = 0)
def wfD (G : Lnd) : Prop := ∀ d, 0 ≤ d → d < (G 0 3) → 0 ≤ G 3 d ∧ G 3 d < (G 0 2) ∧ (G 2 ((G 3 d) * 7 + 6)) = d
def wfB (G : Lnd) : Prop := (∀ p q, 0 ≤ p → p < 10 → 0 ≤ q → q < 10 → (G 4 (p * 10 + q)) = -1 ∨ (0 ≤ (G 4 (p * 10 + q)) ∧ (G 4 (p * 10 + q)) < (G 0 2) ∧ (((G 2 (((G 4 (p * 10 + q))) * 7 + 0)) = p ∧ (G 2 (((G 4 (p * 10 + q))) * 7 + 1)) = q) ∨ ((G 2 (((G 4 (p * 10 + q))) * 7 + 0)) = q ∧ (G 2 (((G 4 (p * 10 + q))) * 7 + 1)) = p)))) ∧ (∀ r, 0 ≤ r → r < (G 0 2) → (G 4 (((G 2 (r * 7 + 0))) * 10 + ((G 2 (r * 7 + 1))))) = r ∧ (G 4 (((G 2 (r * 7 + 1))) * 10 + ((G 2 (r * 7 + 0))))) = r)
def wfS (G : Lnd) : Prop := (∀ p, 0 ≤ p → p < 10 → 0 ≤ (G 5 p) ∧ (G 5 p) < p2_ ((G 0 3))) ∧ (∀ r, 0 ≤ r → r < (G 0 2) → 0 ≤ (G 2 (r * 7 + 6)) → bt ((G 5 ((G 2 (r * 7 + 0))))) ((G 2 (r * 7 + 6))) = 1 ∧ bt ((G 5 ((G 2 (r * 7 + 1))))) ((G 2 (r * 7 + 6))) = 1)
def wfW (G : Lnd) : Prop := ∀ w, 0 ≤ w → w < (G 0 5) → (0 ≤ G 6 w ∧ G 6 w < (G 0 0)) ∧ (0 ≤ G 7 w ∧ G 7 w < (G 0 3)) ∧ (1 ≤ G 8 w ∧ G 8 w ≤ 99)
def wfC (G : Lnd) : Prop := ∀ c, 0 ≤ c → c < (G 0 1) → 1 ≤ G 1 c ∧ G 1 c ≤ 9
def WF (G : Lnd) : Prop := wfN G ∧ wfR G ∧ wfD G ∧ wfB G ∧ wfS G ∧ wfW G ∧ wfC G
theorem WF.N {G : Lnd} (h : WF G) : wfN G := h.1
theorem WF.R {G : Lnd} (h : WF G) : wfR G := h.2.1
theorem WF.D {G : Lnd} (h : WF G) : wfD G := h.2.2.1
theorem WF.B {G : Lnd} (h : WF G) : wfB G := h.2.2.2.1
theorem WF.S {G : Lnd} (h : WF G) : wfS G := h.2.2.2.2.1
theorem WF.W {G : Lnd} (h : WF G) : wfW G := h.2.2.2.2.2.1
theorem WF.C {G : Lnd} (h : WF G) : wfC G := h.2.2.2.2.2.2
theorem WF.btw_lt {G : Lnd} (h : WF G) {p q : Int} (p0 : 0 ≤ p) (p1 : p < 10) (q0 : 0 ≤ q) (q1 : q < 10) : -1 ≤ (G 4 (p * 10 + q)) ∧ (G 4 (p * 10 + q)) < (G 0 2) := by
  have h1 := h.B.1 p q p0 p1 q0 q1; have h2 := h.N; unfold wfN at h2; omega
theorem WF.sn64 {G : Lnd} (h : WF G) {p : Int} (p0 : 0 ≤ p) (p1 : p < 10) : 0 ≤ (G 5 p) ∧ (G 5 p) < 64 := by
  have h1 := h.S.1 p p0 p1; have h2 := h.N; unfold wfN at h2; have := p2_le h2.2.2.2.1.1 h2.2.2.2.1.2; omega
/-- the hours of a way by sets of what is open and shut; 0: none -/
def pasB (G : Lnd) (p q op sh : Int) : Int :=
  if (G 4 (p * 10 + q)) < 0 then 0 else if (G 2 (((G 4 (p * 10 + q))) * 7 + 6)) < 0 then (G 2 (((G 4 (p * 10 + q))) * 7 + 2)) else if bt op ((G 2 (((G 4 (p * 10 + q))) * 7 + 6))) = 1 then (G 2 (((G 4 (p * 10 + q))) * 7 + 2)) else if bt sh ((G 2 (((G 4 (p * 10 + q))) * 7 + 6))) = 1 ∧ 0 < (G 2 (((G 4 (p * 10 + q))) * 7 + 5)) then (G 2 (((G 4 (p * 10 + q))) * 7 + 2)) + (G 2 (((G 4 (p * 10 + q))) * 7 + 5)) else 0
theorem pasB_rng {G : Lnd} (h : WF G) {p q op sh : Int} (p0 : 0 ≤ p) (p1 : p < 10) (q0 : 0 ≤ q) (q1 : q < 10) : 0 ≤ pasB G p q op sh ∧ pasB G p q op sh ≤ 198 := by
  have h1 := h.btw_lt p0 p1 q0 q1
  unfold pasB
  by_cases hn : (G 4 (p * 10 + q)) < 0
  · rw [if_pos hn]; omega
  · rw [if_neg hn]
    have h2 := h.R ((G 4 (p * 10 + q))) (by omega) (by omega)
    split
    · omega
    · split
      · omega
      · split <;> omega
-- the class's Country at cell c
def cty (c : Int) : Prop := c = 2 ∨ c = 11
theorem ct_o {c : Int} (h : cty c) : okO 86 3 c = true := by rcases h with rfl | rfl <;> rfl
theorem ct_a1 {c : Int} (h : cty c) : okO 86 20 (c + 1) = true := by rcases h with rfl | rfl <;> rfl
theorem ct_a2 {c : Int} (h : cty c) : okO 86 20 (c + 2) = true := by rcases h with rfl | rfl <;> rfl
theorem ct_a3 {c : Int} (h : cty c) : okO 86 20 (c + 3) = true := by rcases h with rfl | rfl <;> rfl
theorem ct_a4 {c : Int} (h : cty c) : okO 86 20 (c + 4) = true := by rcases h with rfl | rfl <;> rfl
theorem ct_a5 {c : Int} (h : cty c) : okO 86 20 (c + 5) = true := by rcases h with rfl | rfl <;> rfl
theorem ct_a6 {c : Int} (h : cty c) : okO 86 20 (c + 6) = true := by rcases h with rfl | rfl <;> rfl
theorem ct_a7 {c : Int} (h : cty c) : okO 86 20 (c + 7) = true := by rcases h with rfl | rfl <;> rfl
theorem ct_a8 {c : Int} (h : cty c) : okO 86 20 (c + 8) = true := by rcases h with rfl | rfl <;> rfl
theorem ct_l1 {c : Int} (h : cty c) : ln_ (c + 1) = 2 := by rcases h with rfl | rfl <;> rfl
theorem ct_l2 {c : Int} (h : cty c) : ln_ (c + 2) = 168 := by rcases h with rfl | rfl <;> rfl
theorem ct_l3 {c : Int} (h : cty c) : ln_ (c + 3) = 6 := by rcases h with rfl | rfl <;> rfl
theorem ct_l4 {c : Int} (h : cty c) : ln_ (c + 4) = 100 := by rcases h with rfl | rfl <;> rfl
theorem ct_l5 {c : Int} (h : cty c) : ln_ (c + 5) = 10 := by rcases h with rfl | rfl <;> rfl
theorem ct_l6 {c : Int} (h : cty c) : ln_ (c + 6) = 6 := by rcases h with rfl | rfl <;> rfl
theorem ct_l7 {c : Int} (h : cty c) : ln_ (c + 7) = 6 := by rcases h with rfl | rfl <;> rfl
theorem ct_l8 {c : Int} (h : cty c) : ln_ (c + 8) = 6 := by rcases h with rfl | rfl <;> rfl
theorem ct_rng {c : Int} (h : cty c) : 2 ≤ c ∧ c + 8 ≤ 19 := by rcases h with rfl | rfl <;> decide
/-- the Country at c is the land G -/
def clG (c : Int) (G : Lnd) (M : aM) : Prop := (∀ j, M c j = G 0 j) ∧ (∀ j, M (c + 1) j = G 1 j) ∧ (∀ j, M (c + 2) j = G 2 j) ∧ (∀ j, M (c + 3) j = G 3 j) ∧ (∀ j, M (c + 4) j = G 4 j) ∧ (∀ j, M (c + 5) j = G 5 j) ∧ (∀ j, M (c + 6) j = G 6 j) ∧ (∀ j, M (c + 7) j = G 7 j) ∧ (∀ j, M (c + 8) j = G 8 j)
/-- M' holds what M holds but for the cells lo .. hi -/
def ag (lo hi : Int) (M M' : aM) : Prop := ∀ b j, (b < lo ∨ hi < b) → M' b j = M b j
theorem ag_refl (lo hi : Int) (M : aM) : ag lo hi M M := fun _ _ _ => rfl
theorem ag_tr {lo hi : Int} {M N K : aM} (h1 : ag lo hi M N) (h2 : ag lo hi N K) : ag lo hi M K := fun b j h => (h2 b j h).trans (h1 b j h)
theorem ag_wk {lo hi l h : Int} {M N : aM} (h1 : ag lo hi M N) (hl : l ≤ lo) (hh : hi ≤ h) : ag l h M N := fun b j hb => h1 b j (by omega)
theorem ag_up {lo hi a i v : Int} (M : aM) (h0 : lo ≤ a) (h1 : a ≤ hi) : ag lo hi M (up_ M a i v) := fun b j hb => by
  unfold up_; rw [if_neg (by omega)]
theorem ag_ce {lo hi a : Int} {f : Int → Int} (M : aM) (h0 : lo ≤ a) (h1 : a ≤ hi) : ag lo hi M (ce_ M a f) := fun b j hb => by
  unfold ce_; rw [if_neg (by omega)]
theorem up_s (M : aM) (a i v : Int) : up_ M a i v a i = v := by unfold up_; rw [if_pos ⟨rfl, rfl⟩]
theorem up_j (M : aM) (a v : Int) {i j : Int} (h : j ≠ i) : up_ M a i v a j = M a j := by unfold up_; rw [if_neg (fun q => h q.2)]
theorem up_b (M : aM) (i v : Int) {a b : Int} (j : Int) (h : b ≠ a) : up_ M a i v b j = M b j := by unfold up_; rw [if_neg (fun q => h q.1)]
theorem clG.ag {c lo hi : Int} {G : Lnd} {M M' : aM} (h : clG c G M) (hk : cty c) (ha : ag lo hi M M') (hl : 19 < lo ∨ hi < 2) : clG c G M' := by
  have hr := ct_rng hk
  obtain ⟨h0, h1, h2, h3, h4, h5, h6, h7, h8⟩ := h
  refine ⟨fun j => ?_, fun j => ?_, fun j => ?_, fun j => ?_, fun j => ?_, fun j => ?_, fun j => ?_, fun j => ?_, fun j => ?_⟩
  · rw [ha _ j (by omega)]; exact h0 j
  · rw [ha _ j (by omega)]; exact h1 j
  · rw [ha _ j (by omega)]; exact h2 j
  · rw [ha _ j (by omega)]; exact h3 j
  · rw [ha _ j (by omega)]; exact h4 j
  · rw [ha _ j (by omega)]; exact h5 j
  · rw [ha _ j (by omega)]; exact h6 j
  · rw [ha _ j (by omega)]; exact h7 j
  · rw [ha _ j (by omega)]; exact h8 j
/-- the rows of Codes -/
def cdM (M : aM) : Prop := (∀ k, 0 ≤ k → k < 729 → M 28 k = opn k ∧ M 29 k = sht k) ∧ ∀ s, 0 ≤ s → s < 64 → M 30 s = spr s
theorem cdM.ag {lo hi : Int} {M M' : aM} (h : cdM M) (ha : ag lo hi M M') (hl : 30 < lo ∨ hi < 28) : cdM M' := by
  refine ⟨fun k k0 k1 => ?_, fun s s0 s1 => ?_⟩
  · rw [ha 28 k (by omega), ha 29 k (by omega)]; exact h.1 k k0 k1
  · rw [ha 30 s (by omega)]; exact h.2 s s0 s1
