/-! THE CLASS: Country.empty; Reader.read -/
def isE (c : Int) (N : aM) : Prop := (N c 0 = 0 ∧ N c 1 = 0 ∧ N c 2 = 0 ∧ N c 3 = 0 ∧ N c 4 = 0 ∧ N c 5 = 0 ∧ N c 6 = -1 ∧ N c 7 = -1) ∧ (∀ i, 0 ≤ i → i < 100 → N (c + 4) i = -1) ∧ (∀ i, 0 ≤ i → i < 10 → N (c + 5) i = 0)
theorem s_X3_empty {M : aM} {W : aW} {Q : aM → aW → Prop} {c : Int} (hk : cty c) (k : ∀ N, ag c (c + 8) M N → isE c N → Q N W) : CallV 27 [vR c] (M, W) Q := by
  have hc := ct_rng hk
  have o := ct_o hk
  have l4 := ct_l4 hk
  have l5 := ct_l5 hk
  have o4 := ct_a4 hk
  have o5 := ct_a5 hk
  have key2 : ∀ (m : Nat) (i : Int) (N : aM), 0 ≤ i → i + m = 10 → ag c (c + 8) M N → (N c 0 = 0 ∧ N c 1 = 0 ∧ N c 2 = 0 ∧ N c 3 = 0 ∧ N c 4 = 0 ∧ N c 5 = 0 ∧ N c 6 = -1 ∧ N c 7 = -1) → (∀ j, 0 ≤ j → j < 100 → N (c + 4) j = -1) → (∀ j, 0 ≤ j → j < i → N (c + 5) j = 0) → Xs 27 (66, [some (some (vR c)), some (some (vI i))], [], (N, W)) (QV Q) := by
    intro m
    induction m with
    | zero =>
      intro i N i0 i1 ha h0 h4 h5
      refine k_X3_empty_66 _ _ _ _ _ ?_
      exact ⟨o, o5, by omega, fun _ => k N ha ⟨h0, h4, fun j j0 j1 => h5 j j0 (by omega)⟩, fun q => by omega⟩
    | succ m ih =>
      intro i N i0 i1 ha h0 h4 h5
      refine k_X3_empty_66 _ _ _ _ _ ?_
      refine ⟨o, o5, by omega, fun q => by omega, fun _ => ⟨o, ⟨o5, by omega, by omega⟩, ih (i + 1) _ (by omega) (by omega) (ag_tr ha (ag_up N (by omega) (by omega))) ?_ (fun j j0 j1 => ?_) (fun j j0 j1 => ?_)⟩⟩
      · rw [up_r _ _ _ (show c ≠ c + 5 by omega)]; exact h0
      · rw [up_b _ _ _ _ (by omega)]; exact h4 j j0 j1
      · by_cases x : j = i
        · rw [x, up_s]
        · rw [up_j _ _ _ x]; exact h5 j j0 (by omega)
  have key1 : ∀ (m : Nat) (i : Int) (N : aM), 0 ≤ i → i + m = 100 → ag c (c + 8) M N → (N c 0 = 0 ∧ N c 1 = 0 ∧ N c 2 = 0 ∧ N c 3 = 0 ∧ N c 4 = 0 ∧ N c 5 = 0 ∧ N c 6 = -1 ∧ N c 7 = -1) → (∀ j, 0 ≤ j → j < i → N (c + 4) j = -1) → Xs 27 (42, [some (some (vR c)), some (some (vI i))], [], (N, W)) (QV Q) := by
    intro m
    induction m with
    | zero =>
      intro i N i0 i1 ha h0 h4
      refine k_X3_empty_42 _ _ _ _ _ ?_
      exact ⟨o, o4, by omega, fun _ => key2 10 0 N (by decide) (by decide) ha h0 (fun j j0 j1 => h4 j j0 (by omega)) (fun j j0 j1 => by omega), fun q => by omega⟩
    | succ m ih =>
      intro i N i0 i1 ha h0 h4
      refine k_X3_empty_42 _ _ _ _ _ ?_
      refine ⟨o, o4, by omega, fun q => by omega, fun _ => ⟨o, ⟨o4, by omega, by omega⟩, ih (i + 1) _ (by omega) (by omega) (ag_tr ha (ag_up N (by omega) (by omega))) ?_ (fun j j0 j1 => ?_)⟩⟩
      · rw [up_r _ _ _ (show c ≠ c + 4 by omega)]; exact h0
      · by_cases x : j = i
        · rw [x, up_s]
        · rw [up_j _ _ _ x]; exact h4 j j0 (by omega)
  refine e_X3_empty _ _ _ _ ?_
  refine ⟨o, o, o, o, o, o, o, o, key1 100 0 _ (by decide) (by decide) (fun b j hb => ?_) ⟨?_, ?_, ?_, ?_, ?_, ?_, ?_, ?_⟩ (fun j j0 j1 => by omega)⟩
  · rw [up_b _ _ _ _ (by omega), up_b _ _ _ _ (by omega), up_b _ _ _ _ (by omega), up_b _ _ _ _ (by omega), up_b _ _ _ _ (by omega), up_b _ _ _ _ (by omega), up_b _ _ _ _ (by omega), up_b _ _ _ _ (by omega)]
  all_goals unfold up_
  all_goals simp
/-- the land that cell c and the rows of names hold -/
def emG (c : Int) (N : aM) : Lnd := fun r j => if r = 9 then N 25 j else if r = 10 then N 26 j else N (c + r) j
theorem emG_cl (c : Int) (N : aM) : clG c (emG c N) N := by
  refine ⟨fun j => ?_, fun j => ?_, fun j => ?_, fun j => ?_, fun j => ?_, fun j => ?_, fun j => ?_, fun j => ?_, fun j => ?_⟩
  · show N c j = N (c + 0) j
    rw [show c + 0 = c by omega]
  all_goals rfl
theorem emG_W {c : Int} {N : aM} (h : isE c N) : pW (emG c N) := by
  obtain ⟨⟨h0, h1, h2, h3, h4, h5, h6, h7⟩, e4, e5⟩ := h
  have z : ∀ j, emG c N 0 j = N c j := fun j => by
    show N (c + 0) j = N c j
    rw [show c + 0 = c by omega]
  have y4 : ∀ j, emG c N 4 j = N (c + 4) j := fun j => rfl
  have y5 : ∀ j, emG c N 5 j = N (c + 5) j := fun j => rfl
  refine ⟨⟨?_, fun r r0 r1 => ?_, fun d d0 d1 => ?_, ⟨fun p q p0 p1 q0 q1 => ?_, fun r r0 r1 => ?_⟩, ⟨fun p p0 p1 => ?_, fun r r0 r1 hd => ?_⟩, fun w w0 w1 => ?_, fun e e0 e1 => ?_⟩, ?_, fun j j0 j1 => ?_, fun j j0 j1 => ?_⟩
  · unfold wfN; rw [z, z, z, z, z, z, z, h0, h1, h2, h3, h5, h6, h7]; omega
  · rw [z, h2] at r1; omega
  · rw [z, h3] at d1; omega
  · rw [y4]; exact Or.inl (e4 _ (by omega) (by omega))
  · rw [z, h2] at r1; omega
  · rw [y5, e5 p p0 p1, z, h3]; decide
  · rw [z, h2] at r1; omega
  · rw [z, h5] at w1; omega
  · rw [z, h1] at e1; omega
  · rw [z, h4]; decide
  · rw [z, h0] at j1; omega
  · rw [z, h1] at j1; omega
