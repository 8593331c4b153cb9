/-! THE REFERENCE: a land is kept -/
theorem kp_2 {M : aM} {W : aW} {Q : aM → aW → Prop} {d2 d3 : aL} (h : ∀ N, (∀ b j, b ≠ 89 → N b j = M b j) → (∀ j, 0 ≤ j → j < 8 → N 89 j = M 89 (8 + j)) → Xs 182 (31, [some (some (vR 86)), some (some (vI 0)), d2, d3], [], (N, W)) (QV Q)) : Xs 182 (2, [some (some (vR 86)), some (some (vI 0)), d2, d3], [], (M, W)) (QV Q) := by
  have key : ∀ (m : Nat) (i : Int) (N : aM), 0 ≤ i → i ≤ 8 → (8 - i).toNat = m → (∀ b j, b ≠ 89 → N b j = M b j) → (∀ j, 0 ≤ j → j < i → N 89 j = M 89 (8 + j)) → (∀ j, i ≤ j → N 89 j = M 89 j) → Xs 182 (2, [some (some (vR 86)), some (some (vI i)), d2, d3], [], (N, W)) (QV Q) := by
    intro m
    induction m with
    | zero =>
      intro i N i0 i1 hm fN e1 e2
      refine k_X12_keep_2 _ _ _ _ _ _ ?_
      exact ⟨by omega, fun _ => h N fN (fun j j0 j1 => e1 j j0 (by omega)), fun hlt => by omega⟩
    | succ m ih =>
      intro i N i0 i1 hm fN e1 e2
      refine k_X12_keep_2 _ _ _ _ _ _ ?_
      refine ⟨by omega, fun hge => by omega, fun _ => ⟨by omega, by omega, ih (i + 1) _ (by omega) (by omega) (by omega) (fun b j c => by rw [up_b _ _ _ _ c]; exact fN b j c) (fun j j0 j1 => ?_) (fun j j0 => ?_)⟩⟩
      · by_cases c : j = i
        · rw [c, up_s]; exact e2 _ (by omega)
        · rw [up_j _ _ _ c]; exact e1 j j0 (by omega)
      · rw [up_j _ _ _ (by omega)]; exact e2 j (by omega)
  exact key _ 0 M (by decide) (by decide) rfl (fun _ _ _ => rfl) (fun j j0 j1 => by omega) (fun _ _ => rfl)
theorem kp_31 {M : aM} {W : aW} {Q : aM → aW → Prop} {d2 d3 : aL} (h : ∀ N, (∀ b j, b ≠ 90 → N b j = M b j) → (∀ j, 0 ≤ j → j < 10 → N 90 j = M 90 (10 + j)) → Xs 182 (60, [some (some (vR 86)), some (some (vI 0)), d2, d3], [], (N, W)) (QV Q)) : Xs 182 (31, [some (some (vR 86)), some (some (vI 0)), d2, d3], [], (M, W)) (QV Q) := by
  have key : ∀ (m : Nat) (i : Int) (N : aM), 0 ≤ i → i ≤ 10 → (10 - i).toNat = m → (∀ b j, b ≠ 90 → N b j = M b j) → (∀ j, 0 ≤ j → j < i → N 90 j = M 90 (10 + j)) → (∀ j, i ≤ j → N 90 j = M 90 j) → Xs 182 (31, [some (some (vR 86)), some (some (vI i)), d2, d3], [], (N, W)) (QV Q) := by
    intro m
    induction m with
    | zero =>
      intro i N i0 i1 hm fN e1 e2
      refine k_X12_keep_31 _ _ _ _ _ _ ?_
      exact ⟨by omega, fun _ => h N fN (fun j j0 j1 => e1 j j0 (by omega)), fun hlt => by omega⟩
    | succ m ih =>
      intro i N i0 i1 hm fN e1 e2
      refine k_X12_keep_31 _ _ _ _ _ _ ?_
      refine ⟨by omega, fun hge => by omega, fun _ => ⟨by omega, by omega, ih (i + 1) _ (by omega) (by omega) (by omega) (fun b j c => by rw [up_b _ _ _ _ c]; exact fN b j c) (fun j j0 j1 => ?_) (fun j j0 => ?_)⟩⟩
      · by_cases c : j = i
        · rw [c, up_s]; exact e2 _ (by omega)
        · rw [up_j _ _ _ c]; exact e1 j j0 (by omega)
      · rw [up_j _ _ _ (by omega)]; exact e2 j (by omega)
  exact key _ 0 M (by decide) (by decide) rfl (fun _ _ _ => rfl) (fun j j0 j1 => by omega) (fun _ _ => rfl)
theorem kp_60 {M : aM} {W : aW} {Q : aM → aW → Prop} {d2 d3 : aL} (h : ∀ N, (∀ b j, b ≠ 91 → b ≠ 92 → N b j = M b j) → (∀ j, 0 ≤ j → j < 2 → N 92 j = M 92 (2 + j)) → Xs 182 (101, [some (some (vR 86)), some (some (vI 0)), d2, d3], [], (N, W)) (QV Q)) : Xs 182 (60, [some (some (vR 86)), some (some (vI 0)), d2, d3], [], (M, W)) (QV Q) := by
  have key : ∀ (m : Nat) (i : Int) (N : aM), 0 ≤ i → i ≤ 2 → (2 - i).toNat = m → (∀ b j, b ≠ 91 → b ≠ 92 → N b j = M b j) → (∀ j, 0 ≤ j → j < i → N 92 j = M 92 (2 + j)) → (∀ j, i ≤ j → N 92 j = M 92 j) → Xs 182 (60, [some (some (vR 86)), some (some (vI i)), d2, d3], [], (N, W)) (QV Q) := by
    intro m
    induction m with
    | zero =>
      intro i N i0 i1 hm fN e1 e2
      refine k_X12_keep_60 _ _ _ _ _ _ ?_
      exact ⟨by omega, fun _ => h N fN (fun j j0 j1 => e1 j j0 (by omega)), fun hlt => by omega⟩
    | succ m ih =>
      intro i N i0 i1 hm fN e1 e2
      refine k_X12_keep_60 _ _ _ _ _ _ ?_
      refine ⟨by omega, fun hge => by omega, fun _ => ⟨by omega, by omega, by omega, by omega, ih (i + 1) _ (by omega) (by omega) (by omega) (fun b j c1 c2 => by rw [up_b _ _ _ _ c2, up_b _ _ _ _ c1]; exact fN b j c1 c2) (fun j j0 j1 => ?_) (fun j j0 => ?_)⟩⟩
      · by_cases c : j = i
        · rw [c, up_s, up_b _ _ _ _ (by decide)]; exact e2 _ (by omega)
        · rw [up_j _ _ _ c, up_b _ _ _ _ (by decide)]; exact e1 j j0 (by omega)
      · rw [up_j _ _ _ (by omega), up_b _ _ _ _ (by decide)]; exact e2 j (by omega)
  exact key _ 0 M (by decide) (by decide) rfl (fun _ _ _ _ => rfl) (fun j j0 j1 => by omega) (fun _ _ => rfl)
theorem kp_101 {M : aM} {W : aW} {Q : aM → aW → Prop} {d2 d3 : aL} (h : ∀ N, (∀ b j, b ≠ 93 → N b j = M b j) → (∀ j, 0 ≤ j → j < 168 → N 93 j = M 93 (168 + j)) → Xs 182 (132, [some (some (vR 86)), some (some (vI 0)), d2, d3], [], (N, W)) (QV Q)) : Xs 182 (101, [some (some (vR 86)), some (some (vI 0)), d2, d3], [], (M, W)) (QV Q) := by
  have key : ∀ (m : Nat) (i : Int) (N : aM), 0 ≤ i → i ≤ 168 → (168 - i).toNat = m → (∀ b j, b ≠ 93 → N b j = M b j) → (∀ j, 0 ≤ j → j < i → N 93 j = M 93 (168 + j)) → (∀ j, i ≤ j → N 93 j = M 93 j) → Xs 182 (101, [some (some (vR 86)), some (some (vI i)), d2, d3], [], (N, W)) (QV Q) := by
    intro m
    induction m with
    | zero =>
      intro i N i0 i1 hm fN e1 e2
      refine k_X12_keep_101 _ _ _ _ _ _ ?_
      exact ⟨by omega, fun _ => h N fN (fun j j0 j1 => e1 j j0 (by omega)), fun hlt => by omega⟩
    | succ m ih =>
      intro i N i0 i1 hm fN e1 e2
      refine k_X12_keep_101 _ _ _ _ _ _ ?_
      refine ⟨by omega, fun hge => by omega, fun _ => ⟨by omega, by omega, ih (i + 1) _ (by omega) (by omega) (by omega) (fun b j c => by rw [up_b _ _ _ _ c]; exact fN b j c) (fun j j0 j1 => ?_) (fun j j0 => ?_)⟩⟩
      · by_cases c : j = i
        · rw [c, up_s]; exact e2 _ (by omega)
        · rw [up_j _ _ _ c]; exact e1 j j0 (by omega)
      · rw [up_j _ _ _ (by omega)]; exact e2 j (by omega)
  exact key _ 0 M (by decide) (by decide) rfl (fun _ _ _ => rfl) (fun j j0 j1 => by omega) (fun _ _ => rfl)
theorem kp_132 {M : aM} {W : aW} {Q : aM → aW → Prop} {d2 d3 : aL} (h : ∀ N, (∀ b j, b ≠ 94 → N b j = M b j) → (∀ j, 0 ≤ j → j < 6 → N 94 j = M 94 (6 + j)) → Xs 182 (161, [some (some (vR 86)), some (some (vI 0)), d2, d3], [], (N, W)) (QV Q)) : Xs 182 (132, [some (some (vR 86)), some (some (vI 0)), d2, d3], [], (M, W)) (QV Q) := by
  have key : ∀ (m : Nat) (i : Int) (N : aM), 0 ≤ i → i ≤ 6 → (6 - i).toNat = m → (∀ b j, b ≠ 94 → N b j = M b j) → (∀ j, 0 ≤ j → j < i → N 94 j = M 94 (6 + j)) → (∀ j, i ≤ j → N 94 j = M 94 j) → Xs 182 (132, [some (some (vR 86)), some (some (vI i)), d2, d3], [], (N, W)) (QV Q) := by
    intro m
    induction m with
    | zero =>
      intro i N i0 i1 hm fN e1 e2
      refine k_X12_keep_132 _ _ _ _ _ _ ?_
      exact ⟨by omega, fun _ => h N fN (fun j j0 j1 => e1 j j0 (by omega)), fun hlt => by omega⟩
    | succ m ih =>
      intro i N i0 i1 hm fN e1 e2
      refine k_X12_keep_132 _ _ _ _ _ _ ?_
      refine ⟨by omega, fun hge => by omega, fun _ => ⟨by omega, by omega, ih (i + 1) _ (by omega) (by omega) (by omega) (fun b j c => by rw [up_b _ _ _ _ c]; exact fN b j c) (fun j j0 j1 => ?_) (fun j j0 => ?_)⟩⟩
      · by_cases c : j = i
        · rw [c, up_s]; exact e2 _ (by omega)
        · rw [up_j _ _ _ c]; exact e1 j j0 (by omega)
      · rw [up_j _ _ _ (by omega)]; exact e2 j (by omega)
  exact key _ 0 M (by decide) (by decide) rfl (fun _ _ _ => rfl) (fun j j0 j1 => by omega) (fun _ _ => rfl)
theorem kp_161 {M : aM} {W : aW} {Q : aM → aW → Prop} {d2 d3 : aL} (h : ∀ N, (∀ b j, b ≠ 95 → N b j = M b j) → (∀ j, 0 ≤ j → j < 16 → N 95 j = M 95 (16 + j)) → Xs 182 (190, [some (some (vR 86)), some (some (vI 0)), d2, d3], [], (N, W)) (QV Q)) : Xs 182 (161, [some (some (vR 86)), some (some (vI 0)), d2, d3], [], (M, W)) (QV Q) := by
  have key : ∀ (m : Nat) (i : Int) (N : aM), 0 ≤ i → i ≤ 16 → (16 - i).toNat = m → (∀ b j, b ≠ 95 → N b j = M b j) → (∀ j, 0 ≤ j → j < i → N 95 j = M 95 (16 + j)) → (∀ j, i ≤ j → N 95 j = M 95 j) → Xs 182 (161, [some (some (vR 86)), some (some (vI i)), d2, d3], [], (N, W)) (QV Q) := by
    intro m
    induction m with
    | zero =>
      intro i N i0 i1 hm fN e1 e2
      refine k_X12_keep_161 _ _ _ _ _ _ ?_
      exact ⟨by omega, fun _ => h N fN (fun j j0 j1 => e1 j j0 (by omega)), fun hlt => by omega⟩
    | succ m ih =>
      intro i N i0 i1 hm fN e1 e2
      refine k_X12_keep_161 _ _ _ _ _ _ ?_
      refine ⟨by omega, fun hge => by omega, fun _ => ⟨by omega, by omega, ih (i + 1) _ (by omega) (by omega) (by omega) (fun b j c => by rw [up_b _ _ _ _ c]; exact fN b j c) (fun j j0 j1 => ?_) (fun j j0 => ?_)⟩⟩
      · by_cases c : j = i
        · rw [c, up_s]; exact e2 _ (by omega)
        · rw [up_j _ _ _ c]; exact e1 j j0 (by omega)
      · rw [up_j _ _ _ (by omega)]; exact e2 j (by omega)
  exact key _ 0 M (by decide) (by decide) rfl (fun _ _ _ => rfl) (fun j j0 j1 => by omega) (fun _ _ => rfl)
theorem kp_190 {M : aM} {W : aW} {Q : aM → aW → Prop} {d2 d3 : aL} (h : ∀ N, (∀ b j, b ≠ 96 → N b j = M b j) → (∀ j, 0 ≤ j → j < 18 → N 96 j = M 96 (18 + j)) → Xs 182 (219, [some (some (vR 86)), some (some (vI 0)), d2, d3], [], (N, W)) (QV Q)) : Xs 182 (190, [some (some (vR 86)), some (some (vI 0)), d2, d3], [], (M, W)) (QV Q) := by
  have key : ∀ (m : Nat) (i : Int) (N : aM), 0 ≤ i → i ≤ 18 → (18 - i).toNat = m → (∀ b j, b ≠ 96 → N b j = M b j) → (∀ j, 0 ≤ j → j < i → N 96 j = M 96 (18 + j)) → (∀ j, i ≤ j → N 96 j = M 96 j) → Xs 182 (190, [some (some (vR 86)), some (some (vI i)), d2, d3], [], (N, W)) (QV Q) := by
    intro m
    induction m with
    | zero =>
      intro i N i0 i1 hm fN e1 e2
      refine k_X12_keep_190 _ _ _ _ _ _ ?_
      exact ⟨by omega, fun _ => h N fN (fun j j0 j1 => e1 j j0 (by omega)), fun hlt => by omega⟩
    | succ m ih =>
      intro i N i0 i1 hm fN e1 e2
      refine k_X12_keep_190 _ _ _ _ _ _ ?_
      refine ⟨by omega, fun hge => by omega, fun _ => ⟨by omega, by omega, ih (i + 1) _ (by omega) (by omega) (by omega) (fun b j c => by rw [up_b _ _ _ _ c]; exact fN b j c) (fun j j0 j1 => ?_) (fun j j0 => ?_)⟩⟩
      · by_cases c : j = i
        · rw [c, up_s]; exact e2 _ (by omega)
        · rw [up_j _ _ _ c]; exact e1 j j0 (by omega)
      · rw [up_j _ _ _ (by omega)]; exact e2 j (by omega)
  exact key _ 0 M (by decide) (by decide) rfl (fun _ _ _ => rfl) (fun j j0 j1 => by omega) (fun _ _ => rfl)
theorem kp_219 {M : aM} {W : aW} {Q : aM → aW → Prop} {d2 d3 : aL} (h : ∀ N, (∀ b j, b ≠ 98 → N b j = M b j) → (∀ j, 0 ≤ j → j < 100 → N 98 j = -1) → Xs 182 (240, [some (some (vR 86)), some (some (vI 0)), d2, d3], [], (N, W)) (QV Q)) : Xs 182 (219, [some (some (vR 86)), some (some (vI 0)), d2, d3], [], (M, W)) (QV Q) := by
  have key : ∀ (m : Nat) (i : Int) (N : aM), 0 ≤ i → i ≤ 100 → (100 - i).toNat = m → (∀ b j, b ≠ 98 → N b j = M b j) → (∀ j, 0 ≤ j → j < i → N 98 j = -1) → Xs 182 (219, [some (some (vR 86)), some (some (vI i)), d2, d3], [], (N, W)) (QV Q) := by
    intro m
    induction m with
    | zero =>
      intro i N i0 i1 hm fN e1
      refine k_X12_keep_219 _ _ _ _ _ _ ?_
      exact ⟨by omega, fun _ => h N fN (fun j j0 j1 => e1 j j0 (by omega)), fun hlt => by omega⟩
    | succ m ih =>
      intro i N i0 i1 hm fN e1
      refine k_X12_keep_219 _ _ _ _ _ _ ?_
      refine ⟨by omega, fun hge => by omega, fun _ => ⟨by omega, ih (i + 1) _ (by omega) (by omega) (by omega) (fun b j c => by rw [up_b _ _ _ _ c]; exact fN b j c) (fun j j0 j1 => ?_)⟩⟩
      by_cases c : j = i
      · rw [c, up_s]
      · rw [up_j _ _ _ c]; exact e1 j j0 (by omega)
  exact key _ 0 M (by decide) (by decide) rfl (fun _ _ _ => rfl) (fun j j0 j1 => by omega)
theorem kp_240 {M : aM} {W : aW} {Q : aM → aW → Prop} {d2 d3 : aL} (h : ∀ N, (∀ b j, b ≠ 97 → N b j = M b j) → (∀ j, 0 ≤ j → j < 10 → N 97 j = 0) → Xs 182 (261, [some (some (vR 86)), some (some (vI 0)), d2, d3], [], (N, W)) (QV Q)) : Xs 182 (240, [some (some (vR 86)), some (some (vI 0)), d2, d3], [], (M, W)) (QV Q) := by
  have key : ∀ (m : Nat) (i : Int) (N : aM), 0 ≤ i → i ≤ 10 → (10 - i).toNat = m → (∀ b j, b ≠ 97 → N b j = M b j) → (∀ j, 0 ≤ j → j < i → N 97 j = 0) → Xs 182 (240, [some (some (vR 86)), some (some (vI i)), d2, d3], [], (N, W)) (QV Q) := by
    intro m
    induction m with
    | zero =>
      intro i N i0 i1 hm fN e1
      refine k_X12_keep_240 _ _ _ _ _ _ ?_
      exact ⟨by omega, fun _ => h N fN (fun j j0 j1 => e1 j j0 (by omega)), fun hlt => by omega⟩
    | succ m ih =>
      intro i N i0 i1 hm fN e1
      refine k_X12_keep_240 _ _ _ _ _ _ ?_
      refine ⟨by omega, fun hge => by omega, fun _ => ⟨by omega, ih (i + 1) _ (by omega) (by omega) (by omega) (fun b j c => by rw [up_b _ _ _ _ c]; exact fN b j c) (fun j j0 j1 => ?_)⟩⟩
      by_cases c : j = i
      · rw [c, up_s]
      · rw [up_j _ _ _ c]; exact e1 j j0 (by omega)
  exact key _ 0 M (by decide) (by decide) rfl (fun _ _ _ => rfl) (fun j j0 j1 => by omega)
theorem kp_587 {M : aM} {W : aW} {Q : aM → aW → Prop} {x1 : Int} {d3 : aL} (h : ∀ N, (∀ b j, b ≠ 107 → N b j = M b j) → (∀ j, 0 ≤ j → j < 3 → N 107 j = 0) → Xs 182 (607, [some (some (vR 86)), some (some (vI x1)), some (some (vI 0)), d3], [], (N, W)) (QV Q)) : Xs 182 (587, [some (some (vR 86)), some (some (vI x1)), some (some (vI 0)), d3], [], (M, W)) (QV Q) := by
  have key : ∀ (m : Nat) (i : Int) (N : aM), 0 ≤ i → i ≤ 3 → (3 - i).toNat = m → (∀ b j, b ≠ 107 → N b j = M b j) → (∀ j, 0 ≤ j → j < i → N 107 j = 0) → Xs 182 (587, [some (some (vR 86)), some (some (vI x1)), some (some (vI i)), d3], [], (N, W)) (QV Q) := by
    intro m
    induction m with
    | zero =>
      intro i N i0 i1 hm fN e1
      refine k_X12_keep_587 _ _ _ _ _ _ ?_
      exact ⟨by omega, fun _ => h N fN (fun j j0 j1 => e1 j j0 (by omega)), fun hlt => by omega⟩
    | succ m ih =>
      intro i N i0 i1 hm fN e1
      refine k_X12_keep_587 _ _ _ _ _ _ ?_
      refine ⟨by omega, fun hge => by omega, fun _ => ⟨by omega, ih (i + 1) _ (by omega) (by omega) (by omega) (fun b j c => by rw [up_b _ _ _ _ c]; exact fN b j c) (fun j j0 j1 => ?_)⟩⟩
      by_cases c : j = i
      · rw [c, up_s]
      · rw [up_j _ _ _ c]; exact e1 j j0 (by omega)
  exact key _ 0 M (by decide) (by decide) rfl (fun _ _ _ => rfl) (fun j j0 j1 => by omega)
theorem kp_607 {M : aM} {W : aW} {Q : aM → aW → Prop} {x1 : Int} {d3 : aL} (h : ∀ N, (∀ b j, b ≠ 113 → N b j = M b j) → (∀ j, 0 ≤ j → j < 58320 → N 113 j = 0) → CallV 186 [vR 86] (N, W) (fun M1 W2 => Q M1 W2)) : Xs 182 (607, [some (some (vR 86)), some (some (vI x1)), some (some (vI 0)), d3], [], (M, W)) (QV Q) := by
  have key : ∀ (m : Nat) (i : Int) (N : aM), 0 ≤ i → i ≤ 58320 → (58320 - i).toNat = m → (∀ b j, b ≠ 113 → N b j = M b j) → (∀ j, 0 ≤ j → j < i → N 113 j = 0) → Xs 182 (607, [some (some (vR 86)), some (some (vI x1)), some (some (vI i)), d3], [], (N, W)) (QV Q) := by
    intro m
    induction m with
    | zero =>
      intro i N i0 i1 hm fN e1
      refine k_X12_keep_607 _ _ _ _ _ _ ?_
      exact ⟨by omega, fun _ => h N fN (fun j j0 j1 => e1 j j0 (by omega)), fun hlt => by omega⟩
    | succ m ih =>
      intro i N i0 i1 hm fN e1
      refine k_X12_keep_607 _ _ _ _ _ _ ?_
      refine ⟨by omega, fun hge => by omega, fun _ => ⟨by omega, ih (i + 1) _ (by omega) (by omega) (by omega) (fun b j c => by rw [up_b _ _ _ _ c]; exact fN b j c) (fun j j0 j1 => ?_)⟩⟩
      by_cases c : j = i
      · rw [c, up_s]
      · rw [up_j _ _ _ c]; exact e1 j j0 (by omega)
  exact key _ 0 M (by decide) (by decide) rfl (fun _ _ _ => rfl) (fun j j0 j1 => by omega)
