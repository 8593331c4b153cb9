/-! THE LAND while it is read: what a line adds -/
def oBit (a r : Int) : Int := sOr a (p2_ r)
theorem oBit_rng (a r : Int) : 0 ≤ oBit a r ∧ oBit a r < 64 := sOr_rng _ _
theorem bt_oBit {a r i : Int} (r0 : 0 ≤ r) (r1 : r < 6) (i0 : 0 ≤ i) (i1 : i < 6) : bt (oBit a r) i = if bt a i = 1 ∨ i = r then 1 else 0 := by
  unfold oBit; rw [bt_sOr i0 i1, bt_p2 r0 r1 i0 i1]
  by_cases h : i = r
  · rw [if_pos h, if_pos (Or.inr rfl), if_pos (Or.inr h)]
  · rw [if_neg h]
    by_cases g : bt a i = 1
    · rw [if_pos (Or.inl g), if_pos (Or.inl g)]
    · rw [if_neg (fun q => by rcases q with q | q; exact g q; exact absurd q (by decide)), if_neg (fun q => by rcases q with q | q; exact g q; exact h q)]
theorem oBit_lt {a r d : Int} (a0 : 0 ≤ a) (a1 : a < p2_ d) (r0 : 0 ≤ r) (r1 : r < d) (d0 : 0 ≤ d) (d1 : d ≤ 6) : oBit a r < p2_ d := by
  have h := oBit_rng a r
  refine lt_p2 h.1 h.2 d0 d1 (fun i i0 i1 => ?_)
  rw [bt_oBit r0 (by omega) (by omega) i1, if_neg]
  intro q
  rcases q with q | q
  · rw [bt_hi a0 d0 a1 i0 i1] at q; exact absurd q (by decide)
  · omega
theorem WF.mono {G H : Lnd} (h : WF G) (hN : wfN H) (hP : (G 0 0) ≤ (H 0 0)) (hC : (G 0 1) ≤ (H 0 1)) (e2 : ∀ j, H 2 j = G 2 j) (e3 : ∀ j, H 3 j = G 3 j) (e4 : ∀ j, H 4 j = G 4 j) (eR : (H 0 2) = (G 0 2)) (eD : (H 0 3) = (G 0 3)) (h5 : ∀ p, 0 ≤ p → p < 10 → (0 ≤ (H 5 p) ∧ (H 5 p) < p2_ ((G 0 3))) ∧ (∀ d, 0 ≤ d → d < 6 → bt ((G 5 p)) d = 1 → bt ((H 5 p)) d = 1)) (hW : wfW H) (hCC : wfC H) : WF H := by
  have hN0 := h.N; unfold wfN at hN0
  refine ⟨hN, fun r r0 r1 => ?_, fun d d0 d1 => ?_, ⟨fun p q p0 p1 q0 q1 => ?_, fun r r0 r1 => ?_⟩, ⟨fun p p0 p1 => ?_, fun r r0 r1 hd => ?_⟩, hW, hCC⟩
  · rw [eR] at r1
    have g := h.R r r0 r1
    simp only [e2, eD]
    omega
  · rw [eD] at d1
    simp only [e2, e3, eR]
    exact h.D d d0 d1
  · simp only [e2, e4, eR]
    exact h.B.1 p q p0 p1 q0 q1
  · rw [eR] at r1
    simp only [e2, e4]
    exact h.B.2 r r0 r1
  · rw [eD]; exact (h5 p p0 p1).1
  · rw [eR] at r1
    have g := h.R r r0 r1
    simp only [e2] at hd ⊢
    have s := h.S.2 r r0 r1 hd
    have a := (h5 ((G 2 (r * 7 + 0))) (by omega) (by omega)).2 ((G 2 (r * 7 + 6))) (by omega) (by omega) s.1
    have b := (h5 ((G 2 (r * 7 + 1))) (by omega) (by omega)).2 ((G 2 (r * 7 + 6))) (by omega) (by omega) s.2
    exact ⟨a, b⟩
theorem up_r (M : aM) (i v : Int) {a b : Int} (h : b ≠ a) : up_ M a i v b = M b := funext fun j => up_b M i v j h
def addP (G : Lnd) (v : Int) : Lnd := up_ (up_ G 9 ((G 0 0)) v) 0 0 ((G 0 0) + 1)
def addC (G : Lnd) (v o : Int) : Lnd := up_ (up_ (up_ G 10 ((G 0 1)) v) 1 ((G 0 1)) o) 0 1 ((G 0 1) + 1)
def addW (G : Lnd) (l d h : Int) : Lnd := up_ (up_ (up_ (up_ G 6 ((G 0 5)) l) 7 ((G 0 5)) d) 8 ((G 0 5)) h) 0 5 ((G 0 5) + 1)
def setS (G : Lnd) (p : Int) : Lnd := up_ G 0 6 p
def setG (G : Lnd) (p : Int) : Lnd := up_ G 0 7 p
def addS (G : Lnd) (l d : Int) : Lnd := up_ (up_ (up_ (up_ G 5 l (oBit ((G 5 l)) d)) 11 (2 * G 0 4) l) 11 (2 * G 0 4 + 1) d) 0 4 (G 0 4 + 1)
theorem addP_W {G : Lnd} {v : Int} (h : pW G) (hP : (G 0 0) < 10) (v0 : 0 ≤ v) (v1 : v < 387420489) : pW (addP G v) := by
  obtain ⟨hw, h4, h9, h10⟩ := h
  have hN := hw.N; unfold wfN at hN
  have e0 : addP G v 0 0 = (G 0 0) + 1 := up_s _ _ _ _
  have ej : ∀ j, j ≠ 0 → addP G v 0 j = G 0 j := fun j hj => by unfold addP; rw [up_j _ _ _ hj, up_b _ _ _ _ (by decide)]
  have er : ∀ b j, b ≠ 0 → b ≠ 9 → addP G v b j = G b j := fun b j a1 a2 => by unfold addP; rw [up_b _ _ _ _ a1, up_b _ _ _ _ a2]
  have e9 : ∀ j, addP G v 9 j = if j = (G 0 0) then v else G 9 j := fun j => by
    unfold addP; rw [up_b _ _ _ _ (by decide)]
    by_cases q : j = (G 0 0)
    · rw [q, up_s, if_pos rfl]
    · rw [up_j _ _ _ q, if_neg q]
  have a1 := ej 1 (by decide); have a2 := ej 2 (by decide); have a3 := ej 3 (by decide); have a4 := ej 4 (by decide); have a5 := ej 5 (by decide); have a6 := ej 6 (by decide); have a7 := ej 7 (by decide)
  refine ⟨hw.mono ?_ ?_ ?_ (fun j => er 2 j (by decide) (by decide)) (fun j => er 3 j (by decide) (by decide)) (fun j => er 4 j (by decide) (by decide)) a2 a3 (fun p p0 p1 => ?_) (fun w w0 w1 => ?_) (fun c c0 c1 => ?_), by rw [a4]; exact h4, fun j j0 j1 => ?_, fun j j0 j1 => ?_⟩
  · unfold wfN; rw [e0, a1, a2, a3, a5, a6, a7]; omega
  · rw [e0]; omega
  · rw [a1]; omega
  · rw [er 5 p (by decide) (by decide)]; exact ⟨hw.S.1 p p0 p1, fun d d0 d1 hd => hd⟩
  · rw [a5] at w1
    rw [er 6 w (by decide) (by decide), er 7 w (by decide) (by decide), er 8 w (by decide) (by decide), e0, a3]
    have := hw.W w w0 w1; omega
  · rw [a1] at c1
    rw [er 1 c (by decide) (by decide)]; exact hw.C c c0 c1
  · rw [e0] at j1; rw [e9]
    by_cases q : j = (G 0 0)
    · rw [if_pos q]; omega
    · rw [if_neg q]; exact h9 j j0 (by omega)
  · rw [a1] at j1; rw [er 10 j (by decide) (by decide)]; exact h10 j j0 j1
theorem addC_W {G : Lnd} {v o : Int} (h : pW G) (hC : (G 0 1) < 2) (v0 : 0 ≤ v) (v1 : v < 387420489) (o0 : 1 ≤ o) (o1 : o ≤ 9) : pW (addC G v o) := by
  obtain ⟨hw, h4, h9, h10⟩ := h
  have hN := hw.N; unfold wfN at hN
  have e0 : addC G v o 0 1 = (G 0 1) + 1 := up_s _ _ _ _
  have ej : ∀ j, j ≠ 1 → addC G v o 0 j = G 0 j := fun j hj => by unfold addC; rw [up_j _ _ _ hj, up_b _ _ _ _ (by decide), up_b _ _ _ _ (by decide)]
  have er : ∀ b j, b ≠ 0 → b ≠ 1 → b ≠ 10 → addC G v o b j = G b j := fun b j a1 a2 a3 => by unfold addC; rw [up_b _ _ _ _ a1, up_b _ _ _ _ a2, up_b _ _ _ _ a3]
  have e1 : ∀ j, addC G v o 1 j = if j = (G 0 1) then o else G 1 j := fun j => by
    unfold addC; rw [up_b _ _ _ _ (by decide)]
    by_cases q : j = (G 0 1)
    · rw [q, up_s, if_pos rfl]
    · rw [up_j _ _ _ q, if_neg q, up_b _ _ _ _ (by decide)]
  have e10 : ∀ j, addC G v o 10 j = if j = (G 0 1) then v else G 10 j := fun j => by
    unfold addC; rw [up_b _ _ _ _ (by decide), up_b _ _ _ _ (by decide)]
    by_cases q : j = (G 0 1)
    · rw [q, up_s, if_pos rfl]
    · rw [up_j _ _ _ q, if_neg q]
  have a0 := ej 0 (by decide); have a2 := ej 2 (by decide); have a3 := ej 3 (by decide); have a4 := ej 4 (by decide); have a5 := ej 5 (by decide); have a6 := ej 6 (by decide); have a7 := ej 7 (by decide)
  refine ⟨hw.mono ?_ ?_ ?_ (fun j => er 2 j (by decide) (by decide) (by decide)) (fun j => er 3 j (by decide) (by decide) (by decide)) (fun j => er 4 j (by decide) (by decide) (by decide)) a2 a3 (fun p p0 p1 => ?_) (fun w w0 w1 => ?_) (fun c c0 c1 => ?_), by rw [a4]; exact h4, fun j j0 j1 => ?_, fun j j0 j1 => ?_⟩
  · unfold wfN; rw [e0, a0, a2, a3, a5, a6, a7]; omega
  · rw [a0]; omega
  · rw [e0]; omega
  · rw [er 5 p (by decide) (by decide) (by decide)]; exact ⟨hw.S.1 p p0 p1, fun d d0 d1 hd => hd⟩
  · rw [a5] at w1
    rw [er 6 w (by decide) (by decide) (by decide), er 7 w (by decide) (by decide) (by decide), er 8 w (by decide) (by decide) (by decide), a0, a3]
    have := hw.W w w0 w1; omega
  · rw [e0] at c1; rw [e1]
    by_cases q : c = (G 0 1)
    · rw [if_pos q]; omega
    · rw [if_neg q]; exact hw.C c c0 (by omega)
  · rw [a0] at j1; rw [er 9 j (by decide) (by decide) (by decide)]; exact h9 j j0 j1
  · rw [e0] at j1; rw [e10]
    by_cases q : j = (G 0 1)
    · rw [if_pos q]; omega
    · rw [if_neg q]; exact h10 j j0 (by omega)
theorem addW_W {G : Lnd} {l d t : Int} (h : pW G) (hW : (G 0 5) < 6) (l0 : 0 ≤ l) (l1 : l < (G 0 0)) (d0 : 0 ≤ d) (d1 : d < (G 0 3)) (t0 : 1 ≤ t) (t1 : t ≤ 99) : pW (addW G l d t) := by
  obtain ⟨hw, h4, h9, h10⟩ := h
  have hN := hw.N; unfold wfN at hN
  have e0 : addW G l d t 0 5 = (G 0 5) + 1 := up_s _ _ _ _
  have ej : ∀ j, j ≠ 5 → addW G l d t 0 j = G 0 j := fun j hj => by unfold addW; rw [up_j _ _ _ hj, up_b _ _ _ _ (by decide), up_b _ _ _ _ (by decide), up_b _ _ _ _ (by decide)]
  have er : ∀ b j, b ≠ 0 → b ≠ 6 → b ≠ 7 → b ≠ 8 → addW G l d t b j = G b j := fun b j a1 a2 a3 a4 => by unfold addW; rw [up_b _ _ _ _ a1, up_b _ _ _ _ a4, up_b _ _ _ _ a3, up_b _ _ _ _ a2]
  have e6 : ∀ j, addW G l d t 6 j = if j = (G 0 5) then l else G 6 j := fun j => by
    unfold addW; rw [up_b _ _ _ _ (by decide), up_b _ _ _ _ (by decide), up_b _ _ _ _ (by decide)]
    by_cases q : j = (G 0 5)
    · rw [q, up_s, if_pos rfl]
    · rw [up_j _ _ _ q, if_neg q]
  have e7 : ∀ j, addW G l d t 7 j = if j = (G 0 5) then d else G 7 j := fun j => by
    unfold addW; rw [up_b _ _ _ _ (by decide), up_b _ _ _ _ (by decide)]
    by_cases q : j = (G 0 5)
    · rw [q, up_s, if_pos rfl]
    · rw [up_j _ _ _ q, if_neg q, up_b _ _ _ _ (by decide)]
  have e8 : ∀ j, addW G l d t 8 j = if j = (G 0 5) then t else G 8 j := fun j => by
    unfold addW; rw [up_b _ _ _ _ (by decide)]
    by_cases q : j = (G 0 5)
    · rw [q, up_s, if_pos rfl]
    · rw [up_j _ _ _ q, if_neg q, up_b _ _ _ _ (by decide), up_b _ _ _ _ (by decide)]
  have a0 := ej 0 (by decide); have a1 := ej 1 (by decide); have a2 := ej 2 (by decide); have a3 := ej 3 (by decide); have a4 := ej 4 (by decide); have a6 := ej 6 (by decide); have a7 := ej 7 (by decide)
  refine ⟨hw.mono ?_ ?_ ?_ (fun j => er 2 j (by decide) (by decide) (by decide) (by decide)) (fun j => er 3 j (by decide) (by decide) (by decide) (by decide)) (fun j => er 4 j (by decide) (by decide) (by decide) (by decide)) a2 a3 (fun p p0 p1 => ?_) (fun w w0 w1 => ?_) (fun c c0 c1 => ?_), by rw [a4]; exact h4, fun j j0 j1 => ?_, fun j j0 j1 => ?_⟩
  · unfold wfN; rw [e0, a0, a1, a2, a3, a6, a7]; omega
  · rw [a0]; omega
  · rw [a1]; omega
  · rw [er 5 p (by decide) (by decide) (by decide) (by decide)]; exact ⟨hw.S.1 p p0 p1, fun d d0 d1 hd => hd⟩
  · rw [e0] at w1; rw [e6, e7, e8, a0, a3]
    by_cases q : w = (G 0 5)
    · rw [if_pos q, if_pos q, if_pos q]; omega
    · rw [if_neg q, if_neg q, if_neg q]; have := hw.W w w0 (by omega); omega
  · rw [a1] at c1
    rw [er 1 c (by decide) (by decide) (by decide) (by decide)]; exact hw.C c c0 c1
  · rw [a0] at j1; rw [er 9 j (by decide) (by decide) (by decide) (by decide)]; exact h9 j j0 j1
  · rw [a1] at j1; rw [er 10 j (by decide) (by decide) (by decide) (by decide)]; exact h10 j j0 j1
theorem addS_W {G : Lnd} {l d : Int} (h : pW G) (hS : G 0 4 < 8) (l0 : 0 ≤ l) (l1 : l < (G 0 0)) (d0 : 0 ≤ d) (d1 : d < (G 0 3)) : pW (addS G l d) := by
  obtain ⟨hw, h4, h9, h10⟩ := h
  have hN := hw.N; unfold wfN at hN
  have e0 : addS G l d 0 4 = G 0 4 + 1 := up_s _ _ _ _
  have ej : ∀ j, j ≠ 4 → addS G l d 0 j = G 0 j := fun j hj => by unfold addS; rw [up_j _ _ _ hj, up_b _ _ _ _ (by decide), up_b _ _ _ _ (by decide), up_b _ _ _ _ (by decide)]
  have er : ∀ b j, b ≠ 0 → b ≠ 5 → b ≠ 11 → addS G l d b j = G b j := fun b j a1 a2 a3 => by unfold addS; rw [up_b _ _ _ _ a1, up_b _ _ _ _ a3, up_b _ _ _ _ a3, up_b _ _ _ _ a2]
  have e5 : ∀ j, addS G l d 5 j = if j = l then oBit ((G 5 l)) d else G 5 j := fun j => by
    unfold addS; rw [up_b _ _ _ _ (by decide), up_b _ _ _ _ (by decide), up_b _ _ _ _ (by decide)]
    by_cases q : j = l
    · rw [q, up_s, if_pos rfl]
    · rw [up_j _ _ _ q, if_neg q]
  have a0 := ej 0 (by decide); have a1 := ej 1 (by decide); have a2 := ej 2 (by decide); have a3 := ej 3 (by decide); have a5 := ej 5 (by decide); have a6 := ej 6 (by decide); have a7 := ej 7 (by decide)
  refine ⟨hw.mono ?_ ?_ ?_ (fun j => er 2 j (by decide) (by decide) (by decide)) (fun j => er 3 j (by decide) (by decide) (by decide)) (fun j => er 4 j (by decide) (by decide) (by decide)) a2 a3 (fun p p0 p1 => ?_) (fun w w0 w1 => ?_) (fun c c0 c1 => ?_), by rw [e0]; omega, fun j j0 j1 => ?_, fun j j0 j1 => ?_⟩
  · unfold wfN; rw [a0, a1, a2, a3, a5, a6, a7]; omega
  · rw [a0]; omega
  · rw [a1]; omega
  · rw [e5]
    by_cases q : p = l
    · rw [if_pos q]
      have s := hw.S.1 l (by omega) (by omega)
      refine ⟨⟨(oBit_rng _ _).1, oBit_lt s.1 s.2 d0 d1 hN.2.2.2.1.1 hN.2.2.2.1.2⟩, fun e e0 e1 he => ?_⟩
      rw [bt_oBit d0 (by omega) e0 e1, if_pos]; rw [q] at he; exact Or.inl he
    · rw [if_neg q]; exact ⟨hw.S.1 p p0 p1, fun d d0 d1 hd => hd⟩
  · rw [a5] at w1
    rw [er 6 w (by decide) (by decide) (by decide), er 7 w (by decide) (by decide) (by decide), er 8 w (by decide) (by decide) (by decide), a0, a3]
    have := hw.W w w0 w1; omega
  · rw [a1] at c1
    rw [er 1 c (by decide) (by decide) (by decide)]; exact hw.C c c0 c1
  · rw [a0] at j1; rw [er 9 j (by decide) (by decide) (by decide)]; exact h9 j j0 j1
  · rw [a1] at j1; rw [er 10 j (by decide) (by decide) (by decide)]; exact h10 j j0 j1
theorem setE_W {G : Lnd} {p x : Int} (h : pW G) (hx : x = 6 ∨ x = 7) (p0 : 0 ≤ p) (p1 : p < (G 0 0)) : pW (up_ G 0 x p) := by
  obtain ⟨hw, h4, h9, h10⟩ := h
  have hN := hw.N; unfold wfN at hN
  have ej : ∀ j, j ≠ x → up_ G 0 x p 0 j = G 0 j := fun j hj => up_j _ _ _ hj
  have er : ∀ b j, b ≠ 0 → up_ G 0 x p b j = G b j := fun b j a1 => up_b _ _ _ _ a1
  have a0 := ej 0 (by omega); have a1 := ej 1 (by omega); have a2 := ej 2 (by omega); have a3 := ej 3 (by omega); have a4 := ej 4 (by omega); have a5 := ej 5 (by omega)
  have hse : (-1 ≤ up_ G 0 x p 0 6 ∧ up_ G 0 x p 0 6 < (G 0 0)) ∧ (-1 ≤ up_ G 0 x p 0 7 ∧ up_ G 0 x p 0 7 < (G 0 0)) := by
    rcases hx with q | q
    · subst q; rw [up_s, ej 7 (by decide)]; omega
    · subst q; rw [up_s, ej 6 (by decide)]; omega
  refine ⟨hw.mono ?_ ?_ ?_ (fun j => er 2 j (by decide)) (fun j => er 3 j (by decide)) (fun j => er 4 j (by decide)) a2 a3 (fun p p0 p1 => ?_) (fun w w0 w1 => ?_) (fun c c0 c1 => ?_), by rw [a4]; exact h4, fun j j0 j1 => ?_, fun j j0 j1 => ?_⟩
  · unfold wfN; rw [a0, a1, a2, a3, a5]; omega
  · rw [a0]; omega
  · rw [a1]; omega
  · rw [er 5 _ (by decide)]; exact ⟨hw.S.1 p p0 p1, fun d d0 d1 hd => hd⟩
  · rw [a5] at w1
    rw [er 6 w (by decide), er 7 w (by decide), er 8 w (by decide), a0, a3]
    have := hw.W w w0 w1; omega
  · rw [a1] at c1
    rw [er 1 c (by decide)]; exact hw.C c c0 c1
  · rw [a0] at j1; rw [er 9 j (by decide)]; exact h9 j j0 j1
  · rw [a1] at j1; rw [er 10 j (by decide)]; exact h10 j j0 j1

/-- a road more -/
def addD (G : Lnd) (p q : Int) : Lnd := up_ (up_ (up_ (up_ G 3 ((G 0 3)) ((G 0 2))) 5 p (oBit ((G 5 p)) ((G 0 3)))) 5 q (oBit ((G 5 q)) ((G 0 3)))) 0 3 ((G 0 3) + 1)
def addL (G : Lnd) (p q h d c w m : Int) : Lnd := up_ (up_ (up_ (up_ (up_ (up_ (up_ (up_ (up_ (up_ G 2 ((G 0 2) * 7 + 0) p) 2 ((G 0 2) * 7 + 1) q) 2 ((G 0 2) * 7 + 2) h) 2 ((G 0 2) * 7 + 3) d) 2 ((G 0 2) * 7 + 4) c) 2 ((G 0 2) * 7 + 5) w) 2 ((G 0 2) * 7 + 6) m) 4 (p * 10 + q) ((G 0 2))) 4 (q * 10 + p) ((G 0 2))) 0 2 ((G 0 2) + 1)
def addR (G : Lnd) (p q h d c w : Int) : Lnd := if 0 < d ∨ 0 ≤ c then addL (addD G p q) p q h d c w ((G 0 3)) else addL G p q h d c w (-1)
theorem addL_0 (G : Lnd) (p q h d c w m j : Int) : addL G p q h d c w m 0 j = if j = 2 then (G 0 2) + 1 else G 0 j := by
  unfold addL
  by_cases g : j = 2
  · rw [g, up_s, if_pos rfl]
  · rw [up_j _ _ _ g, if_neg g]; repeat rw [up_b _ _ _ _ (by decide)]
theorem addL_2 (G : Lnd) (p q h d c w m j : Int) : addL G p q h d c w m 2 j = if j = (G 0 2) * 7 + 6 then m else if j = (G 0 2) * 7 + 5 then w else if j = (G 0 2) * 7 + 4 then c else if j = (G 0 2) * 7 + 3 then d else if j = (G 0 2) * 7 + 2 then h else if j = (G 0 2) * 7 + 1 then q else if j = (G 0 2) * 7 + 0 then p else G 2 j := by
  unfold addL
  rw [up_b _ _ _ _ (by decide), up_b _ _ _ _ (by decide), up_b _ _ _ _ (by decide)]
  unfold up_
  simp only [true_and]
theorem addL_4 (G : Lnd) (p q h d c w m j : Int) : addL G p q h d c w m 4 j = if j = q * 10 + p ∨ j = p * 10 + q then (G 0 2) else G 4 j := by
  unfold addL
  rw [up_b _ _ _ _ (by decide)]
  by_cases g : j = q * 10 + p
  · rw [g, up_s, if_pos (Or.inl rfl)]
  · rw [up_j _ _ _ g]
    by_cases g2 : j = p * 10 + q
    · rw [g2, up_s, if_pos (Or.inr rfl)]
    · rw [up_j _ _ _ g2, if_neg (fun x => by rcases x with x | x; exact g x; exact g2 x)]; repeat rw [up_b _ _ _ _ (by decide)]
theorem addL_r (G : Lnd) (p q h d c w m : Int) {b : Int} (j : Int) (h0 : b ≠ 0) (h2 : b ≠ 2) (h4 : b ≠ 4) : addL G p q h d c w m b j = G b j := by
  unfold addL
  rw [up_b _ _ _ _ h0, up_b _ _ _ _ h4, up_b _ _ _ _ h4, up_b _ _ _ _ h2, up_b _ _ _ _ h2, up_b _ _ _ _ h2, up_b _ _ _ _ h2, up_b _ _ _ _ h2, up_b _ _ _ _ h2, up_b _ _ _ _ h2]
theorem addD_0 (G : Lnd) (p q j : Int) : addD G p q 0 j = if j = 3 then (G 0 3) + 1 else G 0 j := by
  unfold addD
  by_cases g : j = 3
  · rw [g, up_s, if_pos rfl]
  · rw [up_j _ _ _ g, if_neg g]; repeat rw [up_b _ _ _ _ (by decide)]
theorem addD_3 (G : Lnd) (p q j : Int) : addD G p q 3 j = if j = (G 0 3) then (G 0 2) else G 3 j := by
  unfold addD
  rw [up_b _ _ _ _ (by decide), up_b _ _ _ _ (by decide), up_b _ _ _ _ (by decide)]
  by_cases g : j = (G 0 3)
  · rw [g, up_s, if_pos rfl]
  · rw [up_j _ _ _ g, if_neg g]
theorem addD_5 (G : Lnd) (p q j : Int) : addD G p q 5 j = if j = q ∨ j = p then oBit ((G 5 j)) ((G 0 3)) else G 5 j := by
  unfold addD
  rw [up_b _ _ _ _ (by decide)]
  by_cases g : j = q
  · rw [g, up_s, if_pos (Or.inl rfl)]
  · rw [up_j _ _ _ g]
    by_cases g2 : j = p
    · rw [g2, up_s, if_pos (Or.inr rfl)]
    · rw [up_j _ _ _ g2, if_neg (fun x => by rcases x with x | x; exact g x; exact g2 x), up_b _ _ _ _ (by decide)]
theorem addD_r (G : Lnd) (p q : Int) {b : Int} (j : Int) (h0 : b ≠ 0) (h3 : b ≠ 3) (h5 : b ≠ 5) : addD G p q b j = G b j := by
  unfold addD
  rw [up_b _ _ _ _ h0, up_b _ _ _ _ h5, up_b _ _ _ _ h5, up_b _ _ _ _ h3]
theorem addD_R (G : Lnd) (p q : Int) : addD G p q 0 2 = G 0 2 := by rw [addD_0]; rfl
theorem p2_mo {i d : Int} (i0 : 0 ≤ i) (h : i ≤ d) (d6 : d ≤ 6) : p2_ i ≤ p2_ d := by
  obtain ⟨m, rfl, hm⟩ := nat_of i0 (show i < 7 by omega)
  obtain ⟨k, rfl, hk⟩ := nat_of (a := d) (by omega) (show d < 7 by omega)
  have key : ∀ k < 7, ∀ m < 7, Int.ofNat m ≤ Int.ofNat k → p2_ (Int.ofNat m) ≤ p2_ (Int.ofNat k) := by decide +kernel
  exact key k hk m hm h
/-- the road's facts, all rows -/
theorem addR_0 {G : Lnd} {p q h d c w j : Int} : addR G p q h d c w 0 j = if j = 2 then (G 0 2) + 1 else if j = 3 ∧ (0 < d ∨ 0 ≤ c) then (G 0 3) + 1 else G 0 j := by
  unfold addR
  by_cases g : 0 < d ∨ 0 ≤ c
  · rw [if_pos g, addL_0, addD_R, addD_0]
    by_cases g2 : j = 2
    · rw [if_pos g2, if_pos g2]
    · rw [if_neg g2, if_neg g2]
      by_cases g3 : j = 3
      · rw [if_pos g3, if_pos ⟨g3, g⟩]
      · rw [if_neg g3, if_neg (fun x => g3 x.1)]
  · rw [if_neg g, addL_0, if_neg (c := j = 3 ∧ (0 < d ∨ 0 ≤ c)) (fun x => g x.2)]
theorem addR_2 {G : Lnd} {p q h d c w j : Int} : addR G p q h d c w 2 j = if j = (G 0 2) * 7 + 6 then (if 0 < d ∨ 0 ≤ c then (G 0 3) else -1) else if j = (G 0 2) * 7 + 5 then w else if j = (G 0 2) * 7 + 4 then c else if j = (G 0 2) * 7 + 3 then d else if j = (G 0 2) * 7 + 2 then h else if j = (G 0 2) * 7 + 1 then q else if j = (G 0 2) * 7 + 0 then p else G 2 j := by
  unfold addR
  by_cases g : 0 < d ∨ 0 ≤ c
  · rw [if_pos g, addL_2, addD_R, addD_r _ _ _ _ (by decide) (by decide) (by decide), if_pos g]
  · rw [if_neg g, addL_2, if_neg g]
theorem addR_3 {G : Lnd} {p q h d c w j : Int} : addR G p q h d c w 3 j = if j = (G 0 3) ∧ (0 < d ∨ 0 ≤ c) then (G 0 2) else G 3 j := by
  unfold addR
  by_cases g : 0 < d ∨ 0 ≤ c
  · rw [if_pos g, addL_r _ _ _ _ _ _ _ _ _ (by decide) (by decide) (by decide), addD_3]
    by_cases g3 : j = (G 0 3)
    · rw [if_pos g3, if_pos ⟨g3, g⟩]
    · rw [if_neg g3, if_neg (fun x => g3 x.1)]
  · rw [if_neg g, addL_r _ _ _ _ _ _ _ _ _ (by decide) (by decide) (by decide), if_neg (fun x => g x.2)]
theorem addR_4 {G : Lnd} {p q h d c w j : Int} : addR G p q h d c w 4 j = if j = q * 10 + p ∨ j = p * 10 + q then (G 0 2) else G 4 j := by
  unfold addR
  by_cases g : 0 < d ∨ 0 ≤ c
  · rw [if_pos g, addL_4, addD_R, addD_r _ _ _ _ (by decide) (by decide) (by decide)]
  · rw [if_neg g, addL_4]
theorem addR_5 {G : Lnd} {p q h d c w j : Int} : addR G p q h d c w 5 j = if (j = q ∨ j = p) ∧ (0 < d ∨ 0 ≤ c) then oBit ((G 5 j)) ((G 0 3)) else G 5 j := by
  unfold addR
  by_cases g : 0 < d ∨ 0 ≤ c
  · rw [if_pos g, addL_r _ _ _ _ _ _ _ _ _ (by decide) (by decide) (by decide), addD_5]
    by_cases g3 : j = q ∨ j = p
    · rw [if_pos g3, if_pos ⟨g3, g⟩]
    · rw [if_neg g3, if_neg (fun x => g3 x.1)]
  · rw [if_neg g, addL_r _ _ _ _ _ _ _ _ _ (by decide) (by decide) (by decide), if_neg (fun x => g x.2)]
theorem addR_r {G : Lnd} {p q h d c w b j : Int} (h0 : b ≠ 0) (h2 : b ≠ 2) (h3 : b ≠ 3) (h4 : b ≠ 4) (h5 : b ≠ 5) : addR G p q h d c w b j = G b j := by
  unfold addR
  by_cases g : 0 < d ∨ 0 ≤ c
  · rw [if_pos g, addL_r _ _ _ _ _ _ _ _ _ h0 h2 h4, addD_r _ _ _ _ h0 h3 h5]
  · rw [if_neg g, addL_r _ _ _ _ _ _ _ _ _ h0 h2 h4]
theorem addR_W {G : Lnd} {p q h d c w : Int} (hp : pW G) (hR : (G 0 2) < 24) (hD : (0 < d ∨ 0 ≤ c) → (G 0 3) < 6) (p0 : 0 ≤ p) (p1 : p < (G 0 0)) (q0 : 0 ≤ q) (q1 : q < (G 0 0)) (hpq : p ≠ q) (hb : (G 4 (p * 10 + q)) < 0) (h0 : 1 ≤ h) (h1 : h ≤ 99) (d0 : 0 ≤ d) (d1 : d ≤ 9) (c0 : -1 ≤ c) (c1 : c < (G 0 1)) (w0 : 0 ≤ w) (w1 : w ≤ 99) (hw0 : ¬ (0 < d ∨ 0 ≤ c) → w = 0) : pW (addR G p q h d c w) := by
  obtain ⟨hw, h4, h9, h10⟩ := hp
  have hN := hw.N; unfold wfN at hN
  have hb2 : (G 4 (q * 10 + p)) < 0 := by
    have a := hw.B.1 q p q0 (by omega) p0 (by omega)
    rcases a with a | ⟨a0, a1, a2⟩
    · omega
    · have b := hw.B.2 _ a0 a1
      rcases a2 with ⟨x, y⟩ | ⟨x, y⟩
      · rw [x, y] at b; omega
      · rw [x, y] at b; omega
  have eN : ∀ j, j ≠ 2 → j ≠ 3 → addR G p q h d c w 0 j = G 0 j := fun j j2 j3 => by rw [addR_0, if_neg j2, if_neg (fun x => j3 x.1)]
  have a0 := eN 0 (by decide) (by decide); have a1 := eN 1 (by decide) (by decide); have a4 := eN 4 (by decide) (by decide); have a5 := eN 5 (by decide) (by decide); have a6 := eN 6 (by decide) (by decide); have a7 := eN 7 (by decide) (by decide)
  have a2 : ((addR G p q h d c w) 0 2) = (G 0 2) + 1 := by rw [addR_0, if_pos rfl]
  have a3 : ((addR G p q h d c w) 0 3) = if 0 < d ∨ 0 ≤ c then (G 0 3) + 1 else (G 0 3) := by
    rw [addR_0, if_neg (by decide)]
    by_cases g : 0 < d ∨ 0 ≤ c
    · rw [if_pos ⟨rfl, g⟩, if_pos g]
    · rw [if_neg (fun x => g x.2), if_neg g]
  have a3' : (G 0 3) ≤ ((addR G p q h d c w) 0 3) ∧ ((addR G p q h d c w) 0 3) ≤ 6 ∧ ((addR G p q h d c w) 0 3) ≤ (G 0 3) + 1 ∧ ((0 < d ∨ 0 ≤ c) → ((addR G p q h d c w) 0 3) = (G 0 3) + 1) := by
    rw [a3]
    by_cases g : 0 < d ∨ 0 ≤ c
    · rw [if_pos g]; have := hD g; omega
    · rw [if_neg g]; refine ⟨by omega, by omega, by omega, fun x => absurd x g⟩
  have eo : ∀ r f, 0 ≤ r → r < (G 0 2) → 0 ≤ f → f < 7 → ((addR G p q h d c w) 2 (r * 7 + f)) = (G 2 (r * 7 + f)) := fun r f r0 r1 f0 f1 => by
    rw [addR_2, if_neg (by omega), if_neg (by omega), if_neg (by omega), if_neg (by omega), if_neg (by omega), if_neg (by omega), if_neg (by omega)]
  have n0 : ((addR G p q h d c w) 2 (((G 0 2)) * 7 + 0)) = p := by rw [addR_2, if_neg (by omega), if_neg (by omega), if_neg (by omega), if_neg (by omega), if_neg (by omega), if_neg (by omega), if_pos rfl]
  have n1 : ((addR G p q h d c w) 2 (((G 0 2)) * 7 + 1)) = q := by rw [addR_2, if_neg (by omega), if_neg (by omega), if_neg (by omega), if_neg (by omega), if_neg (by omega), if_pos rfl]
  have n2 : ((addR G p q h d c w) 2 (((G 0 2)) * 7 + 2)) = h := by rw [addR_2, if_neg (by omega), if_neg (by omega), if_neg (by omega), if_neg (by omega), if_pos rfl]
  have n3 : ((addR G p q h d c w) 2 (((G 0 2)) * 7 + 3)) = d := by rw [addR_2, if_neg (by omega), if_neg (by omega), if_neg (by omega), if_pos rfl]
  have n4 : ((addR G p q h d c w) 2 (((G 0 2)) * 7 + 4)) = c := by rw [addR_2, if_neg (by omega), if_neg (by omega), if_pos rfl]
  have n5 : ((addR G p q h d c w) 2 (((G 0 2)) * 7 + 5)) = w := by rw [addR_2, if_neg (by omega), if_pos rfl]
  have n6 : ((addR G p q h d c w) 2 (((G 0 2)) * 7 + 6)) = if 0 < d ∨ 0 ≤ c then (G 0 3) else -1 := by rw [addR_2, if_pos rfl]
  have sR : ∀ x d', 0 ≤ x → x < 10 → 0 ≤ d' → d' < 6 → bt ((G 5 x)) d' = 1 → bt (((addR G p q h d c w) 5 x)) d' = 1 := fun x d' x0 x1 d0' d1' hx => by
    rw [addR_5]
    by_cases g : (x = q ∨ x = p) ∧ (0 < d ∨ 0 ≤ c)
    · rw [if_pos g, bt_oBit hN.2.2.2.1.1 (by have := hD g.2; omega) d0' d1', if_pos (Or.inl hx)]
    · rw [if_neg g]; exact hx
  refine ⟨⟨?_, fun r r0 r1 => ?_, fun e e0 e1 => ?_, ⟨fun x y x0 x1 y0 y1 => ?_, fun r r0 r1 => ?_⟩, ⟨fun x x0 x1 => ?_, fun r r0 r1 hd => ?_⟩, fun e e0 e1 => ?_, fun e e0 e1 => ?_⟩, by rw [a4]; exact h4, fun j j0 j1 => ?_, fun j j0 j1 => ?_⟩
  · unfold wfN; rw [a0, a1, a2, a5, a6, a7]; omega
  · rw [a2] at r1
    rw [a0, a1]
    by_cases g : r = (G 0 2)
    · rw [g, n0, n1, n2, n3, n4, n5, n6]
      refine ⟨by omega, by omega, hpq, by omega, by omega, by omega, by omega, ?_, ?_, ?_⟩
      · by_cases x : 0 < d ∨ 0 ≤ c
        · rw [if_pos x, a3'.2.2.2 x]; omega
        · rw [if_neg x]; omega
      · by_cases x : 0 < d ∨ 0 ≤ c
        · rw [if_pos x]; exact ⟨fun _ => x, fun _ => hN.2.2.2.1.1⟩
        · rw [if_neg x]; exact ⟨fun y => by omega, fun y => absurd y x⟩
      · intro y
        refine hw0 (fun x => ?_)
        rw [if_pos x] at y; omega
    · have r1' : r < (G 0 2) := by omega
      rw [eo r 0 r0 r1' (by decide) (by decide), eo r 1 r0 r1' (by decide) (by decide), eo r 2 r0 r1' (by decide) (by decide), eo r 3 r0 r1' (by decide) (by decide), eo r 4 r0 r1' (by decide) (by decide), eo r 5 r0 r1' (by decide) (by decide), eo r 6 r0 r1' (by decide) (by decide)]
      have := hw.R r r0 r1'
      omega
  · rw [addR_3, a2]
    by_cases g : e = (G 0 3) ∧ (0 < d ∨ 0 ≤ c)
    · rw [if_pos g, n6, if_pos g.2]; omega
    · rw [if_neg g]
      have e1' : e < (G 0 3) := by
        rw [a3] at e1
        by_cases x : 0 < d ∨ 0 ≤ c
        · rw [if_pos x] at e1
          by_cases y : e = (G 0 3)
          · exact absurd ⟨y, x⟩ g
          · omega
        · rw [if_neg x] at e1; exact e1
      have k := hw.D e e0 e1'
      rw [eo _ 6 k.1 k.2.1 (by decide) (by decide)]
      exact ⟨k.1, by omega, k.2.2⟩
  · rw [addR_4, a2]
    by_cases g : x * 10 + y = q * 10 + p ∨ x * 10 + y = p * 10 + q
    · rw [if_pos g, n0, n1]
      refine Or.inr ⟨by omega, by omega, ?_⟩
      rcases g with g | g
      · exact Or.inr (by omega)
      · exact Or.inl (by omega)
    · rw [if_neg g]
      rcases hw.B.1 x y x0 x1 y0 y1 with k | ⟨k0, k1, k2⟩
      · exact Or.inl k
      · refine Or.inr ⟨k0, by omega, ?_⟩
        rw [eo _ 0 k0 k1 (by decide) (by decide), eo _ 1 k0 k1 (by decide) (by decide)]
        exact k2
  · rw [a2] at r1
    by_cases g : r = (G 0 2)
    · rw [g, n0, n1, addR_4, addR_4, if_pos (Or.inr rfl), if_pos (Or.inl rfl)]; exact ⟨rfl, rfl⟩
    · have r1' : r < (G 0 2) := by omega
      have k := hw.R r r0 r1'
      have kb := hw.B.2 r r0 r1'
      rw [eo r 0 r0 r1' (by decide) (by decide), eo r 1 r0 r1' (by decide) (by decide), addR_4, addR_4]
      have u1 : ¬ ((G 2 (r * 7 + 0)) * 10 + (G 2 (r * 7 + 1)) = q * 10 + p ∨ (G 2 (r * 7 + 0)) * 10 + (G 2 (r * 7 + 1)) = p * 10 + q) := by
        intro z
        rcases z with z | z
        · rw [z] at kb; omega
        · rw [z] at kb; omega
      have u2 : ¬ ((G 2 (r * 7 + 1)) * 10 + (G 2 (r * 7 + 0)) = q * 10 + p ∨ (G 2 (r * 7 + 1)) * 10 + (G 2 (r * 7 + 0)) = p * 10 + q) := by
        intro z
        rcases z with z | z
        · rw [z] at kb; omega
        · rw [z] at kb; omega
      rw [if_neg u1, if_neg u2]; exact kb
  · rw [addR_5]
    have s := hw.S.1 x x0 x1
    by_cases g : (x = q ∨ x = p) ∧ (0 < d ∨ 0 ≤ c)
    · rw [if_pos g, a3'.2.2.2 g.2]
      refine ⟨(oBit_rng _ _).1, oBit_lt s.1 ?_ hN.2.2.2.1.1 (by omega) (by omega) (by have := hD g.2; omega)⟩
      have := p2_mo (i := (G 0 3)) (d := (G 0 3) + 1) hN.2.2.2.1.1 (by omega) (by have := hD g.2; omega)
      omega
    · rw [if_neg g]
      refine ⟨s.1, ?_⟩
      by_cases x : ((addR G p q h d c w) 0 3) = (G 0 3)
      · rw [x]; exact s.2
      · have := p2_mo (i := (G 0 3)) (d := ((addR G p q h d c w) 0 3)) hN.2.2.2.1.1 (by omega) (by omega)
        omega
  · rw [a2] at r1
    by_cases g : r = (G 0 2)
    · rw [g, n6] at hd
      rw [g, n0, n1, n6]
      have x : 0 < d ∨ 0 ≤ c := by
        by_cases x : 0 < d ∨ 0 ≤ c
        · exact x
        · rw [if_neg x] at hd; omega
      rw [if_pos x, addR_5, addR_5, if_pos ⟨Or.inr rfl, x⟩, if_pos ⟨Or.inl rfl, x⟩]
      have := hD x
      rw [bt_oBit hN.2.2.2.1.1 (by omega) hN.2.2.2.1.1 (by omega), bt_oBit hN.2.2.2.1.1 (by omega) hN.2.2.2.1.1 (by omega), if_pos (Or.inr rfl), if_pos (Or.inr rfl)]
      exact ⟨rfl, rfl⟩
    · have r1' : r < (G 0 2) := by omega
      rw [eo r 6 r0 r1' (by decide) (by decide)] at hd
      rw [eo r 0 r0 r1' (by decide) (by decide), eo r 1 r0 r1' (by decide) (by decide), eo r 6 r0 r1' (by decide) (by decide)]
      have k := hw.R r r0 r1'
      have s := hw.S.2 r r0 r1' hd
      exact ⟨sR _ _ (by omega) (by omega) (by omega) (by omega) s.1, sR _ _ (by omega) (by omega) (by omega) (by omega) s.2⟩
  · rw [a5] at e1
    rw [addR_r (b := 6) (by decide) (by decide) (by decide) (by decide) (by decide), addR_r (b := 7) (by decide) (by decide) (by decide) (by decide) (by decide), addR_r (b := 8) (by decide) (by decide) (by decide) (by decide) (by decide), a0]
    have := hw.W e e0 e1; omega
  · rw [a1] at e1
    rw [addR_r (b := 1) (by decide) (by decide) (by decide) (by decide) (by decide)]
    exact hw.C e e0 e1
  · rw [a0] at j1
    rw [addR_r (b := 9) (by decide) (by decide) (by decide) (by decide) (by decide)]
    exact h9 j j0 j1
  · rw [a1] at j1
    rw [addR_r (b := 10) (by decide) (by decide) (by decide) (by decide) (by decide)]
    exact h10 j j0 j1
