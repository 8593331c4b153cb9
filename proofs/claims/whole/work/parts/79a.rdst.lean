/-! THE REFERENCE: what is read, its state -/
def snA (G : Lnd) (p d : Int) : Prop := ∃ r : Int, 0 ≤ r ∧ r < (G 0 2) ∧ (G 2 (r * 7 + 6)) = d ∧ ((G 2 (r * 7 + 0)) = p ∨ (G 2 (r * 7 + 1)) = p)
def snB (G : Lnd) (p d : Int) : Prop := ∃ s : Int, 0 ≤ s ∧ s < G 0 4 ∧ G 11 (2 * s) = p ∧ G 11 (2 * s + 1) = d
/-- sights: what is seen from where, as the lines told it -/
def snI (G : Lnd) : Prop := (∀ p d, 0 ≤ p → p < 10 → 0 ≤ d → d < 6 → (bt ((G 5 p)) d = 1 ↔ (snA G p d ∨ snB G p d))) ∧ ∀ s, 0 ≤ s → s < G 0 4 → (0 ≤ G 11 (2 * s) ∧ G 11 (2 * s) < (G 0 0)) ∧ (0 ≤ G 11 (2 * s + 1) ∧ G 11 (2 * s + 1) < (G 0 3))
theorem snI.of {G H : Lnd} (h : snI G) (eR : (H 0 2) = (G 0 2)) (eS : H 0 4 = G 0 4) (hP : (G 0 0) ≤ (H 0 0)) (hD : (G 0 3) ≤ (H 0 3)) (e2 : ∀ j, H 2 j = G 2 j) (e5 : ∀ j, H 5 j = G 5 j) (e11 : ∀ j, H 11 j = G 11 j) : snI H := by
  obtain ⟨h1, h2⟩ := h
  refine ⟨fun p d p0 p1 d0 d1 => ?_, fun s s0 s1 => ?_⟩
  · have := h1 p d p0 p1 d0 d1
    rw [e5, this]
    unfold snA snB
    rw [eR, eS]
    constructor
    · intro q
      rcases q with ⟨r, r0, r1, r2, r3⟩ | ⟨s, s0, s1, s2, s3⟩
      · exact Or.inl ⟨r, r0, r1, by rw [e2]; exact r2, by rw [e2, e2]; exact r3⟩
      · exact Or.inr ⟨s, s0, s1, by rw [e11]; exact s2, by rw [e11]; exact s3⟩
    · intro q
      rcases q with ⟨r, r0, r1, r2, r3⟩ | ⟨s, s0, s1, s2, s3⟩
      · exact Or.inl ⟨r, r0, r1, by rw [e2] at r2; exact r2, by rw [e2, e2] at r3; exact r3⟩
      · exact Or.inr ⟨s, s0, s1, by rw [e11] at s2; exact s2, by rw [e11] at s3; exact s3⟩
  · rw [eS] at s1
    have := h2 s s0 s1
    rw [e11, e11]
    omega
theorem snI_0 {G : Lnd} (hp : pW G) (hz : emZ G) : snI G := by
  have hN := hp.1.N; unfold wfN at hN
  have h0 := hz.1
  have e2 := h0 2 (by decide) (by decide)
  have e3 := h0 3 (by decide) (by decide)
  have e4 := h0 4 (by decide) (by decide)
  refine ⟨fun p d p0 p1 d0 d1 => ?_, fun s s0 s1 => by rw [e4] at s1; omega⟩
  have hs := hp.1.S.1 p p0 p1
  rw [e3] at hs
  have hb := bt_hi (d := 0) hs.1 (by decide) hs.2 d0 d1
  rw [hb]
  constructor
  · intro q; exact absurd q (by decide)
  · intro q
    rcases q with ⟨r, r0, r1, -⟩ | ⟨s, s0, s1, -⟩
    · rw [e2] at r1; omega
    · rw [e4] at s1; omega
theorem snI_P {G : Lnd} (h : snI G) (v : Int) : snI (addP G v) := by
  refine h.of rfl rfl ?_ (Int.le_refl _) (fun j => rfl) (fun j => rfl) (fun j => rfl)
  show (G 0 0) ≤ (G 0 0) + 1
  omega
theorem snI_C {G : Lnd} (h : snI G) (v o : Int) : snI (addC G v o) := h.of rfl rfl (Int.le_refl _) (Int.le_refl _) (fun j => rfl) (fun j => rfl) (fun j => rfl)
theorem snI_W {G : Lnd} (h : snI G) (l d t : Int) : snI (addW G l d t) := h.of rfl rfl (Int.le_refl _) (Int.le_refl _) (fun j => rfl) (fun j => rfl) (fun j => rfl)
theorem snI_E {G : Lnd} (h : snI G) {x p : Int} (hx : x = 6 ∨ x = 7) : snI (up_ G 0 x p) := by
  have e : ∀ i, i ≠ x → up_ G 0 x p 0 i = G 0 i := fun i hi => up_j _ _ _ hi
  exact h.of (e 2 (by omega)) (e 4 (by omega)) (by rw [e 0 (by omega)]; exact Int.le_refl _) (by rw [e 3 (by omega)]; exact Int.le_refl _) (fun j => rfl) (fun j => rfl) (fun j => rfl)
theorem addS_0 {G : Lnd} {l d j : Int} : addS G l d 0 j = if j = 4 then G 0 4 + 1 else G 0 j := by
  unfold addS
  by_cases e : j = 4
  · rw [if_pos e, e, up_s]
  · rw [if_neg e, up_j _ _ _ e, up_b _ _ _ _ (by decide), up_b _ _ _ _ (by decide), up_b _ _ _ _ (by decide)]
theorem addS_5 {G : Lnd} {l d j : Int} : addS G l d 5 j = if j = l then oBit ((G 5 l)) d else G 5 j := by
  unfold addS
  rw [up_b _ _ _ _ (by decide), up_b _ _ _ _ (by decide), up_b _ _ _ _ (by decide)]
  unfold up_
  simp only [true_and]
theorem addS_11 {G : Lnd} {l d j : Int} : addS G l d 11 j = if j = 2 * G 0 4 + 1 then d else if j = 2 * G 0 4 then l else G 11 j := by
  unfold addS
  rw [up_b _ _ _ _ (by decide)]
  unfold up_
  simp only [true_and]
  split
  · rfl
  · split
    · rfl
    · exact if_neg (fun a => absurd a.1 (by decide))
theorem addS_r {G : Lnd} {l d b j : Int} (h0 : b ≠ 0) (h5 : b ≠ 5) (h11 : b ≠ 11) : addS G l d b j = G b j := by
  unfold addS
  rw [up_b _ _ _ _ h0, up_b _ _ _ _ h11, up_b _ _ _ _ h11, up_b _ _ _ _ h5]
theorem snI_S {G : Lnd} (hp : pW G) (h : snI G) {l d : Int} (l0 : 0 ≤ l) (l1 : l < (G 0 0)) (d0 : 0 ≤ d) (d1 : d < (G 0 3)) : snI (addS G l d) := by
  have hN := hp.1.N; unfold wfN at hN
  have h4 := hp.2.1
  obtain ⟨h1, h2⟩ := h
  have iA : ∀ p e, snA (addS G l d) p e ↔ snA G p e := fun p e => by
    unfold snA
    rw [addS_0, if_neg (by decide)]
    constructor
    · intro ⟨r, r0, r1, r2, r3⟩
      rw [addS_r (by decide) (by decide) (by decide)] at r2
      rw [addS_r (by decide) (by decide) (by decide), addS_r (by decide) (by decide) (by decide)] at r3
      exact ⟨r, r0, r1, r2, r3⟩
    · intro ⟨r, r0, r1, r2, r3⟩
      exact ⟨r, r0, r1, by rw [addS_r (by decide) (by decide) (by decide)]; exact r2, by rw [addS_r (by decide) (by decide) (by decide), addS_r (by decide) (by decide) (by decide)]; exact r3⟩
  have iB : ∀ p e, snB (addS G l d) p e ↔ (snB G p e ∨ (p = l ∧ e = d)) := fun p e => by
    unfold snB
    rw [addS_0, if_pos rfl]
    constructor
    · intro ⟨s, s0, s1, s2, s3⟩
      rw [addS_11] at s2 s3
      by_cases c : s = G 0 4
      · rw [if_neg (by omega), if_pos (by omega)] at s2
        rw [if_pos (by omega)] at s3
        exact Or.inr ⟨s2.symm, s3.symm⟩
      · rw [if_neg (by omega), if_neg (by omega)] at s2
        rw [if_neg (by omega), if_neg (by omega)] at s3
        exact Or.inl ⟨s, s0, by omega, s2, s3⟩
    · intro q
      rcases q with ⟨s, s0, s1, s2, s3⟩ | ⟨q1, q2⟩
      · refine ⟨s, s0, by omega, ?_, ?_⟩
        · rw [addS_11, if_neg (by omega), if_neg (by omega)]; exact s2
        · rw [addS_11, if_neg (by omega), if_neg (by omega)]; exact s3
      · refine ⟨G 0 4, h4.1, by omega, ?_, ?_⟩
        · rw [addS_11, if_neg (by omega), if_pos rfl]; exact q1.symm
        · rw [addS_11, if_pos rfl]; exact q2.symm
  refine ⟨fun p e p0 p1 e0 e1 => ?_, fun s s0 s1 => ?_⟩
  · rw [iA, iB, addS_5]
    have hq := h1 p e p0 p1 e0 e1
    by_cases c : p = l
    · subst c
      rw [if_pos rfl, bt_oBit d0 (by omega) e0 e1]
      constructor
      · intro z
        split at z
        · rename_i y
          rcases y with y | y
          · rcases hq.mp y with a | a
            · exact Or.inl a
            · exact Or.inr (Or.inl a)
          · exact Or.inr (Or.inr ⟨rfl, y⟩)
        · exact absurd z (by decide)
      · intro z
        refine if_pos ?_
        rcases z with a | a | ⟨-, a⟩
        · exact Or.inl (hq.mpr (Or.inl a))
        · exact Or.inl (hq.mpr (Or.inr a))
        · exact Or.inr a
    · rw [if_neg c, hq]
      constructor
      · intro z
        rcases z with a | a
        · exact Or.inl a
        · exact Or.inr (Or.inl a)
      · intro z
        rcases z with a | a | ⟨a, -⟩
        · exact Or.inl a
        · exact Or.inr a
        · exact absurd a c
  · rw [addS_0, if_pos rfl] at s1
    rw [addS_11, addS_11, addS_0, addS_0, if_neg (show ¬ (0 : Int) = 4 by decide), if_neg (show ¬ (3 : Int) = 4 by decide)]
    by_cases c : s = G 0 4
    · rw [if_neg (by omega), if_pos (by omega), if_pos (by omega)]; omega
    · rw [if_neg (by omega), if_neg (by omega), if_neg (by omega), if_neg (by omega)]; exact h2 s s0 (by omega)
theorem snI_R {G : Lnd} (hp : pW G) (h : snI G) {p q t d c w : Int} (hD : (0 < d ∨ 0 ≤ c) → (G 0 3) < 6) (p0 : 0 ≤ p) (p1 : p < (G 0 0)) (q0 : 0 ≤ q) (q1 : q < (G 0 0)) : snI (addR G p q t d c w) := by
  have hw := hp.1
  have hN := hw.N; unfold wfN at hN
  have h4 := hp.2.1
  obtain ⟨h1, h2⟩ := h
  have fld : ∀ r f, 0 ≤ r → r < (G 0 2) → 0 ≤ f → f < 7 → addR G p q t d c w 2 (r * 7 + f) = G 2 (r * 7 + f) := fun r f r0 r1 f0 f1 => by
    rw [addR_2, if_neg (by omega), if_neg (by omega), if_neg (by omega), if_neg (by omega), if_neg (by omega), if_neg (by omega), if_neg (by omega)]
  have n6 : addR G p q t d c w 2 ((G 0 2) * 7 + 6) = if 0 < d ∨ 0 ≤ c then (G 0 3) else -1 := by rw [addR_2, if_pos rfl]
  have n0 : addR G p q t d c w 2 ((G 0 2) * 7 + 0) = p := by
    rw [addR_2, if_neg (by omega), if_neg (by omega), if_neg (by omega), if_neg (by omega), if_neg (by omega), if_neg (by omega), if_pos rfl]
  have n1 : addR G p q t d c w 2 ((G 0 2) * 7 + 1) = q := by
    rw [addR_2, if_neg (by omega), if_neg (by omega), if_neg (by omega), if_neg (by omega), if_neg (by omega), if_pos rfl]
  have eR : addR G p q t d c w 0 2 = (G 0 2) + 1 := by rw [addR_0, if_pos rfl]
  have iA : ∀ x e, 0 ≤ e → (snA (addR G p q t d c w) x e ↔ (snA G x e ∨ ((0 < d ∨ 0 ≤ c) ∧ e = (G 0 3) ∧ (x = p ∨ x = q)))) := fun x e e0 => by
    unfold snA
    rw [eR]
    constructor
    · intro ⟨r, r0, r1, r2, r3⟩
      by_cases z : r = (G 0 2)
      · subst z
        rw [n6] at r2
        rw [n0, n1] at r3
        split at r2
        · rename_i y; exact Or.inr ⟨y, by omega, by omega⟩
        · omega
      · rw [fld r 6 r0 (by omega) (by decide) (by decide)] at r2
        rw [fld r 0 r0 (by omega) (by decide) (by decide), fld r 1 r0 (by omega) (by decide) (by decide)] at r3
        exact Or.inl ⟨r, r0, by omega, r2, r3⟩
    · intro y
      rcases y with ⟨r, r0, r1, r2, r3⟩ | ⟨y1, y2, y3⟩
      · exact ⟨r, r0, by omega, by rw [fld r 6 r0 r1 (by decide) (by decide)]; exact r2, by rw [fld r 0 r0 r1 (by decide) (by decide), fld r 1 r0 r1 (by decide) (by decide)]; exact r3⟩
      · exact ⟨(G 0 2), by omega, by omega, by rw [n6, if_pos y1]; exact y2.symm, by rw [n0, n1]; omega⟩
  have iB : ∀ x e, snB (addR G p q t d c w) x e ↔ snB G x e := fun x e => by
    unfold snB
    rw [addR_0, if_neg (by decide), if_neg (by omega)]
    constructor
    · intro ⟨s, s0, s1, s2, s3⟩
      rw [addR_r (by decide) (by decide) (by decide) (by decide) (by decide)] at s2 s3
      exact ⟨s, s0, s1, s2, s3⟩
    · intro ⟨s, s0, s1, s2, s3⟩
      exact ⟨s, s0, s1, by rw [addR_r (by decide) (by decide) (by decide) (by decide) (by decide)]; exact s2, by rw [addR_r (by decide) (by decide) (by decide) (by decide) (by decide)]; exact s3⟩
  refine ⟨fun x e x0 x1 e0 e1 => ?_, fun s s0 s1 => ?_⟩
  · rw [iA x e e0, iB, addR_5]
    have hq := h1 x e x0 x1 e0 e1
    by_cases z : (x = q ∨ x = p) ∧ (0 < d ∨ 0 ≤ c)
    · rw [if_pos z, bt_oBit (by omega) (hD z.2) e0 e1]
      constructor
      · intro y
        split at y
        · rename_i y2
          rcases y2 with y2 | y2
          · rcases hq.mp y2 with a | a
            · exact Or.inl (Or.inl a)
            · exact Or.inr a
          · exact Or.inl (Or.inr ⟨z.2, y2, z.1.symm⟩)
        · exact absurd y (by decide)
      · intro y
        refine if_pos ?_
        rcases y with (a | ⟨-, a, -⟩) | a
        · exact Or.inl (hq.mpr (Or.inl a))
        · exact Or.inr a
        · exact Or.inl (hq.mpr (Or.inr a))
    · rw [if_neg z, hq]
      constructor
      · intro y
        rcases y with a | a
        · exact Or.inl (Or.inl a)
        · exact Or.inr a
      · intro y
        rcases y with (a | ⟨a, -, b⟩) | a
        · exact Or.inl a
        · exact absurd ⟨b.symm, a⟩ z
        · exact Or.inr a
  · rw [addR_0, if_neg (by decide), if_neg (by omega)] at s1
    have := h2 s s0 s1
    have e11 : ∀ j, addR G p q t d c w 11 j = G 11 j := fun j => addR_r (by decide) (by decide) (by decide) (by decide) (by decide)
    have e00 : addR G p q t d c w 0 0 = G 0 0 := by rw [addR_0, if_neg (by decide), if_neg (by omega)]
    have e03 : addR G p q t d c w 0 3 = if 0 < d ∨ 0 ≤ c then (G 0 3) + 1 else (G 0 3) := by
      rw [addR_0, if_neg (by decide)]
      by_cases z : 0 < d ∨ 0 ≤ c
      · rw [if_pos z, if_pos ⟨rfl, z⟩]
      · rw [if_neg z, if_neg (fun y => z y.2)]
    rw [e11, e11, e00, e03]
    split <;> omega
/-- the reference's draft holds the land G -/
def rdG (G : Lnd) (M : aM) : Prop := (∀ j, 0 ≤ j → j < 8 → M 89 (8 + j) = G 0 j) ∧ (∀ i, 0 ≤ i → i < (G 0 0) → nmR (G 9 i) (M 90 (10 + i))) ∧ (∀ i, 0 ≤ i → i < (G 0 1) → nmR (G 10 i) (M 91 (2 + i)) ∧ M 92 (2 + i) = G 1 i) ∧ (∀ r f, 0 ≤ r → r < (G 0 2) → 0 ≤ f → f < 7 → M 93 (168 + 7 * r + f) = (G 2 (r * 7 + f))) ∧ (∀ d, 0 ≤ d → d < (G 0 3) → M 94 (6 + d) = G 3 d) ∧ (∀ s, 0 ≤ s → s < G 0 4 → M 95 (16 + 2 * s) = G 11 (2 * s) ∧ M 95 (16 + 2 * s + 1) = G 11 (2 * s + 1)) ∧ ∀ w, 0 ≤ w → w < (G 0 5) → M 96 (18 + 3 * w) = G 6 w ∧ M 96 (18 + 3 * w + 1) = G 7 w ∧ M 96 (18 + 3 * w + 2) = G 8 w
theorem rdG.of {G : Lnd} {M N : aM} (h : rdG G M) (e : ∀ b j, (b = 89 ∧ 8 ≤ j) ∨ b = 90 ∨ b = 91 ∨ (b = 92 ∧ 2 ≤ j) ∨ (b = 93 ∧ 168 ≤ j) ∨ (b = 94 ∧ 6 ≤ j) ∨ b = 95 ∨ (b = 96 ∧ 18 ≤ j) → N b j = M b j) : rdG G N := by
  obtain ⟨a, b, c, d, f, g, i⟩ := h
  exact ⟨fun j j0 j1 => by rw [e _ _ (by omega)]; exact a j j0 j1, fun j j0 j1 => by rw [e _ _ (by omega)]; exact b j j0 j1, fun j j0 j1 => by rw [e 91 _ (by omega), e 92 _ (by omega)]; exact c j j0 j1, fun r f r0 r1 f0 f1 => by rw [e _ _ (by omega)]; exact d r f r0 r1 f0 f1, fun j j0 j1 => by rw [e _ _ (by omega)]; exact f j j0 j1, fun j j0 j1 => by rw [e 95 _ (by omega), e 95 _ (by omega)]; exact g j j0 j1, fun j j0 j1 => by rw [e 96 _ (by omega), e 96 _ (by omega), e 96 _ (by omega)]; exact i j j0 j1⟩
/-- the reference stands at token a and has read the land G -/
def rdR (tp : Int → Int) (n a : Int) (G : Lnd) (M : aM) : Prop := lxS tp n M ∧ rdA tp n a ∧ tkR tp n a M ∧ rdG G M ∧ pW G ∧ snI G ∧ (M 86 4 = 0 ∧ M 86 5 = -1)
def rdW (M : aM) (f e : Int) : Prop := M 86 4 = f ∧ M 86 5 = e
/-- what reading may change -/
def dfC (b j : Int) : Prop := (b = 86 ∧ (4 ≤ j ∧ j ≤ 10 ∨ j = 19)) ∨ (b = 89 ∧ 8 ≤ j) ∨ b = 90 ∨ b = 91 ∨ (b = 92 ∧ 2 ≤ j) ∨ (b = 93 ∧ 168 ≤ j) ∨ (b = 94 ∧ 6 ≤ j) ∨ b = 95 ∨ (b = 96 ∧ 18 ≤ j)
def frJ (M N : aM) : Prop := ∀ b j, ¬ dfC b j → N b j = M b j
theorem frJ_refl (M : aM) : frJ M M := fun _ _ _ => rfl
theorem frJ_tr {M N K : aM} (h1 : frJ M N) (h2 : frJ N K) : frJ M K := fun b j a => (h2 b j a).trans (h1 b j a)
theorem frJ_L {M N : aM} (h : frL M N) : frJ M N := fun b j c => h b j (fun q => c (by unfold dfC; omega))
theorem frJ_up {M : aM} {b i v : Int} (h : dfC b i) : frJ M (up_ M b i v) := fun x j c => by
  unfold up_
  refine if_neg (fun q => c ?_)
  rw [q.1, q.2]; exact h
theorem rdR.L {tp : Int → Int} {n a : Int} {G : Lnd} {M : aM} (h : rdR tp n a G M) : lxS tp n M := h.1
theorem rdR.A {tp : Int → Int} {n a : Int} {G : Lnd} {M : aM} (h : rdR tp n a G M) : rdA tp n a := h.2.1
theorem rdR.T {tp : Int → Int} {n a : Int} {G : Lnd} {M : aM} (h : rdR tp n a G M) : tkR tp n a M := h.2.2.1
theorem rdR.g {tp : Int → Int} {n a : Int} {G : Lnd} {M : aM} (h : rdR tp n a G M) : rdG G M := h.2.2.2.1
theorem rdR.p {tp : Int → Int} {n a : Int} {G : Lnd} {M : aM} (h : rdR tp n a G M) : pW G := h.2.2.2.2.1
theorem rdR.s {tp : Int → Int} {n a : Int} {G : Lnd} {M : aM} (h : rdR tp n a G M) : snI G := h.2.2.2.2.2.1
theorem rdR.z {tp : Int → Int} {n a : Int} {G : Lnd} {M : aM} (h : rdR tp n a G M) : M 86 4 = 0 ∧ M 86 5 = -1 := h.2.2.2.2.2.2
theorem kdR_rng (k : Int) : 0 ≤ kdR k ∧ kdR k ≤ 5 := by
  unfold kdR; split
  · decide
  · split
    · decide
    · split
      · decide
      · split
        · decide
        · split <;> decide
theorem u_wrong {M : aM} {W : aW} {Q : Int → aM → aW → Prop} {tp : Int → Int} {n a : Int} {G : Lnd} (hS : rdR tp n a G M) {f : Int} (h : ∀ N, frJ M N → rdW N f (tS tp n a) → Q 0 N W) : CallI 156 [vR 86, vI f] (M, W) Q := by
  have e : up_ M 86 4 f 86 10 = tS tp n a := by rw [up_j _ _ _ (by decide)]; exact hS.T.1
  refine e_X12_wrong _ _ _ _ ?_
  rw [e]
  exact h _ (frJ_tr (frJ_up (by unfold dfC; omega)) (frJ_up (by unfold dfC; omega))) ⟨by rw [up_j _ _ _ (by decide), up_s], up_s _ _ _ _⟩
theorem u_take {M : aM} {W : aW} {Q : aM → aW → Prop} {tp : Int → Int} {n a : Int} {G : Lnd} (hS : rdR tp n a G M) (ht : tK tp n a ≠ 13) (h : ∀ N, frL M N → rdR tp n (a + 1) G N → Q N W) : CallV 160 [vR 86] (M, W) Q := by
  have hn := hS.L.1
  have ha := hS.A.1
  have hr := tS_rng (tp := tp) hn.1 a
  have hx := nxF_le (tp := tp) (n := n) hr.2
  refine s_X12_take hS.L hS.T.2.1 (by omega) hx.2.1 (tS_s tp n ha) (fun N fN tN => h N fN ⟨fN.L hS.L, rdA_s hS.A ht, tN, hS.g.of (fun b j c => fN b j (by omega)), hS.p, hS.s, ⟨by rw [fN _ _ (by decide)]; exact hS.z.1, by rw [fN _ _ (by decide)]; exact hS.z.2⟩⟩)
