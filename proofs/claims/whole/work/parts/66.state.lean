/-! THE REFERENCE, its whole state -/
def rjM (G : Lnd) (on w n : Int) (wp wh wk : Int → Int) (M : aM) : Prop := M 86 54 = on ∧ (on = 0 ∨ on = 1) ∧ (on = 1 → joO G w n wp wh wk ∧ M 86 55 = w ∧ M 86 56 = n ∧ ∀ i, 0 ≤ i → i ≤ n → M 122 i = wp i ∧ M 123 i = wh i ∧ M 124 i = wk i)
def rpM (G : Lnd) (D : Int → Int → Int) (M : aM) : Prop := pdO G D ∧ (M 86 41 = D 10 0 ∧ ∀ i, 0 ≤ i → i < D 10 0 → M 114 i = D 5 i) ∧ (M 86 43 = D 30 0 ∧ ∀ i, 0 ≤ i → i < D 30 0 → M 115 (4 * i) = D 20 i ∧ M 115 (4 * i + 1) = D 21 i ∧ (0 ≤ D 21 i → M 115 (4 * i + 2) = D 22 i) ∧ M 115 (4 * i + 3) = D 23 i)
def rtM (tn : Int) (tp : Int → Int) (M : aM) : Prop := (0 ≤ tn ∧ tn ≤ 600) ∧ M 86 1 = tn ∧ ∀ i, 0 ≤ i → i < tn → M 87 i = tp i % 256
def rwM (M : aM) : Prop := ∀ j, 0 ≤ j → j < 48 → M 88 j = lng_ j
def rfS (G : Lnd) (D : Int → Int → Int) (on w n : Int) (wp wh wk : Int → Int) (tn : Int) (tp : Int → Int) (fk fp : Int) (M : aM) : Prop := rfG G M ∧ rfW G M ∧ hopI G M ∧ (rfB G M ∧ rfU G M ∧ rfF G M) ∧ rpM G D M ∧ rjM G on w n wp wh wk M ∧ rtM tn tp M ∧ (M 86 4 = fk ∧ M 86 5 = fp) ∧ rwM M
def frK (M N : aM) : Prop := ∀ b j, (b < 86 ∨ 125 ≤ b) → N b j = M b j
theorem frK_refl (M : aM) : frK M M := fun _ _ _ => rfl
theorem frK_tr {M N K : aM} (h1 : frK M N) (h2 : frK N K) : frK M K := fun b j a => (h2 b j a).trans (h1 b j a)
theorem frK_P {M N : aM} (h : frP M N) : frK M N := fun b j a => h b j (by omega) (by omega)
theorem frK_up {M : aM} {b i v : Int} (h : 86 ≤ b ∧ b < 125) : frK M (up_ M b i v) := fun x j a => up_b _ _ _ _ (by omega)
theorem frK_W {M N : aM} (h : frW M N) : frK M N := frK_P (frP_W h)
/-- cells that no call reads before it writes them -/
def scR (b j : Int) : Prop := b = 102 ∨ b = 104 ∨ (108 ≤ b ∧ b ≤ 112) ∨ (116 ≤ b ∧ b ≤ 121) ∨ (b = 86 ∧ (j = 2 ∨ (6 ≤ j ∧ j ≤ 10) ∨ j = 19 ∨ j = 38 ∨ j = 39 ∨ (45 ≤ j ∧ j ≤ 47))) ∨ ((b = 105 ∨ b = 106) ∧ 21870 ≤ j)
theorem rjM.of {G : Lnd} {on w n : Int} {wp wh wk : Int → Int} {M N : aM} (h : rjM G on w n wp wh wk M) (e : ∀ b j, (122 ≤ b ∧ b ≤ 124) ∨ (b = 86 ∧ 54 ≤ j ∧ j ≤ 56) → N b j = M b j) : rjM G on w n wp wh wk N := by
  obtain ⟨a, b, c⟩ := h
  refine ⟨by rw [e _ _ (by omega)]; exact a, b, fun q => ?_⟩
  obtain ⟨c1, c2, c3, c4⟩ := c q
  exact ⟨c1, by rw [e _ _ (by omega)]; exact c2, by rw [e _ _ (by omega)]; exact c3, fun i i0 i1 => by rw [e 122 _ (by omega), e 123 _ (by omega), e 124 _ (by omega)]; exact c4 i i0 i1⟩
theorem rpM.of {G : Lnd} {D : Int → Int → Int} {M N : aM} (h : rpM G D M) (e : ∀ b j, b = 114 ∨ b = 115 ∨ (b = 86 ∧ (j = 41 ∨ j = 43)) → N b j = M b j) : rpM G D N := by
  obtain ⟨a, ⟨b, c⟩, d, f⟩ := h
  exact ⟨a, ⟨by rw [e _ _ (by omega)]; exact b, fun i i0 i1 => by rw [e _ _ (by omega)]; exact c i i0 i1⟩, by rw [e _ _ (by omega)]; exact d, fun i i0 i1 => by rw [e 115 _ (by omega), e 115 _ (by omega), e 115 _ (by omega), e 115 _ (by omega)]; exact f i i0 i1⟩
theorem rtM.of {tn : Int} {tp : Int → Int} {M N : aM} (h : rtM tn tp M) (e : ∀ b j, b = 87 ∨ (b = 86 ∧ j = 1) → N b j = M b j) : rtM tn tp N := ⟨h.1, by rw [e _ _ (by omega)]; exact h.2.1, fun i i0 i1 => by rw [e _ _ (by omega)]; exact h.2.2 i i0 i1⟩
theorem rwM.of {M N : aM} (h : rwM M) (e : ∀ j, N 88 j = M 88 j) : rwM N := fun j j0 j1 => by rw [e]; exact h j j0 j1
theorem rfW.of {G : Lnd} {M N : aM} (h : rfW G M) (e : ∀ b j, b = 101 ∨ b = 103 → N b j = M b j) : rfW G N := ⟨fun w w0 w1 => by rw [e _ _ (by omega)]; exact h.1 w w0 w1, fun k k0 k1 => by rw [e _ _ (by omega)]; exact h.2 k k0 k1⟩
theorem rfB.of {G : Lnd} {M N : aM} (h : rfB G M) (hn : thr_ ((G 0 3)) ≤ 729 ∧ (G 0 0) ≤ 10) (e : ∀ b j, (b = 105 ∨ b = 106) ∧ j < 7290 ∨ (b = 107 ∧ j = 0) → N b j = M b j) : rfB G N := by
  rcases h with a | ⟨a, b⟩
  · exact Or.inl (by rw [e _ _ (by omega)]; exact a)
  · exact Or.inr ⟨by rw [e _ _ (by omega)]; exact a, b.of (fun j c1 c2 => ⟨e _ _ (by omega), e _ _ (by omega)⟩) hn.1 hn.2⟩
theorem rfU.of {G : Lnd} {M N : aM} (h : rfU G M) (hn : thr_ ((G 0 3)) ≤ 729 ∧ (G 0 0) ≤ 10) (e : ∀ b j, (b = 105 ∨ b = 106) ∧ 7290 ≤ j ∧ j < 14580 ∨ (b = 107 ∧ j = 1) → N b j = M b j) : rfU G N := by
  rcases h with a | ⟨a, b⟩
  · exact Or.inl (by rw [e _ _ (by omega)]; exact a)
  · exact Or.inr ⟨by rw [e _ _ (by omega)]; exact a, b.of (fun j c1 c2 => ⟨e _ _ (by omega), e _ _ (by omega)⟩) hn.1 hn.2⟩
theorem faR.of {G : Lnd} {M N : aM} (h : faR G M) (hn : thr_ ((G 0 3)) ≤ 729 ∧ (G 0 0) ≤ 10) (e : ∀ j, 14580 ≤ j → j < 21870 → N 106 j = M 106 j) : faR G N := fun k k0 k1 hl p p0 p1 hf => by rw [e _ (by omega) (by omega)]; exact h k k0 k1 hl p p0 p1 hf
theorem rfF.of {G : Lnd} {M N : aM} (h : rfF G M) (hn : thr_ ((G 0 3)) ≤ 729 ∧ (G 0 0) ≤ 10) (e : ∀ b j, b = 106 ∧ 14580 ≤ j ∧ j < 21870 ∨ (b = 107 ∧ j = 2) → N b j = M b j) : rfF G N := by
  rcases h with a | ⟨a, b⟩
  · exact Or.inl (by rw [e _ _ (by omega)]; exact a)
  · exact Or.inr ⟨by rw [e _ _ (by omega)]; exact a, b.of hn (fun j c c2 => e _ _ (by omega))⟩
theorem rfS.sc {G : Lnd} {D : Int → Int → Int} {on w n tn fk fp : Int} {wp wh wk tp : Int → Int} {M N : aM} (h : rfS G D on w n wp wh wk tn tp fk fp M) (e : ∀ b j, ¬ scR b j → N b j = M b j) : rfS G D on w n wp wh wk tn tp fk fp N := by
  obtain ⟨h1, h2, h3, ⟨h4, h5, h6⟩, h7, h8, h9, ⟨h10, h11⟩, h12⟩ := h
  have ht := h1.t; have hn := h1.n
  have hq : thr_ ((G 0 3)) ≤ 729 ∧ (G 0 0) ≤ 10 := by omega
  exact ⟨h1.of (fun b j c => e b j (by unfold inG at c; unfold scR; omega)), h2.of (fun b j c => e b j (by unfold scR; omega)), h3.of (fun j => e 113 j (by unfold scR; omega)), ⟨h4.of hq (fun b j c => e b j (by unfold scR; omega)), h5.of hq (fun b j c => e b j (by unfold scR; omega)), h6.of hq (fun b j c => e b j (by unfold scR; omega))⟩, h7.of (fun b j c => e b j (by unfold scR; omega)), h8.of (fun b j c => e b j (by unfold scR; omega)), h9.of (fun b j c => e b j (by unfold scR; omega)), ⟨by rw [e _ _ (by unfold scR; omega)]; exact h10, by rw [e _ _ (by unfold scR; omega)]; exact h11⟩, h12.of (fun j => e 88 j (by unfold scR; omega))⟩
theorem rfS.thr {G : Lnd} {D : Int → Int → Int} {on w n tn fk fp : Int} {wp wh wk tp : Int → Int} {M : aM} {v : Int} (h : rfS G D on w n wp wh wk tn tp fk fp M) : rfS G D on w n wp wh wk tn tp fk fp (up_ M 86 2 v) := h.sc (fun b j c => by unfold up_; rw [if_neg (fun q => c (by unfold scR; omega))])
theorem frK_thr (M : aM) (v : Int) : frK M (up_ M 86 2 v) := frK_up (by decide)
/-- after a walk of a plan -/
theorem rfS.wk {G : Lnd} {D : Int → Int → Int} {on w n tn fk fp : Int} {wp wh wk tp : Int → Int} {M N : aM} (h : rfS G D on w n wp wh wk tn tp fk fp M) (hf : frW M N) (hI : hopI G N) : rfS G D on w n wp wh wk tn tp fk fp N := by
  obtain ⟨h1, h2, h3, ⟨h4, h5, h6⟩, h7, h8, h9, ⟨h10, h11⟩, h12⟩ := h
  have ht := h1.t; have hn := h1.n
  have hq : thr_ ((G 0 3)) ≤ 729 ∧ (G 0 0) ≤ 10 := by omega
  have e : ∀ b j, b ≠ 104 → b ≠ 113 → ¬ (b = 86 ∧ (j = 45 ∨ j = 46 ∨ j = 47)) → N b j = M b j := hf
  exact ⟨hf.G h1, h2.of (fun b j c => e b j (by omega) (by omega) (by omega)), hI, ⟨h4.of hq (fun b j c => e b j (by omega) (by omega) (by omega)), h5.of hq (fun b j c => e b j (by omega) (by omega) (by omega)), h6.of hq (fun b j c => e b j (by omega) (by omega) (by omega))⟩, h7.of (fun b j c => e b j (by omega) (by omega) (by omega)), h8.of (fun b j c => e b j (by omega) (by omega) (by omega)), h9.of (fun b j c => e b j (by omega) (by omega) (by omega)), ⟨by rw [e _ _ (by omega) (by omega) (by omega)]; exact h10, by rw [e _ _ (by omega) (by omega) (by omega)]; exact h11⟩, h12.of (fun j => e 88 j (by omega) (by omega) (by omega))⟩
/-- after laying plans -/
theorem rfS.pl {G : Lnd} {D : Int → Int → Int} {on w n tn fk fp : Int} {wp wh wk tp : Int → Int} {M N : aM} (h : rfS G D on w n wp wh wk tn tp fk fp M) (hf : frP M N) (hI : hopI G N) (hB : rfB G N) (hU : rfU G N) (hF : rfF G N) : rfS G D on w n wp wh wk tn tp fk fp N := by
  obtain ⟨h1, h2, h3, -, h7, h8, h9, ⟨h10, h11⟩, h12⟩ := h
  exact ⟨hf.G h1, hf.rfW h2, hI, ⟨hB, hU, hF⟩, h7.of (fun b j c => hf b j (by omega) (by omega)), h8.of (fun b j c => hf b j (by omega) (by omega)), h9.of (fun b j c => hf b j (by omega) (by omega)), ⟨by rw [hf _ _ (by omega) (by omega)]; exact h10, by rw [hf _ _ (by omega) (by omega)]; exact h11⟩, h12.of (fun j => hf 88 j (by omega) (by omega))⟩
theorem rfS.G {G : Lnd} {D : Int → Int → Int} {on w n tn fk fp : Int} {wp wh wk tp : Int → Int} {M : aM} (h : rfS G D on w n wp wh wk tn tp fk fp M) : rfG G M := h.1
theorem rfS.Wt {G : Lnd} {D : Int → Int → Int} {on w n tn fk fp : Int} {wp wh wk tp : Int → Int} {M : aM} (h : rfS G D on w n wp wh wk tn tp fk fp M) : rfW G M := h.2.1
theorem rfS.I {G : Lnd} {D : Int → Int → Int} {on w n tn fk fp : Int} {wp wh wk tp : Int → Int} {M : aM} (h : rfS G D on w n wp wh wk tn tp fk fp M) : hopI G M := h.2.2.1
theorem rfS.B {G : Lnd} {D : Int → Int → Int} {on w n tn fk fp : Int} {wp wh wk tp : Int → Int} {M : aM} (h : rfS G D on w n wp wh wk tn tp fk fp M) : rfB G M := h.2.2.2.1.1
theorem rfS.U {G : Lnd} {D : Int → Int → Int} {on w n tn fk fp : Int} {wp wh wk tp : Int → Int} {M : aM} (h : rfS G D on w n wp wh wk tn tp fk fp M) : rfU G M := h.2.2.2.1.2.1
theorem rfS.F {G : Lnd} {D : Int → Int → Int} {on w n tn fk fp : Int} {wp wh wk tp : Int → Int} {M : aM} (h : rfS G D on w n wp wh wk tn tp fk fp M) : rfF G M := h.2.2.2.1.2.2
theorem rfS.p {G : Lnd} {D : Int → Int → Int} {on w n tn fk fp : Int} {wp wh wk tp : Int → Int} {M : aM} (h : rfS G D on w n wp wh wk tn tp fk fp M) : rpM G D M := h.2.2.2.2.1
theorem rfS.j {G : Lnd} {D : Int → Int → Int} {on w n tn fk fp : Int} {wp wh wk tp : Int → Int} {M : aM} (h : rfS G D on w n wp wh wk tn tp fk fp M) : rjM G on w n wp wh wk M := h.2.2.2.2.2.1
theorem rfS.ok {G : Lnd} {D : Int → Int → Int} {on w n tn fk fp : Int} {wp wh wk tp : Int → Int} {M : aM} (h : rfS G D on w n wp wh wk tn tp fk fp M) {plan : Int} (p0 : 0 ≤ plan) (p1 : plan ≤ 6) : planOK G D plan := planOK_of h.G.W h.p.1 p0 p1
theorem rfD_B {G : Lnd} {D : Int → Int → Int} {M : aM} (h : rowsD G 0 1 (lkG G) (VB G) M) (hP : (G 0 0) ≤ 10) (hD : D 0 = D0 G) : rfD G D 0 M := by
  refine ⟨fun _ k k0 k1 hl p p0 p1 hf => ?_, fun q => by omega, fun q => by omega⟩
  rw [(h k k0 k1 hl p p0 p1 hf).2, hD]
  unfold D0
  rw [ixF_e _ p0 (by omega)]
  rfl
theorem rfD_o {G : Lnd} {D : Int → Int → Int} {plan : Int} {M : aM} (h : rpM G D M) (hp : 3 ≤ plan) : rfD G D plan M := ⟨fun q => by omega, fun q => ⟨h.1.2.2.2.1, h.2.1⟩, fun q => ⟨h.1.2.2.2.2.2, h.2.2⟩⟩
theorem s_X12_layPlan {Q : aM → aW → Prop} {M : aM} {W : aW} {G : Lnd} {D : Int → Int → Int} {on w n tn fk fp : Int} {wp wh wk tp : Int → Int} {plan : Int} (h : rfS G D on w n wp wh wk tn tp fk fp M) (hs : 0 ≤ (G 0 6)) (hg : 0 ≤ (G 0 7)) (p0 : 0 ≤ plan) (p1 : plan ≤ 6) (k : ∀ N, frP M N → rfS G D on w n wp wh wk tn tp fk fp N → rfD G D plan N → Q N W) : CallV 220 [vR 86, vI plan] (M, W) Q := by
  have hn := h.G.n
  have ht := h.G.t
  have hq : thr_ ((G 0 3)) ≤ 729 ∧ (G 0 0) ≤ 10 := by omega
  obtain ⟨d0, d1, d2, -⟩ := h.p.1
  refine e_X12_layPlan _ _ _ _ ?_
  refine ⟨by omega, fun q0 => ⟨by omega, fun q1 => ⟨by omega, fun q2 => ?_, fun q2 => ?_⟩, fun q1 => ?_⟩, fun q0 => ?_⟩
  · exact k M (frP_refl M) h (rfD_o h.p (by omega))
  · have e : plan = 2 := by omega
    subst e
    refine s_X12_layFair h.G hg hs h.Wt h.I h.B h.U h.F (fun N fN IN BN UN e2 hfa => ?_)
    have hS := h.pl fN IN BN UN (Or.inr ⟨e2, hfa⟩)
    refine k N fN hS ⟨fun _ k k0 k1 hl p p0 p1 hf => ?_, fun q => by omega, fun q => by omega⟩
    rw [hfa k k0 k1 hl p p0 p1 hf, d2]
  · have e : plan = 1 := by omega
    subst e
    refine s_X12_laySure h.G hg h.Wt.2 h.U (fun N fN rN e1 dN => ⟨by omega, fun _ => ?_, fun y => absurd (by decide) y⟩)
    have fP : frP M N := fun b j c1 c2 => fN b j (by omega) (by omega) (by omega) (by omega)
    have hS := h.pl fP (h.I.of (fun j => fN 113 j (by decide) (by decide) (by decide) (by omega))) (h.B.of hq (fun b j c => by
      rcases c with ⟨c | c, c2⟩ | c
      · rw [c]; exact (rN j (by omega)).1
      · rw [c]; exact (rN j (by omega)).2
      · exact fN b j (by omega) (by omega) (by omega) (by omega))) (Or.inr ⟨e1, dN⟩) (h.F.of hq (fun b j c => by
      rcases c with ⟨c, c2⟩ | c
      · rw [c]; exact (rN j (by omega)).2
      · exact fN b j (by omega) (by omega) (by omega) (by omega)))
    exact k N fP hS (rows_D (a := 0) (b := 0) (less := 0) dN (by decide) (by omega) (by rw [d1]; rfl))
  · have e : plan = 0 := by omega
    subst e
    refine s_X12_layBest h.G hg h.Wt.2 h.B (fun N fN rN e1 dN => ⟨by decide, fun _ => ⟨by decide, fun _ => ?_, fun y => absurd (by decide) y⟩, fun y => absurd (by decide) y⟩)
    have fP : frP M N := fun b j c1 c2 => fN b j (by omega) (by omega) (by omega) (by omega) (by omega) (by omega)
    have hS := h.pl fP (h.I.of (fun j => fN 113 j (by decide) (by decide) (by decide) (by decide) (by decide) (by omega))) (Or.inr ⟨e1, dN⟩) (h.U.of hq (fun b j c => by
      rcases c with ⟨c | c, c2⟩ | c
      · rw [c]; exact (rN j (by omega)).1
      · rw [c]; exact (rN j (by omega)).2
      · exact fN b j (by omega) (by omega) (by omega) (by omega) (by omega) (by omega))) (h.F.of hq (fun b j c => by
      rcases c with ⟨c, c2⟩ | c
      · rw [c]; exact (rN j (by omega)).2
      · exact fN b j (by omega) (by omega) (by omega) (by omega) (by omega) (by omega)))
    exact k N fP hS (rfD_B dN (by omega) d0)
