/-! CONSTRUCTORS: ShutPasses -/
theorem s_X11_settle0 {M : aM} {W W1 : aW} {Q : aM → aW → Prop} {G : Lnd} {c tn fk fp L : Int} {tp : Int → Int} (hk : cty c) (hG : clG c G M) (hw : WF G) (hc : cdM M) (h4 : M 0 4 = c) (h5 : M 0 5 = 13 - c) (m69 : ∀ k, 0 ≤ k → k < 729 → M 69 k = 0) (hS : suM M W1 L) (hz : 126 ≤ W1.2.2.1) (hT : taM tn tp M) (hF : faI fk fp M)
    (h : ∀ N, (∀ b j, (1 ≤ b ∧ b ≤ 30) ∨ b = 0 ∨ (86 ≤ b) → N b j = M b j) → clS c G (dNew G) 0 0 0 (fun _ => 0) (fun _ => 0) (fun _ => 0) tn tp fk fp L N W1 → Q N W) : CallV 149 [vR 0] (M, W) Q := by
  have hN := hw.N; unfold wfN at hN
  refine e_X11_settle _ _ _ ?_
  generalize hU : up_ (up_ (up_ M 31 0 0) 82 0 0) 78 0 0 = U
  have eU : ∀ b j, ¬ (b = 31 ∧ j = 0) → ¬ (b = 82 ∧ j = 0) → ¬ (b = 78 ∧ j = 0) → U b j = M b j := fun b j a1 a2 a3 => by rw [← hU]; unfold up_; rw [if_neg a3, if_neg a2, if_neg a1]
  have hGU : clG c G U := hG.ag hk (lo := 31) (hi := 82) (fun b j hb => eU b j (by omega) (by omega) (by omega)) (by omega)
  have hcU : cdM U := hc.ag (lo := 31) (hi := 82) (fun b j hb => eU b j (by omega) (by omega) (by omega)) (by omega)
  rw [eU 0 4 (by decide) (by decide) (by decide), h4]
  refine s_X7_settle hk hGU hw hcU (fun N hN1 hPN e11 e45 => ?_)
  have e04 : N 0 4 = c := by rw [hN1 _ _ (by decide) (by decide) (by decide) (by decide) (by decide), eU 0 4 (by decide) (by decide) (by decide)]; exact h4
  rw [e04]
  refine s_X0_settle (fun K hK e7 e8 e70 => ?_)
  have e : ∀ b j, ¬ (b = 31 ∧ j = 0) → ¬ (b = 82 ∧ j = 0) → ¬ (b = 78 ∧ j = 0) → b ≠ 36 → b ≠ 38 → b ≠ 39 → ¬ (41 ≤ b ∧ b ≤ 43) → b ≠ 45 → b ≠ 65 → b ≠ 70 → b ≠ 71 → K b j = M b j := fun b j a1 a2 a3 a4 a5 a6 a7 a8 a9 a10 a11 => by
    rw [hK b j (by omega) a10 a11, hN1 b j (by omega) a5 a6 a7 a8, eU b j a1 a2 a3]
  have ez : ∀ b, b = 31 ∨ b = 82 ∨ b = 78 → K b 0 = 0 := fun b hb => by
    rw [hK b 0 (by omega) (by omega) (by omega), hN1 b 0 (by omega) (by omega) (by omega) (by omega) (by omega), ← hU]
    rcases hb with rfl | rfl | rfl
    · rw [up_b _ _ _ _ (by decide), up_b _ _ _ _ (by decide), up_s]
    · rw [up_b _ _ _ _ (by decide), up_s]
    · rw [up_s]
  have hPK : clP c G K := hPN.of (fun b j hb => hK b j (by unfold inP at hb; omega) (by unfold inP at hb; omega) (by unfold inP at hb; omega))
  have e45K : ∀ i, 0 ≤ i → i < 3 → K 45 i = 0 := fun i i0 i1 => by rw [hK 45 i (by omega) (by decide) (by decide)]; exact e45 i i0 i1
  have e78 : K 78 2 = M 78 2 := e 78 2 (by decide) (by decide) (by decide) (by decide) (by decide) (by decide) (by decide) (by decide) (by decide) (by decide) (by decide)
  refine h K (fun b j hb => e b j (by omega) (by omega) (by omega) (by omega) (by omega) (by omega) (by omega) (by omega) (by omega) (by omega) (by omega)) ⟨⟨by rw [hK _ _ (by decide) (by decide) (by decide)]; exact e04, by rw [e _ _ (by decide) (by decide) (by decide) (by decide) (by decide) (by decide) (by decide) (by decide) (by decide) (by decide) (by decide)]; exact h5⟩, hPK, ⟨Or.inl (e45K 0 (by decide) (by decide)), Or.inl (e45K 1 (by decide) (by decide)), Or.inl (e45K 2 (by decide) (by decide))⟩, ⟨e7, fun q q0 q1 => by rw [e _ _ (by omega) (by omega) (by omega) (by decide) (by decide) (by decide) (by decide) (by decide) (by decide) (by decide) (by decide)]; exact m69 q q0 q1, Or.inl e8, fun r r0 r1 => Or.inl (e70 r r0 (by omega)).1, fun r r0 r1 => Or.inl (e70 r r0 (by omega)).2⟩, ⟨Or.inl (ez 78 (by omega)), ?_, hz, fun q => by rw [ez 78 (by omega)] at q; omega⟩, ⟨dNew_ok hw, ⟨by rw [hK _ _ (by decide) (by decide) (by decide), e11]; rfl, fun i i0 i1 => ?_⟩, by rw [ez 31 (by omega)]; rfl, fun i i0 i1 => ?_⟩, ⟨ez 82 (by omega), Or.inl rfl, fun q => absurd q (by decide)⟩, ⟨hT.1, by rw [e _ _ (by decide) (by decide) (by decide) (by decide) (by decide) (by decide) (by decide) (by decide) (by decide) (by decide) (by decide)]; exact hT.2.1, fun i i0 i1 => by rw [e _ _ (by omega) (by omega) (by omega) (by decide) (by decide) (by decide) (by decide) (by decide) (by decide) (by decide) (by decide)]; exact hT.2.2 i i0 i1⟩, by rw [e _ _ (by decide) (by decide) (by decide) (by decide) (by decide) (by decide) (by decide) (by decide) (by decide) (by decide) (by decide)]; exact hF.1, by rw [e _ _ (by decide) (by decide) (by decide) (by decide) (by decide) (by decide) (by decide) (by decide) (by decide) (by decide) (by decide)]; exact hF.2⟩
  · obtain ⟨s1, s2, s3, s4⟩ := hS
    exact ⟨by rw [e78]; exact s1, by rw [e78]; exact s2, by rw [e78]; exact s3, s4⟩
  · have i1' : i < 0 := i1
    omega
  · have i1' : i < 0 := i1
    omega
theorem okD_W {M N : aM} {W W1 : aW} {c a : Int} (h : okD (M, W) c a = true) (e1 : W1.2.1 = W.2.1) (e2 : W.2.2.1 ≤ W1.2.2.1) : okD (N, W1) c a = true := by
  obtain ⟨h1, h2⟩ := (Bool.and_eq_true _ _).mp h
  obtain ⟨h2, h3⟩ := (Bool.and_eq_true _ _).mp h2
  have h1 : 0 ≤ a := of_decide_eq_true h1
  have h2 : a < W.2.2.1 := of_decide_eq_true h2
  have h3 : kD_ W.2.1 a = c := of_decide_eq_true h3
  show (decide (0 ≤ a) && (decide (a < W1.2.2.1) && decide (kD_ W1.2.1 a = c))) = true
  rw [decide_eq_true h1, decide_eq_true (show a < W1.2.2.1 by omega), decide_eq_true (show kD_ W1.2.1 a = c by rw [e1]; exact h3)]
  rfl
theorem suM.W {M : aM} {W W1 : aW} {L : Int} (h : suM M W L) (e1 : W1.2.1 = W.2.1) (e2 : W.2.2.1 ≤ W1.2.2.1) : suM M W1 L := ⟨okD_W h.1 e1 e2, by rw [e1]; exact h.2.1, h.2.2⟩
theorem clS.W {G : Lnd} {D : Int → Int → Int} {c on w n tn fk fp L : Int} {wp wh wk tp : Int → Int} {M : aM} {W W1 : aW} (h : clS c G D on w n wp wh wk tn tp fk fp L M W) (e1 : W1.2.1 = W.2.1) (e2 : W.2.2.1 ≤ W1.2.2.1) : clS c G D on w n wp wh wk tn tp fk fp L M W1 := by
  obtain ⟨h1, h2, h3, h4, ⟨b1, b2, b3, b4⟩, h6⟩ := h
  exact ⟨h1, h2, h3, h4, ⟨b1, b2.W e1 e2, by omega, b4⟩, h6⟩
theorem fiL_rg : ∀ {a : List (Int × Int × Int)} {F K : aM} {lo hi : Int}, fiL a F → (∀ b j, lo ≤ b → b ≤ hi → K b j = F b j) → (∀ q ∈ a, lo ≤ q.1 ∧ q.1 ≤ hi) → fiL a K := by
  intro a
  induction a with
  | nil => intro F K lo hi _ _ _; exact trivial
  | cons p l ih =>
    intro F K lo hi h ha hq
    have hp := hq p (List.mem_cons_self ..)
    exact ⟨(ha p.1 p.2.1 hp.1 hp.2).trans h.1, ih h.2 ha (fun q m => hq q (List.mem_cons_of_mem _ m))⟩
theorem isE.of {c : Int} {M N : aM} (h : isE c M) (e : ∀ b j, c ≤ b → b ≤ c + 8 → N b j = M b j) : isE c N := by
  obtain ⟨⟨h0, h1, h2, h3, h4, h5, h6, h7⟩, e4, e5⟩ := h
  exact ⟨⟨by rw [e _ _ (by omega) (by omega)]; exact h0, by rw [e _ _ (by omega) (by omega)]; exact h1, by rw [e _ _ (by omega) (by omega)]; exact h2, by rw [e _ _ (by omega) (by omega)]; exact h3, by rw [e _ _ (by omega) (by omega)]; exact h4, by rw [e _ _ (by omega) (by omega)]; exact h5, by rw [e _ _ (by omega) (by omega)]; exact h6, by rw [e _ _ (by omega) (by omega)]; exact h7⟩, fun i i0 i1 => by rw [e _ _ (by omega) (by omega)]; exact e4 i i0 i1, fun i i0 i1 => by rw [e _ _ (by omega) (by omega)]; exact e5 i i0 i1⟩
theorem emG_Z {N : aM} (h : isE 2 N) : emZ (emG 2 N) := by
  obtain ⟨⟨h0, h1, h2, h3, h4, h5, h6, h7⟩, e4, e5⟩ := h
  refine ⟨fun j j0 j1 => ?_, h6, h7⟩
  rcases six_ j0 j1 with rfl | rfl | rfl | rfl | rfl | rfl
  · exact h0
  · exact h1
  · exact h2
  · exact h3
  · exact h4
  · exact h5
def fi11 : List (Int × Int × Int) := [(0, 0, 1), (0, 6, 20), (0, 7, 27), (0, 8, 31), (0, 9, 36), (0, 10, 65), (0, 11, 78), (0, 12, 82)]
def fi3 (t : Int) : List (Int × Int × Int) := [(t, 8, t + 1), (t, 9, t + 2), (t, 10, t + 3), (t, 11, t + 4), (t, 12, t + 5), (t, 13, t + 6), (t, 14, t + 7), (t, 15, t + 8)]
def fi8 : List (Int × Int × Int) := [(20, 0, 21), (20, 1, 22), (20, 2, 23), (20, 3, 24), (20, 5, 25), (20, 6, 26)]
def fi4 : List (Int × Int × Int) := [(31, 1, 32), (31, 2, 33), (31, 3, 34), (31, 4, 35)]
def fi1 : List (Int × Int × Int) := [(78, 1, 27), (78, 3, 80), (78, 4, 81)]
def fi5 : List (Int × Int × Int) := [(82, 1, 27), (82, 4, 83), (82, 5, 84), (82, 6, 85)]
def finA : List (Int × Int × Int) := fi11 ++ (fi3 2 ++ (fi3 11 ++ (fi8 ++ (fi2 ++ (fi4 ++ ((fi7 ++ fi7b) ++ (fi0 ++ (fi1 ++ fi5))))))))
def finB : List (Int × Int × Int) := finL.drop 88
theorem finAB : finL = finA ++ finB := by decide
theorem finB_86 : ∀ q ∈ finB, q.1 = 86 := by decide
theorem finA_86 : ∀ q ∈ finA, q.1 < 86 := by decide
theorem i_X11 {M F : aM} {dl : Int → Int} {ns : Int} {Q : aM → aW → Prop} (z1 : M 0 1 = 0) (z2 : M 0 2 = 0) (h : ∀ N K m G, (∀ b j, 86 ≤ b → N b j = M b j) → ag 0 85 F K → m = ns + 68594 → fiL finA K → pW G → emZ G → lgM N → clS 2 G (dNew G) 0 0 0 (fun _ => 0) (fun _ => 0) (fun _ => 0) 0 (fun _ => 0) 0 (-1) 0 N (K, dl, 126, m) → Q N (K, dl, 86, m)) : CallV 118 [vR 0] (M, (F, dl, 1, ns)) Q := by
  refine e_X11_init _ _ _ _ _ _ ?_
  repeat' (first | apply And.intro | decide | exact rfl)
  refine i_X3 (Or.inl rfl) (fun N1 K1 m1 a1 b1 c1 d1 g1 => ?_)
  dsimp only
  repeat' (first | apply And.intro | decide | exact rfl)
  refine i_X3 (Or.inr rfl) (fun N2 K2 m2 a2 b2 c2 d2 g2 => ?_)
  dsimp only
  repeat' (first | apply And.intro | decide | exact rfl)
  refine i_X8 (fun N3 K3 m3 a3 b3 c3 d3 g3 => ?_)
  dsimp only
  repeat' (first | apply And.intro | decide | exact rfl)
  refine i_X2 (fun N4 K4 m4 a4 b4 c4 d4 g4 => ?_)
  dsimp only
  repeat' (first | apply And.intro | decide | exact rfl)
  refine i_X4 (fun N5 K5 m5 a5 b5 c5 d5 => ?_)
  dsimp only
  repeat' (first | apply And.intro | decide | exact rfl)
  refine i_X7 (b5 0 7 (by decide)) rfl (fun N6 K6 m6 a6 b6 c6 d6 => ?_)
  dsimp only
  repeat' (first | apply And.intro | decide | exact rfl)
  refine i_X0 ((b6 0 7 (by decide)).trans (b5 0 7 (by decide))) rfl (fun N7 K7 m7 a7 b7 c7 d7 g7 => ?_)
  dsimp only
  repeat' (first | apply And.intro | decide | exact rfl)
  refine i_X1 ((b7 0 7 (by decide)).trans ((b6 0 7 (by decide)).trans (b5 0 7 (by decide)))) (fun N8 K8 m8 a8 b8 c8 d8 g8 => ?_)
  dsimp only
  repeat' (first | apply And.intro | decide | exact rfl)
  refine i_X5 ((b8 0 7 (by decide)).trans ((b7 0 7 (by decide)).trans ((b6 0 7 (by decide)).trans (b5 0 7 (by decide))))) (fun N9 K9 m9 a9 b9 c9 d9 => ?_)
  dsimp only
  have a1 : ag 2 10 (ce_ (up_ (ce_ M 1 (fun _ => 0)) 0 3 (-1)) 2 (dfl_ 3)) N1 := a1
  have b1 : ag 2 10 (ce_ (up_ F 0 0 1) 2 (fun _ => -1)) K1 := b1
  have a2 : ag 11 19 (ce_ (up_ N1 0 4 2) 11 (dfl_ 3)) N2 := a2
  have b2 : ag 11 19 (ce_ K1 11 (fun _ => -1)) K2 := b2
  have a3 : ag 20 26 (ce_ (up_ N2 0 5 11) 20 (dfl_ 8)) N3 := a3
  have b3 : ag 20 26 (ce_ K2 20 (fun _ => -1)) K3 := b3
  have a4 : ag 27 30 (ce_ N3 27 (dfl_ 2)) N4 := a4
  have b4 : ag 27 30 (ce_ (up_ K3 0 6 20) 27 (fun _ => -1)) K4 := b4
  have a5 : ag 31 35 (ce_ N4 31 (dfl_ 4)) N5 := a5
  have b5 : ag 31 35 (ce_ (up_ K4 0 7 27) 31 (fun _ => -1)) K5 := b5
  have a6 : ag 36 64 (ce_ N5 36 (dfl_ 7)) N6 := a6
  have b6 : ag 36 64 (ce_ (up_ K5 0 8 31) 36 (fun _ => -1)) K6 := b6
  have a7 : ag 65 77 (ce_ N6 65 (dfl_ 0)) N7 := a7
  have b7 : ag 65 77 (ce_ (up_ K6 0 9 36) 65 (fun _ => -1)) K7 := b7
  have a8 : ag 78 81 (ce_ N7 78 (dfl_ 1)) N8 := a8
  have b8 : ag 78 81 (ce_ (up_ K7 0 10 65) 78 (fun _ => -1)) K8 := b8
  have a9 : ag 82 85 (ce_ N8 82 (dfl_ 5)) N9 := a9
  have b9 : ag 82 85 (ce_ (up_ K8 0 11 78) 82 (fun _ => -1)) K9 := b9
  have aA : ag 0 85 M N9 := by
    repeat' (first | exact ag_refl _ _ _ | refine ag_in ?_ a9 (by decide) (by decide) | refine ag_in ?_ a8 (by decide) (by decide) | refine ag_in ?_ a7 (by decide) (by decide) | refine ag_in ?_ a6 (by decide) (by decide) | refine ag_in ?_ a5 (by decide) (by decide) | refine ag_in ?_ a4 (by decide) (by decide) | refine ag_in ?_ a3 (by decide) (by decide) | refine ag_in ?_ a2 (by decide) (by decide) | refine ag_in ?_ a1 (by decide) (by decide) | refine ag_c3 ?_ (by decide) | refine ag_u3 ?_ (by decide))
  have bA : ag 0 85 F (up_ K9 0 12 82) := by
    repeat' (first | exact ag_refl _ _ _ | refine ag_in ?_ b9 (by decide) (by decide) | refine ag_in ?_ b8 (by decide) (by decide) | refine ag_in ?_ b7 (by decide) (by decide) | refine ag_in ?_ b6 (by decide) (by decide) | refine ag_in ?_ b5 (by decide) (by decide) | refine ag_in ?_ b4 (by decide) (by decide) | refine ag_in ?_ b3 (by decide) (by decide) | refine ag_in ?_ b2 (by decide) (by decide) | refine ag_in ?_ b1 (by decide) (by decide) | refine ag_c3 ?_ (by decide) | refine ag_u3 ?_ (by decide))
  have t8 : ∀ b j, 78 ≤ b → b ≤ 81 → K9 b j = K8 b j := fun b j q0 q1 => by
    rw [b9 b j (by omega)]; unfold ce_; rw [if_neg (by omega)]
    rw [up_b _ _ _ _ (by omega)]
  have t7 : ∀ b j, 65 ≤ b → b ≤ 77 → K9 b j = K7 b j := fun b j q0 q1 => by
    rw [b9 b j (by omega)]; unfold ce_; rw [if_neg (by omega)]
    rw [up_b _ _ _ _ (by omega)]
    rw [b8 b j (by omega)]; unfold ce_; rw [if_neg (by omega)]
    rw [up_b _ _ _ _ (by omega)]
  have t6 : ∀ b j, 36 ≤ b → b ≤ 64 → K9 b j = K6 b j := fun b j q0 q1 => by
    rw [b9 b j (by omega)]; unfold ce_; rw [if_neg (by omega)]
    rw [up_b _ _ _ _ (by omega)]
    rw [b8 b j (by omega)]; unfold ce_; rw [if_neg (by omega)]
    rw [up_b _ _ _ _ (by omega)]
    rw [b7 b j (by omega)]; unfold ce_; rw [if_neg (by omega)]
    rw [up_b _ _ _ _ (by omega)]
  have t5 : ∀ b j, 31 ≤ b → b ≤ 35 → K9 b j = K5 b j := fun b j q0 q1 => by
    rw [b9 b j (by omega)]; unfold ce_; rw [if_neg (by omega)]
    rw [up_b _ _ _ _ (by omega)]
    rw [b8 b j (by omega)]; unfold ce_; rw [if_neg (by omega)]
    rw [up_b _ _ _ _ (by omega)]
    rw [b7 b j (by omega)]; unfold ce_; rw [if_neg (by omega)]
    rw [up_b _ _ _ _ (by omega)]
    rw [b6 b j (by omega)]; unfold ce_; rw [if_neg (by omega)]
    rw [up_b _ _ _ _ (by omega)]
  have t4 : ∀ b j, 27 ≤ b → b ≤ 30 → K9 b j = K4 b j := fun b j q0 q1 => by
    rw [b9 b j (by omega)]; unfold ce_; rw [if_neg (by omega)]
    rw [up_b _ _ _ _ (by omega)]
    rw [b8 b j (by omega)]; unfold ce_; rw [if_neg (by omega)]
    rw [up_b _ _ _ _ (by omega)]
    rw [b7 b j (by omega)]; unfold ce_; rw [if_neg (by omega)]
    rw [up_b _ _ _ _ (by omega)]
    rw [b6 b j (by omega)]; unfold ce_; rw [if_neg (by omega)]
    rw [up_b _ _ _ _ (by omega)]
    rw [b5 b j (by omega)]; unfold ce_; rw [if_neg (by omega)]
    rw [up_b _ _ _ _ (by omega)]
  have t3 : ∀ b j, 20 ≤ b → b ≤ 26 → K9 b j = K3 b j := fun b j q0 q1 => by
    rw [b9 b j (by omega)]; unfold ce_; rw [if_neg (by omega)]
    rw [up_b _ _ _ _ (by omega)]
    rw [b8 b j (by omega)]; unfold ce_; rw [if_neg (by omega)]
    rw [up_b _ _ _ _ (by omega)]
    rw [b7 b j (by omega)]; unfold ce_; rw [if_neg (by omega)]
    rw [up_b _ _ _ _ (by omega)]
    rw [b6 b j (by omega)]; unfold ce_; rw [if_neg (by omega)]
    rw [up_b _ _ _ _ (by omega)]
    rw [b5 b j (by omega)]; unfold ce_; rw [if_neg (by omega)]
    rw [up_b _ _ _ _ (by omega)]
    rw [b4 b j (by omega)]; unfold ce_; rw [if_neg (by omega)]
    rw [up_b _ _ _ _ (by omega)]
  have t2 : ∀ b j, 11 ≤ b → b ≤ 19 → K9 b j = K2 b j := fun b j q0 q1 => by
    rw [b9 b j (by omega)]; unfold ce_; rw [if_neg (by omega)]
    rw [up_b _ _ _ _ (by omega)]
    rw [b8 b j (by omega)]; unfold ce_; rw [if_neg (by omega)]
    rw [up_b _ _ _ _ (by omega)]
    rw [b7 b j (by omega)]; unfold ce_; rw [if_neg (by omega)]
    rw [up_b _ _ _ _ (by omega)]
    rw [b6 b j (by omega)]; unfold ce_; rw [if_neg (by omega)]
    rw [up_b _ _ _ _ (by omega)]
    rw [b5 b j (by omega)]; unfold ce_; rw [if_neg (by omega)]
    rw [up_b _ _ _ _ (by omega)]
    rw [b4 b j (by omega)]; unfold ce_; rw [if_neg (by omega)]
    rw [up_b _ _ _ _ (by omega)]
    rw [b3 b j (by omega)]; unfold ce_; rw [if_neg (by omega)]
  have t1 : ∀ b j, 2 ≤ b → b ≤ 10 → K9 b j = K1 b j := fun b j q0 q1 => by
    rw [b9 b j (by omega)]; unfold ce_; rw [if_neg (by omega)]
    rw [up_b _ _ _ _ (by omega)]
    rw [b8 b j (by omega)]; unfold ce_; rw [if_neg (by omega)]
    rw [up_b _ _ _ _ (by omega)]
    rw [b7 b j (by omega)]; unfold ce_; rw [if_neg (by omega)]
    rw [up_b _ _ _ _ (by omega)]
    rw [b6 b j (by omega)]; unfold ce_; rw [if_neg (by omega)]
    rw [up_b _ _ _ _ (by omega)]
    rw [b5 b j (by omega)]; unfold ce_; rw [if_neg (by omega)]
    rw [up_b _ _ _ _ (by omega)]
    rw [b4 b j (by omega)]; unfold ce_; rw [if_neg (by omega)]
    rw [up_b _ _ _ _ (by omega)]
    rw [b3 b j (by omega)]; unfold ce_; rw [if_neg (by omega)]
    rw [b2 b j (by omega)]; unfold ce_; rw [if_neg (by omega)]
  have f0 : fiL fi11 (up_ K9 0 12 82) := by
    have e9 : ∀ j, K9 0 j = (up_ K8 0 11 78) 0 j := fun j => b9 0 j (by decide)
    have e8 : ∀ j, K8 0 j = (up_ K7 0 10 65) 0 j := fun j => b8 0 j (by decide)
    have e7 : ∀ j, K7 0 j = (up_ K6 0 9 36) 0 j := fun j => b7 0 j (by decide)
    have e6 : ∀ j, K6 0 j = (up_ K5 0 8 31) 0 j := fun j => b6 0 j (by decide)
    have e5 : ∀ j, K5 0 j = (up_ K4 0 7 27) 0 j := fun j => b5 0 j (by decide)
    have e4 : ∀ j, K4 0 j = (up_ K3 0 6 20) 0 j := fun j => b4 0 j (by decide)
    have e3 : ∀ j, K3 0 j = K2 0 j := fun j => b3 0 j (by decide)
    have e2 : ∀ j, K2 0 j = K1 0 j := fun j => b2 0 j (by decide)
    have e1 : ∀ j, K1 0 j = (up_ F 0 0 1) 0 j := fun j => b1 0 j (by decide)
    exact ⟨(e9 0).trans ((e8 0).trans ((e7 0).trans ((e6 0).trans ((e5 0).trans ((e4 0).trans ((e3 0).trans ((e2 0).trans (e1 0)))))))), (e9 6).trans ((e8 6).trans ((e7 6).trans ((e6 6).trans ((e5 6).trans (e4 6))))), (e9 7).trans ((e8 7).trans ((e7 7).trans ((e6 7).trans (e5 7)))), (e9 8).trans ((e8 8).trans ((e7 8).trans (e6 8))), (e9 9).trans ((e8 9).trans (e7 9)), (e9 10).trans (e8 10), e9 11, rfl, trivial⟩
  have s8 : ∀ b j, 78 ≤ b → b ≤ 81 → N9 b j = N8 b j := fun b j q0 q1 => by
    rw [a9 b j (by omega)]; unfold ce_; rw [if_neg (by omega)]
  have s7 : ∀ b j, 65 ≤ b → b ≤ 77 → N9 b j = N7 b j := fun b j q0 q1 => by
    rw [a9 b j (by omega)]; unfold ce_; rw [if_neg (by omega)]
    rw [a8 b j (by omega)]; unfold ce_; rw [if_neg (by omega)]
  have s4 : ∀ b j, 27 ≤ b → b ≤ 30 → N9 b j = N4 b j := fun b j q0 q1 => by
    rw [a9 b j (by omega)]; unfold ce_; rw [if_neg (by omega)]
    rw [a8 b j (by omega)]; unfold ce_; rw [if_neg (by omega)]
    rw [a7 b j (by omega)]; unfold ce_; rw [if_neg (by omega)]
    rw [a6 b j (by omega)]; unfold ce_; rw [if_neg (by omega)]
    rw [a5 b j (by omega)]; unfold ce_; rw [if_neg (by omega)]
  have s3 : ∀ b j, 20 ≤ b → b ≤ 26 → N9 b j = N3 b j := fun b j q0 q1 => by
    rw [a9 b j (by omega)]; unfold ce_; rw [if_neg (by omega)]
    rw [a8 b j (by omega)]; unfold ce_; rw [if_neg (by omega)]
    rw [a7 b j (by omega)]; unfold ce_; rw [if_neg (by omega)]
    rw [a6 b j (by omega)]; unfold ce_; rw [if_neg (by omega)]
    rw [a5 b j (by omega)]; unfold ce_; rw [if_neg (by omega)]
    rw [a4 b j (by omega)]; unfold ce_; rw [if_neg (by omega)]
  have s1 : ∀ b j, 2 ≤ b → b ≤ 10 → N9 b j = N1 b j := fun b j q0 q1 => by
    rw [a9 b j (by omega)]; unfold ce_; rw [if_neg (by omega)]
    rw [a8 b j (by omega)]; unfold ce_; rw [if_neg (by omega)]
    rw [a7 b j (by omega)]; unfold ce_; rw [if_neg (by omega)]
    rw [a6 b j (by omega)]; unfold ce_; rw [if_neg (by omega)]
    rw [a5 b j (by omega)]; unfold ce_; rw [if_neg (by omega)]
    rw [a4 b j (by omega)]; unfold ce_; rw [if_neg (by omega)]
    rw [a3 b j (by omega)]; unfold ce_; rw [if_neg (by omega)]
    rw [up_b _ _ _ _ (by omega)]
    rw [a2 b j (by omega)]; unfold ce_; rw [if_neg (by omega)]
    rw [up_b _ _ _ _ (by omega)]
  have fA : fiL finA (up_ K9 0 12 82) := by
    refine fiL_app f0 (fiL_ag (lo := 0) (hi := 0) (F := K9) ?_ (ag_up K9 (by decide) (by decide)) (by decide))
    exact fiL_app (fiL_rg d1 t1 (by decide)) (fiL_app (fiL_rg d2 t2 (by decide)) (fiL_app (fiL_rg d3 t3 (by decide)) (fiL_app (fiL_rg d4 t4 (by decide)) (fiL_app (fiL_rg d5 t5 (by decide)) (fiL_app (fiL_rg d6 t6 (by decide)) (fiL_app (fiL_rg d7 t7 (by decide)) (fiL_app (fiL_rg d8 t8 (by decide)) d9)))))))
  have gE : isE 2 N9 := g1.of s1
  have hl : lgM N9 := fun v v0 v1 => by rw [s3 21 v (by decide) (by decide)]; exact g3 v v0 v1
  have hc : cdM N9 := ⟨fun k k0 k1 => by rw [s4 28 k (by decide) (by decide), s4 29 k (by decide) (by decide)]; exact g4.1 k k0 k1, fun k k0 k1 => by rw [s4 30 k (by decide) (by decide)]; exact g4.2 k k0 k1⟩
  have h69 : ∀ k, 0 ≤ k → k < 729 → N9 69 k = 0 := fun k _ _ => by rw [s7 69 k (by decide) (by decide)]; exact g7 k
  have h78 : N9 78 2 = 79 := by rw [s8 78 2 (by decide) (by decide)]; exact g8
  have r0 : ∀ j, N9 0 j = (up_ N2 0 5 11) 0 j := fun j => (a9 0 j (by decide)).trans ((a8 0 j (by decide)).trans ((a7 0 j (by decide)).trans ((a6 0 j (by decide)).trans ((a5 0 j (by decide)).trans ((a4 0 j (by decide)).trans (a3 0 j (by decide)))))))
  have r1 : ∀ j, N2 0 j = (up_ N1 0 4 2) 0 j := fun j => a2 0 j (by decide)
  have r2 : ∀ j, N1 0 j = (up_ M 0 3 (-1)) 0 j := fun j => a1 0 j (by decide)
  have v4 : N9 0 4 = 2 := (r0 4).trans (r1 4)
  have v5 : N9 0 5 = 13 - 2 := r0 5
  have v1 : N9 0 1 = 0 := (r0 1).trans ((r1 1).trans ((r2 1).trans z1))
  have v2 : N9 0 2 = 0 := (r0 2).trans ((r1 2).trans ((r2 2).trans z2))
  have v3 : N9 0 3 = -1 := (r0 3).trans ((r1 3).trans (r2 3))
  refine ⟨rfl, ⟨rfl, ⟨(by decide : (86 : Int) ≤ 86), fun q hq hlt => ?_⟩⟩, ?_⟩
  · rw [finAB] at hq
    rcases List.mem_append.1 hq with hq | hq
    · exact fiL_mem fA q hq
    · have := finB_86 q hq; omega
  · refine s_X11_settle0 (W1 := (up_ K9 0 12 82, dl, 126, m9)) (G := emG 2 N9) (L := 0) (tn := 0) (tp := fun _ => 0) (Or.inl rfl) (emG_cl 2 N9) (emG_W gE).1 hc v4 v5 h69 ?_ (show (126 : Int) ≤ 126 by decide) ⟨by omega, v1, fun i i0 i1 => by omega⟩ ⟨v2, v3⟩ (fun N hN hC => h N _ _ (emG 2 N9) (fun b j hb => ?_) bA (by omega) fA (emG_W gE) (emG_Z gE) (fun v v0 v1 => ?_) hC)
    · unfold suM; rw [h78]; exact ⟨rfl, rfl, Or.inl rfl, by decide, by decide⟩
    · rw [hN b j (by omega)]; exact aA b j (by omega)
    · rw [hN 21 v (by omega)]; exact hl v v0 v1
