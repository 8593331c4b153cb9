/-! THE PAIR: the class and the reference over one land, one tape, one walk -/
theorem clS.K {M : aM} {W : aW} {G : Lnd} {D : Int → Int → Int} {c on w n tn fk fp L : Int} {wp wh wk tp : Int → Int} {N : aM} (h : clS c G D on w n wp wh wk tn tp fk fp L M W) (e : ∀ b j, (b < 86 ∨ 125 ≤ b) → N b j = M b j) : clS c G D on w n wp wh wk tn tp fk fp L N W := by
  obtain ⟨⟨h1, h2⟩, h3, h4, h5, h6, h7, h8, h9, h10, h11⟩ := h
  exact ⟨⟨by rw [e _ _ (by omega)]; exact h1, by rw [e _ _ (by omega)]; exact h2⟩, h3.of (fun b j hb => e b j (by unfold inP at hb; omega)), h4.of (fun b j hb => e b j (by omega)), h5.of (fun b j _ _ => e b j (by omega)), h6.of (fun b j hb => e b j (by omega)), h7.of (fun b j hb => e b j (by omega)), h8.of (fun b j _ _ => e b j (by omega)), h9.of (fun b j hb => e b j (by omega)), by rw [e _ _ (by omega)]; exact h10, by rw [e _ _ (by omega)]; exact h11⟩
theorem rfS.C {G : Lnd} {D : Int → Int → Int} {on w n tn fk fp : Int} {wp wh wk tp : Int → Int} {M N : aM} (h : rfS G D on w n wp wh wk tn tp fk fp M) (e : frC M N) : rfS G D on w n wp wh wk tn tp fk fp N := by
  obtain ⟨h1, h2, h3, ⟨h4, h5, h6⟩, h7, h8, h9, ⟨h10, h11⟩, h12⟩ := h
  have ht := h1.t; have hn := h1.n
  have hq : thr_ ((G 0 3)) ≤ 729 ∧ (G 0 0) ≤ 10 := by omega
  exact ⟨h1.of (fun b j c => e b j (by unfold inG at c; omega) (by unfold inG at c; omega)), h2.of (fun b j c => e b j (by omega) (by omega)), h3.of (fun j => e 113 j (by omega) (by omega)), ⟨h4.of hq (fun b j c => e b j (by omega) (by omega)), h5.of hq (fun b j c => e b j (by omega) (by omega)), h6.of hq (fun b j c => e b j (by omega) (by omega))⟩, h7.of (fun b j c => e b j (by omega) (by omega)), h8.of (fun b j c => e b j (by omega) (by omega)), h9.of (fun b j c => e b j (by omega) (by omega)), ⟨by rw [e _ _ (by omega) (by omega)]; exact h10, by rw [e _ _ (by omega) (by omega)]; exact h11⟩, h12.of (fun j => e 88 j (by omega) (by omega))⟩
theorem lgM.C {M N : aM} (h : lgM M) (e : frC M N) : lgM N := fun v v0 v1 => by rw [e 21 v (by omega) (by omega)]; exact h v v0 v1
theorem lgM.K {M N : aM} (h : lgM M) (e : frK M N) : lgM N := fun v v0 v1 => by rw [e 21 v (by omega)]; exact h v v0 v1
def PS (L : Int) (M : aM) (W : aW) : Prop := ∃ (c : Int) (G : Lnd) (D : Int → Int → Int) (on w n : Int) (wp wh wk : Int → Int) (tn : Int) (tp : Int → Int) (fk fp : Int), clS c G D on w n wp wh wk tn tp fk fp L M W ∧ rfS G D on w n wp wh wk tn tp fk fp M ∧ lgM M
theorem PS.mk {M : aM} {W : aW} {G : Lnd} {D : Int → Int → Int} {c on w n tn fk fp L : Int} {wp wh wk tp : Int → Int} (h1 : clS c G D on w n wp wh wk tn tp fk fp L M W) (h2 : rfS G D on w n wp wh wk tn tp fk fp M) (h3 : lgM M) : PS L M W := ⟨c, G, D, on, w, n, wp, wh, wk, tn, tp, fk, fp, h1, h2, h3⟩
def PI (mj mk : Nat) (as bs : List aV) (L : Int) (M : aM) (W : aW) : Prop := CallI mj as (M, W) (fun r N W1 => ∃ L2, wR W W1 L L2 ∧ CallI mk bs (N, W1) (fun r2 N2 W2 => r2 = r ∧ W2 = W1 ∧ PS L2 N2 W1))
def PL (mj mk : Nat) (as bs : List aV) (L : Int) (M : aM) (W : aW) : Prop := CallL mj as (M, W) (fun r N W1 => ∃ L2, wR W W1 L L2 ∧ CallL mk bs (N, W1) (fun r2 N2 W2 => r2 = r ∧ W2 = W1 ∧ PS L2 N2 W1))
theorem p_fault {L : Int} {M : aM} {W : aW} {x1 : Int} (h : PS L M W) (i1 : inI x1) : PI 121 179 [vR 0, vI x1] [vR 86, vI x1] L M W := by
  obtain ⟨c, G, D, on, w, n, wp, wh, wk, tn, tp, fk, fp, hC, hR, hl⟩ := h
  exact c_fault hC i1 (fun N f h2 => ⟨L, Or.inl ⟨rfl, rfl⟩, r_fault (hR.C f) i1 (fun N2 f2 h3 => ⟨rfl, rfl, PS.mk (h2.K f2) h3 ((hl.C f).K f2)⟩)⟩)
theorem p_weight {L : Int} {M : aM} {W : aW} {x1 : Int} (h : PS L M W) (i1 : inI x1) : PL 122 195 [vR 0, vI x1] [vR 86, vI x1] L M W := by
  obtain ⟨c, G, D, on, w, n, wp, wh, wk, tn, tp, fk, fp, hC, hR, hl⟩ := h
  exact c_weight hC i1 (fun N f h2 => ⟨L, Or.inl ⟨rfl, rfl⟩, r_weight (hR.C f) i1 (fun N2 f2 h3 => ⟨rfl, rfl, PS.mk (h2.K f2) h3 ((hl.C f).K f2)⟩)⟩)
theorem p_likely {L : Int} {M : aM} {W : aW} {x1 : Int} (h : PS L M W) (i1 : inI x1) : PL 123 196 [vR 0, vI x1] [vR 86, vI x1] L M W := by
  obtain ⟨c, G, D, on, w, n, wp, wh, wk, tn, tp, fk, fp, hC, hR, hl⟩ := h
  exact c_likely hC i1 (fun N f h2 => ⟨L, Or.inl ⟨rfl, rfl⟩, r_likely (hR.C f) i1 (fun N2 f2 h3 => ⟨rfl, rfl, PS.mk (h2.K f2) h3 ((hl.C f).K f2)⟩)⟩)
theorem p_shut {L : Int} {M : aM} {W : aW} {x1 x2 : Int} (h : PS L M W) (i1 : inI x1) (i2 : inI x2) : PL 124 197 [vR 0, vI x1, vI x2] [vR 86, vI x1, vI x2] L M W := by
  obtain ⟨c, G, D, on, w, n, wp, wh, wk, tn, tp, fk, fp, hC, hR, hl⟩ := h
  exact c_shut hC i1 i2 (fun N f h2 => ⟨L, Or.inl ⟨rfl, rfl⟩, r_shut (hR.C f) i1 i2 (fun N2 f2 h3 => ⟨rfl, rfl, PS.mk (h2.K f2) h3 ((hl.C f).K f2)⟩)⟩)
theorem p_knowing {L : Int} {M : aM} {W : aW} {x1 : Int} (h : PS L M W) (i1 : inI x1) : PI 125 206 [vR 0, vI x1] [vR 86, vI x1] L M W := by
  obtain ⟨c, G, D, on, w, n, wp, wh, wk, tn, tp, fk, fp, hC, hR, hl⟩ := h
  exact c_knowing hC i1 (fun N f h2 => ⟨L, Or.inl ⟨rfl, rfl⟩, r_knowing (hR.C f) i1 (fun N2 f2 h3 => ⟨rfl, rfl, PS.mk (h2.K f2) h3 ((hl.C f).K f2)⟩)⟩)
theorem p_mean {L : Int} {M : aM} {W : aW} {x1 : Int} (h : PS L M W) (i1 : inI x1) : PL 126 234 [vR 0, vI x1] [vR 86, vI x1] L M W := by
  obtain ⟨c, G, D, on, w, n, wp, wh, wk, tn, tp, fk, fp, hC, hR, hl⟩ := h
  exact c_mean hC i1 (fun N f h2 => ⟨L, Or.inl ⟨rfl, rfl⟩, r_mean (hR.C f) i1 (fun N2 f2 h3 => ⟨rfl, rfl, PS.mk (h2.K f2) h3 ((hl.C f).K f2)⟩)⟩)
theorem p_worst {L : Int} {M : aM} {W : aW} {x1 : Int} (h : PS L M W) (i1 : inI x1) : PI 127 235 [vR 0, vI x1] [vR 86, vI x1] L M W := by
  obtain ⟨c, G, D, on, w, n, wp, wh, wk, tn, tp, fk, fp, hC, hR, hl⟩ := h
  exact c_worst hC i1 (fun N f h2 => ⟨L, Or.inl ⟨rfl, rfl⟩, r_worst (hR.C f) i1 (fun N2 f2 h3 => ⟨rfl, rfl, PS.mk (h2.K f2) h3 ((hl.C f).K f2)⟩)⟩)
theorem p_hours {L : Int} {M : aM} {W : aW} {x1 x2 : Int} (h : PS L M W) (i1 : inI x1) (i2 : inI x2) : PI 128 236 [vR 0, vI x1, vI x2] [vR 86, vI x1, vI x2] L M W := by
  obtain ⟨c, G, D, on, w, n, wp, wh, wk, tn, tp, fk, fp, hC, hR, hl⟩ := h
  exact c_hours hC i1 i2 (fun N f h2 => ⟨L, Or.inl ⟨rfl, rfl⟩, r_hours (hR.C f) i1 i2 (fun N2 f2 h3 => ⟨rfl, rfl, PS.mk (h2.K f2) h3 ((hl.C f).K f2)⟩)⟩)
theorem p_times {L : Int} {M : aM} {W : aW} {x1 x2 : Int} (h : PS L M W) (i1 : inI x1) (i2 : inI x2) : PI 129 237 [vR 0, vI x1, vI x2] [vR 86, vI x1, vI x2] L M W := by
  obtain ⟨c, G, D, on, w, n, wp, wh, wk, tn, tp, fk, fp, hC, hR, hl⟩ := h
  exact c_times hC i1 i2 (fun N f h2 => ⟨L, Or.inl ⟨rfl, rfl⟩, r_times (hR.C f) i1 i2 (fun N2 f2 h3 => ⟨rfl, rfl, PS.mk (h2.K f2) h3 ((hl.C f).K f2)⟩)⟩)
theorem p_next {L : Int} {M : aM} {W : aW} {x1 x2 x3 : Int} (h : PS L M W) (i1 : inI x1) (i2 : inI x2) (i3 : inI x3) : PI 130 238 [vR 0, vI x1, vI x2, vI x3] [vR 86, vI x1, vI x2, vI x3] L M W := by
  obtain ⟨c, G, D, on, w, n, wp, wh, wk, tn, tp, fk, fp, hC, hR, hl⟩ := h
  exact c_next hC i1 i2 i3 (fun N f h2 => ⟨L, Or.inl ⟨rfl, rfl⟩, r_next (hR.C f) i1 i2 i3 (fun N2 f2 h3 => ⟨rfl, rfl, PS.mk (h2.K f2) h3 ((hl.C f).K f2)⟩)⟩)
theorem p_from {L : Int} {M : aM} {W : aW} {x1 x2 : Int} (h : PS L M W) (i1 : inI x1) (i2 : inI x2) : PL 131 240 [vR 0, vI x1, vI x2] [vR 86, vI x1, vI x2] L M W := by
  obtain ⟨c, G, D, on, w, n, wp, wh, wk, tn, tp, fk, fp, hC, hR, hl⟩ := h
  exact c_from hC i1 i2 (fun N f h2 => ⟨L, Or.inl ⟨rfl, rfl⟩, r_from (hR.C f) i1 i2 (fun N2 f2 h3 => ⟨rfl, rfl, PS.mk (h2.K f2) h3 ((hl.C f).K f2)⟩)⟩)
theorem p_count {L : Int} {M : aM} {W : aW} {x1 : Int} (h : PS L M W) (i1 : inI x1) : PI 147 264 [vR 0, vI x1] [vR 86, vI x1] L M W := by
  obtain ⟨c, G, D, on, w, n, wp, wh, wk, tn, tp, fk, fp, hC, hR, hl⟩ := h
  exact c_count hC i1 (fun N f h2 => ⟨L, Or.inl ⟨rfl, rfl⟩, r_count (hR.C f) i1 (fun N2 f2 h3 => ⟨rfl, rfl, PS.mk (h2.K f2) h3 ((hl.C f).K f2)⟩)⟩)
theorem p_rows {L : Int} {M : aM} {W : aW} {x1 : Int} (h : PS L M W) (i1 : inI x1) : PL 134 245 [vR 0, vI x1] [vR 86, vI x1] L M W := by
  obtain ⟨c, G, D, on, w, n, wp, wh, wk, tn, tp, fk, fp, hC, hR, hl⟩ := h
  exact c_rows hC i1 (fun N f h2 => ⟨L, Or.inl ⟨rfl, rfl⟩, r_rows (hR.C f) i1 (fun N2 f2 h3 => ⟨rfl, rfl, PS.mk (h2.K f2) h3 ((hl.C f).K f2)⟩)⟩)
theorem p_ring {L : Int} {M : aM} {W : aW} {x1 : Int} (h : PS L M W) (i1 : inI x1) : PI 136 247 [vR 0, vI x1] [vR 86, vI x1] L M W := by
  obtain ⟨c, G, D, on, w, n, wp, wh, wk, tn, tp, fk, fp, hC, hR, hl⟩ := h
  exact c_ring hC i1 (fun N f h2 => ⟨L, Or.inl ⟨rfl, rfl⟩, r_ring (hR.C f) i1 (fun N2 f2 h3 => ⟨rfl, rfl, PS.mk (h2.K f2) h3 ((hl.C f).K f2)⟩)⟩)
theorem p_worth {L : Int} {M : aM} {W : aW} {x1 : Int} (h : PS L M W) (i1 : inI x1) : PL 138 254 [vR 0, vI x1] [vR 86, vI x1] L M W := by
  obtain ⟨c, G, D, on, w, n, wp, wh, wk, tn, tp, fk, fp, hC, hR, hl⟩ := h
  exact c_worth hC i1 (fun N f h2 => ⟨L, Or.inl ⟨rfl, rfl⟩, r_worth (hR.C f) i1 (fun N2 f2 h3 => ⟨rfl, rfl, PS.mk (h2.K f2) h3 ((hl.C f).K f2)⟩)⟩)
theorem p_scout {L : Int} {M : aM} {W : aW} {x1 x2 : Int} (h : PS L M W) (i1 : inI x1) (i2 : inI x2) : PL 139 255 [vR 0, vI x1, vI x2] [vR 86, vI x1, vI x2] L M W := by
  obtain ⟨c, G, D, on, w, n, wp, wh, wk, tn, tp, fk, fp, hC, hR, hl⟩ := h
  exact c_scout hC i1 i2 (fun N f h2 => ⟨L, Or.inl ⟨rfl, rfl⟩, r_scout (hR.C f) i1 i2 (fun N2 f2 h3 => ⟨rfl, rfl, PS.mk (h2.K f2) h3 ((hl.C f).K f2)⟩)⟩)
theorem p_keep {L : Int} {M : aM} {W : aW} {x1 : Int} (h : PS L M W) (i1 : inI x1) : PL 140 256 [vR 0, vI x1] [vR 86, vI x1] L M W := by
  obtain ⟨c, G, D, on, w, n, wp, wh, wk, tn, tp, fk, fp, hC, hR, hl⟩ := h
  exact c_keep hC i1 (fun N f h2 => ⟨L, Or.inl ⟨rfl, rfl⟩, r_keep (hR.C f) i1 (fun N2 f2 h3 => ⟨rfl, rfl, PS.mk (h2.K f2) h3 ((hl.C f).K f2)⟩)⟩)
theorem p_edge {L : Int} {M : aM} {W : aW} {x1 : Int} (h : PS L M W) (i1 : inI x1) : PI 141 257 [vR 0, vI x1] [vR 86, vI x1] L M W := by
  obtain ⟨c, G, D, on, w, n, wp, wh, wk, tn, tp, fk, fp, hC, hR, hl⟩ := h
  exact c_edge hC i1 (fun N f h2 => ⟨L, Or.inl ⟨rfl, rfl⟩, r_edge (hR.C f) i1 (fun N2 f2 h3 => ⟨rfl, rfl, PS.mk (h2.K f2) h3 ((hl.C f).K f2)⟩)⟩)
theorem p_walk {L : Int} {M : aM} {W : aW} {x1 : Int} (h : PS L M W) (i1 : inI x1) : PI 146 263 [vR 0, vI x1] [vR 86, vI x1] L M W := by
  obtain ⟨c, G, D, on, w, n, wp, wh, wk, tn, tp, fk, fp, hC, hR, hl⟩ := h
  exact c_walk hC i1 (fun N f h2 => ⟨L, Or.inl ⟨rfl, rfl⟩, r_walk (hR.C f) i1 (fun N2 f2 h3 => ⟨rfl, rfl, PS.mk (h2.K f2) h3 ((hl.C f).K f2)⟩)⟩)
theorem p_clear {L : Int} {M : aM} {W : aW} (h : PS L M W) : PI 133 242 [vR 0] [vR 86] L M W := by
  obtain ⟨c, G, D, on, w, n, wp, wh, wk, tn, tp, fk, fp, hC, hR, hl⟩ := h
  exact c_clear hC (fun N f h2 => ⟨L, Or.inl ⟨rfl, rfl⟩, r_clear (hR.C f) (fun N2 f2 h3 => ⟨rfl, rfl, PS.mk (h2.K f2) h3 ((hl.C f).K f2)⟩)⟩)
theorem p_bell {L : Int} {M : aM} {W : aW} {x1 : Int} (h : PS L M W) (i1 : inI x1) : PL 137 249 [vR 0, vI x1] [vR 86, vI x1] L M W := by
  obtain ⟨c, G, D, on, w, n, wp, wh, wk, tn, tp, fk, fp, hC, hR, hl⟩ := h
  exact c_bell hC i1 (fun N W1 L2 f hw h2 => ⟨L2, hw, r_bell (hR.C f) i1 (fun N2 f2 h3 => ⟨rfl, rfl, PS.mk (h2.K f2) h3 ((hl.C f).K f2)⟩)⟩)
theorem p_row {L : Int} {M : aM} {W : aW} {x1 : Int} (h : PS L M W) (i1 : inI x1) : PI 132 241 [vR 0, vI x1] [vR 86, vI x1] L M W := by
  obtain ⟨c, G, D, on, w, n, wp, wh, wk, tn, tp, fk, fp, hC, hR, hl⟩ := h
  exact c_row hC i1 (fun q N f h2 => ⟨L, Or.inl ⟨rfl, rfl⟩, r_row (hR.C f) i1 (fun _ N2 f2 h3 => ⟨rfl, rfl, PS.mk (h2.K f2) h3 ((hl.C f).K f2)⟩) (fun q2 => absurd q2 q)⟩) (fun q N f h2 => ⟨L, Or.inl ⟨rfl, rfl⟩, r_row (hR.C f) i1 (fun q2 => absurd q q2) (fun _ N2 f2 h3 => ⟨rfl, rfl, PS.mk (h2.K f2) h3 ((hl.C f).K f2)⟩)⟩)
theorem p_rule {L : Int} {M : aM} {W : aW} {x1 x2 x3 x4 : Int} (h : PS L M W) (i1 : inI x1) (i2 : inI x2) (i3 : inI x3) (i4 : inI x4) : PI 135 246 [vR 0, vI x1, vI x2, vI x3, vI x4] [vR 86, vI x1, vI x2, vI x3, vI x4] L M W := by
  obtain ⟨c, G, D, on, w, n, wp, wh, wk, tn, tp, fk, fp, hC, hR, hl⟩ := h
  exact c_rule hC i1 i2 i3 i4 (fun q N f h2 => ⟨L, Or.inl ⟨rfl, rfl⟩, r_rule (hR.C f) i1 i2 i3 i4 (fun _ N2 f2 h3 => ⟨rfl, rfl, PS.mk (h2.K f2) h3 ((hl.C f).K f2)⟩) (fun q2 => absurd q2 q)⟩) (fun q N f h2 => ⟨L, Or.inl ⟨rfl, rfl⟩, r_rule (hR.C f) i1 i2 i3 i4 (fun q2 => absurd q q2) (fun _ N2 f2 h3 => ⟨rfl, rfl, PS.mk (h2.K f2) h3 ((hl.C f).K f2)⟩)⟩)
theorem p_begin {L : Int} {M : aM} {W : aW} {x1 : Int} (h : PS L M W) (i1 : inI x1) : PI 142 258 [vR 0, vI x1] [vR 86, vI x1] L M W := by
  obtain ⟨c, G, D, on, w, n, wp, wh, wk, tn, tp, fk, fp, hC, hR, hl⟩ := h
  exact c_begin hC i1 (fun q N f h2 => ⟨L, Or.inl ⟨rfl, rfl⟩, r_begin (hR.C f) i1 (fun _ N2 f2 h3 => ⟨rfl, rfl, PS.mk (h2.K f2) h3 ((hl.C f).K f2)⟩) (fun q2 => absurd q2 q)⟩) (fun q N f h2 => ⟨L, Or.inl ⟨rfl, rfl⟩, r_begin (hR.C f) i1 (fun q2 => absurd q q2) (fun _ N2 f2 h3 => ⟨rfl, rfl, PS.mk (h2.K f2) h3 ((hl.C f).K f2)⟩)⟩)
theorem p_go {L : Int} {M : aM} {W : aW} {x1 : Int} (h : PS L M W) (i1 : inI x1) : PI 143 260 [vR 0, vI x1] [vR 86, vI x1] L M W := by
  obtain ⟨c, G, D, on, w, n, wp, wh, wk, tn, tp, fk, fp, hC, hR, hl⟩ := h
  exact c_go hC i1 (fun q N f h2 => ⟨L, Or.inl ⟨rfl, rfl⟩, r_go (hR.C f) i1 (fun _ N2 f2 h3 => ⟨rfl, rfl, PS.mk (h2.K f2) h3 ((hl.C f).K f2)⟩) (fun q2 => absurd q2 q)⟩) (fun q N f h2 => ⟨L, Or.inl ⟨rfl, rfl⟩, r_go (hR.C f) i1 (fun q2 => absurd q q2) (fun _ N2 f2 h3 => ⟨rfl, rfl, PS.mk (h2.K f2) h3 ((hl.C f).K f2)⟩)⟩)
theorem p_buy {L : Int} {M : aM} {W : aW} {x1 : Int} (h : PS L M W) (i1 : inI x1) : PI 144 261 [vR 0, vI x1] [vR 86, vI x1] L M W := by
  obtain ⟨c, G, D, on, w, n, wp, wh, wk, tn, tp, fk, fp, hC, hR, hl⟩ := h
  exact c_buy hC i1 (fun q N f h2 => ⟨L, Or.inl ⟨rfl, rfl⟩, r_buy (hR.C f) i1 (fun _ N2 f2 h3 => ⟨rfl, rfl, PS.mk (h2.K f2) h3 ((hl.C f).K f2)⟩) (fun q2 => absurd q2 q)⟩) (fun q N f h2 => ⟨L, Or.inl ⟨rfl, rfl⟩, r_buy (hR.C f) i1 (fun q2 => absurd q q2) (fun _ N2 f2 h3 => ⟨rfl, rfl, PS.mk (h2.K f2) h3 ((hl.C f).K f2)⟩)⟩)
theorem p_back {L : Int} {M : aM} {W : aW} (h : PS L M W) : PI 145 262 [vR 0] [vR 86] L M W := by
  obtain ⟨c, G, D, on, w, n, wp, wh, wk, tn, tp, fk, fp, hC, hR, hl⟩ := h
  exact c_back hC  (fun q N f h2 => ⟨L, Or.inl ⟨rfl, rfl⟩, r_back (hR.C f)  (fun _ N2 f2 h3 => ⟨rfl, rfl, PS.mk (h2.K f2) h3 ((hl.C f).K f2)⟩) (fun q2 => absurd q2 q)⟩) (fun q N f h2 => ⟨L, Or.inl ⟨rfl, rfl⟩, r_back (hR.C f)  (fun q2 => absurd q q2) (fun _ N2 f2 h3 => ⟨rfl, rfl, PS.mk (h2.K f2) h3 ((hl.C f).K f2)⟩)⟩)
theorem p_feed {L : Int} {M : aM} {W : aW} {x1 x2 x3 x4 x5 : Int} (h : PS L M W) (i1 : inI x1) (i2 : inI x2) (i3 : inI x3) (i4 : inI x4) (i5 : inI x5) : PI 119 154 [vR 0, vI x1, vI x2, vI x3, vI x4, vI x5] [vR 86, vI x1, vI x2, vI x3, vI x4, vI x5] L M W := by
  obtain ⟨c, G, D, on, w, n, wp, wh, wk, tn, tp, fk, fp, hC, hR, hl⟩ := h
  exact c_feed hC  (fun q N f h2 => ⟨L, Or.inl ⟨rfl, rfl⟩, r_feed (hR.C f)  (fun _ N2 f2 h3 => ⟨rfl, rfl, PS.mk (h2.K f2) h3 ((hl.C f).K f2)⟩) (fun q2 => by omega)⟩) (fun q N f h2 => ⟨L, Or.inl ⟨rfl, rfl⟩, r_feed (hR.C f)  (fun q2 => by omega) (fun _ N2 f2 h3 => ⟨rfl, rfl, PS.mk (h2.K f2) h3 ((hl.C f).K f2)⟩)⟩)
def emp_ : Lnd := fun r j => if r = 0 ∧ (j = 6 ∨ j = 7) then -1 else if r = 4 then -1 else 0
theorem emp_E : isE 0 emp_ := ⟨⟨rfl, rfl, rfl, rfl, rfl, rfl, rfl, rfl⟩, fun i i0 i1 => by unfold emp_; rw [if_neg (by omega), if_pos (by omega)], fun i i0 i1 => by unfold emp_; rw [if_neg (by omega), if_neg (by omega)]⟩
theorem emp_W : pW emp_ := by
  have h := emG_W emp_E
  have e : emG 0 emp_ = emp_ := by
    funext r j
    unfold emG emp_
    by_cases c9 : r = 9
    · rw [if_pos c9, if_neg (by omega), if_neg (by omega), if_neg (by omega), if_neg (by omega)]
    · rw [if_neg c9]
      by_cases c10 : r = 10
      · rw [if_pos c10, if_neg (by omega), if_neg (by omega), if_neg (by omega), if_neg (by omega)]
      · rw [if_neg c10, Int.zero_add]
  rw [e] at h; exact h
theorem emp_Z : emZ emp_ := ⟨fun j j0 j1 => by unfold emp_; rw [if_neg (by omega), if_neg (by omega)], rfl, rfl⟩
theorem p_land {L : Int} {M : aM} {W : aW} {x1 : Int} (h : PS L M W) (i1 : inI x1) : PI 120 178 [vR 0, vI x1] [vR 86, vI x1] L M W := by
  obtain ⟨c, G, D, on, w, n, wp, wh, wk, tn, tp, fk, fp, hC, hR, hl⟩ := h
  have hb : ∀ i, 0 ≤ i → i < tn → -128 ≤ tp i ∧ tp i ≤ 127 := fun i i0 i1 => (hC.2.2.2.2.2.2.2.1.2.2 i i0 i1).2
  have key : ∀ (G0 : Lnd), pW G0 → emZ G0 → ∀ (N : aM), frC M N → ∀ (Q : Int → aM → aW → Prop), (x1 < 0 ∨ tn < x1 → ∀ N2, frK N N2 → rfS G D on w n wp wh wk tn tp fk fp N2 → Q (-2) N2 W) → (0 ≤ x1 → x1 ≤ tn → ∀ f e, rdLand tp x1 G0 = Sum.inl (f, e) → ∀ N2, frK N N2 → rfS G D on w n wp wh wk 0 tp f e N2 → Q (-1) N2 W) → (0 ≤ x1 → x1 ≤ tn → ∀ l H, rdLand tp x1 G0 = Sum.inr (l, H) → ∀ N2, frK N N2 → rfS H (dNew H) 0 0 0 (fun _ => 0) (fun _ => 0) (fun _ => 0) 0 tp 0 (-1) N2 → Q l N2 W) → CallI 178 [vR 86, vI x1] (N, W) Q := fun G0 p0 z0 N f Q k1 k2 k3 => r_land (G0 := G0) (hR.C f) i1 hb k1 (fun a b _ _ => k2 a b) (fun a b _ _ => k3 a b) p0 z0
  exact c_land hC i1 hl (fun q => ⟨L, Or.inl ⟨rfl, rfl⟩, key emp_ emp_W emp_Z M (frC_refl M) _ (fun _ N2 f2 h3 => ⟨rfl, rfl, PS.mk (hC.K f2) h3 (hl.K f2)⟩) (fun a b => by omega) (fun a b => by omega)⟩)
    (fun a b N G0 f e fr p0 z0 hr hl2 h2 => ⟨L, Or.inl ⟨rfl, rfl⟩, key G0 p0 z0 N fr _ (fun q => by omega) (fun _ _ f' e' hr' N2 f2 h3 => by
      rw [hr] at hr'
      obtain ⟨rfl, rfl⟩ := Prod.mk.inj (Sum.inl.inj hr')
      exact ⟨rfl, rfl, PS.mk (h2.K f2) h3 (hl2.K f2)⟩) (fun _ _ l' H' hr' => by rw [hr] at hr'; cases hr')⟩)
    (fun a b N G0 l H fr p0 z0 hr pH hl2 h2 => ⟨L, Or.inl ⟨rfl, rfl⟩, key G0 p0 z0 N fr _ (fun q => by omega) (fun _ _ f' e' hr' => by rw [hr] at hr'; cases hr') (fun _ _ l' H' hr' N2 f2 h3 => by
      rw [hr] at hr'
      obtain ⟨rfl, rfl⟩ := Prod.mk.inj (Sum.inr.inj hr')
      exact ⟨rfl, rfl, PS.mk (h2.K f2) h3 (hl2.K f2)⟩)⟩)
