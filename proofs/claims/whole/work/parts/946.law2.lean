/-! THE LAW: how much is made; two calls and their answers held together -/
def bud (L2 : Int) (k cells slots : Nat) : Prop := (cells : Int) ≤ 126 + L2 + k ∧ (∃ late : Int, (slots : Int) ≤ 546906 + late + 6 * k ∧ 0 ≤ late ∧ (late ≤ 2 * L2 ∨ (L2 = 357210 ∧ late ≤ 1071630))) ∧ 0 ≤ L2 ∧ L2 ≤ 357210
theorem bud_room {L2 : Int} {k cells slots : Nat} (h : bud L2 k cells slots) (hk : k ≤ 513) : cells + 1 ≤ 601024 ∧ slots + 6 ≤ 7293034 := by
  obtain ⟨h1, ⟨late, h2, h3, h4⟩, h5, h6⟩ := h
  omega
theorem bud_wR {L2 L3 : Int} {k cells slots : Nat} {W0 W1 : aW} (h : bud L2 k cells slots) (hw : wR W0 W1 L2 L3) : bud L3 k (cells + (W1.2.2.1 - W0.2.2.1).toNat) (slots + (W1.2.2.2 - W0.2.2.2).toNat) := by
  obtain ⟨h1, ⟨late, h2, h3, h4⟩, h5, h6⟩ := h
  rcases hw with ⟨rfl, rfl⟩ | ⟨rfl, g1, g2, g3⟩
  · rw [Int.sub_self, Int.sub_self]
    exact ⟨by simpa using h1, ⟨late, by simpa using h2, h3, h4⟩, h5, h6⟩
  · refine ⟨?_, ⟨late + L3, ?_, by omega, by omega⟩, by omega, g3⟩
    · show ((cells + ((W0.2.2.1 + 1) - W0.2.2.1).toNat : Nat) : Int) ≤ _
      omega
    · show ((slots + ((W0.2.2.2 + L3) - W0.2.2.2).toNat : Nat) : Int) ≤ _
      omega
theorem bud_k {L2 : Int} {k cells slots : Nat} (h : bud L2 k cells slots) : bud L2 (k + 1) cells slots := by
  obtain ⟨h1, ⟨late, h2, h3, h4⟩, h5, h6⟩ := h
  exact ⟨by omega, ⟨late, by omega, h3, h4⟩, h5, h6⟩
theorem bld_le {B B2 : Int} {q : aS} (h : bld_ B q) (hb : B2 ≤ B) : bld_ B2 q := ⟨Int.le_trans hb h.1, fun x hx hl => h.2 x hx (Int.lt_of_lt_of_le hl hb)⟩
theorem bnd_126 (mi : Nat) : bnd_ mi ≤ 126 := bnd_le mi
theorem bld_wR {M N : aM} {W0 W1 : aW} {L2 L3 : Int} (h : bld_ 126 (M, W0)) (hw : wR W0 W1 L2 L3) : bld_ 126 (N, W1) := by
  rcases hw with ⟨rfl, rfl⟩ | ⟨rfl, -⟩
  · exact h
  · refine ⟨?_, h.2⟩
    have h1 : (126 : Int) ≤ W0.2.2.1 := h.1
    show (126 : Int) ≤ W0.2.2.1 + 1
    omega
theorem kD_at0 (dl : Int → Int) : kD_ dl 0 = 11 := rfl
theorem kD_at86 (dl : Int → Int) : kD_ dl 86 = 12 := rfl
section LAW2
variable {p : Program} {l : Launch} {e : Env} {s : State} {m : MethodId} {below : List Frame} {meth : Method} {c : Code} {b L : Nat} {xs : Nat → Int32} {H : Heap} {locs : List Loc} {cells slots : Nat} {Z : State → Prop}
variable {z t u : Nat} {D : va_G} {I : aI}
theorem law_two_I {mj mk ix iy P Pm k : Nat} {as' : List aV} {M : aM} {Wd : aW} {L2 off : Int} {ls : Array Slot} (C0 : lw_At p s m meth c b L xs) (hz : z = s.heap.size) (hKK : KK z t u D I s s.heap) (hM1 : lwM mj ix (some .int)) (hM2 : lwM mk iy (some .int)) (o1 : oc_ mj = 11) (o2 : oc_ mk = 12)
    (d1 : decode code P = .ok (.invokevirtual ix, 3)) (d2 : decode code Pm = .ok (.invokevirtual iy, 3)) (d3 : decode code (Pm + 3) = .ok (.if_icmp .eq off, 3)) (ht : ((Pm + 3 : Nat) : Int) + off = ((1123 : Nat) : Int)) (c1 : cats (vR 0 :: as') ≤ mxl_ mj) (c2 : cats (vR 86 :: as') ≤ mxl_ mk) (n1 : as'.length = np_ mj) (n2 : as'.length = np_ mk)
    (hPI : PI mj mk (vR 0 :: as') (vR 86 :: as') L2 M Wd) (hb : bld_ 126 (M, Wd)) (hbud : bud L2 k cells slots) (hk : k ≤ 512) (hR : Rel z t u D I (M, Wd) H) (hSS : va_S (AAz z) s.heap H locs) (hls : ls.size = 7)
    (mid : ∀ (H1 : Heap) (locs1 : List Loc) (e1 e2 : Nat) (r : Int), va_S (AAz z) s.heap H1 locs1 → W p l e room_1 s m #[Value.ref b] below meth c H1 locs1 e1 e2 Z (F0 m Pm ls ((as'.map (cv z t u)).reverse ++ .ref (z + (86 : Int).toNat) :: ([vI r] : List aV).map (cv z t u))) → W p l e room_1 s m #[Value.ref b] below meth c H1 locs1 e1 e2 Z (F0 m (P + 3) ls [.int (Int32.ofInt r)]))
    (tail : ∀ (H1 : Heap) (locs1 : List Loc) (e1 e2 : Nat) (M1 : aM) (W1 : aW) (L3 : Int), PS L3 M1 W1 → bld_ 126 (M1, W1) → bud L3 k e1 e2 → Rel z t u D I (M1, W1) H1 → va_S (AAz z) s.heap H1 locs1 → W p l e room_1 s m #[Value.ref b] below meth c H1 locs1 e1 e2 Z (F0 m 1123 ls [])) :
    W p l e room_1 s m #[Value.ref b] below meth c H locs cells slots Z (F0 m P ls ((as'.map (cv z t u)).reverse ++ .ref (z + (0 : Int).toNat) :: ([] : List aV).map (cv z t u))) := by
  have hsz : (126 : Int) ≤ Wd.2.2.1 := hb.1
  refine law_I C0 hz hKK hM1 d1 hPI (bld_le hb (bnd_126 mj)) c1 n1 (by decide) (Int.le_refl 0) (by show (0 : Int) < Wd.2.2.1; omega) (by rw [o1]; rfl) hR hSS hls (fun r N W1 hq => ?_) (fun r N W1 H1 locs1 hq g1 g2 hR1 hS1 => ?_)
  · obtain ⟨L3, hw, -⟩ := hq
    have h1 := bud_room (bud_wR hbud hw) (by omega)
    exact ⟨by show cells + (W1.2.2.1 - Wd.2.2.1).toNat ≤ _; omega, by show slots + (W1.2.2.2 - Wd.2.2.2).toNat ≤ _; omega⟩
  · obtain ⟨L3, hw, hcall⟩ := hq
    have hb1 := bld_wR (N := N) hb hw
    have hbud1 := bud_wR hbud hw
    have hsz1 : (126 : Int) ≤ W1.2.2.1 := hb1.1
    refine mid H1 locs1 _ _ r hS1 ?_
    refine law_I C0 hz hKK hM2 d2 hcall (bld_le hb1 (bnd_126 mk)) c2 n2 (Nat.le_of_ble_eq_true rfl) (by decide) (by show (86 : Int) < W1.2.2.1; omega) (by rw [o2]; rfl) hR1 hS1 hls (fun r2 N2 W2 hq => ?_) (fun r2 N2 W2 H2 locs2 hq g3 g4 hR2 hS2 => ?_)
    · obtain ⟨-, rfl, -⟩ := hq
      have h1 := bud_room hbud1 (by omega)
      refine ⟨?_, ?_⟩
      · show cells + (W2.2.2.1 - Wd.2.2.1).toNat + (W2.2.2.1 - W2.2.2.1).toNat ≤ _
        omega
      · show slots + (W2.2.2.2 - Wd.2.2.2).toNat + (W2.2.2.2 - W2.2.2.2).toNat ≤ _
        omega
    · obtain ⟨rfl, rfl, hPS⟩ := hq
      refine lv_icmp_eq (tgt := 1123) C0.1 C0.2.1 d3 ht (fun _ => ?_) (fun q => absurd rfl q)
      refine tail H2 locs2 _ _ N2 W2 L3 hPS (bld_le (B := 126) ⟨hb1.1, hb1.2⟩ (Int.le_refl _)) ?_ hR2 hS2
      have e1 : (W2.2.2.1 - szS (N, W2)).toNat = 0 := by show (W2.2.2.1 - W2.2.2.1).toNat = 0; omega
      have e2 : (W2.2.2.2 - nsS (N, W2)).toNat = 0 := by show (W2.2.2.2 - W2.2.2.2).toNat = 0; omega
      rw [e1, e2]
      exact hbud1
theorem law_two_L {mj mk ix iy P Pm k : Nat} {as' : List aV} {M : aM} {Wd : aW} {L2 off : Int} {ls : Array Slot} (C0 : lw_At p s m meth c b L xs) (hz : z = s.heap.size) (hKK : KK z t u D I s s.heap) (hM1 : lwM mj ix (some .long)) (hM2 : lwM mk iy (some .long)) (o1 : oc_ mj = 11) (o2 : oc_ mk = 12)
    (d1 : decode code P = .ok (.invokevirtual ix, 3)) (d2 : decode code Pm = .ok (.invokevirtual iy, 3)) (d3 : decode code (Pm + 3) = .ok (.lcmp, 1)) (d4 : decode code (Pm + 4) = .ok (.ifCond .eq off, 3)) (ht : ((Pm + 4 : Nat) : Int) + off = ((1123 : Nat) : Int)) (c1 : cats (vR 0 :: as') ≤ mxl_ mj) (c2 : cats (vR 86 :: as') ≤ mxl_ mk) (n1 : as'.length = np_ mj) (n2 : as'.length = np_ mk)
    (hPI : PL mj mk (vR 0 :: as') (vR 86 :: as') L2 M Wd) (hb : bld_ 126 (M, Wd)) (hbud : bud L2 k cells slots) (hk : k ≤ 512) (hR : Rel z t u D I (M, Wd) H) (hSS : va_S (AAz z) s.heap H locs) (hls : ls.size = 7)
    (mid : ∀ (H1 : Heap) (locs1 : List Loc) (e1 e2 : Nat) (r : Int), va_S (AAz z) s.heap H1 locs1 → W p l e room_1 s m #[Value.ref b] below meth c H1 locs1 e1 e2 Z (F0 m Pm ls ((as'.map (cv z t u)).reverse ++ .ref (z + (86 : Int).toNat) :: ([vL r] : List aV).map (cv z t u))) → W p l e room_1 s m #[Value.ref b] below meth c H1 locs1 e1 e2 Z (F0 m (P + 3) ls [.long (Int64.ofInt r)]))
    (tail : ∀ (H1 : Heap) (locs1 : List Loc) (e1 e2 : Nat) (M1 : aM) (W1 : aW) (L3 : Int), PS L3 M1 W1 → bld_ 126 (M1, W1) → bud L3 k e1 e2 → Rel z t u D I (M1, W1) H1 → va_S (AAz z) s.heap H1 locs1 → W p l e room_1 s m #[Value.ref b] below meth c H1 locs1 e1 e2 Z (F0 m 1123 ls [])) :
    W p l e room_1 s m #[Value.ref b] below meth c H locs cells slots Z (F0 m P ls ((as'.map (cv z t u)).reverse ++ .ref (z + (0 : Int).toNat) :: ([] : List aV).map (cv z t u))) := by
  have hsz : (126 : Int) ≤ Wd.2.2.1 := hb.1
  refine law_L C0 hz hKK hM1 d1 hPI (bld_le hb (bnd_126 mj)) c1 n1 (by decide) (Int.le_refl 0) (by show (0 : Int) < Wd.2.2.1; omega) (by rw [o1]; rfl) hR hSS hls (fun r N W1 hq => ?_) (fun r N W1 H1 locs1 hq g1 g2 hR1 hS1 => ?_)
  · obtain ⟨L3, hw, -⟩ := hq
    have h1 := bud_room (bud_wR hbud hw) (by omega)
    exact ⟨by show cells + (W1.2.2.1 - Wd.2.2.1).toNat ≤ _; omega, by show slots + (W1.2.2.2 - Wd.2.2.2).toNat ≤ _; omega⟩
  · obtain ⟨L3, hw, hcall⟩ := hq
    have hb1 := bld_wR (N := N) hb hw
    have hbud1 := bud_wR hbud hw
    have hsz1 : (126 : Int) ≤ W1.2.2.1 := hb1.1
    refine mid H1 locs1 _ _ r hS1 ?_
    refine law_L C0 hz hKK hM2 d2 hcall (bld_le hb1 (bnd_126 mk)) c2 n2 (Nat.le_of_ble_eq_true rfl) (by decide) (by show (86 : Int) < W1.2.2.1; omega) (by rw [o2]; rfl) hR1 hS1 hls (fun r2 N2 W2 hq => ?_) (fun r2 N2 W2 H2 locs2 hq g3 g4 hR2 hS2 => ?_)
    · obtain ⟨-, rfl, -⟩ := hq
      have h1 := bud_room hbud1 (by omega)
      refine ⟨?_, ?_⟩
      · show cells + (W2.2.2.1 - Wd.2.2.1).toNat + (W2.2.2.1 - W2.2.2.1).toNat ≤ _
        omega
      · show slots + (W2.2.2.2 - Wd.2.2.2).toNat + (W2.2.2.2 - W2.2.2.2).toNat ≤ _
        omega
    · obtain ⟨rfl, rfl, hPS⟩ := hq
      have e0 : ∀ x : Int64, lg_cmp x x = 0 := fun x => by simp [lg_cmp]
      refine W.lcmp C0.1 C0.2.1 d3 ?_
      refine lv_if_eq (tgt := 1123) C0.1 C0.2.1 d4 ht (fun _ => ?_) (fun q => absurd (e0 _) q)
      refine tail H2 locs2 _ _ N2 W2 L3 hPS (bld_le (B := 126) ⟨hb1.1, hb1.2⟩ (Int.le_refl _)) ?_ hR2 hS2
      have e1 : (W2.2.2.1 - szS (N, W2)).toNat = 0 := by show (W2.2.2.1 - W2.2.2.1).toNat = 0; omega
      have e2 : (W2.2.2.2 - nsS (N, W2)).toNat = 0 := by show (W2.2.2.2 - W2.2.2.2).toNat = 0; omega
      rw [e1, e2]
      exact hbud1
end LAW2
