/-! THE CLASS: land -/
theorem clS.lg_swap (c : Int) : 13 - (13 - c) = c := by omega
theorem cty_o {c : Int} (h : cty c) : cty (13 - c) := by
  rcases h with rfl | rfl
  · exact Or.inr (by decide)
  · exact Or.inl (by decide)
theorem lgM.of {M N : aM} (h : lgM M) (e : ∀ j, N 21 j = M 21 j) : lgM N := fun w w0 w1 => by rw [e]; exact h w w0 w1
def inPc (c b j : Int) : Prop := (c ≤ b ∧ b ≤ c + 8) ∨ (28 ≤ b ∧ b ≤ 30) ∨ b = 38 ∨ b = 39 ∨ b = 41 ∨ b = 42 ∨ (b = 36 ∧ j = 2)
theorem clP.ofc {c : Int} {G : Lnd} {M N : aM} (h : clP c G M) (hN : ∀ b j, inPc c b j → N b j = M b j) : clP c G N := by
  obtain ⟨hk, hG, hw, hc, m2, m38, m39, mw⟩ := h
  have hr := ct_rng hk
  obtain ⟨h0, h1, h2, h3, h4, h5, h6, h7, h8⟩ := hG
  have hin : ∀ b j, c ≤ b → b ≤ c + 8 → N b j = M b j := fun b j a e => hN b j (Or.inl ⟨a, e⟩)
  refine ⟨hk, ⟨fun j => ?_, fun j => ?_, fun j => ?_, fun j => ?_, fun j => ?_, fun j => ?_, fun j => ?_, fun j => ?_, fun j => ?_⟩, hw, ⟨fun k k0 k1 => ?_, fun s s0 s1 => ?_⟩, ?_, fun w w0 w1 => ?_, fun k k0 k1 => ?_, fun w w0 w1 p p0 p1 => ?_⟩
  · rw [hin _ _ (by omega) (by omega)]; exact h0 j
  · rw [hin _ _ (by omega) (by omega)]; exact h1 j
  · rw [hin _ _ (by omega) (by omega)]; exact h2 j
  · rw [hin _ _ (by omega) (by omega)]; exact h3 j
  · rw [hin _ _ (by omega) (by omega)]; exact h4 j
  · rw [hin _ _ (by omega) (by omega)]; exact h5 j
  · rw [hin _ _ (by omega) (by omega)]; exact h6 j
  · rw [hin _ _ (by omega) (by omega)]; exact h7 j
  · rw [hin _ _ (by omega) (by omega)]; exact h8 j
  · rw [hN 28 k (by unfold inPc; omega), hN 29 k (by unfold inPc; omega)]; exact hc.1 k k0 k1
  · rw [hN 30 s (by unfold inPc; omega)]; exact hc.2 s s0 s1
  · rw [hN 36 2 (by unfold inPc; omega)]; exact m2
  · rw [hN 38 w (by unfold inPc; omega)]; exact m38 w w0 w1
  · rw [hN 39 k (by unfold inPc; omega)]; exact m39 k k0 k1
  · have q := mw w w0 w1 p p0 p1
    unfold fW at q ⊢
    rw [hN 41 _ (by unfold inPc; omega), hN 42 _ (by unfold inPc; omega)]; exact q
theorem c_land {Q : Int → aM → aW → Prop} {M : aM} {W : aW} {G : Lnd} {D : Int → Int → Int} {c on w n tn fk fp L : Int} {wp wh wk tp : Int → Int} {x : Int} (h : clS c G D on w n wp wh wk tn tp fk fp L M W) (hi : inI x) (hl : lgM M) (k1 : x < 0 ∨ tn < x → Q (-2) M W) (k2 : 0 ≤ x → x ≤ tn → ∀ N G0 f e, frC M N → pW G0 → emZ G0 → rdLand tp x G0 = Sum.inl (f, e) → lgM N → clS c G D on w n wp wh wk 0 tp f e L N W → Q (-1) N W) (k3 : 0 ≤ x → x ≤ tn → ∀ N G0 l H, frC M N → pW G0 → emZ G0 → rdLand tp x G0 = Sum.inr (l, H) → pW H → lgM N → clS (13 - c) H (dNew H) 0 0 0 (fun _ => 0) (fun _ => 0) (fun _ => 0) 0 tp 0 (-1) L N W → Q l N W) : CallI 120 [vR 0, vI x] (M, W) Q := by
  obtain ⟨⟨h4, h5⟩, hP, hS, hA, hB, hL, hJ, hT, h10, h11⟩ := id h
  obtain ⟨t0, t1, tv⟩ := hT
  have hk := hP.1
  have hk2 := cty_o hk
  have hc := ct_rng hk
  have hc2 := ct_rng hk2
  have hcs : c = 2 ∨ c = 11 := hk
  have e5 : up_ M 0 1 0 0 5 = 13 - c := by rw [up_j _ _ _ (by decide)]; exact h5
  refine e_X11_land _ _ _ _ ?_
  rw [t1, e5]
  refine ⟨hi, fun g => k1 (Or.inl g), fun g => ⟨by omega, fun g2 => ?_, fun g2 => k1 (Or.inr (by omega))⟩⟩
  have U : ∀ b j, b ≠ 0 → up_ M 0 1 0 b j = M b j := fun b j q => up_b _ _ _ _ q
  refine s_X8_read (tp := tp) hk2 (fun i i0 i1 => by rw [U 1 i (by decide)]; exact (tv i i0 (by omega)).1) (hl.of (fun j => U 21 j (by decide))) (by omega) (by omega) (fun i i0 i1 => by have := (tv i i0 (by omega)).2; omega) (fun f e N G0 fr r er w0 z0 => ⟨by decide, fun y => absurd y (by decide), fun _ => ?_⟩) (fun l H N G0 fr r er w0 z0 wH hG l0 l1 => ⟨by omega, fun _ => ?_, fun y => absurd y (by omega)⟩)
  · obtain ⟨r1, r2⟩ := r
    rw [r1, up_b _ _ _ _ (show (20 : Int) ≠ 0 by decide), r2]
    have F : ∀ b j, b ≠ 0 → (b < 20 ∨ 26 < b ∨ b = 21) → (b < 13 - c ∨ 13 - c + 8 < b) → up_ (up_ N 0 2 f) 0 3 e b j = M b j := fun b j q q1 q2 => by rw [up_b _ _ _ _ q, up_b _ _ _ _ q, fr b j q1 q2, U b j q]
    have Z : ∀ j, j ≠ 1 → j ≠ 2 → j ≠ 3 → up_ (up_ N 0 2 f) 0 3 e 0 j = M 0 j := fun j q1 q2 q3 => by rw [up_j _ _ _ q3, up_j _ _ _ q2, fr 0 j (by omega) (by omega), up_j _ _ _ q1]
    have Z1 : up_ (up_ N 0 2 f) 0 3 e 0 1 = 0 := by rw [up_j _ _ _ (by decide), up_j _ _ _ (by decide), fr 0 1 (by omega) (by omega), up_s]
    refine k2 (by omega) g2 _ G0 f e (fun b j q1 q2 => F b j (by omega) (by omega) (by omega)) w0 z0 er (hl.of (fun j => F 21 j (by decide) (by omega) (by omega))) ⟨⟨by rw [Z 4 (by decide) (by decide) (by decide)]; exact h4, by rw [Z 5 (by decide) (by decide) (by decide)]; exact h5⟩, hP.ofc (fun b j hb => F b j (by unfold inPc at hb; omega) (by unfold inPc at hb; omega) (by unfold inPc at hb; omega)), hS.of (fun b j hb => F b j (by omega) (by omega) (by omega)), hA.of (fun b j a1 a2 => F b j (by omega) (by omega) (by omega)), hB.of (fun b j hb => F b j (by omega) (by omega) (by omega)), hL.of (fun b j hb => F b j (by omega) (by omega) (by omega)), hJ.of (fun b j a1 a2 => F b j (by omega) (by omega) (by omega)), ⟨by omega, Z1, fun i i0 i1 => by omega⟩, ?_, ?_⟩
    · rw [up_j _ _ _ (by decide), up_s]
    · rw [up_s]
  · obtain ⟨r1, r2⟩ := r
    rw [r1, up_b _ _ _ _ (show (20 : Int) ≠ 0 by decide), r2]
    have F : ∀ b j, b ≠ 0 → (b < 20 ∨ 26 < b ∨ b = 21) → (b < 13 - c ∨ 13 - c + 8 < b) → N b j = M b j := fun b j q q1 q2 => by rw [fr b j q1 q2, U b j q]
    have n4 : up_ (up_ N 0 2 0) 0 3 (-1) 0 4 = c := by rw [up_j _ _ _ (by decide), up_j _ _ _ (by decide), fr 0 4 (by omega) (by omega), up_j _ _ _ (by decide)]; exact h4
    have n5 : up_ (up_ N 0 2 0) 0 3 (-1) 0 5 = 13 - c := by rw [up_j _ _ _ (by decide), up_j _ _ _ (by decide), fr 0 5 (by omega) (by omega), up_j _ _ _ (by decide)]; exact h5
    rw [n5, n4]
    have X : ∀ b j, b ≠ 0 → up_ (up_ (up_ (up_ N 0 2 0) 0 3 (-1)) 0 4 (13 - c)) 0 5 c b j = N b j := fun b j q => by rw [up_b _ _ _ _ q, up_b _ _ _ _ q, up_b _ _ _ _ q, up_b _ _ _ _ q]
    refine s_X11_settle (c := 13 - c) (G := H) (tn := 0) (tp := tp) (fk := 0) (fp := -1) (L := L) hk2 (hG.ag hk2 (lo := 0) (hi := 0) (fun b j hb => X b j (by omega)) (by omega)) wH.1 ⟨fun k k0 k1 => ?_, fun s s0 s1 => ?_⟩ ?_ ?_ (fun k k0 k1 => ?_) ?_ hB.2.2.1 ⟨by decide, ?_, fun i i0 i1 => by omega⟩ ⟨?_, ?_⟩ (fun K fK hK => k3 (by omega) g2 K G0 l H (fun b j q1 q2 => by rw [fK b j (by omega), X b j (by omega), F b j (by omega) (by omega) (by omega)]) w0 z0 er wH ?_ hK)
    · rw [X 28 k (by decide), X 29 k (by decide), F 28 k (by decide) (by omega) (by omega), F 29 k (by decide) (by omega) (by omega)]; exact hP.2.2.2.1.1 k k0 k1
    · rw [X 30 s (by decide), F 30 s (by decide) (by omega) (by omega)]; exact hP.2.2.2.1.2 s s0 s1
    · rw [up_j _ _ _ (by decide), up_s]
    · rw [up_s]; omega
    · rw [X 69 k (by decide), F 69 k (by decide) (by omega) (by omega)]; exact hA.2.1 k k0 k1
    · unfold suM; rw [X 78 2 (by decide), F 78 2 (by decide) (by omega) (by omega)]; exact hB.2.1
    · rw [up_j _ _ _ (by decide), up_j _ _ _ (by decide), up_j _ _ _ (by decide), up_j _ _ _ (by decide), fr 0 1 (by omega) (by omega), up_s]
    · rw [up_j _ _ _ (by decide), up_j _ _ _ (by decide), up_j _ _ _ (by decide), up_s]
    · rw [up_j _ _ _ (by decide), up_j _ _ _ (by decide), up_s]
    · exact (hl.of (fun j => F 21 j (by decide) (by omega) (by omega))).of (fun j => by rw [fK 21 j (by omega), X 21 j (by decide)])
