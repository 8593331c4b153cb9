/-! THE REFERENCE: a line; a new draft -/
theorem u_line {M : aM} {W : aW} {Q : Int → aM → aW → Prop} {tp : Int → Int} {n a : Int} {G : Lnd} (hS : rdR tp n a G M) (ht : tK tp n a ≠ 13) (k1 : ∀ x e N, frJ M N → rdW N x (tS tp n e) → rdSt tp n (rdLn tp n G a) = flt tp n x e → Q 0 N W) (k2 : ∀ b H N, frJ M N → rdR tp n b H N → a < b → rdSt tp n (rdLn tp n G a) = Sum.inr (b, H) → Q 1 N W) : CallI 177 [vR 86] (M, W) Q := by
  have hk0 := tK_rng tp n a
  have e8 : M 86 8 = kdR (tK tp n a) := hS.T.2.2.1
  have hkr := kdR_rng (tK tp n a)
  have tl : ∀ b H N, frJ M N → rdR tp n b H N → a < b → rdLn tp n G a = Sum.inr (b, H) → (inI (N 86 8)) ∧ ((N 86 8 = 4 → CallV 160 [vR 86] (N, W) (fun M7 W8 => Q 1 M7 W8)) ∧ (¬ N 86 8 = 4 → CallI 156 [vR 86, vI 1] (N, W) (fun r11 M9 W10 => ((r11 : Int) = 0 ∨ r11 = 1) ∧ Q r11 M9 W10))) := fun b H N fN hN hab hk => by
    have hb0 := tK_rng tp n b
    have b8 : N 86 8 = kdR (tK tp n b) := hN.T.2.2.1
    have hbr := kdR_rng (tK tp n b)
    rw [b8]
    refine ⟨by omega, fun he => ?_, fun hne => u_wrong hN (fun K fK wK => ⟨Or.inl rfl, k1 1 b K (frJ_tr fN fK) wK ?_⟩)⟩
    · have h12 := (kd4 hb0.1).mp he
      refine u_take hN (by omega) (fun L fL hL => k2 (b + 1) H L (frJ_tr fN (frJ_L fL)) hL (by omega) ?_)
      rw [hk]
      show (if tK tp n b ≠ 12 then flt tp n 1 b else Sum.inr (b + 1, H)) = _
      rw [if_neg (fun y => y h12)]
    · rw [hk]
      show (if tK tp n b ≠ 12 then flt tp n 1 b else Sum.inr (b + 1, H)) = _
      rw [if_pos (fun y => hne ((kd4 hb0.1).mpr y))]
  have bad : ∀ x e N, frJ M N → rdW N x (tS tp n e) → rdLn tp n G a = flt tp n x e → Q 0 N W := fun x e N fN wN hk => k1 x e N fN wN (by rw [hk]; rfl)
  have mis : (∀ z : Int, z = 0 ∨ z = 1 ∨ z = 2 ∨ z = 6 ∨ z = 7 ∨ z = 8 ∨ z = 9 → tK tp n a ≠ z) → rdLn tp n G a = flt tp n 1 a := fun h => by
    unfold rdLn
    rw [if_neg (h 0 (by decide)), if_neg (h 1 (by decide)), if_neg (h 2 (by decide)), if_neg (h 6 (by decide)), if_neg (h 7 (by decide)), if_neg (h 8 (by decide)), if_neg (h 9 (by decide))]
  refine e_X12_lineRead _ _ _ ?_
  rw [e8]
  refine ⟨by omega, fun hne => u_wrong hS (fun N fN wN => ⟨Or.inl rfl, bad 1 a N fN wN (mis (fun z hz e => hne ((kd1 hk0.1).mpr (by omega))))⟩), fun heq => ?_⟩
  have h9 := (kd1 hk0.1).mp (Classical.byContradiction heq)
  rw [hS.T.2.2.2.1 h9]
  refine ⟨by omega, fun hlt => ⟨by omega, fun h0 => ?_, fun n0 => ⟨fun h1 => ?_, fun n1 => ⟨fun h2 => ?_, fun n2 => (show False by omega).elim⟩⟩⟩, fun hge => ⟨by omega, fun hgt => ⟨by omega, fun h0 => (show False by omega).elim, fun n0 => ⟨fun h1 => (show False by omega).elim, fun n1 => ⟨fun h2 => (show False by omega).elim, fun n2 => ⟨fun h3 => (show False by omega).elim, fun n3 => ⟨fun h4 => (show False by omega).elim, fun n4 => ⟨fun h5 => (show False by omega).elim, fun n5 => ⟨fun h6 => ?_, fun n6 => ⟨fun h7 => ?_, fun n7 => ?_⟩⟩⟩⟩⟩⟩⟩⟩, fun hle => u_wrong hS (fun N fN wN => ⟨Or.inl rfl, bad 1 a N fN wN (mis (fun z hz e => by omega))⟩)⟩⟩
  · have er : rdLn tp n G a = rdPls tp n G a := if_pos h0
    exact u_places hS ht (fun x e N fN wN hk => ⟨by decide, fun y => absurd rfl y, fun _ => bad x e N fN wN (er.trans hk)⟩) (fun b H N fN hN hab hk => ⟨by decide, fun _ => tl b H N fN hN hab (er.trans hk), fun y => absurd (by decide) y⟩)
  · have er : rdLn tp n G a = rdCau tp n G a := by unfold rdLn; rw [if_neg (by omega), if_pos h1]
    exact u_cause hS ht (fun x e N fN wN hk => ⟨by decide, fun y => absurd rfl y, fun _ => bad x e N fN wN (er.trans hk)⟩) (fun b H N fN hN hab hk => ⟨by decide, fun _ => tl b H N fN hN hab (er.trans hk), fun y => absurd (by decide) y⟩)
  · have er : rdLn tp n G a = rdRoa tp n G a := by unfold rdLn; rw [if_neg (by omega), if_neg (by omega), if_pos h2]
    exact u_road hS ht (fun x e N fN wN hk => ⟨by decide, fun y => absurd rfl y, fun _ => bad x e N fN wN (er.trans hk)⟩) (fun b H N fN hN hab hk => ⟨by decide, fun _ => tl b H N fN hN hab (er.trans hk), fun y => absurd (by decide) y⟩)
  · have er : rdLn tp n G a = rdSee tp n G a := by unfold rdLn; rw [if_neg (by omega), if_neg (by omega), if_neg (by omega), if_pos h6]
    exact u_sees hS ht (fun x e N fN wN hk => ⟨by decide, fun y => absurd rfl y, fun _ => bad x e N fN wN (er.trans hk)⟩) (fun b H N fN hN hab hk => ⟨by decide, fun _ => tl b H N fN hN hab (er.trans hk), fun y => absurd (by decide) y⟩)
  · have er : rdLn tp n G a = rdInn tp n G a := by unfold rdLn; rw [if_neg (by omega), if_neg (by omega), if_neg (by omega), if_neg (by omega), if_pos h7]
    exact u_inn hS ht (fun x e N fN wN hk => ⟨by decide, fun y => absurd rfl y, fun _ => bad x e N fN wN (er.trans hk)⟩) (fun b H N fN hN hab hk => ⟨by decide, fun _ => tl b H N fN hN hab (er.trans hk), fun y => absurd (by decide) y⟩)
  · rcases (show tK tp n a = 8 ∨ tK tp n a = 9 by omega) with h8 | h9'
    · have er : rdLn tp n G a = rdEnd tp n 6 G a := by unfold rdLn; rw [if_neg (by omega), if_neg (by omega), if_neg (by omega), if_neg (by omega), if_neg (by omega), if_pos h8]
      rw [h8, show (8 : Int) - 8 = 6 - 6 by decide]
      exact u_end hS (Or.inl rfl) ht (fun x e N fN wN hk => ⟨by decide, fun y => absurd rfl y, fun _ => bad x e N fN wN (er.trans hk)⟩) (fun b H N fN hN hab hk => ⟨by decide, fun _ => tl b H N fN hN hab (er.trans hk), fun y => absurd (by decide) y⟩)
    · have er : rdLn tp n G a = rdEnd tp n 7 G a := by unfold rdLn; rw [if_neg (by omega), if_neg (by omega), if_neg (by omega), if_neg (by omega), if_neg (by omega), if_neg (by omega), if_pos h9']
      rw [h9', show (9 : Int) - 8 = 7 - 6 by decide]
      exact u_end hS (Or.inr rfl) ht (fun x e N fN wN hk => ⟨by decide, fun y => absurd rfl y, fun _ => bad x e N fN wN (er.trans hk)⟩) (fun b H N fN hN hab hk => ⟨by decide, fun _ => tl b H N fN hN hab (er.trans hk), fun y => absurd (by decide) y⟩)
theorem u_plain {M : aM} {W : aW} {Q : aM → aW → Prop} (h : ∀ N, (∀ b j, ¬ (b = 89 ∧ 8 ≤ j ∧ j ≤ 15) → N b j = M b j) → (∀ j, 8 ≤ j → j < 14 → N 89 j = 0) → N 89 14 = -1 → N 89 15 = -1 → Q N W) : CallV 163 [vR 86] (M, W) Q := by
  have key : ∀ (m : Nat) (i : Int) (N : aM), 8 ≤ i → i ≤ 14 → (14 - i).toNat = m → (∀ b j, ¬ (b = 89 ∧ 8 ≤ j ∧ j ≤ 15) → N b j = M b j) → (∀ j, 8 ≤ j → j < i → N 89 j = 0) → Xs 163 (3, [some (some (vR 86)), some (some (vI i))], [], (N, W)) (QV Q) := by
    intro m
    induction m with
    | zero =>
      intro i N i0 i1 hm fN e
      refine k_X12_plain_3 _ _ _ _ ?_
      refine ⟨by omega, fun _ => h _ (fun b j c => ?_) (fun j j0 j1 => ?_) ?_ (up_s _ _ _ _), fun hlt => by omega⟩
      · unfold up_; rw [if_neg (by omega), if_neg (by omega)]; exact fN b j c
      · rw [up_j _ _ _ (by omega), up_j _ _ _ (by omega)]; exact e j j0 (by omega)
      · rw [up_j _ _ _ (by decide), up_s]
    | succ m ih =>
      intro i N i0 i1 hm fN e
      refine k_X12_plain_3 _ _ _ _ ?_
      refine ⟨by omega, fun hge => by omega, fun _ => ⟨by omega, ih (i + 1) _ (by omega) (by omega) (by omega) (fun b j c => ?_) (fun j j0 j1 => ?_)⟩⟩
      · unfold up_; rw [if_neg (by omega)]; exact fN b j c
      · by_cases c : j = i
        · rw [c, up_s]
        · rw [up_j _ _ _ c]; exact e j j0 (by omega)
  refine e_X12_plain _ _ _ ?_
  exact key _ 8 M (by decide) (by decide) rfl (fun _ _ _ => rfl) (fun j j0 j1 => by omega)
