/-! THE CLASS: Reader.read -/
def rdLn (tp : Int → Int) (n : Int) (G : Lnd) (a : Int) : PRes :=
  if tK tp n a = 0 then rdPls tp n G a else if tK tp n a = 1 then rdCau tp n G a else if tK tp n a = 2 then rdRoa tp n G a else if tK tp n a = 6 then rdSee tp n G a else if tK tp n a = 7 then rdInn tp n G a else if tK tp n a = 8 then rdEnd tp n 6 G a else if tK tp n a = 9 then rdEnd tp n 7 G a else flt tp n 1 a
def rdSt (tp : Int → Int) (n : Int) (r : PRes) : PRes := match r with
  | Sum.inl f => Sum.inl f
  | Sum.inr s => if tK tp n s.1 ≠ 12 then flt tp n 1 s.1 else Sum.inr (s.1 + 1, s.2)
def rdAll (tp : Int → Int) (n : Int) : Nat → Lnd → Int → Int → PRes
  | 0, G, _, l => Sum.inr (l, G)
  | k + 1, G, a, l => if tK tp n a = 13 then Sum.inr (l, G) else match rdSt tp n (rdLn tp n G a) with
    | Sum.inl f => Sum.inl f
    | Sum.inr s => rdAll tp n k s.2 s.1 (l + 1)
/-- a text's land, or its first fault -/
def rdLand (tp : Int → Int) (n : Int) (G : Lnd) : PRes := rdAll tp n (n + 1).toNat G 0 0
def frR (c : Int) (M N : aM) : Prop := ∀ b j, (b < 20 ∨ 26 < b ∨ b = 21) → (b < c ∨ c + 8 < b) → N b j = M b j
theorem frR_D {c : Int} {M N K : aM} (h : frR c M N) (h2 : frD c N K) : frR c M K := fun b j q1 q2 => (h2 b j (by omega) (by omega) (by omega) q2).trans (h b j q1 q2)
/-- nothing told -/
def emZ (G : Lnd) : Prop := (∀ j, 0 ≤ j → j < 6 → G 0 j = 0) ∧ G 0 6 = -1 ∧ G 0 7 = -1
theorem s_X8_read {M : aM} {W : aW} {Q : Int → aM → aW → Prop} {n c : Int} {tp : Int → Int} (hk : cty c) (ht : ∀ i, 0 ≤ i → i < n → M 1 i = tp i) (hl : lgM M) (n0 : 0 ≤ n) (n1 : n ≤ 600) (hb : ∀ i, 0 ≤ i → i < n → inI (tp i)) (k1 : ∀ x e N G0, frR c M N → rdF N x e → rdLand tp n G0 = Sum.inl (x, e) → pW G0 → emZ G0 → Q (-1) N W) (k2 : ∀ l H N G0, frR c M N → rdF N 0 (-1) → rdLand tp n G0 = Sum.inr (l, H) → pW G0 → emZ G0 → pW H → clG c H N → 0 ≤ l → l ≤ 601 → Q l N W) : CallI 83 [vR 20, vR 1, vI n, vR c] (M, W) Q := by
  have hc := ct_rng hk
  have key : ∀ (G0 : Lnd), pW G0 → emZ G0 → ∀ (k : Nat) (i a : Int) (G : Lnd) (N : aM) (d6 : aL), 0 ≤ i → i + k = n + 1 → i ≤ a → rdS tp n c a G N → frR c M N → rdLand tp n G0 = rdAll tp n k G a i → Xs 83 (39, [some (some (vR 20)), some (some (vR 1)), some (some (vI n)), some (some (vR c)), some (some (vI i)), some (some (vI i)), d6], [], (N, W)) (QI Q) := by
    intro G0 w0 z0 k
    induction k with
    | zero =>
      intro i a G N d6 i0 ik ia S hf e
      refine k_X8_read_39 _ _ _ _ _ _ _ _ ?_
      exact ⟨by omega, fun _ => k2 i G N G0 hf S.2.2.2.1 (by rw [e]; rfl) w0 z0 S.pw S.cl i0 (by omega), fun q => by omega⟩
    | succ k ih =>
      intro i a G N d6 i0 ik ia S hf e
      have r1 := tK_rng tp n a
      have es : rdAll tp n (k + 1) G a i = if tK tp n a = 13 then Sum.inr (i, G) else match rdSt tp n (rdLn tp n G a) with
        | Sum.inl f => Sum.inl f
        | Sum.inr s => rdAll tp n k s.2 s.1 (i + 1) := rfl
      rw [es] at e
      refine k_X8_read_39 _ _ _ _ _ _ _ _ ?_
      rw [S.i9]
      refine ⟨by omega, fun q => by omega, fun _ => ⟨by omega, fun g => ?_, fun g => ?_⟩⟩
      · rw [if_pos g] at e
        exact k2 i G N G0 hf S.2.2.2.1 e w0 z0 S.pw S.cl i0 (by omega)
      · rw [if_neg g] at e
        have bad : ∀ x b N2, frD c N N2 → rdF N2 x (tS tp n b) → rdLn tp n G a = flt tp n x b → Xs 83 (182, [some (some (vR 20)), some (some (vR 1)), some (some (vI n)), some (some (vR c)), some (some (vI i)), some (some (vI i)), some (some (vI 0))], [], (N2, W)) (QI Q) := by
          intro x b N2 f2 t2 e2
          rw [e2] at e
          refine k_X8_read_182 _ _ _ _ _ _ _ _ ?_
          exact ⟨by decide, fun _ => ⟨by decide, fun y => absurd rfl y, fun _ => k1 x (tS tp n b) N2 G0 (frR_D hf f2) t2 e w0 z0⟩, fun y => absurd rfl y⟩
        have good : ∀ b H N2, frD c N N2 → rdS tp n c b H N2 → a < b → rdLn tp n G a = Sum.inr (b, H) → Xs 83 (182, [some (some (vR 20)), some (some (vR 1)), some (some (vI n)), some (some (vR c)), some (some (vI i)), some (some (vI i)), some (some (vI 1))], [], (N2, W)) (QI Q) := by
          intro b H N2 f2 S2 hb2 e2
          rw [e2] at e
          have rb := tK_rng tp n b
          have est : rdSt tp n (Sum.inr (b, H)) = if tK tp n b ≠ 12 then flt tp n 1 b else Sum.inr (b + 1, H) := rfl
          rw [est] at e
          refine k_X8_read_182 _ _ _ _ _ _ _ _ ?_
          rw [S2.i9, S2.i8]
          refine ⟨by decide, fun y => absurd y (by decide), fun _ => ⟨by omega, fun g2 => ⟨by decide, fun _ => ?_, fun y => absurd (show (1 : Int) ≠ 0 by decide) y⟩, fun g2 => ?_⟩⟩
          · rw [if_neg (by omega)] at e
            refine t_move n0 n1 hk S2 rfl (by omega) (fun N3 f3 S3 => ?_)
            exact ih (i + 1) (b + 1) H N3 _ (by omega) (by omega) (by omega) S3 (frR_D (frR_D hf f2) (frD_20 f3)) e
          · rw [if_pos g2] at e
            exact t_fail n0 n1 hk S2 (fun N3 f3 t3 => ⟨by decide, fun y => absurd rfl y, fun _ => k1 1 (tS tp n b) N3 G0 (frR_D (frR_D hf f2) (frD_20 f3)) t3 e w0 z0⟩)
        have mis : rdLn tp n G a = flt tp n 1 a → CallI 89 [vR 20, vI 1] (N, W) (fun r M1 W2 => Xs 83 (182, [some (some (vR 20)), some (some (vR 1)), some (some (vI n)), some (some (vR c)), some (some (vI i)), some (some (vI i)), some (some (vI r))], [], (M1, W2)) (QI Q)) := fun e2 => t_fail n0 n1 hk S (fun N3 f3 t3 => bad 1 a N3 (frD_20 f3) t3 e2)
        refine ⟨by omega, fun q => ?_, fun g0 => ⟨fun q => ?_, fun g1 => ⟨fun q => ?_, fun g2 => ⟨fun q => ?_, fun g3 => ⟨fun q => ?_, fun g4 => ⟨fun q => ?_, fun g5 => ⟨fun q => ?_, fun g6 => ⟨fun q => ?_, fun g7 => ⟨fun q => ?_, fun g8 => ⟨fun q => ?_, fun g9 => ?_⟩⟩⟩⟩⟩⟩⟩⟩⟩⟩
        · have e2 : rdLn tp n G a = rdPls tp n G a := by unfold rdLn; rw [if_pos q]
          exact s_X8_readPlaces n0 n1 hk S g (fun x b N2 f2 t2 e3 => bad x b N2 f2 t2 (e2.trans e3)) (fun b H N2 f2 S2 hb2 e3 => good b H N2 f2 S2 hb2 (e2.trans e3))
        · have e2 : rdLn tp n G a = rdCau tp n G a := by unfold rdLn; rw [if_neg (by omega), if_pos q]
          exact s_X8_readCause n0 n1 hk S g (fun x b N2 f2 t2 e3 => bad x b N2 f2 t2 (e2.trans e3)) (fun b H N2 f2 S2 hb2 e3 => good b H N2 f2 S2 hb2 (e2.trans e3))
        · have e2 : rdLn tp n G a = rdRoa tp n G a := by unfold rdLn; rw [if_neg (by omega), if_neg (by omega), if_pos q]
          exact s_X8_readRoad n0 n1 hk S g (fun x b N2 f2 t2 e3 => bad x b N2 f2 t2 (e2.trans e3)) (fun b H N2 f2 S2 hb2 e3 => good b H N2 f2 S2 hb2 (e2.trans e3))
        · exact mis (by unfold rdLn; rw [if_neg (by omega), if_neg (by omega), if_neg (by omega), if_neg (by omega), if_neg (by omega), if_neg (by omega), if_neg (by omega)])
        · exact mis (by unfold rdLn; rw [if_neg (by omega), if_neg (by omega), if_neg (by omega), if_neg (by omega), if_neg (by omega), if_neg (by omega), if_neg (by omega)])
        · exact mis (by unfold rdLn; rw [if_neg (by omega), if_neg (by omega), if_neg (by omega), if_neg (by omega), if_neg (by omega), if_neg (by omega), if_neg (by omega)])
        · have e2 : rdLn tp n G a = rdSee tp n G a := by unfold rdLn; rw [if_neg (by omega), if_neg (by omega), if_neg (by omega), if_pos q]
          exact s_X8_readSight n0 n1 hk S g (fun x b N2 f2 t2 e3 => bad x b N2 f2 t2 (e2.trans e3)) (fun b H N2 f2 S2 hb2 e3 => good b H N2 f2 S2 hb2 (e2.trans e3))
        · have e2 : rdLn tp n G a = rdInn tp n G a := by unfold rdLn; rw [if_neg (by omega), if_neg (by omega), if_neg (by omega), if_neg (by omega), if_pos q]
          exact s_X8_readInn n0 n1 hk S g (fun x b N2 f2 t2 e3 => bad x b N2 f2 t2 (e2.trans e3)) (fun b H N2 f2 S2 hb2 e3 => good b H N2 f2 S2 hb2 (e2.trans e3))
        · have e2 : rdLn tp n G a = rdEnd tp n 6 G a := by unfold rdLn; rw [if_neg (by omega), if_neg (by omega), if_neg (by omega), if_neg (by omega), if_neg (by omega), if_pos q]
          exact s_X8_readStart n0 n1 hk S g (fun x b N2 f2 t2 e3 => bad x b N2 f2 t2 (e2.trans e3)) (fun b H N2 f2 S2 hb2 e3 => good b H N2 f2 S2 hb2 (e2.trans e3))
        · have e2 : rdLn tp n G a = rdEnd tp n 7 G a := by unfold rdLn; rw [if_neg (by omega), if_neg (by omega), if_neg (by omega), if_neg (by omega), if_neg (by omega), if_neg (by omega), if_pos q]
          exact s_X8_readGoal n0 n1 hk S g (fun x b N2 f2 t2 e3 => bad x b N2 f2 t2 (e2.trans e3)) (fun b H N2 f2 S2 hb2 e3 => good b H N2 f2 S2 hb2 (e2.trans e3))
        · exact mis (by unfold rdLn; rw [if_neg (by omega), if_neg (by omega), if_neg (by omega), if_neg (by omega), if_neg (by omega), if_neg (by omega), if_neg (by omega)])
  refine e_X8_read _ _ _ _ _ ?_
  refine s_X8_cut ht hl n0 n1 hb (fun N1 f1 t1 => ?_)
  rw [up_s]
  refine ⟨ct_o hk, s_X3_empty hk (fun N2 f2 z2 => ?_)⟩
  have ha0 : rdA tp n 0 := ⟨by decide, fun y => absurd y (by decide)⟩
  have U : ∀ b j, b ≠ 20 → up_ (up_ N2 20 11 0) 20 12 (-1) b j = N2 b j := fun b j q => by rw [up_b _ _ _ _ q, up_b _ _ _ _ q]
  have V : ∀ b j, (b < c ∨ c + 8 < b) → b ≠ 20 → N2 b j = N1 b j := fun b j q1 q2 => by rw [f2 b j q1, up_b _ _ _ _ q2]
  refine s_X8_moveTo' n0 n1 (fun i i0 i1 hp => ?_) ha0 (fun N3 f3 t3 => ?_)
  · rw [U 22 i (by decide), U 23 i (by decide), U 24 i (by decide), V 22 i (by omega) (by decide), V 23 i (by omega) (by decide), V 24 i (by omega) (by decide)]
    exact t1 i i0 i1 hp
  · have X : ∀ b j, b ≠ 20 → N3 b j = N2 b j := fun b j q => by rw [f3 b j (by omega), U b j q]
    have zE : isE c N3 := by
      unfold isE
      rw [X c 0 (by omega), X c 1 (by omega), X c 2 (by omega), X c 3 (by omega), X c 4 (by omega), X c 5 (by omega), X c 6 (by omega), X c 7 (by omega)]
      exact ⟨z2.1, fun i i0 i1 => by rw [X _ _ (by omega)]; exact z2.2.1 i i0 i1, fun i i0 i1 => by rw [X _ _ (by omega)]; exact z2.2.2 i i0 i1⟩
    have hw := emG_W zE
    have S : rdS tp n c 0 (emG c N3) N3 := by
      refine ⟨fun i i0 i1 hp => ?_, ?_, t3, ⟨?_, ?_⟩, emG_cl c N3, ⟨fun j => rfl, fun j => rfl⟩, ha0, hw⟩
      · rw [X 22 i (by decide), X 23 i (by decide), X 24 i (by decide), V 22 i (by omega) (by decide), V 23 i (by omega) (by decide), V 24 i (by omega) (by decide)]
        exact t1 i i0 i1 hp
      · rw [f3 20 7 (by omega), up_j _ _ _ (by decide), up_j _ _ _ (by decide), f2 20 7 (by omega), up_s]
      · rw [f3 20 11 (by omega), up_j _ _ _ (by decide), up_s]
      · rw [f3 20 12 (by omega), up_s]
    have hf : frR c M N3 := fun b j q1 q2 => by rw [X b j (by omega), V b j q2 (by omega), f1 b j (by omega) (by omega) (by omega) (by omega)]
    have h00 : emZ (emG c N3) := by
      have g : ∀ j, emG c N3 0 j = N3 c j := fun j => by show N3 (c + 0) j = N3 c j; rw [show c + 0 = c by omega]
      obtain ⟨⟨a0, a1, a2, a3, a4, a5, a6, a7⟩, -, -⟩ := zE
      refine ⟨fun j j0 j1 => ?_, by rw [g]; exact a6, by rw [g]; exact a7⟩
      rw [g]
      rcases six_ j0 j1 with rfl | rfl | rfl | rfl | rfl | rfl <;> assumption
    exact key (emG c N3) hw h00 (n + 1).toNat 0 0 (emG c N3) N3 none (by decide) (by omega) (by decide) S hf rfl
