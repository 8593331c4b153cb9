/-! THE CLASS: Reader, tokens taken -/
def fr20 (M N : aM) : Prop := (∀ b j, b ≠ 20 → N b j = M b j) ∧ N 20 7 = M 20 7
theorem fr20_refl (M : aM) : fr20 M M := ⟨fun _ _ _ => rfl, rfl⟩
theorem fr20_tr {M N K : aM} (h1 : fr20 M N) (h2 : fr20 N K) : fr20 M K := ⟨fun b j q => (h2.1 b j q).trans (h1.1 b j q), h2.2.trans h1.2⟩
theorem fr20.frD {c : Int} {M N : aM} (h : fr20 M N) : frD c M N := fun b j q _ _ _ => h.1 b j q
theorem rdS.i9 {tp : Int → Int} {n c a : Int} {G : Lnd} {M : aM} (hS : rdS tp n c a G M) : M 20 9 = tK tp n a := hS.2.2.1.2.1
theorem rdS.i10 {tp : Int → Int} {n c a : Int} {G : Lnd} {M : aM} (hS : rdS tp n c a G M) : M 20 10 = tV tp n a := hS.2.2.1.2.2
theorem rdS.i8 {tp : Int → Int} {n c a : Int} {G : Lnd} {M : aM} (hS : rdS tp n c a G M) : M 20 8 = a := hS.2.2.1.1
theorem rdS.i7 {tp : Int → Int} {n c a : Int} {G : Lnd} {M : aM} (hS : rdS tp n c a G M) : M 20 7 = c := hS.2.1
theorem rdS.cl {tp : Int → Int} {n c a : Int} {G : Lnd} {M : aM} (hS : rdS tp n c a G M) : clG c G M := hS.2.2.2.2.1
theorem rdS.nm {tp : Int → Int} {n c a : Int} {G : Lnd} {M : aM} (hS : rdS tp n c a G M) : rdN G M := hS.2.2.2.2.2.1
theorem rdS.pw {tp : Int → Int} {n c a : Int} {G : Lnd} {M : aM} (hS : rdS tp n c a G M) : pW G := hS.2.2.2.2.2.2.2
theorem t_fail {M : aM} {W : aW} {Q : Int → aM → aW → Prop} {tp : Int → Int} {n c a : Int} {G : Lnd} (n0 : 0 ≤ n) (n1 : n ≤ 600) (hk : cty c) (hS : rdS tp n c a G M) {f : Int} (h : ∀ N, fr20 M N → rdF N f (tS tp n a) → Q 0 N W) : CallI 89 [vR 20, vI f] (M, W) Q :=
  s_X8_fail n0 n1 hS (fun N f1 t1 => h N ⟨fun b j q => f1 b j (by omega), f1 20 7 (by omega)⟩ t1)
theorem t_move {M : aM} {W : aW} {Q : aM → aW → Prop} {tp : Int → Int} {n c a x : Int} {G : Lnd} (n0 : 0 ≤ n) (n1 : n ≤ 600) (hk : cty c) (hS : rdS tp n c a G M) (hx : x = a + 1) (ht : tK tp n a ≠ 13) (h : ∀ N, fr20 M N → rdS tp n c (a + 1) G N → Q N W) : CallV 88 [vR 20, vI x] (M, W) Q :=
  s_X8_moveTo n0 n1 hk hS hx ht (fun N f1 t1 => h N ⟨f1, by rw [t1.i7, hS.i7]⟩ t1)
theorem t_place {M : aM} {W : aW} {Q : Int → aM → aW → Prop} {tp : Int → Int} {n c a : Int} {G : Lnd} (n0 : 0 ≤ n) (n1 : n ≤ 600) (hk : cty c) (hS : rdS tp n c a G M) (k1 : ∀ f N, fr20 M N → rdF N f (tS tp n a) → (∀ k, plcK tp n G a k = flt tp n f a) → Q (-1) N W) (k2 : ∀ p, 0 ≤ p → p < (G 0 0) → tK tp n a = 10 → (∀ k, plcK tp n G a k = k p) → Q p M W) : CallI 98 [vR 20] (M, W) Q := by
  have hw := hS.pw
  have hN := hw.1.N; unfold wfN at hN
  have hr := tK_rng tp n a
  have hv := tV_rng (tp := tp) n0 a
  refine e_X8_placeHere _ _ _ ?_
  rw [hS.i9, hS.i7]
  refine ⟨by omega, fun q => ⟨by decide, fun q1 => absurd q1 (by decide), fun _ => ⟨by omega, fun _ => ?_, fun q2 => absurd q q2⟩⟩, fun q => ⟨ct_o hk, ?_⟩⟩
  · exact t_fail n0 n1 hk hS (fun N f1 t1 => k1 1 N f1 t1 (fun k => by unfold plcK; rw [if_pos q]))
  · have q := Decidable.not_not.mp q
    have e0 : M c 0 = (G 0 0) := hS.cl.1 0
    rw [e0]
    have e1 : (M 25) = G 9 := funext hS.nm.1
    refine s_X8_numberOf (L := 10) rfl rfl hN.1.1 hN.1.2 (by decide) (fun j j0 j1 => ?_) (by rw [hS.i10]; omega) ?_
    · rw [hS.nm.1 j]; have := hw.2.2.1 j j0 j1; omega
    · rw [e1, hS.i10, hS.i9]
      have g := fnd_rng (G 9) (tV tp n a) ((G 0 0)) hN.1.1
      refine ⟨by omega, fun q1 => k2 _ q1 (by omega) q (fun k => by unfold plcK; rw [if_neg (by omega), if_neg (by omega)]), fun q1 => ⟨by omega, fun q2 => absurd q q2, fun _ => ?_⟩⟩
      have e : fnd (G 9) (tV tp n a) ((G 0 0)) = -1 := by omega
      rw [e]
      exact t_fail n0 n1 hk hS (fun N f1 t1 => k1 4 N f1 t1 (fun k => by unfold plcK; rw [if_neg (by omega), if_pos (by omega)]))
theorem t_takePlace {M : aM} {W : aW} {Q : Int → aM → aW → Prop} {tp : Int → Int} {n c a : Int} {G : Lnd} (n0 : 0 ≤ n) (n1 : n ≤ 600) (hk : cty c) (hS : rdS tp n c a G M) (k1 : ∀ f N, fr20 M N → rdF N f (tS tp n a) → (∀ k, plcK tp n G a k = flt tp n f a) → Q (-1) N W) (k2 : ∀ p N, 0 ≤ p → p < (G 0 0) → fr20 M N → rdS tp n c (a + 1) G N → (∀ k, plcK tp n G a k = k p) → Q p N W) : CallI 99 [vR 20] (M, W) Q := by
  have hN := hS.pw.1.N; unfold wfN at hN
  refine e_X8_takePlace _ _ _ ?_
  refine t_place n0 n1 hk hS (fun f N f1 t1 e => ⟨by decide, fun _ => k1 f N f1 t1 e, fun q => absurd q (by decide)⟩) (fun p p0 p1 hk10 e => ⟨by omega, fun q => by omega, fun _ => ?_⟩)
  exact t_move n0 n1 hk hS (by rw [hS.i8]) (by omega) (fun N f1 t1 => k2 p N p0 p1 f1 t1 e)
theorem t_takeCause {M : aM} {W : aW} {Q : Int → aM → aW → Prop} {tp : Int → Int} {n c a : Int} {G : Lnd} (n0 : 0 ≤ n) (n1 : n ≤ 600) (hk : cty c) (hS : rdS tp n c a G M) (k1 : ∀ f N, fr20 M N → rdF N f (tS tp n a) → (∀ k, cauK tp n G a k = flt tp n f a) → Q (-1) N W) (k2 : ∀ p N, 0 ≤ p → p < (G 0 1) → fr20 M N → rdS tp n c (a + 1) G N → (∀ k, cauK tp n G a k = k p) → Q p N W) : CallI 100 [vR 20] (M, W) Q := by
  have hw := hS.pw
  have hN := hw.1.N; unfold wfN at hN
  have hr := tK_rng tp n a
  have hv := tV_rng (tp := tp) n0 a
  refine e_X8_takeCause _ _ _ ?_
  rw [hS.i9, hS.i7]
  refine ⟨by omega, fun q => ⟨by decide, fun q1 => absurd q1 (by decide), fun _ => ⟨by omega, fun _ => ?_, fun q2 => absurd q q2⟩⟩, fun q => ⟨ct_o hk, ?_⟩⟩
  · exact t_fail n0 n1 hk hS (fun N f1 t1 => k1 1 N f1 t1 (fun k => by unfold cauK; rw [if_pos q]))
  · have q := Decidable.not_not.mp q
    have e0 : M c 1 = (G 0 1) := hS.cl.1 1
    rw [e0]
    have e1 : (M 26) = G 10 := funext hS.nm.2
    refine s_X8_numberOf (L := 2) rfl rfl hN.2.1.1 hN.2.1.2 (by decide) (fun j j0 j1 => ?_) (by rw [hS.i10]; omega) ?_
    · rw [hS.nm.2 j]; have := hw.2.2.2 j j0 j1; omega
    · rw [e1, hS.i10, hS.i9, hS.i8]
      have g := fnd_rng (G 10) (tV tp n a) ((G 0 1)) hN.2.1.1
      refine ⟨by omega, fun q1 => ?_, fun q1 => ⟨by omega, fun q2 => absurd q q2, fun _ => ?_⟩⟩
      · exact t_move n0 n1 hk hS rfl (by omega) (fun N f1 t1 => k2 _ N q1 (by omega) f1 t1 (fun k => by unfold cauK; rw [if_neg (by omega), if_neg (by omega)]))
      · exact t_fail n0 n1 hk hS (fun N f1 t1 => k1 4 N f1 t1 (fun k => by unfold cauK; rw [if_neg (by omega), if_pos (by omega)]))
theorem t_takeNumber {M : aM} {W : aW} {Q : Int → aM → aW → Prop} {tp : Int → Int} {n c a : Int} {G : Lnd} (n0 : 0 ≤ n) (n1 : n ≤ 600) (hk : cty c) (hS : rdS tp n c a G M) {m : Int} (m0 : inI m) (k1 : ∀ f N, fr20 M N → rdF N f (tS tp n a) → (∀ k, numK tp n m a k = flt tp n f a) → Q (-1) N W) (k2 : ∀ p N, 1 ≤ p → p ≤ m → fr20 M N → rdS tp n c (a + 1) G N → (∀ k, numK tp n m a k = k p) → Q p N W) : CallI 102 [vR 20, vI m] (M, W) Q := by
  have hr := tK_rng tp n a
  have hv := tV_rng (tp := tp) n0 a
  refine e_X8_takeNumber _ _ _ _ ?_
  rw [hS.i9, hS.i10]
  refine ⟨by omega, fun q => ⟨by omega, fun q1 => ?_, fun q1 => ⟨by omega, fun q2 v hv4 => ?_, fun q2 => ?_⟩⟩, fun q => ?_⟩
  · exact t_fail n0 n1 hk hS (fun N f1 t1 => k1 2 N f1 t1 (fun k => by unfold numK; rw [if_neg (by omega), if_pos (by omega)]))
  · rw [hv4, hS.i8]
    exact t_move n0 n1 hk hS rfl (by omega) (fun N f1 t1 => k2 _ N (by omega) q2 f1 t1 (fun k => by unfold numK; rw [if_neg (by omega), if_neg (by omega)]))
  · exact t_fail n0 n1 hk hS (fun N f1 t1 => k1 2 N f1 t1 (fun k => by unfold numK; rw [if_neg (by omega), if_pos (by omega)]))
  · exact t_fail n0 n1 hk hS (fun N f1 t1 => k1 1 N f1 t1 (fun k => by unfold numK; rw [if_pos q]))
theorem s_X3_doubtfulBetween {M : aM} {W : aW} {Q : Int → aM → aW → Prop} {G : Lnd} {c p q : Int} (hk : cty c) (hG : clG c G M) (hw : WF G) (p0 : 0 ≤ p) (p1 : p < 10) (q0 : 0 ≤ q) (q1 : q < 10) (h : -1 ≤ dbtN G p q → dbtN G p q < (G 0 3) → Q (dbtN G p q) M W) : CallI 42 [vR c, vI p, vI q] (M, W) Q := by
  have hN := hw.N; unfold wfN at hN
  have hb := hw.btw_lt p0 p1 q0 q1
  have e4 : M (c + 4) (p * 10 + q) = (G 4 (p * 10 + q)) := hG.2.2.2.2.1 _
  refine e_X3_doubtfulBetween _ _ _ _ _ _ ?_
  rw [e4]
  refine ⟨ct_o hk, ⟨ct_a4 hk, by omega, by rw [ct_l4 hk]; omega⟩, fun v hv => ?_⟩
  rw [hv]
  refine ⟨by omega, fun g => ⟨ct_o hk, s_X3_roadFact hk hG g (by omega) (by decide) (by decide) ?_⟩, fun g => ?_⟩
  · have hr := hw.R _ g hb.2
    have e : dbtN G p q = (G 2 (((G 4 (p * 10 + q))) * 7 + 6)) := by unfold dbtN; rw [if_neg (by omega)]
    rw [e] at h; exact h (by omega) (by omega)
  · have e : dbtN G p q = -1 := by unfold dbtN; rw [if_pos (by omega)]
    rw [e] at h; exact h (by omega) (by omega)
theorem t_takeDoubtful {M : aM} {W : aW} {Q : Int → aM → aW → Prop} {tp : Int → Int} {n c a : Int} {G : Lnd} (n0 : 0 ≤ n) (n1 : n ≤ 600) (hk : cty c) (hS : rdS tp n c a G M) (k1 : ∀ f e N, fr20 M N → rdF N f (tS tp n e) → (∀ k, dbtK tp n G a k = flt tp n f e) → Q (-1) N W) (k2 : ∀ r N, 0 ≤ r → r < (G 0 3) → fr20 M N → rdS tp n c (a + 2) G N → (∀ k, dbtK tp n G a k = k r) → Q r N W) : CallI 101 [vR 20] (M, W) Q := by
  have hN := hS.pw.1.N; unfold wfN at hN
  refine e_X8_takeDoubtful _ _ _ ?_
  refine t_takePlace n0 n1 hk hS (fun f N f1 t1 e => ⟨by decide, fun q => absurd q (by decide), fun _ => k1 f a N f1 t1 (fun k => by unfold dbtK; exact e _)⟩) (fun p N1 p0 p1 f1 S1 e1 => ⟨by omega, fun _ => ?_, fun q => by omega⟩)
  refine t_place n0 n1 hk S1 (fun f N f2 t2 e => ⟨by decide, fun q => absurd q (by decide), fun _ => k1 f (a + 1) N (fr20_tr f1 f2) t2 (fun k => by unfold dbtK; rw [e1, e])⟩) (fun q q0 q1 hk10 e2 => ⟨by omega, fun _ => ?_, fun q => by omega⟩)
  rw [S1.i7]
  refine ⟨ct_o hk, s_X3_doubtfulBetween hk S1.cl hS.pw.1 p0 (by omega) q0 (by omega) (fun d0 d1 => ⟨by omega, fun g => ?_, fun g => ?_⟩)⟩
  · rw [S1.i8]
    exact t_move n0 n1 hk S1 rfl (by omega) (fun N f2 S2 => k2 _ N g d1 (fr20_tr f1 f2) (by rw [show a + 2 = a + 1 + 1 by omega]; exact S2) (fun k => by unfold dbtK; rw [e1, e2, if_neg (by omega)]))
  · exact t_fail n0 n1 hk S1 (fun N f2 t2 => k1 4 (a + 1) N (fr20_tr f1 f2) t2 (fun k => by unfold dbtK; rw [e1, e2, if_pos (by omega)]))
