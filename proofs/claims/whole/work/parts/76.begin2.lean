/-! THE REFERENCE's calls: begin, feed -/
def frB (M N : aM) : Prop := ∀ b j, ¬ (b = 86 ∧ j = 55) → N b j = M b j
theorem frB.G {G : Lnd} {M N : aM} (h : frB M N) (hG : rfG G M) : rfG G N := hG.of (fun b j c => by unfold inG at c; exact h b j (by omega))
theorem frB_up {M N : aM} {v : Int} (h : frB M N) : frB M (up_ N 86 55 v) := fun b j c => by rw [show up_ N 86 55 v b j = N b j from if_neg c]; exact h b j c
theorem r_begin {Q : Int → aM → aW → Prop} {M : aM} {W : aW} {G : Lnd} {D : Int → Int → Int} {on w n tn fk fp : Int} {wp wh wk tp : Int → Int} {x : Int} (h : rfS G D on w n wp wh wk tn tp fk fp M) (hi : inI x) (k1 : ¬ (0 ≤ x ∧ 0 ≤ (G 0 6) ∧ 0 ≤ (G 0 7)) → ∀ N, frK M N → rfS G D on w n wp wh wk tn tp fk fp N → Q 0 N W) (k2 : 0 ≤ x ∧ 0 ≤ (G 0 6) ∧ 0 ≤ (G 0 7) → ∀ N, frK M N → rfS G D 1 (drW G x) 0 (fun _ => (G 0 6)) (fun _ => 0) (fun _ => lrn 0 ((G 5 ((G 0 6)))) (drW G x)) tn tp fk fp N → Q 1 N W) : CallI 258 [vR 86, vI x] (M, W) Q := by
  have h2 := h.thr (v := 0)
  have fr := frK_thr M 0
  have hn := h2.G.n
  have ht := h2.G.t
  have hw := h2.G.W
  have h64 := p2_lt64 hw
  refine e_X12_begin _ _ _ _ ?_
  generalize up_ M 86 2 0 = M1 at *
  have fin : 0 ≤ x → 0 ≤ (G 0 6) → 0 ≤ (G 0 7) → ∀ (x2 : Int) (d5 : aL) (N : aM), frB M1 N → N 86 55 = drW G x → (0 ≤ drW G x ∧ drW G x < p2_ ((G 0 3))) → CallI 228 [vR 86, vI ((G 0 6)), vI 0, vI (drW G x)] (up_ (up_ (up_ (up_ N 86 54 1) 86 56 0) 122 0 ((G 0 6))) 123 0 0, W) (fun r3 M1 W2 => Q 1 (up_ M1 124 0 r3) W2) := by
    intro x0 hs hg x2 d5 N fN e55 hdr
    have hsn := hw.S.1 ((G 0 6)) hs (by omega)
    have gA : rfG G (up_ (up_ (up_ (up_ N 86 54 1) 86 56 0) 122 0 ((G 0 6))) 123 0 0) := (fN.G h2.G).of (fun b j c => by unfold inG at c; rw [up_b _ _ _ _ (by omega), up_b _ _ _ _ (by omega)]; rw [show ∀ K : aM, up_ K 86 56 0 b j = K b j from fun K => if_neg (by omega)]; exact if_neg (by omega))
    refine s_X12_learns gA hs (by omega) (by decide) (by decide) hdr.1 (by omega) ?_
    have hlr := lrn_rng 0 ((G 5 ((G 0 6)))) (drW G x)
    have hll := lrn_lt hw (w := drW G x) (k := 0) (by decide) (by omega) hsn.1 hsn.2
    generalize hK : up_ (up_ (up_ (up_ (up_ N 86 54 1) 86 56 0) 122 0 ((G 0 6))) 123 0 0) 124 0 (lrn 0 ((G 5 ((G 0 6)))) (drW G x)) = K
    have e : ∀ b j, ¬ (b = 86 ∧ 54 ≤ j ∧ j ≤ 56) → ¬ (122 ≤ b ∧ b ≤ 124) → K b j = M1 b j := fun b j c1 c2 => by
      rw [← hK, up_b _ _ _ _ (by omega), up_b _ _ _ _ (by omega), up_b _ _ _ _ (by omega), show ∀ K : aM, up_ K 86 56 0 b j = K b j from fun K => if_neg (by omega), show ∀ K : aM, up_ K 86 54 1 b j = K b j from fun K => if_neg (by omega)]
      exact fN b j (by omega)
    refine k2 ⟨x0, hs, hg⟩ K (frK_tr fr (fun b j c => e b j (by omega) (by omega))) (h2.walk e ⟨?_, Or.inr rfl, fun _ => ⟨⟨by decide, hdr, fun i i0 i1 => ⟨⟨hs, (show (G 0 6) < (G 0 0) by omega)⟩, ⟨hlr.1, hll⟩, Int.le_refl 0, (show (0 : Int) ≤ 198 * i by omega)⟩⟩, ?_, ?_, fun i i0 i1 => ?_⟩⟩)
    · rw [← hK, up_b _ _ _ _ (by decide), up_b _ _ _ _ (by decide), up_b _ _ _ _ (by decide), up_j _ _ _ (by decide), up_s]
    · rw [← hK, up_b _ _ _ _ (by decide), up_b _ _ _ _ (by decide), up_b _ _ _ _ (by decide), up_j _ _ _ (by decide), up_j _ _ _ (by decide)]; exact e55
    · rw [← hK, up_b _ _ _ _ (by decide), up_b _ _ _ _ (by decide), up_b _ _ _ _ (by decide), up_s]
    · have ei : i = 0 := by omega
      rw [ei, ← hK]
      refine ⟨?_, ?_, up_s _ _ _ _⟩
      · rw [up_b _ _ _ _ (by decide), up_b _ _ _ _ (by decide), up_s]
      · rw [up_b _ _ _ _ (by decide), up_s]
  have l128 : 0 ≤ x → 0 ≤ (G 0 6) → 0 ≤ (G 0 7) → ∀ (m : Nat) (x2 c x5 : Int) (d5 : aL) (N : aM), 0 ≤ c → c ≤ (G 0 1) → ((G 0 1) - c).toNat = m → frB M1 N → N 86 55 = x5 → (x2, x5) = dr2 G (dr1 G x ((G 0 3)).toNat) c.toNat → (0 ≤ x5 ∧ x5 < p2_ ((G 0 3))) → Xs 258 (128, [some (some (vR 86)), some (some (vI x)), some (some (vL x2)), some none, some (some (vI c)), d5], [], (N, W)) (QI Q) := by
    intro x0 hs hg m
    induction m with
    | zero =>
      intro x2 c x5 d5 N c0 c1 hm fN e55 hx hr
      have e : c = (G 0 1) := by omega
      rw [e] at hx
      have e2 : x5 = drW G x := by unfold drW; rw [← hx]
      have hGN := fN.G h2.G
      rw [e2] at e55 hr
      have b6 : up_ (up_ N 86 54 1) 86 56 0 89 6 = (G 0 6) := by rw [up_b _ _ _ _ (by decide), up_b _ _ _ _ (by decide)]; exact hGN.N.2.2.2.2.2.1
      have b7 : up_ (up_ (up_ (up_ N 86 54 1) 86 56 0) 122 0 ((G 0 6))) 123 0 0 89 6 = (G 0 6) := by rw [up_b _ _ _ _ (by decide), up_b _ _ _ _ (by decide)]; exact b6
      have b8 : up_ (up_ (up_ (up_ N 86 54 1) 86 56 0) 122 0 ((G 0 6))) 123 0 0 86 55 = drW G x := by rw [up_b _ _ _ _ (by decide), up_b _ _ _ _ (by decide), up_j _ _ _ (by decide), up_j _ _ _ (by decide)]; exact e55
      refine k_X12_begin_128 _ _ _ _ _ _ _ ?_
      rw [hGN.N.2.1, b6, b7, b8]
      exact ⟨by omega, fun _ => fin x0 hs hg x2 d5 N fN e55 hr, fun hlt => by omega⟩
    | succ m ih =>
      intro x2 c x5 d5 N c0 c1 hm fN e55 hx hr
      have hGN := fN.G h2.G
      have hf := fol_rng x2
      have hC := hw.C c c0 (by omega)
      have hS := dr2_S G (dr1 G x ((G 0 3)).toNat) c0
      rw [← hx] at hS
      refine k_X12_begin_128 _ _ _ _ _ _ _ ?_
      rw [hGN.N.2.1, hGN.c92 c0 (by omega)]
      refine ⟨by omega, fun hge => by omega, fun _ v ev => ?_⟩
      have ev' : v = fol x2 := ev
      rw [ev']
      have hc := com_rng hf.1 hf.2
      refine ⟨⟨by omega, by decide, by decide⟩, ⟨by omega, by decide, by decide⟩, by omega, by omega, ⟨by omega, by omega⟩, fun hlt => ?_, fun hge => ?_⟩
      · have hsb := sby_rng hw c ((G 0 3)).toNat (by omega)
        have l180 : ∀ (n : Nat) (d : Int) (K : aM), 0 ≤ d → d ≤ (G 0 3) → ((G 0 3) - d).toNat = n → frB M1 K → K 86 55 = sOr x5 (sby G c d.toNat) → Xs 258 (180, [some (some (vR 86)), some (some (vI x)), some (some (vL (fol x2))), some none, some (some (vI c)), some (some (vI d))], [], (K, W)) (QI Q) := by
          intro n
          induction n with
          | zero =>
            intro d K d0 d1 hnm fK k55
            have e : d = (G 0 3) := by omega
            rw [e] at k55
            refine k_X12_begin_180 _ _ _ _ _ _ _ ?_
            refine s_X12_doubts (fK.G h2.G) ⟨by omega, fun _ => ih _ _ _ _ K (by omega) (by omega) (by omega) fK k55 ?_ (sOr_lt hw hr.1 hr.2 hsb.1 hsb.2), fun hlt => by omega⟩
            rw [hS]
            show (fol x2, sOr x5 (sby G c ((G 0 3)).toNat)) = (fol x2, iteP (com (fol x2) (G 1 c)) (sOr x5 (sby G c ((G 0 3)).toNat)) x5)
            rw [iteP_t (show com (fol x2) (G 1 c) from hlt)]
          | succ n ih2 =>
            intro d K d0 d1 hnm fK k55
            have hGK := fK.G h2.G
            have hD := hw.D d d0 (by omega)
            have hR := hw.R (G 3 d) hD.1 hD.2.1
            have hsd := sby_rng hw c d.toNat (by omega)
            have hso := sOr_rng x5 (sby G c d.toNat)
            have hp2 := p2_lt hw d0 (show d < (G 0 3) by omega)
            refine k_X12_begin_180 _ _ _ _ _ _ _ ?_
            refine s_X12_doubts hGK ⟨by omega, fun hge => by omega, fun _ => ?_⟩
            rw [hGK.d94 d0 (by omega), hGK.r93 hD.1 hD.2.1 (by decide) (by decide), k55, shl_e d0 (by omega), or_e hso.1 hso.2 hp2.1 hp2.2.2]
            refine ⟨by omega, by omega, by omega, fun hne => ih2 _ K (by omega) (by omega) (by omega) fK ?_, fun heq => ih2 _ _ (by omega) (by omega) (by omega) (frB_up fK) ?_⟩
            · rw [sby_S _ _ d0, if_neg hne]; exact k55
            · rw [sby_S _ _ d0, if_pos (Classical.byContradiction heq), up_s]; exact sOr_a
        exact l180 _ 0 N (by decide) (by omega) rfl fN (by rw [e55]; exact (sOr_0 hr.1 (by omega)).symm)
      · refine ih _ _ _ _ N (by omega) (by omega) (by omega) fN e55 ?_ hr
        rw [hS]
        show (fol x2, x5) = (fol x2, iteP (com (fol x2) (G 1 c)) (sOr x5 (sby G c ((G 0 3)).toNat)) x5)
        rw [iteP_f (show ¬ com (fol x2) (G 1 c) from hge)]
  have l29 : 0 ≤ x → 0 ≤ (G 0 6) → 0 ≤ (G 0 7) → ∀ (m : Nat) (x2 d x5 : Int) (d5 : aL) (N : aM), 0 ≤ d → d ≤ (G 0 3) → ((G 0 3) - d).toNat = m → frB M1 N → N 86 55 = x5 → (x2, x5) = dr1 G x d.toNat → (0 ≤ x5 ∧ x5 < p2_ ((G 0 3))) → Xs 258 (29, [some (some (vR 86)), some (some (vI x)), some (some (vL x2)), some none, some (some (vI d)), d5], [], (N, W)) (QI Q) := by
    intro x0 hs hg m
    induction m with
    | zero =>
      intro x2 d x5 d5 N d0 d1 hm fN e55 hx hr
      have e : d = (G 0 3) := by omega
      rw [e] at hx
      refine k_X12_begin_29 _ _ _ _ _ _ _ ?_
      refine s_X12_doubts (fN.G h2.G) ⟨by omega, fun _ => l128 x0 hs hg _ _ 0 x5 _ N (by decide) (by omega) rfl fN e55 hx hr, fun hlt => by omega⟩
    | succ m ih =>
      intro x2 d x5 d5 N d0 d1 hm fN e55 hx hr
      have hGN := fN.G h2.G
      have hf := fol_rng x2
      have hc := com_rng hf.1 hf.2
      have hD := hw.D d d0 (by omega)
      have hR := hw.R (G 3 d) hD.1 hD.2.1
      have hp2 := p2_lt hw d0 (show d < (G 0 3) by omega)
      have hS := dr1_S G x d0
      rw [← hx] at hS
      refine k_X12_begin_29 _ _ _ _ _ _ _ ?_
      refine s_X12_doubts hGN ⟨by omega, fun hge => by omega, fun _ => ?_⟩
      rw [hGN.d94 d0 (by omega), hGN.r93 hD.1 hD.2.1 (by decide) (by decide), e55, shl_e d0 (by omega), or_e hr.1 (by omega) hp2.1 hp2.2.2]
      refine ⟨by omega, by omega, by omega, fun hne v ev => ?_, fun heq => ?_⟩
      · have ev' : v = fol x2 := ev
        rw [ev']
        rw [if_pos (show 0 < (G 2 ((G 3 d) * 7 + 3)) by omega)] at hS
        refine ⟨⟨by omega, by decide, by decide⟩, ⟨by omega, by decide, by decide⟩, by omega, by omega, by omega, ⟨by omega, by omega⟩, fun hge => ?_, fun hlt => ?_⟩
        · refine ih _ _ _ _ N (by omega) (by omega) (by omega) fN e55 ?_ hr
          rw [hS]
          show (fol x2, x5) = (fol x2, iteP (com (fol x2) ((G 2 ((G 3 d) * 7 + 3)))) (sOr x5 (p2_ d)) x5)
          rw [iteP_f (show ¬ com (fol x2) ((G 2 ((G 3 d) * 7 + 3))) from fun a => by unfold com at a; omega)]
        · refine ih _ _ _ _ _ (by omega) (by omega) (by omega) (frB_up fN) (up_s _ _ _ _) ?_ (sOr_lt hw hr.1 hr.2 hp2.1 hp2.2.1)
          rw [hS]
          show (fol x2, sOr x5 (p2_ d)) = (fol x2, iteP (com (fol x2) ((G 2 ((G 3 d) * 7 + 3)))) (sOr x5 (p2_ d)) x5)
          rw [iteP_t (show com (fol x2) ((G 2 ((G 3 d) * 7 + 3))) by unfold com; omega)]
      · refine ih _ _ _ _ N (by omega) (by omega) (by omega) fN e55 ?_ hr
        rw [hS, if_neg (by omega)]
  refine ⟨hi, fun hneg => k1 (by omega) M1 fr h2, fun hpos => s_X12_hasEnds h2.G (fun r hr => ⟨by omega, fun hnz => ⟨hi, fun v ev => ?_⟩, fun hz => k1 (by omega) M1 fr h2⟩)⟩
  rw [ev]
  exact l29 (by omega) (by omega) (by omega) _ _ 0 0 _ _ (by decide) (by omega) rfl (frB_up (fun _ _ _ => rfl)) (up_s _ _ _ _) rfl ⟨by decide, by omega⟩
theorem and255 (x : Int) : and_ x 255 = x % 256 := by
  unfold and_
  show ((Int32.ofInt x).toBitVec &&& (Int32.ofInt 255).toBitVec).toInt = x % 256
  have e : (Int32.ofInt 255).toBitVec = BitVec.ofNat 32 (2 ^ 8 - 1) := by decide
  have e2 : ((Int32.ofInt x).toBitVec &&& (Int32.ofInt 255).toBitVec).toNat = (Int32.ofInt x).toBitVec.toNat % 256 := by
    rw [e, BitVec.toNat_and]
    show (Int32.ofInt x).toBitVec.toNat &&& (2 ^ 8 - 1) = _
    rw [Nat.and_two_pow_sub_one_eq_mod]
  rw [BitVec.toInt_eq_toNat_of_lt (by omega), e2]
  have e3 : (Int32.ofInt x).toBitVec = BitVec.ofInt 32 x := rfl
  have e4 : ((BitVec.ofInt 32 x).toNat : Int) = x % 4294967296 := by
    rw [BitVec.toNat_ofInt]
    show ((x % ((2 ^ 32 : Nat) : Int)).toNat : Int) = _
    have : (((2 ^ 32 : Nat)) : Int) = 4294967296 := by decide
    omega
  rw [e3]
  omega
theorem b8mod (x : Int) : b8_ x % 256 = x % 256 := by
  have e : b8_ x = (Int32.ofInt x).toInt8.toInt := by unfold b8_; exact Int8.toInt_toInt32 _
  rw [e]
  rw [Int32.toInt8_ofInt, Int8.toInt_ofInt]
  show Int.bmod x 256 % 256 = x % 256
  have := Int.bmod_def x 256
  rw [this]
  have e256 : ((256 : Nat) : Int) = 256 := rfl
  rw [e256]
  split <;> omega
theorem shv (x s : Int) (k : Nat) (h1 : ((Int32.ofInt s &&& 31).toBitVec.smod 32).toNat = k) (h2 : (((Int32.ofInt s).toUInt32 &&& Int32.toUInt32 31).toBitVec % 32).toNat = k) : shr_ x s = (Int32.ofInt x).toInt / 2 ^ k ∧ (ushr_ x s = ((Int32.ofInt x).toBitVec.toNat : Int) / 2 ^ k ∨ ushr_ x s = ((Int32.ofInt x).toBitVec.toNat : Int) / 2 ^ k - 4294967296) := by
  constructor
  · unfold shr_
    rw [pk_shr _ _ k h1, Int.shiftRight_eq_div_pow]
    rfl
  · have h3 := pk_ushr (Int32.ofInt x) (Int32.ofInt s) k h2
    have h4 : ushr_ x s = (((Int32.ofInt x).toUInt32 >>> ((Int32.ofInt s).toUInt32 &&& Int32.toUInt32 31)).toInt32).toBitVec.toInt := rfl
    rw [h4, BitVec.toInt_eq_toNat_cond, h3]
    have e : (((Int32.ofInt x).toBitVec.toNat / 2 ^ k : Nat) : Int) = ((Int32.ofInt x).toBitVec.toNat : Int) / 2 ^ k := by
      rw [Int.natCast_ediv]; rw [Int.natCast_pow]; rfl
    split
    · exact Or.inl e
    · right
      rw [e]; rfl
theorem i32_cs (x : Int32) : (x.toInt = (x.toBitVec.toNat : Int) ∨ x.toInt = (x.toBitVec.toNat : Int) - 4294967296) ∧ (x.toBitVec.toNat : Int) < 4294967296 := by
  have h := x.toBitVec.isLt
  have e : x.toInt = x.toBitVec.toInt := rfl
  rw [e, BitVec.toInt_eq_toNat_cond]
  constructor
  · split
    · exact Or.inl rfl
    · right; rfl
  · have : (2 : Nat) ^ 32 = 4294967296 := by decide
    omega
/-- a byte of a number, both ways -/
theorem byt_e (x s : Int) (h : s = 24 ∨ s = 16 ∨ s = 8 ∨ s = 0) : and_ (shr_ x s) 255 = byt x s % 256 := by
  unfold byt
  rw [and255, b8mod]
  have hc := i32_cs (Int32.ofInt x)
  rcases h with e | e | e | e <;> subst e
  · have := shv x 24 24 (by decide) (by decide)
    have p : (2 : Int) ^ 24 = 16777216 := by decide
    rw [p] at this
    omega
  · have := shv x 16 16 (by decide) (by decide)
    have p : (2 : Int) ^ 16 = 65536 := by decide
    rw [p] at this
    omega
  · have := shv x 8 8 (by decide) (by decide)
    have p : (2 : Int) ^ 8 = 256 := by decide
    rw [p] at this
    omega
  · have := shv x 0 0 (by decide) (by decide)
    have p : (2 : Int) ^ 0 = 1 := by decide
    rw [p] at this
    omega
theorem r_feed {Q : Int → aM → aW → Prop} {M : aM} {W : aW} {G : Lnd} {D : Int → Int → Int} {on w n tn fk fp : Int} {wp wh wk tp : Int → Int} {x1 x2 x3 x4 x5 : Int} (h : rfS G D on w n wp wh wk tn tp fk fp M) (k1 : 580 < tn → ∀ N, frK M N → rfS G D on w n wp wh wk tn tp fk fp N → Q (-1) N W) (k2 : tn ≤ 580 → ∀ N, frK M N → rfS G D on w n wp wh wk (tn + 20) (tpF tp tn x1 x2 x3 x4 x5) fk fp N → Q (tn + 20) N W) : CallI 154 [vR 86, vI x1, vI x2, vI x3, vI x4, vI x5] (M, W) Q := by
  have h2 := h.thr (v := 0)
  have fr := frK_thr M 0
  obtain ⟨t1, t2, t3⟩ := h2.2.2.2.2.2.2.1
  refine e_X12_feed _ _ _ _ _ _ _ _ ?_
  generalize up_ M 86 2 0 = M1 at *
  rw [t2]
  have key : tn ≤ 580 → ∀ (m : Nat) (i : Int) (d7 : aL) (N : aM), 0 ≤ i → i ≤ 20 → (20 - i).toNat = m → ag 87 87 M1 N → (∀ j, 0 ≤ j → j < tn + i → N 87 j = tpF tp tn x1 x2 x3 x4 x5 j % 256) → Xs 154 (23, [some (some (vR 86)), some (some (vI x1)), some (some (vI x2)), some (some (vI x3)), some (some (vI x4)), some (some (vI x5)), some (some (vI i)), d7], [], (N, W)) (QI Q) := by
    intro h580 m
    induction m with
    | zero =>
      intro i d7 N i0 i1 hm fN hN
      have e1 : N 86 1 = tn := by rw [fN _ _ (by decide)]; exact t2
      refine k_X12_feed_23 _ _ _ _ _ _ _ _ _ _ ?_
      rw [e1, up_s]
      refine ⟨by omega, fun _ => ?_, fun hlt => by omega⟩
      refine k2 h580 _ (frK_tr fr (frK_tr (fun b j c => fN b j (by omega)) (frK_up (by decide)))) ?_
      obtain ⟨g1, g2, g3, ⟨g4, g5, g6⟩, g7, g8, -, ⟨g10, g11⟩, g12⟩ := h2
      have ht := g1.t; have hn := g1.n
      have hq : thr_ ((G 0 3)) ≤ 729 ∧ (G 0 0) ≤ 10 := by omega
      have e : ∀ b j, b ≠ 87 → ¬ (b = 86 ∧ j = 1) → up_ N 86 1 (tn + 20) b j = M1 b j := fun b j c1 c2 => by rw [show up_ N 86 1 (tn + 20) b j = N b j from if_neg c2]; exact fN b j (by omega)
      exact ⟨g1.of (fun b j c => by unfold inG at c; exact e b j (by omega) (by omega)), g2.of (fun b j c => e b j (by omega) (by omega)), g3.of (fun j => e 113 j (by decide) (by omega)), ⟨g4.of hq (fun b j c => e b j (by omega) (by omega)), g5.of hq (fun b j c => e b j (by omega) (by omega)), g6.of hq (fun b j c => e b j (by omega) (by omega))⟩, g7.of (fun b j c => e b j (by omega) (by omega)), g8.of (fun b j c => e b j (by omega) (by omega)), ⟨by omega, up_s _ _ _ _, fun j j0 j1 => by rw [up_b _ _ _ _ (by decide)]; exact hN j j0 (by omega)⟩, ⟨by rw [e _ _ (by decide) (by decide)]; exact g10, by rw [e _ _ (by decide) (by decide)]; exact g11⟩, g12.of (fun j => e 88 j (by decide) (by omega))⟩
    | succ m ih =>
      intro i d7 N i0 i1 hm fN hN
      have e1 : N 86 1 = tn := by rw [fN _ _ (by decide)]; exact t2
      have etm : Int.tmod i 4 = i % 4 := Int.tmod_eq_emod_of_nonneg i0
      have put : ∀ (a : Int) (d7 : aL), a = (if i < 4 then x1 else if i < 8 then x2 else if i < 12 then x3 else if i < 16 then x4 else x5) → (inI i ∧ inI 4 ∧ (4 : Int) ≠ 0) ∧ (0 ≤ tn + i ∧ tn + i < 600) ∧ Xs 154 (23, [some (some (vR 86)), some (some (vI x1)), some (some (vI x2)), some (some (vI x3)), some (some (vI x4)), some (some (vI x5)), some (some (vI (i + 1))), d7], [], (up_ N 87 (tn + i) (and_ (shr_ a (24 - 8 * (Int.tmod i 4))) 255), W)) (QI Q) := fun a d7 ea => by
        refine ⟨⟨by omega, by decide, by decide⟩, by omega, ih (i + 1) _ _ (by omega) (by omega) (by omega) (ag_tr fN (ag_up _ (by decide) (by decide))) (fun j j0 j1 => ?_)⟩
        by_cases e : j = tn + i
        · rw [e, up_s, etm, byt_e _ _ (by omega)]
          unfold tpF
          rw [if_neg (by omega), show tn + i - tn = i by omega, ea]
          rfl
        · rw [up_j _ _ _ e]; exact hN j j0 (by omega)
      refine k_X12_feed_23 _ _ _ _ _ _ _ _ _ _ ?_
      rw [e1]
      refine ⟨by omega, fun hge => by omega, fun _ => ⟨by omega, fun h4 => ⟨by omega, fun h8 => ⟨by omega, fun h12 => ⟨by omega, fun h16 => put _ _ ?_, fun h16 => put _ _ ?_⟩, fun h12 => put _ _ ?_⟩, fun h8 => put _ _ ?_⟩, fun h4 => put _ _ ?_⟩⟩
      · rw [if_neg (by omega), if_neg (by omega), if_neg (by omega), if_neg (by omega)]
      · rw [if_neg (by omega), if_neg (by omega), if_neg (by omega), if_pos (by omega)]
      · rw [if_neg (by omega), if_neg (by omega), if_pos (by omega)]
      · rw [if_neg (by omega), if_pos (by omega)]
      · rw [if_pos (by omega)]
  refine ⟨by omega, fun hle => key (by omega) _ 0 _ M1 (by decide) (by decide) rfl (ag_refl _ _ _) (fun j j0 j1 => ?_), fun hgt => k1 (by omega) M1 fr h2⟩
  rw [t3 j j0 (by omega)]
  unfold tpF; rw [if_pos (by omega)]
