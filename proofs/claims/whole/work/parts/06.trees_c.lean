set_option maxRecDepth 20000 in
theorem e_X12_thrown  (M : aM) (W : aW) (Q : Int → aM → aW → Prop) (h :
  Q (M 86 2) M W) : CallI 153 [vR 86] (M, W) Q :=
  wpN_X (cut := fun p => false) 5 _ _ h
set_option maxRecDepth 20000 in
theorem e_X12_feed (x1 : Int) (x2 : Int) (x3 : Int) (x4 : Int) (x5 : Int) (M : aM) (W : aW) (Q : Int → aM → aW → Prop) (h :
  (inI (((up_ M 86 2 0) 86 1) + 20)) ∧ 
  (((((up_ M 86 2 0) 86 1) + 20) ≤ 600 → Xs 154 (23, [some (some (vR 86)), some (some (vI x1)), some (some (vI x2)), some (some (vI x3)), some (some (vI x4)), some (some (vI x5)), some (some (vI 0)), none], [], ((up_ M 86 2 0), W)) (QI Q)) ∧
  (¬ (((up_ M 86 2 0) 86 1) + 20) ≤ 600 → Q (-1) (up_ M 86 2 0) W))) : CallI 154 [vR 86, vI x1, vI x2, vI x3, vI x4, vI x5] (M, W) Q :=
  wpN_X (cut := fun p => Nat.beq p 23) 16 _ _ h
set_option maxRecDepth 20000 in
theorem k_X12_feed_23 (x1 : Int) (x2 : Int) (x3 : Int) (x4 : Int) (x5 : Int) (x6 : Int) (d7 : aL) (M : aM) (W : aW) (Q : Int → aM → aW → Prop) (h :
  (inI x6) ∧ 
  ((x6 ≥ 20 → Q ((up_ M 86 1 ((M 86 1) + 20)) 86 1) (up_ M 86 1 ((M 86 1) + 20)) W) ∧
  (¬ x6 ≥ 20 → (inI x6) ∧ 
    ((x6 ≥ 4 → (inI x6) ∧ 
      ((x6 ≥ 8 → (inI x6) ∧ 
        ((x6 ≥ 12 → (inI x6) ∧ 
          ((x6 ≥ 16 → (inI x6 ∧ inI 4 ∧ (4 : Int) ≠ 0) ∧ (0 ≤ ((M 86 1) + x6) ∧ ((M 86 1) + x6) < 600) ∧ Xs 154 (23, [some (some (vR 86)), some (some (vI x1)), some (some (vI x2)), some (some (vI x3)), some (some (vI x4)), some (some (vI x5)), some (some (vI (x6 + 1))), some (some (vI x5))], [], ((up_ M 87 ((M 86 1) + x6) (and_ (shr_ x5 (24 - (8 * (Int.tmod x6 4)))) 255)), W)) (QI Q)) ∧
          (¬ x6 ≥ 16 → (inI x6 ∧ inI 4 ∧ (4 : Int) ≠ 0) ∧ (0 ≤ ((M 86 1) + x6) ∧ ((M 86 1) + x6) < 600) ∧ Xs 154 (23, [some (some (vR 86)), some (some (vI x1)), some (some (vI x2)), some (some (vI x3)), some (some (vI x4)), some (some (vI x5)), some (some (vI (x6 + 1))), some (some (vI x4))], [], ((up_ M 87 ((M 86 1) + x6) (and_ (shr_ x4 (24 - (8 * (Int.tmod x6 4)))) 255)), W)) (QI Q)))) ∧
        (¬ x6 ≥ 12 → (inI x6 ∧ inI 4 ∧ (4 : Int) ≠ 0) ∧ (0 ≤ ((M 86 1) + x6) ∧ ((M 86 1) + x6) < 600) ∧ Xs 154 (23, [some (some (vR 86)), some (some (vI x1)), some (some (vI x2)), some (some (vI x3)), some (some (vI x4)), some (some (vI x5)), some (some (vI (x6 + 1))), some (some (vI x3))], [], ((up_ M 87 ((M 86 1) + x6) (and_ (shr_ x3 (24 - (8 * (Int.tmod x6 4)))) 255)), W)) (QI Q)))) ∧
      (¬ x6 ≥ 8 → (inI x6 ∧ inI 4 ∧ (4 : Int) ≠ 0) ∧ (0 ≤ ((M 86 1) + x6) ∧ ((M 86 1) + x6) < 600) ∧ Xs 154 (23, [some (some (vR 86)), some (some (vI x1)), some (some (vI x2)), some (some (vI x3)), some (some (vI x4)), some (some (vI x5)), some (some (vI (x6 + 1))), some (some (vI x2))], [], ((up_ M 87 ((M 86 1) + x6) (and_ (shr_ x2 (24 - (8 * (Int.tmod x6 4)))) 255)), W)) (QI Q)))) ∧
    (¬ x6 ≥ 4 → (inI x6 ∧ inI 4 ∧ (4 : Int) ≠ 0) ∧ (0 ≤ ((M 86 1) + x6) ∧ ((M 86 1) + x6) < 600) ∧ Xs 154 (23, [some (some (vR 86)), some (some (vI x1)), some (some (vI x2)), some (some (vI x3)), some (some (vI x4)), some (some (vI x5)), some (some (vI (x6 + 1))), some (some (vI x1))], [], ((up_ M 87 ((M 86 1) + x6) (and_ (shr_ x1 (24 - (8 * (Int.tmod x6 4)))) 255)), W)) (QI Q)))))) : Xs 154 (23, [some (some (vR 86)), some (some (vI x1)), some (some (vI x2)), some (some (vI x3)), some (some (vI x4)), some (some (vI x5)), some (some (vI x6)), d7], [], (M, W)) (QI Q) :=
  wpN_X (cut := fun p => Nat.beq p 23) 145 _ _ h
set_option maxRecDepth 20000 in
theorem e_X12_isIn (x0 : Int) (x1 : Int) (x2 : Int) (M : aM) (W : aW) (Q : Int → aM → aW → Prop) (h :
  (inI x0 ∧ inI x1) ∧ 
  ((x0 < x1 → ((0 : Int) = 0 ∨ (0 : Int) = 1) ∧ Q 0 M W) ∧
  (¬ x0 < x1 → (inI x0 ∧ inI x2) ∧ 
    ((x0 > x2 → ((0 : Int) = 0 ∨ (0 : Int) = 1) ∧ Q 0 M W) ∧
    (¬ x0 > x2 → ((1 : Int) = 0 ∨ (1 : Int) = 1) ∧ Q 1 M W))))) : CallI 155 [vI x0, vI x1, vI x2] (M, W) Q :=
  wpN_X (cut := fun p => false) 15 _ _ h
set_option maxRecDepth 20000 in
theorem e_X12_wrong (x1 : Int) (M : aM) (W : aW) (Q : Int → aM → aW → Prop) (h :
  Q 0 (up_ (up_ M 86 4 x1) 86 5 ((up_ M 86 4 x1) 86 10)) W) : CallI 156 [vR 86, vI x1] (M, W) Q :=
  wpN_X (cut := fun p => false) 11 _ _ h
set_option maxRecDepth 20000 in
theorem e_X12_wordAt (x1 : Int) (x2 : Int) (M : aM) (W : aW) (Q : Int → aM → aW → Prop) (h :
  Xs 157 (5, [some (some (vR 86)), some (some (vI x1)), some (some (vI x2)), some (some (vI 0)), some (some (vI 0)), none, none, none], [], (M, W)) (QI Q)) : CallI 157 [vR 86, vI x1, vI x2] (M, W) Q :=
  wpN_X (cut := fun p => Nat.beq p 5 || Nat.beq p 18 || Nat.beq p 57) 7 _ _ h
set_option maxRecDepth 20000 in
theorem k_X12_wordAt_5 (x1 : Int) (x2 : Int) (x3 : Int) (x4 : Int) (d5 : aL) (d6 : aL) (d7 : aL) (M : aM) (W : aW) (Q : Int → aM → aW → Prop) (h :
  (inI x4 ∧ inI 48) ∧ 
  ((x4 ≥ 48 → Q (-1) M W) ∧
  (¬ x4 ≥ 48 → Xs 157 (18, [some (some (vR 86)), some (some (vI x1)), some (some (vI x2)), some (some (vI x3)), some (some (vI x4)), some (some (vI 0)), d6, d7], [], (M, W)) (QI Q)))) : Xs 157 (5, [some (some (vR 86)), some (some (vI x1)), some (some (vI x2)), some (some (vI x3)), some (some (vI x4)), d5, d6, d7], [], (M, W)) (QI Q) :=
  wpN_X (cut := fun p => Nat.beq p 5 || Nat.beq p 18 || Nat.beq p 57) 12 _ _ h
set_option maxRecDepth 20000 in
theorem k_X12_wordAt_18 (x1 : Int) (x2 : Int) (x3 : Int) (x4 : Int) (x5 : Int) (d6 : aL) (d7 : aL) (M : aM) (W : aW) (Q : Int → aM → aW → Prop) (h :
  (0 ≤ (x4 + x5) ∧ (x4 + x5) < 48) ∧ (inI (M 88 (x4 + x5))) ∧ 
  (((M 88 (x4 + x5)) = 32 → (inI x5 ∧ inI (x2 - x1)) ∧ 
    ((x5 ≠ (x2 - x1) → Xs 157 (57, [some (some (vR 86)), some (some (vI x1)), some (some (vI x2)), some (some (vI x3)), some (some (vI x4)), some (some (vI x5)), some (some (vI 0)), some (some (vI 0))], [], (M, W)) (QI Q)) ∧
    (¬ x5 ≠ (x2 - x1) → Xs 157 (57, [some (some (vR 86)), some (some (vI x1)), some (some (vI x2)), some (some (vI x3)), some (some (vI x4)), some (some (vI x5)), some (some (vI 1)), some (some (vI 0))], [], (M, W)) (QI Q)))) ∧
  (¬ (M 88 (x4 + x5)) = 32 → Xs 157 (18, [some (some (vR 86)), some (some (vI x1)), some (some (vI x2)), some (some (vI x3)), some (some (vI x4)), some (some (vI (x5 + 1))), d6, d7], [], (M, W)) (QI Q)))) : Xs 157 (18, [some (some (vR 86)), some (some (vI x1)), some (some (vI x2)), some (some (vI x3)), some (some (vI x4)), some (some (vI x5)), d6, d7], [], (M, W)) (QI Q) :=
  wpN_X (cut := fun p => Nat.beq p 5 || Nat.beq p 18 || Nat.beq p 57) 29 _ _ h
set_option maxRecDepth 20000 in
theorem k_X12_wordAt_57 (x1 : Int) (x2 : Int) (x3 : Int) (x4 : Int) (x5 : Int) (x6 : Int) (x7 : Int) (M : aM) (W : aW) (Q : Int → aM → aW → Prop) (h :
  (inI x7 ∧ inI x5) ∧ 
  ((x7 ≥ x5 → (inI x6) ∧ 
    ((x6 = 0 → (∀ v1 : Int, v1 = x4 + (x5 + 1) → Xs 157 (5, [some (some (vR 86)), some (some (vI x1)), some (some (vI x2)), some (some (vI (x3 + 1))), some (some (vI v1)), some (some (vI x5)), some (some (vI x6)), some (some (vI x7))], [], (M, W)) (QI Q))) ∧
    (¬ x6 = 0 → Q x3 M W))) ∧
  (¬ x7 ≥ x5 → (inI x6) ∧ 
    ((x6 = 0 → (inI x6) ∧ 
      ((x6 = 0 → (∀ v2 : Int, v2 = x4 + (x5 + 1) → Xs 157 (5, [some (some (vR 86)), some (some (vI x1)), some (some (vI x2)), some (some (vI (x3 + 1))), some (some (vI v2)), some (some (vI x5)), some (some (vI x6)), some (some (vI x7))], [], (M, W)) (QI Q))) ∧
      (¬ x6 = 0 → Q x3 M W))) ∧
    (¬ x6 = 0 → (0 ≤ (x4 + x7) ∧ (x4 + x7) < 48) ∧ (0 ≤ (x1 + x7) ∧ (x1 + x7) < 600) ∧ (inI (M 88 (x4 + x7)) ∧ inI (M 87 (x1 + x7))) ∧ 
      (((M 88 (x4 + x7)) ≠ (M 87 (x1 + x7)) → Xs 157 (57, [some (some (vR 86)), some (some (vI x1)), some (some (vI x2)), some (some (vI x3)), some (some (vI x4)), some (some (vI x5)), some (some (vI 0)), some (some (vI (x7 + 1)))], [], (M, W)) (QI Q)) ∧
      (¬ (M 88 (x4 + x7)) ≠ (M 87 (x1 + x7)) → Xs 157 (57, [some (some (vR 86)), some (some (vI x1)), some (some (vI x2)), some (some (vI x3)), some (some (vI x4)), some (some (vI x5)), some (some (vI 1)), some (some (vI (x7 + 1)))], [], (M, W)) (QI Q)))))))) : Xs 157 (57, [some (some (vR 86)), some (some (vI x1)), some (some (vI x2)), some (some (vI x3)), some (some (vI x4)), some (some (vI x5)), some (some (vI x6)), some (some (vI x7))], [], (M, W)) (QI Q) :=
  wpN_X (cut := fun p => Nat.beq p 5 || Nat.beq p 18 || Nat.beq p 57) 57 _ _ h
set_option maxRecDepth 20000 in
theorem e_X12_isSmall (x1 : Int) (M : aM) (W : aW) (Q : Int → aM → aW → Prop) (h :
  (inI x1 ∧ inI (M 86 6)) ∧ 
  ((x1 ≥ (M 86 6) → ((0 : Int) = 0 ∨ (0 : Int) = 1) ∧ Q 0 M W) ∧
  (¬ x1 ≥ (M 86 6) → (0 ≤ x1 ∧ x1 < 600) ∧ (inI (M 87 x1)) ∧ 
    (((M 87 x1) < 97 → ((0 : Int) = 0 ∨ (0 : Int) = 1) ∧ Q 0 M W) ∧
    (¬ (M 87 x1) < 97 → (0 ≤ x1 ∧ x1 < 600) ∧ (inI (M 87 x1)) ∧ 
      (((M 87 x1) > 122 → ((0 : Int) = 0 ∨ (0 : Int) = 1) ∧ Q 0 M W) ∧
      (¬ (M 87 x1) > 122 → ((1 : Int) = 0 ∨ (1 : Int) = 1) ∧ Q 1 M W))))))) : CallI 158 [vR 86, vI x1] (M, W) Q :=
  wpN_X (cut := fun p => false) 27 _ _ h
set_option maxRecDepth 20000 in
theorem e_X12_isDigit (x1 : Int) (M : aM) (W : aW) (Q : Int → aM → aW → Prop) (h :
  (inI x1 ∧ inI (M 86 6)) ∧ 
  ((x1 ≥ (M 86 6) → ((0 : Int) = 0 ∨ (0 : Int) = 1) ∧ Q 0 M W) ∧
  (¬ x1 ≥ (M 86 6) → (0 ≤ x1 ∧ x1 < 600) ∧ (inI (M 87 x1)) ∧ 
    (((M 87 x1) < 48 → ((0 : Int) = 0 ∨ (0 : Int) = 1) ∧ Q 0 M W) ∧
    (¬ (M 87 x1) < 48 → (0 ≤ x1 ∧ x1 < 600) ∧ (inI (M 87 x1)) ∧ 
      (((M 87 x1) > 57 → ((0 : Int) = 0 ∨ (0 : Int) = 1) ∧ Q 0 M W) ∧
      (¬ (M 87 x1) > 57 → ((1 : Int) = 0 ∨ (1 : Int) = 1) ∧ Q 1 M W))))))) : CallI 159 [vR 86, vI x1] (M, W) Q :=
  wpN_X (cut := fun p => false) 27 _ _ h
set_option maxRecDepth 20000 in
theorem e_X12_take  (M : aM) (W : aW) (Q : aM → aW → Prop) (h :
  (inI (M 86 7) ∧ inI (M 86 6)) ∧ 
  (((M 86 7) ≥ (M 86 6) → (inI ((up_ M 86 10 (M 86 7)) 86 7) ∧ inI ((up_ M 86 10 (M 86 7)) 86 6)) ∧ 
    ((((up_ M 86 10 (M 86 7)) 86 7) ≠ ((up_ M 86 10 (M 86 7)) 86 6) → CallI 158 [vR 86, vI ((up_ M 86 10 (M 86 7)) 86 7)] ((up_ M 86 10 (M 86 7)), W) (fun r3 M1 W2 => (inI r3) ∧ 
      ((r3 = 0 → CallI 159 [vR 86, vI (M1 86 7)] (M1, W2) (fun r6 M4 W5 => (inI r6) ∧ 
        ((r6 = 0 → (0 ≤ (M4 86 7) ∧ (M4 86 7) < 600) ∧ (inI (M4 87 (M4 86 7))) ∧ 
          (((M4 87 (M4 86 7)) ≠ 59 → Q (up_ (up_ M4 86 8 5) 86 7 (((up_ M4 86 8 5) 86 7) + 1)) W5) ∧
          (¬ (M4 87 (M4 86 7)) ≠ 59 → Q (up_ (up_ M4 86 8 4) 86 7 (((up_ M4 86 8 4) 86 7) + 1)) W5))) ∧
        (¬ r6 = 0 → Xs 160 (212, [some (some (vR 86))], [], ((up_ (up_ M4 86 8 3) 86 9 0), W5)) (QV Q))))) ∧
      (¬ r3 = 0 → Xs 160 (90, [some (some (vR 86))], [], (M1, W2)) (QV Q))))) ∧
    (¬ ((up_ M 86 10 (M 86 7)) 86 7) ≠ ((up_ M 86 10 (M 86 7)) 86 6) → Q (up_ (up_ M 86 10 (M 86 7)) 86 8 0) W))) ∧
  (¬ (M 86 7) ≥ (M 86 6) → (0 ≤ (M 86 7) ∧ (M 86 7) < 600) ∧ (inI (M 87 (M 86 7))) ∧ 
    (((M 87 (M 86 7)) = 10 → Xs 160 (0, [some (some (vR 86))], [], ((up_ M 86 7 ((M 86 7) + 1)), W)) (QV Q)) ∧
    (¬ (M 87 (M 86 7)) = 10 → (0 ≤ (M 86 7) ∧ (M 86 7) < 600) ∧ (inI (M 87 (M 86 7))) ∧ 
      (((M 87 (M 86 7)) ≠ 32 → (inI ((up_ M 86 10 (M 86 7)) 86 7) ∧ inI ((up_ M 86 10 (M 86 7)) 86 6)) ∧ 
        ((((up_ M 86 10 (M 86 7)) 86 7) ≠ ((up_ M 86 10 (M 86 7)) 86 6) → CallI 158 [vR 86, vI ((up_ M 86 10 (M 86 7)) 86 7)] ((up_ M 86 10 (M 86 7)), W) (fun r9 M7 W8 => (inI r9) ∧ 
          ((r9 = 0 → CallI 159 [vR 86, vI (M7 86 7)] (M7, W8) (fun r12 M10 W11 => (inI r12) ∧ 
            ((r12 = 0 → (0 ≤ (M10 86 7) ∧ (M10 86 7) < 600) ∧ (inI (M10 87 (M10 86 7))) ∧ 
              (((M10 87 (M10 86 7)) ≠ 59 → Q (up_ (up_ M10 86 8 5) 86 7 (((up_ M10 86 8 5) 86 7) + 1)) W11) ∧
              (¬ (M10 87 (M10 86 7)) ≠ 59 → Q (up_ (up_ M10 86 8 4) 86 7 (((up_ M10 86 8 4) 86 7) + 1)) W11))) ∧
            (¬ r12 = 0 → Xs 160 (212, [some (some (vR 86))], [], ((up_ (up_ M10 86 8 3) 86 9 0), W11)) (QV Q))))) ∧
          (¬ r9 = 0 → Xs 160 (90, [some (some (vR 86))], [], (M7, W8)) (QV Q))))) ∧
        (¬ ((up_ M 86 10 (M 86 7)) 86 7) ≠ ((up_ M 86 10 (M 86 7)) 86 6) → Q (up_ (up_ M 86 10 (M 86 7)) 86 8 0) W))) ∧
      (¬ (M 87 (M 86 7)) ≠ 32 → Xs 160 (0, [some (some (vR 86))], [], ((up_ M 86 7 ((M 86 7) + 1)), W)) (QV Q)))))))) : Xs 160 (0, [some (some (vR 86))], [], (M, W)) (QV Q) :=
  wpN_X (cut := fun p => Nat.beq p 0 || Nat.beq p 90 || Nat.beq p 212) 155 _ _ h
set_option maxRecDepth 20000 in
theorem k_X12_take_90  (M : aM) (W : aW) (Q : aM → aW → Prop) (h :
  CallI 158 [vR 86, vI (M 86 7)] (M, W) (fun r3 M1 W2 => (inI r3) ∧ 
  ((r3 = 0 → CallI 157 [vR 86, vI (M1 86 10), vI (M1 86 7)] (M1, W2) (fun r6 M4 W5 => (inI ((up_ M4 86 9 r6) 86 9)) ∧ 
    ((((up_ M4 86 9 r6) 86 9) < 0 → (inI (((up_ M4 86 9 r6) 86 7) - ((up_ M4 86 9 r6) 86 10))) ∧ 
      (((((up_ M4 86 9 r6) 86 7) - ((up_ M4 86 9 r6) 86 10)) ≤ 6 → (inI ((up_ (up_ M4 86 9 r6) 86 8 2) 86 8)) ∧ 
        ((((up_ (up_ M4 86 9 r6) 86 8 2) 86 8) ≠ 2 → Q (up_ (up_ M4 86 9 r6) 86 8 2) W5) ∧
        (¬ ((up_ (up_ M4 86 9 r6) 86 8 2) 86 8) ≠ 2 → CallI 161 [vR 86, vI ((up_ (up_ M4 86 9 r6) 86 8 2) 86 10), vI ((up_ (up_ M4 86 9 r6) 86 8 2) 86 7)] ((up_ (up_ M4 86 9 r6) 86 8 2), W5) (fun r9 M7 W8 => Q (up_ M7 86 9 r9) W8)))) ∧
      (¬ (((up_ M4 86 9 r6) 86 7) - ((up_ M4 86 9 r6) 86 10)) ≤ 6 → (inI ((up_ (up_ M4 86 9 r6) 86 8 5) 86 8)) ∧ 
        ((((up_ (up_ M4 86 9 r6) 86 8 5) 86 8) ≠ 2 → Q (up_ (up_ M4 86 9 r6) 86 8 5) W5) ∧
        (¬ ((up_ (up_ M4 86 9 r6) 86 8 5) 86 8) ≠ 2 → CallI 161 [vR 86, vI ((up_ (up_ M4 86 9 r6) 86 8 5) 86 10), vI ((up_ (up_ M4 86 9 r6) 86 8 5) 86 7)] ((up_ (up_ M4 86 9 r6) 86 8 5), W5) (fun r12 M10 W11 => Q (up_ M10 86 9 r12) W11)))))) ∧
    (¬ ((up_ M4 86 9 r6) 86 9) < 0 → (inI ((up_ (up_ M4 86 9 r6) 86 8 1) 86 8)) ∧ 
      ((((up_ (up_ M4 86 9 r6) 86 8 1) 86 8) ≠ 2 → Q (up_ (up_ M4 86 9 r6) 86 8 1) W5) ∧
      (¬ ((up_ (up_ M4 86 9 r6) 86 8 1) 86 8) ≠ 2 → CallI 161 [vR 86, vI ((up_ (up_ M4 86 9 r6) 86 8 1) 86 10), vI ((up_ (up_ M4 86 9 r6) 86 8 1) 86 7)] ((up_ (up_ M4 86 9 r6) 86 8 1), W5) (fun r15 M13 W14 => Q (up_ M13 86 9 r15) W14))))))) ∧
  (¬ r3 = 0 → Xs 160 (90, [some (some (vR 86))], [], ((up_ M1 86 7 ((M1 86 7) + 1)), W2)) (QV Q))))) : Xs 160 (90, [some (some (vR 86))], [], (M, W)) (QV Q) :=
  wpN_X (cut := fun p => Nat.beq p 0 || Nat.beq p 90 || Nat.beq p 212) 87 _ _ h
set_option maxRecDepth 20000 in
theorem k_X12_take_212  (M : aM) (W : aW) (Q : aM → aW → Prop) (h :
  CallI 159 [vR 86, vI (M 86 7)] (M, W) (fun r3 M1 W2 => (inI r3) ∧ 
  ((r3 = 0 → Q M1 W2) ∧
  (¬ r3 = 0 → (inI (M1 86 9)) ∧ 
    (((M1 86 9) ≤ 99 → (0 ≤ (M1 86 7) ∧ (M1 86 7) < 600) ∧ Xs 160 (212, [some (some (vR 86))], [], ((up_ (up_ M1 86 9 (((10 * (M1 86 9)) + (M1 87 (M1 86 7))) - 48)) 86 7 (((up_ M1 86 9 (((10 * (M1 86 9)) + (M1 87 (M1 86 7))) - 48)) 86 7) + 1)), W2)) (QV Q)) ∧
    (¬ (M1 86 9) ≤ 99 → Xs 160 (212, [some (some (vR 86))], [], ((up_ (up_ M1 86 9 (M1 86 9)) 86 7 (((up_ M1 86 9 (M1 86 9)) 86 7) + 1)), W2)) (QV Q))))))) : Xs 160 (212, [some (some (vR 86))], [], (M, W)) (QV Q) :=
  wpN_X (cut := fun p => Nat.beq p 0 || Nat.beq p 90 || Nat.beq p 212) 46 _ _ h
set_option maxRecDepth 20000 in
theorem e_X12_packed (x1 : Int) (x2 : Int) (M : aM) (W : aW) (Q : Int → aM → aW → Prop) (h :
  Xs 161 (5, [some (some (vR 86)), some (some (vI x1)), some (some (vI x2)), some (some (vI 0)), some (some (vI x1))], [], (M, W)) (QI Q)) : CallI 161 [vR 86, vI x1, vI x2] (M, W) Q :=
  wpN_X (cut := fun p => Nat.beq p 5) 7 _ _ h
set_option maxRecDepth 20000 in
theorem k_X12_packed_5 (x1 : Int) (x2 : Int) (x3 : Int) (x4 : Int) (M : aM) (W : aW) (Q : Int → aM → aW → Prop) (h :
  (inI x4 ∧ inI (x1 + 6)) ∧ 
  ((x4 ≥ (x1 + 6) → Q x3 M W) ∧
  (¬ x4 ≥ (x1 + 6) → (inI x4 ∧ inI x2) ∧ 
    ((x4 ≥ x2 → (∀ v1 : Int, v1 = or_ (shl_ x3 5) 0 → Xs 161 (5, [some (some (vR 86)), some (some (vI x1)), some (some (vI x2)), some (some (vI v1)), some (some (vI (x4 + 1)))], [], (M, W)) (QI Q))) ∧
    (¬ x4 ≥ x2 → (0 ≤ x4 ∧ x4 < 600) ∧ (∀ v2 : Int, v2 = or_ (shl_ x3 5) ((M 87 x4) - 96) → Xs 161 (5, [some (some (vR 86)), some (some (vI x1)), some (some (vI x2)), some (some (vI v2)), some (some (vI (x4 + 1)))], [], (M, W)) (QI Q))))))) : Xs 161 (5, [some (some (vR 86)), some (some (vI x1)), some (some (vI x2)), some (some (vI x3)), some (some (vI x4))], [], (M, W)) (QI Q) :=
  wpN_X (cut := fun p => Nat.beq p 5) 33 _ _ h
set_option maxRecDepth 20000 in
theorem e_X12_isKey (x1 : Int) (M : aM) (W : aW) (Q : Int → aM → aW → Prop) (h :
  (inI (M 86 8)) ∧ 
  (((M 86 8) ≠ 1 → ((0 : Int) = 0 ∨ (0 : Int) = 1) ∧ Q 0 M W) ∧
  (¬ (M 86 8) ≠ 1 → (inI (M 86 9) ∧ inI x1) ∧ 
    (((M 86 9) ≠ x1 → ((0 : Int) = 0 ∨ (0 : Int) = 1) ∧ Q 0 M W) ∧
    (¬ (M 86 9) ≠ x1 → ((1 : Int) = 0 ∨ (1 : Int) = 1) ∧ Q 1 M W))))) : CallI 162 [vR 86, vI x1] (M, W) Q :=
  wpN_X (cut := fun p => false) 17 _ _ h
set_option maxRecDepth 20000 in
theorem e_X12_plain  (M : aM) (W : aW) (Q : aM → aW → Prop) (h :
  Xs 163 (3, [some (some (vR 86)), some (some (vI 8))], [], (M, W)) (QV Q)) : CallV 163 [vR 86] (M, W) Q :=
  wpN_X (cut := fun p => Nat.beq p 3) 5 _ _ h
set_option maxRecDepth 20000 in
theorem k_X12_plain_3 (x1 : Int) (M : aM) (W : aW) (Q : aM → aW → Prop) (h :
  (inI x1) ∧ 
  ((x1 ≥ 14 → Q (up_ (up_ M 89 14 (-1)) 89 15 (-1)) W) ∧
  (¬ x1 ≥ 14 → (0 ≤ x1 ∧ x1 < 16) ∧ Xs 163 (3, [some (some (vR 86)), some (some (vI (x1 + 1)))], [], ((up_ M 89 x1 0), W)) (QV Q)))) : Xs 163 (3, [some (some (vR 86)), some (some (vI x1))], [], (M, W)) (QV Q) :=
  wpN_X (cut := fun p => Nat.beq p 3) 24 _ _ h
set_option maxRecDepth 20000 in
theorem e_X12_numberRead (x1 : Int) (x2 : Int) (M : aM) (W : aW) (Q : Int → aM → aW → Prop) (h :
  (inI (M 86 8)) ∧ 
  (((M 86 8) = 3 → (inI (M 86 9) ∧ inI x1) ∧ 
    (((M 86 9) < x1 → CallI 156 [vR 86, vI 2] (M, W) (fun r3 M1 W2 => (inI r3) ∧ 
      ((r3 = 0 → ((0 : Int) = 0 ∨ (0 : Int) = 1) ∧ Q 0 M1 W2) ∧
      (¬ r3 = 0 → ((1 : Int) = 0 ∨ (1 : Int) = 1) ∧ Q 1 M1 W2)))) ∧
    (¬ (M 86 9) < x1 → (inI (M 86 9) ∧ inI x2) ∧ 
      (((M 86 9) ≤ x2 → ((1 : Int) = 0 ∨ (1 : Int) = 1) ∧ Q 1 M W) ∧
      (¬ (M 86 9) ≤ x2 → CallI 156 [vR 86, vI 2] (M, W) (fun r6 M4 W5 => (inI r6) ∧ 
        ((r6 = 0 → ((0 : Int) = 0 ∨ (0 : Int) = 1) ∧ Q 0 M4 W5) ∧
        (¬ r6 = 0 → ((1 : Int) = 0 ∨ (1 : Int) = 1) ∧ Q 1 M4 W5)))))))) ∧
  (¬ (M 86 8) = 3 → CallI 156 [vR 86, vI 1] (M, W) (fun r9 M7 W8 => ((r9 : Int) = 0 ∨ (r9 : Int) = 1) ∧ Q r9 M7 W8)))) : CallI 164 [vR 86, vI x1, vI x2] (M, W) Q :=
  wpN_X (cut := fun p => false) 39 _ _ h
set_option maxRecDepth 20000 in
theorem e_X12_placeOf (x1 : Int) (M : aM) (W : aW) (Q : Int → aM → aW → Prop) (h :
  Xs 165 (2, [some (some (vR 86)), some (some (vI x1)), some (some (vI 0))], [], (M, W)) (QI Q)) : CallI 165 [vR 86, vI x1] (M, W) Q :=
  wpN_X (cut := fun p => Nat.beq p 2) 5 _ _ h
set_option maxRecDepth 20000 in
theorem k_X12_placeOf_2 (x1 : Int) (x2 : Int) (M : aM) (W : aW) (Q : Int → aM → aW → Prop) (h :
  (inI x2 ∧ inI (M 89 8)) ∧ 
  ((x2 ≥ (M 89 8) → Q (-1) M W) ∧
  (¬ x2 ≥ (M 89 8) → (0 ≤ (10 + x2) ∧ (10 + x2) < 20) ∧ (inI (M 90 (10 + x2)) ∧ inI x1) ∧ 
    (((M 90 (10 + x2)) ≠ x1 → Xs 165 (2, [some (some (vR 86)), some (some (vI x1)), some (some (vI (x2 + 1)))], [], (M, W)) (QI Q)) ∧
    (¬ (M 90 (10 + x2)) ≠ x1 → Q x2 M W))))) : Xs 165 (2, [some (some (vR 86)), some (some (vI x1)), some (some (vI x2))], [], (M, W)) (QI Q) :=
  wpN_X (cut := fun p => Nat.beq p 2) 23 _ _ h
set_option maxRecDepth 20000 in
theorem e_X12_causeBy (x1 : Int) (M : aM) (W : aW) (Q : Int → aM → aW → Prop) (h :
  Xs 166 (2, [some (some (vR 86)), some (some (vI x1)), some (some (vI 0))], [], (M, W)) (QI Q)) : CallI 166 [vR 86, vI x1] (M, W) Q :=
  wpN_X (cut := fun p => Nat.beq p 2) 5 _ _ h
set_option maxRecDepth 20000 in
theorem k_X12_causeBy_2 (x1 : Int) (x2 : Int) (M : aM) (W : aW) (Q : Int → aM → aW → Prop) (h :
  (inI x2 ∧ inI (M 89 9)) ∧ 
  ((x2 ≥ (M 89 9) → Q (-1) M W) ∧
  (¬ x2 ≥ (M 89 9) → (0 ≤ (2 + x2) ∧ (2 + x2) < 4) ∧ (inI (M 91 (2 + x2)) ∧ inI x1) ∧ 
    (((M 91 (2 + x2)) ≠ x1 → Xs 166 (2, [some (some (vR 86)), some (some (vI x1)), some (some (vI (x2 + 1)))], [], (M, W)) (QI Q)) ∧
    (¬ (M 91 (2 + x2)) ≠ x1 → Q x2 M W))))) : Xs 166 (2, [some (some (vR 86)), some (some (vI x1)), some (some (vI x2))], [], (M, W)) (QI Q) :=
  wpN_X (cut := fun p => Nat.beq p 2) 23 _ _ h
set_option maxRecDepth 20000 in
theorem e_X12_roadBetween (x1 : Int) (x2 : Int) (M : aM) (W : aW) (Q : Int → aM → aW → Prop) (h :
  Xs 167 (2, [some (some (vR 86)), some (some (vI x1)), some (some (vI x2)), some (some (vI 0)), none], [], (M, W)) (QI Q)) : CallI 167 [vR 86, vI x1, vI x2] (M, W) Q :=
  wpN_X (cut := fun p => Nat.beq p 2) 5 _ _ h
set_option maxRecDepth 20000 in
theorem k_X12_roadBetween_2 (x1 : Int) (x2 : Int) (x3 : Int) (d4 : aL) (M : aM) (W : aW) (Q : Int → aM → aW → Prop) (h :
  (inI x3 ∧ inI (M 89 10)) ∧ 
  ((x3 ≥ (M 89 10) → Q (-1) M W) ∧
  (¬ x3 ≥ (M 89 10) → (∀ v1 : Int, v1 = 168 + (7 * x3) → (0 ≤ v1 ∧ v1 < 336) ∧ (inI (M 93 v1) ∧ inI x1) ∧ 
    (((M 93 v1) ≠ x1 → (0 ≤ v1 ∧ v1 < 336) ∧ (inI (M 93 v1) ∧ inI x2) ∧ 
      (((M 93 v1) ≠ x2 → Xs 167 (2, [some (some (vR 86)), some (some (vI x1)), some (some (vI x2)), some (some (vI (x3 + 1))), some (some (vI v1))], [], (M, W)) (QI Q)) ∧
      (¬ (M 93 v1) ≠ x2 → (0 ≤ (v1 + 1) ∧ (v1 + 1) < 336) ∧ (inI (M 93 (v1 + 1)) ∧ inI x1) ∧ 
        (((M 93 (v1 + 1)) ≠ x1 → Xs 167 (2, [some (some (vR 86)), some (some (vI x1)), some (some (vI x2)), some (some (vI (x3 + 1))), some (some (vI v1))], [], (M, W)) (QI Q)) ∧
        (¬ (M 93 (v1 + 1)) ≠ x1 → Q x3 M W))))) ∧
    (¬ (M 93 v1) ≠ x1 → (0 ≤ (v1 + 1) ∧ (v1 + 1) < 336) ∧ (inI (M 93 (v1 + 1)) ∧ inI x2) ∧ 
      (((M 93 (v1 + 1)) = x2 → Q x3 M W) ∧
      (¬ (M 93 (v1 + 1)) = x2 → (0 ≤ v1 ∧ v1 < 336) ∧ (inI (M 93 v1) ∧ inI x2) ∧ 
        (((M 93 v1) ≠ x2 → Xs 167 (2, [some (some (vR 86)), some (some (vI x1)), some (some (vI x2)), some (some (vI (x3 + 1))), some (some (vI v1))], [], (M, W)) (QI Q)) ∧
        (¬ (M 93 v1) ≠ x2 → (0 ≤ (v1 + 1) ∧ (v1 + 1) < 336) ∧ (inI (M 93 (v1 + 1)) ∧ inI x1) ∧ 
          (((M 93 (v1 + 1)) ≠ x1 → Xs 167 (2, [some (some (vR 86)), some (some (vI x1)), some (some (vI x2)), some (some (vI (x3 + 1))), some (some (vI v1))], [], (M, W)) (QI Q)) ∧
          (¬ (M 93 (v1 + 1)) ≠ x1 → Q x3 M W)))))))))))) : Xs 167 (2, [some (some (vR 86)), some (some (vI x1)), some (some (vI x2)), some (some (vI x3)), d4], [], (M, W)) (QI Q) :=
  wpN_X (cut := fun p => Nat.beq p 2) 76 _ _ h
set_option maxRecDepth 20000 in
theorem e_X12_spotRead  (M : aM) (W : aW) (Q : Int → aM → aW → Prop) (h :
  (inI (M 86 8)) ∧ 
  (((M 86 8) = 2 → CallI 165 [vR 86, vI (M 86 9)] (M, W) (fun r3 M1 W2 => (inI ((up_ M1 86 19 r3) 86 19)) ∧ 
    ((((up_ M1 86 19 r3) 86 19) ≥ 0 → ((1 : Int) = 0 ∨ (1 : Int) = 1) ∧ Q 1 (up_ M1 86 19 r3) W2) ∧
    (¬ ((up_ M1 86 19 r3) 86 19) ≥ 0 → CallI 156 [vR 86, vI 4] ((up_ M1 86 19 r3), W2) (fun r6 M4 W5 => (inI r6) ∧ 
      ((r6 = 0 → ((0 : Int) = 0 ∨ (0 : Int) = 1) ∧ Q 0 M4 W5) ∧
      (¬ r6 = 0 → ((1 : Int) = 0 ∨ (1 : Int) = 1) ∧ Q 1 M4 W5))))))) ∧
  (¬ (M 86 8) = 2 → CallI 156 [vR 86, vI 1] (M, W) (fun r9 M7 W8 => ((r9 : Int) = 0 ∨ (r9 : Int) = 1) ∧ Q r9 M7 W8)))) : CallI 168 [vR 86] (M, W) Q :=
  wpN_X (cut := fun p => false) 31 _ _ h
set_option maxRecDepth 20000 in
theorem e_X12_placesRead  (M : aM) (W : aW) (Q : Int → aM → aW → Prop) (h :
  CallV 160 [vR 86] (M, W) (fun M1 W2 => (inI (M1 86 8)) ∧ 
  (((M1 86 8) = 2 → Xs 169 (18, [some (some (vR 86))], [], (M1, W2)) (QI Q)) ∧
  (¬ (M1 86 8) = 2 → CallI 156 [vR 86, vI 1] (M1, W2) (fun r5 M3 W4 => ((r5 : Int) = 0 ∨ (r5 : Int) = 1) ∧ Q r5 M3 W4))))) : CallI 169 [vR 86] (M, W) Q :=
  wpN_X (cut := fun p => Nat.beq p 18) 13 _ _ h
set_option maxRecDepth 20000 in
theorem k_X12_placesRead_18  (M : aM) (W : aW) (Q : Int → aM → aW → Prop) (h :
  (inI (M 86 8)) ∧ 
  (((M 86 8) ≠ 2 → Q 1 M W) ∧
  (¬ (M 86 8) ≠ 2 → (inI (M 89 8)) ∧ 
    (((M 89 8) ≠ 10 → CallI 165 [vR 86, vI (M 86 9)] (M, W) (fun r3 M1 W2 => (inI r3) ∧ 
      ((r3 < 0 → (0 ≤ (10 + (M1 89 8)) ∧ (10 + (M1 89 8)) < 20) ∧ CallV 160 [vR 86] ((up_ (up_ M1 90 (10 + (M1 89 8)) (M1 86 9)) 89 8 (((up_ M1 90 (10 + (M1 89 8)) (M1 86 9)) 89 8) + 1)), W2) (fun M4 W5 => Xs 169 (18, [some (some (vR 86))], [], (M4, W5)) (QI Q))) ∧
      (¬ r3 < 0 → CallI 156 [vR 86, vI 3] (M1, W2) (fun r8 M6 W7 => ((r8 : Int) = 0 ∨ (r8 : Int) = 1) ∧ Q r8 M6 W7))))) ∧
    (¬ (M 89 8) ≠ 10 → CallI 156 [vR 86, vI 2] (M, W) (fun r11 M9 W10 => ((r11 : Int) = 0 ∨ (r11 : Int) = 1) ∧ Q r11 M9 W10)))))) : Xs 169 (18, [some (some (vR 86))], [], (M, W)) (QI Q) :=
  wpN_X (cut := fun p => Nat.beq p 18) 50 _ _ h
set_option maxRecDepth 20000 in
theorem e_X12_causeRead  (M : aM) (W : aW) (Q : Int → aM → aW → Prop) (h :
  (inI (M 89 9)) ∧ 
  (((M 89 9) ≠ 2 → CallV 160 [vR 86] (M, W) (fun M1 W2 => (inI (M1 86 8)) ∧ 
    (((M1 86 8) = 2 → CallI 166 [vR 86, vI (M1 86 9)] (M1, W2) (fun r5 M3 W4 => (inI r5) ∧ 
      ((r5 < 0 → (∀ v6 : Int, v6 = M3 86 9 → CallV 160 [vR 86] (M3, W4) (fun M7 W8 => CallI 164 [vR 86, vI 1, vI 9] (M7, W8) (fun r11 M9 W10 => (inI r11) ∧ 
        ((r11 ≠ 0 → (0 ≤ (2 + (M9 89 9)) ∧ (2 + (M9 89 9)) < 4) ∧ (0 ≤ (2 + ((up_ M9 91 (2 + (M9 89 9)) v6) 89 9)) ∧ (2 + ((up_ M9 91 (2 + (M9 89 9)) v6) 89 9)) < 4) ∧ CallV 160 [vR 86] ((up_ (up_ (up_ M9 91 (2 + (M9 89 9)) v6) 92 (2 + ((up_ M9 91 (2 + (M9 89 9)) v6) 89 9)) ((up_ M9 91 (2 + (M9 89 9)) v6) 86 9)) 89 9 (((up_ (up_ M9 91 (2 + (M9 89 9)) v6) 92 (2 + ((up_ M9 91 (2 + (M9 89 9)) v6) 89 9)) ((up_ M9 91 (2 + (M9 89 9)) v6) 86 9)) 89 9) + 1)), W10) (fun M12 W13 => Q 1 M12 W13)) ∧
        (¬ r11 ≠ 0 → Q 0 M9 W10)))))) ∧
      (¬ r5 < 0 → CallI 156 [vR 86, vI 3] (M3, W4) (fun r16 M14 W15 => ((r16 : Int) = 0 ∨ (r16 : Int) = 1) ∧ Q r16 M14 W15))))) ∧
    (¬ (M1 86 8) = 2 → CallI 156 [vR 86, vI 1] (M1, W2) (fun r19 M17 W18 => ((r19 : Int) = 0 ∨ (r19 : Int) = 1) ∧ Q r19 M17 W18))))) ∧
  (¬ (M 89 9) ≠ 2 → CallI 156 [vR 86, vI 2] (M, W) (fun r22 M20 W21 => ((r22 : Int) = 0 ∨ (r22 : Int) = 1) ∧ Q r22 M20 W21)))) : CallI 170 [vR 86] (M, W) Q :=
  wpN_X (cut := fun p => false) 76 _ _ h
set_option maxRecDepth 20000 in
theorem e_X12_isDoubtRoom  (M : aM) (W : aW) (Q : Int → aM → aW → Prop) (h :
  (inI (M 89 11)) ∧ 
  (((M 89 11) < 6 → ((1 : Int) = 0 ∨ (1 : Int) = 1) ∧ Q 1 M W) ∧
  (¬ (M 89 11) < 6 → CallI 156 [vR 86, vI 2] (M, W) (fun r3 M1 W2 => (inI r3) ∧ 
    ((r3 = 0 → ((0 : Int) = 0 ∨ (0 : Int) = 1) ∧ Q 0 M1 W2) ∧
    (¬ r3 = 0 → ((1 : Int) = 0 ∨ (1 : Int) = 1) ∧ Q 1 M1 W2)))))) : CallI 171 [vR 86] (M, W) Q :=
  wpN_X (cut := fun p => false) 20 _ _ h
set_option maxRecDepth 20000 in
theorem e_X12_roadRead  (M : aM) (W : aW) (Q : Int → aM → aW → Prop) (h :
  (inI (M 89 10)) ∧ 
  (((M 89 10) ≠ 24 → CallV 160 [vR 86] (M, W) (fun M1 W2 => CallI 168 [vR 86] (M1, W2) (fun r5 M3 W4 => (inI r5) ∧ 
    ((r5 ≠ 0 → (∀ v6 : Int, v6 = M3 86 19 → CallV 160 [vR 86] (M3, W4) (fun M7 W8 => CallI 168 [vR 86] (M7, W8) (fun r11 M9 W10 => (inI r11) ∧ 
      ((r11 ≠ 0 → (inI (M9 86 19) ∧ inI v6) ∧ 
        (((M9 86 19) = v6 → CallI 156 [vR 86, vI 3] (M9, W10) (fun r14 M12 W13 => ((r14 : Int) = 0 ∨ (r14 : Int) = 1) ∧ Q r14 M12 W13)) ∧
        (¬ (M9 86 19) = v6 → CallI 167 [vR 86, vI v6, vI (M9 86 19)] (M9, W10) (fun r17 M15 W16 => (inI r17) ∧ 
          ((r17 < 0 → (∀ v18 : Int, v18 = 168 + (7 * (M15 89 10)) → (0 ≤ v18 ∧ v18 < 336) ∧ (0 ≤ (v18 + 1) ∧ (v18 + 1) < 336) ∧ CallV 160 [vR 86] ((up_ (up_ M15 93 v18 v6) 93 (v18 + 1) ((up_ M15 93 v18 v6) 86 19)), W16) (fun M19 W20 => CallI 164 [vR 86, vI 1, vI 99] (M19, W20) (fun r23 M21 W22 => (inI r23) ∧ 
            ((r23 ≠ 0 → (0 ≤ (v18 + 2) ∧ (v18 + 2) < 336) ∧ (0 ≤ (v18 + 3) ∧ (v18 + 3) < 336) ∧ (0 ≤ (v18 + 4) ∧ (v18 + 4) < 336) ∧ (0 ≤ (v18 + 5) ∧ (v18 + 5) < 336) ∧ (0 ≤ (v18 + 6) ∧ (v18 + 6) < 336) ∧ CallV 160 [vR 86] ((up_ (up_ (up_ (up_ (up_ M21 93 (v18 + 2) (M21 86 9)) 93 (v18 + 3) 0) 93 (v18 + 4) (-1)) 93 (v18 + 5) 0) 93 (v18 + 6) (-1)), W22) (fun M24 W25 => CallI 162 [vR 86, vI 3] (M24, W25) (fun r28 M26 W27 => (inI r28) ∧ 
              ((r28 = 0 → Xs 172 (231, [some (some (vR 86)), some (some (vI v6)), some (some (vI v18)), some (some (vI 0))], [], (M26, W27)) (QI Q)) ∧
              (¬ r28 = 0 → CallI 171 [vR 86] (M26, W27) (fun r31 M29 W30 => (inI r31) ∧ 
                ((r31 ≠ 0 → CallV 160 [vR 86] (M29, W30) (fun M32 W33 => CallI 164 [vR 86, vI 1, vI 9] (M32, W33) (fun r36 M34 W35 => (inI r36) ∧ 
                  ((r36 ≠ 0 → (0 ≤ (v18 + 3) ∧ (v18 + 3) < 336) ∧ CallV 160 [vR 86] ((up_ M34 93 (v18 + 3) (M34 86 9)), W35) (fun M37 W38 => Xs 172 (231, [some (some (vR 86)), some (some (vI v6)), some (some (vI v18)), some (some (vI 1))], [], (M37, W38)) (QI Q))) ∧
                  (¬ r36 ≠ 0 → Q 0 M34 W35))))) ∧
                (¬ r31 ≠ 0 → Q 0 M29 W30)))))))) ∧
            (¬ r23 ≠ 0 → Q 0 M21 W22)))))) ∧
          (¬ r17 < 0 → CallI 156 [vR 86, vI 3] (M15, W16) (fun r41 M39 W40 => ((r41 : Int) = 0 ∨ (r41 : Int) = 1) ∧ Q r41 M39 W40))))))) ∧
      (¬ r11 ≠ 0 → Q 0 M9 W10)))))) ∧
    (¬ r5 ≠ 0 → Q 0 M3 W4))))) ∧
  (¬ (M 89 10) ≠ 24 → CallI 156 [vR 86, vI 2] (M, W) (fun r44 M42 W43 => ((r44 : Int) = 0 ∨ (r44 : Int) = 1) ∧ Q r44 M42 W43)))) : CallI 172 [vR 86] (M, W) Q :=
  wpN_X (cut := fun p => Nat.beq p 231 || Nat.beq p 252 || Nat.beq p 309 || Nat.beq p 353 || Nat.beq p 406) 150 _ _ h
set_option maxRecDepth 20000 in
theorem k_X12_roadRead_231 (x1 : Int) (x2 : Int) (x3 : Int) (M : aM) (W : aW) (Q : Int → aM → aW → Prop) (h :
  CallI 162 [vR 86, vI 4] (M, W) (fun r3 M1 W2 => (inI r3) ∧ 
  ((r3 = 0 → Xs 172 (309, [some (some (vR 86)), some (some (vI x1)), some (some (vI x2)), some (some (vI x3))], [], (M1, W2)) (QI Q)) ∧
  (¬ r3 = 0 → (inI x3) ∧ 
    ((x3 ≠ 0 → Xs 172 (252, [some (some (vR 86)), some (some (vI x1)), some (some (vI x2)), some (some (vI x3))], [], (M1, W2)) (QI Q)) ∧
    (¬ x3 ≠ 0 → CallI 171 [vR 86] (M1, W2) (fun r6 M4 W5 => (inI r6) ∧ 
      ((r6 ≠ 0 → Xs 172 (252, [some (some (vR 86)), some (some (vI x1)), some (some (vI x2)), some (some (vI x3))], [], (M4, W5)) (QI Q)) ∧
      (¬ r6 ≠ 0 → Q 0 M4 W5))))))))) : Xs 172 (231, [some (some (vR 86)), some (some (vI x1)), some (some (vI x2)), some (some (vI x3))], [], (M, W)) (QI Q) :=
  wpN_X (cut := fun p => Nat.beq p 231 || Nat.beq p 252 || Nat.beq p 309 || Nat.beq p 353 || Nat.beq p 406) 16 _ _ h
set_option maxRecDepth 20000 in
theorem k_X12_roadRead_252 (x1 : Int) (x2 : Int) (x3 : Int) (M : aM) (W : aW) (Q : Int → aM → aW → Prop) (h :
  CallV 160 [vR 86] (M, W) (fun M1 W2 => (inI (M1 86 8)) ∧ 
  (((M1 86 8) = 2 → CallI 166 [vR 86, vI (M1 86 9)] (M1, W2) (fun r5 M3 W4 => (0 ≤ (x2 + 4) ∧ (x2 + 4) < 336) ∧ (0 ≤ (x2 + 4) ∧ (x2 + 4) < 336) ∧ (inI ((up_ M3 93 (x2 + 4) r5) 93 (x2 + 4))) ∧ 
    ((((up_ M3 93 (x2 + 4) r5) 93 (x2 + 4)) ≥ 0 → CallV 160 [vR 86] ((up_ M3 93 (x2 + 4) r5), W4) (fun M6 W7 => Xs 172 (309, [some (some (vR 86)), some (some (vI x1)), some (some (vI x2)), some (some (vI 1))], [], (M6, W7)) (QI Q))) ∧
    (¬ ((up_ M3 93 (x2 + 4) r5) 93 (x2 + 4)) ≥ 0 → CallI 156 [vR 86, vI 4] ((up_ M3 93 (x2 + 4) r5), W4) (fun r10 M8 W9 => ((r10 : Int) = 0 ∨ (r10 : Int) = 1) ∧ Q r10 M8 W9))))) ∧
  (¬ (M1 86 8) = 2 → CallI 156 [vR 86, vI 1] (M1, W2) (fun r13 M11 W12 => ((r13 : Int) = 0 ∨ (r13 : Int) = 1) ∧ Q r13 M11 W12))))) : Xs 172 (252, [some (some (vR 86)), some (some (vI x1)), some (some (vI x2)), some (some (vI x3))], [], (M, W)) (QI Q) :=
  wpN_X (cut := fun p => Nat.beq p 231 || Nat.beq p 252 || Nat.beq p 309 || Nat.beq p 353 || Nat.beq p 406) 38 _ _ h
set_option maxRecDepth 20000 in
theorem k_X12_roadRead_309 (x1 : Int) (x2 : Int) (x3 : Int) (M : aM) (W : aW) (Q : Int → aM → aW → Prop) (h :
  CallI 162 [vR 86, vI 5] (M, W) (fun r3 M1 W2 => (inI r3) ∧ 
  ((r3 = 0 → Xs 172 (353, [some (some (vR 86)), some (some (vI x1)), some (some (vI x2)), some (some (vI x3))], [], (M1, W2)) (QI Q)) ∧
  (¬ r3 = 0 → (inI x3) ∧ 
    ((x3 = 0 → Xs 172 (353, [some (some (vR 86)), some (some (vI x1)), some (some (vI x2)), some (some (vI x3))], [], (M1, W2)) (QI Q)) ∧
    (¬ x3 = 0 → CallV 160 [vR 86] (M1, W2) (fun M4 W5 => CallI 164 [vR 86, vI 1, vI 99] (M4, W5) (fun r8 M6 W7 => (inI r8) ∧ 
      ((r8 ≠ 0 → (0 ≤ (x2 + 5) ∧ (x2 + 5) < 336) ∧ CallV 160 [vR 86] ((up_ M6 93 (x2 + 5) (M6 86 9)), W7) (fun M9 W10 => Xs 172 (353, [some (some (vR 86)), some (some (vI x1)), some (some (vI x2)), some (some (vI x3))], [], (M9, W10)) (QI Q))) ∧
      (¬ r8 ≠ 0 → Q 0 M6 W7)))))))))) : Xs 172 (309, [some (some (vR 86)), some (some (vI x1)), some (some (vI x2)), some (some (vI x3))], [], (M, W)) (QI Q) :=
  wpN_X (cut := fun p => Nat.beq p 231 || Nat.beq p 252 || Nat.beq p 309 || Nat.beq p 353 || Nat.beq p 406) 30 _ _ h
set_option maxRecDepth 20000 in
theorem k_X12_roadRead_353 (x1 : Int) (x2 : Int) (x3 : Int) (M : aM) (W : aW) (Q : Int → aM → aW → Prop) (h :
  (inI x3) ∧ 
  ((x3 = 0 → Xs 172 (406, [some (some (vR 86)), some (some (vI x1)), some (some (vI x2)), some (some (vI x3))], [], (M, W)) (QI Q)) ∧
  (¬ x3 = 0 → (0 ≤ (x2 + 6) ∧ (x2 + 6) < 336) ∧ (0 ≤ (6 + ((up_ M 93 (x2 + 6) (M 89 11)) 89 11)) ∧ (6 + ((up_ M 93 (x2 + 6) (M 89 11)) 89 11)) < 12) ∧ Xs 172 (406, [some (some (vR 86)), some (some (vI x1)), some (some (vI x2)), some (some (vI x3))], [], ((up_ (up_ (up_ M 93 (x2 + 6) (M 89 11)) 94 (6 + ((up_ M 93 (x2 + 6) (M 89 11)) 89 11)) ((up_ M 93 (x2 + 6) (M 89 11)) 89 10)) 89 11 (((up_ (up_ M 93 (x2 + 6) (M 89 11)) 94 (6 + ((up_ M 93 (x2 + 6) (M 89 11)) 89 11)) ((up_ M 93 (x2 + 6) (M 89 11)) 89 10)) 89 11) + 1)), W)) (QI Q)))) : Xs 172 (353, [some (some (vR 86)), some (some (vI x1)), some (some (vI x2)), some (some (vI x3))], [], (M, W)) (QI Q) :=
  wpN_X (cut := fun p => Nat.beq p 231 || Nat.beq p 252 || Nat.beq p 309 || Nat.beq p 353 || Nat.beq p 406) 37 _ _ h
set_option maxRecDepth 20000 in
theorem k_X12_roadRead_406 (x1 : Int) (x2 : Int) (x3 : Int) (M : aM) (W : aW) (Q : Int → aM → aW → Prop) (h :
  Q 1 (up_ M 89 10 ((M 89 10) + 1)) W) : Xs 172 (406, [some (some (vR 86)), some (some (vI x1)), some (some (vI x2)), some (some (vI x3))], [], (M, W)) (QI Q) :=
  wpN_X (cut := fun p => Nat.beq p 231 || Nat.beq p 252 || Nat.beq p 309 || Nat.beq p 353 || Nat.beq p 406) 12 _ _ h
set_option maxRecDepth 20000 in
theorem e_X12_seenRead  (M : aM) (W : aW) (Q : Int → aM → aW → Prop) (h :
  CallV 160 [vR 86] (M, W) (fun M1 W2 => CallI 168 [vR 86] (M1, W2) (fun r5 M3 W4 => (inI r5) ∧ 
  ((r5 ≠ 0 → (∀ v6 : Int, v6 = M3 86 19 → CallV 160 [vR 86] (M3, W4) (fun M7 W8 => CallI 168 [vR 86] (M7, W8) (fun r11 M9 W10 => (inI r11) ∧ 
    ((r11 ≠ 0 → (∀ v12 : Int, v12 = M9 86 19 → CallV 160 [vR 86] (M9, W10) (fun M13 W14 => CallI 168 [vR 86] (M13, W14) (fun r17 M15 W16 => (inI r17) ∧ 
      ((r17 ≠ 0 → CallI 167 [vR 86, vI v12, vI (M15 86 19)] (M15, W16) (fun r20 M18 W19 => (inI r20) ∧ 
        ((r20 < 0 → CallI 156 [vR 86, vI 4] (M18, W19) (fun r23 M21 W22 => Q (-1) M21 W22)) ∧
        (¬ r20 < 0 → (0 ≤ ((168 + (7 * r20)) + 6) ∧ ((168 + (7 * r20)) + 6) < 336) ∧ (inI (M18 93 ((168 + (7 * r20)) + 6))) ∧ 
          (((M18 93 ((168 + (7 * r20)) + 6)) ≥ 0 → CallV 160 [vR 86] (M18, W19) (fun M24 W25 => (0 ≤ ((168 + (7 * r20)) + 6) ∧ ((168 + (7 * r20)) + 6) < 336) ∧ Q ((6 * v6) + (M24 93 ((168 + (7 * r20)) + 6))) M24 W25)) ∧
          (¬ (M18 93 ((168 + (7 * r20)) + 6)) ≥ 0 → CallI 156 [vR 86, vI 4] (M18, W19) (fun r28 M26 W27 => Q (-1) M26 W27))))))) ∧
      (¬ r17 ≠ 0 → Q (-1) M15 W16)))))) ∧
    (¬ r11 ≠ 0 → Q (-1) M9 W10)))))) ∧
  (¬ r5 ≠ 0 → Q (-1) M3 W4))))) : CallI 173 [vR 86] (M, W) Q :=
  wpN_X (cut := fun p => false) 77 _ _ h
set_option maxRecDepth 20000 in
theorem e_X12_seesRead  (M : aM) (W : aW) (Q : Int → aM → aW → Prop) (h :
  (inI (M 89 12)) ∧ 
  (((M 89 12) ≠ 8 → CallI 173 [vR 86] (M, W) (fun r3 M1 W2 => (inI r3) ∧ 
    ((r3 ≥ 0 → (∀ v4 : Int, v4 = 16 + (2 * (M1 89 12)) → (inI r3 ∧ inI 6 ∧ (6 : Int) ≠ 0) ∧ (0 ≤ v4 ∧ v4 < 32) ∧ (inI r3 ∧ inI 6 ∧ (6 : Int) ≠ 0) ∧ (0 ≤ (v4 + 1) ∧ (v4 + 1) < 32) ∧ Q 1 (up_ (up_ (up_ M1 95 v4 (Int.tdiv r3 6)) 95 (v4 + 1) (Int.tmod r3 6)) 89 12 (((up_ (up_ M1 95 v4 (Int.tdiv r3 6)) 95 (v4 + 1) (Int.tmod r3 6)) 89 12) + 1)) W2)) ∧
    (¬ r3 ≥ 0 → Q 0 M1 W2)))) ∧
  (¬ (M 89 12) ≠ 8 → CallI 156 [vR 86, vI 2] (M, W) (fun r7 M5 W6 => ((r7 : Int) = 0 ∨ (r7 : Int) = 1) ∧ Q r7 M5 W6)))) : CallI 174 [vR 86] (M, W) Q :=
  wpN_X (cut := fun p => false) 54 _ _ h
set_option maxRecDepth 20000 in
theorem e_X12_innRead  (M : aM) (W : aW) (Q : Int → aM → aW → Prop) (h :
  (inI (M 89 13)) ∧ 
  (((M 89 13) ≠ 6 → CallI 173 [vR 86] (M, W) (fun r3 M1 W2 => (inI r3) ∧ 
    ((r3 ≥ 0 → CallI 164 [vR 86, vI 1, vI 99] (M1, W2) (fun r6 M4 W5 => (inI r6) ∧ 
      ((r6 ≠ 0 → (∀ v7 : Int, v7 = 18 + (3 * (M4 89 13)) → (inI r3 ∧ inI 6 ∧ (6 : Int) ≠ 0) ∧ (0 ≤ v7 ∧ v7 < 36) ∧ (inI r3 ∧ inI 6 ∧ (6 : Int) ≠ 0) ∧ (0 ≤ (v7 + 1) ∧ (v7 + 1) < 36) ∧ (0 ≤ (v7 + 2) ∧ (v7 + 2) < 36) ∧ CallV 160 [vR 86] ((up_ (up_ (up_ (up_ M4 96 v7 (Int.tdiv r3 6)) 96 (v7 + 1) (Int.tmod r3 6)) 96 (v7 + 2) ((up_ (up_ M4 96 v7 (Int.tdiv r3 6)) 96 (v7 + 1) (Int.tmod r3 6)) 86 9)) 89 13 (((up_ (up_ (up_ M4 96 v7 (Int.tdiv r3 6)) 96 (v7 + 1) (Int.tmod r3 6)) 96 (v7 + 2) ((up_ (up_ M4 96 v7 (Int.tdiv r3 6)) 96 (v7 + 1) (Int.tmod r3 6)) 86 9)) 89 13) + 1)), W5) (fun M8 W9 => Q 1 M8 W9))) ∧
      (¬ r6 ≠ 0 → Q 0 M4 W5)))) ∧
    (¬ r3 ≥ 0 → Q 0 M1 W2)))) ∧
  (¬ (M 89 13) ≠ 6 → CallI 156 [vR 86, vI 2] (M, W) (fun r12 M10 W11 => ((r12 : Int) = 0 ∨ (r12 : Int) = 1) ∧ Q r12 M10 W11)))) : CallI 175 [vR 86] (M, W) Q :=
  wpN_X (cut := fun p => false) 71 _ _ h
set_option maxRecDepth 20000 in
theorem e_X12_endRead (x1 : Int) (M : aM) (W : aW) (Q : Int → aM → aW → Prop) (h :
  (0 ≤ (14 + x1) ∧ (14 + x1) < 16) ∧ (inI (M 89 (14 + x1))) ∧ 
  (((M 89 (14 + x1)) = (-1) → CallV 160 [vR 86] (M, W) (fun M1 W2 => CallI 168 [vR 86] (M1, W2) (fun r5 M3 W4 => (inI r5) ∧ 
    ((r5 ≠ 0 → (0 ≤ (14 + x1) ∧ (14 + x1) < 16) ∧ CallV 160 [vR 86] ((up_ M3 89 (14 + x1) (M3 86 19)), W4) (fun M6 W7 => Q 1 M6 W7)) ∧
    (¬ r5 ≠ 0 → Q 0 M3 W4))))) ∧
  (¬ (M 89 (14 + x1)) = (-1) → CallI 156 [vR 86, vI 3] (M, W) (fun r10 M8 W9 => ((r10 : Int) = 0 ∨ (r10 : Int) = 1) ∧ Q r10 M8 W9)))) : CallI 176 [vR 86, vI x1] (M, W) Q :=
  wpN_X (cut := fun p => false) 33 _ _ h
set_option maxRecDepth 20000 in
theorem e_X12_lineRead  (M : aM) (W : aW) (Q : Int → aM → aW → Prop) (h :
  (inI (M 86 8)) ∧ 
  (((M 86 8) ≠ 1 → CallI 156 [vR 86, vI 1] (M, W) (fun r3 M1 W2 => ((r3 : Int) = 0 ∨ (r3 : Int) = 1) ∧ Q r3 M1 W2)) ∧
  (¬ (M 86 8) ≠ 1 → (inI (M 86 9)) ∧ 
    (((M 86 9) < 3 → (inI (M 86 9)) ∧ 
      (((M 86 9) = 0 → CallI 169 [vR 86] (M, W) (fun r6 M4 W5 => (inI r6) ∧ 
        ((r6 ≠ 0 → (inI (M4 86 8)) ∧ 
          (((M4 86 8) = 4 → CallV 160 [vR 86] (M4, W5) (fun M7 W8 => Q 1 M7 W8)) ∧
          (¬ (M4 86 8) = 4 → CallI 156 [vR 86, vI 1] (M4, W5) (fun r11 M9 W10 => ((r11 : Int) = 0 ∨ (r11 : Int) = 1) ∧ Q r11 M9 W10)))) ∧
        (¬ r6 ≠ 0 → Q 0 M4 W5)))) ∧ ((M 86 9) ≠ 0 → 
      (((M 86 9) = 1 → CallI 170 [vR 86] (M, W) (fun r14 M12 W13 => (inI r14) ∧ 
        ((r14 ≠ 0 → (inI (M12 86 8)) ∧ 
          (((M12 86 8) = 4 → CallV 160 [vR 86] (M12, W13) (fun M15 W16 => Q 1 M15 W16)) ∧
          (¬ (M12 86 8) = 4 → CallI 156 [vR 86, vI 1] (M12, W13) (fun r19 M17 W18 => ((r19 : Int) = 0 ∨ (r19 : Int) = 1) ∧ Q r19 M17 W18)))) ∧
        (¬ r14 ≠ 0 → Q 0 M12 W13)))) ∧ ((M 86 9) ≠ 1 → 
      (((M 86 9) = 2 → CallI 172 [vR 86] (M, W) (fun r22 M20 W21 => (inI r22) ∧ 
        ((r22 ≠ 0 → (inI (M20 86 8)) ∧ 
          (((M20 86 8) = 4 → CallV 160 [vR 86] (M20, W21) (fun M23 W24 => Q 1 M23 W24)) ∧
          (¬ (M20 86 8) = 4 → CallI 156 [vR 86, vI 1] (M20, W21) (fun r27 M25 W26 => ((r27 : Int) = 0 ∨ (r27 : Int) = 1) ∧ Q r27 M25 W26)))) ∧
        (¬ r22 ≠ 0 → Q 0 M20 W21)))) ∧ ((M 86 9) ≠ 2 → 
      (((M 86 9) = 3 → CallI 176 [vR 86, vI ((M 86 9) - 8)] (M, W) (fun r30 M28 W29 => (inI r30) ∧ 
        ((r30 ≠ 0 → (inI (M28 86 8)) ∧ 
          (((M28 86 8) = 4 → CallV 160 [vR 86] (M28, W29) (fun M31 W32 => Q 1 M31 W32)) ∧
          (¬ (M28 86 8) = 4 → CallI 156 [vR 86, vI 1] (M28, W29) (fun r35 M33 W34 => ((r35 : Int) = 0 ∨ (r35 : Int) = 1) ∧ Q r35 M33 W34)))) ∧
        (¬ r30 ≠ 0 → Q 0 M28 W29)))) ∧ ((M 86 9) ≠ 3 → 
      (((M 86 9) = 4 → CallI 176 [vR 86, vI ((M 86 9) - 8)] (M, W) (fun r38 M36 W37 => (inI r38) ∧ 
        ((r38 ≠ 0 → (inI (M36 86 8)) ∧ 
          (((M36 86 8) = 4 → CallV 160 [vR 86] (M36, W37) (fun M39 W40 => Q 1 M39 W40)) ∧
          (¬ (M36 86 8) = 4 → CallI 156 [vR 86, vI 1] (M36, W37) (fun r43 M41 W42 => ((r43 : Int) = 0 ∨ (r43 : Int) = 1) ∧ Q r43 M41 W42)))) ∧
        (¬ r38 ≠ 0 → Q 0 M36 W37)))) ∧ ((M 86 9) ≠ 4 → 
      (((M 86 9) = 5 → CallI 176 [vR 86, vI ((M 86 9) - 8)] (M, W) (fun r46 M44 W45 => (inI r46) ∧ 
        ((r46 ≠ 0 → (inI (M44 86 8)) ∧ 
          (((M44 86 8) = 4 → CallV 160 [vR 86] (M44, W45) (fun M47 W48 => Q 1 M47 W48)) ∧
          (¬ (M44 86 8) = 4 → CallI 156 [vR 86, vI 1] (M44, W45) (fun r51 M49 W50 => ((r51 : Int) = 0 ∨ (r51 : Int) = 1) ∧ Q r51 M49 W50)))) ∧
        (¬ r46 ≠ 0 → Q 0 M44 W45)))) ∧ ((M 86 9) ≠ 5 → 
      (((M 86 9) = 6 → CallI 174 [vR 86] (M, W) (fun r54 M52 W53 => (inI r54) ∧ 
        ((r54 ≠ 0 → (inI (M52 86 8)) ∧ 
          (((M52 86 8) = 4 → CallV 160 [vR 86] (M52, W53) (fun M55 W56 => Q 1 M55 W56)) ∧
          (¬ (M52 86 8) = 4 → CallI 156 [vR 86, vI 1] (M52, W53) (fun r59 M57 W58 => ((r59 : Int) = 0 ∨ (r59 : Int) = 1) ∧ Q r59 M57 W58)))) ∧
        (¬ r54 ≠ 0 → Q 0 M52 W53)))) ∧ ((M 86 9) ≠ 6 → 
      (((M 86 9) = 7 → CallI 175 [vR 86] (M, W) (fun r62 M60 W61 => (inI r62) ∧ 
        ((r62 ≠ 0 → (inI (M60 86 8)) ∧ 
          (((M60 86 8) = 4 → CallV 160 [vR 86] (M60, W61) (fun M63 W64 => Q 1 M63 W64)) ∧
          (¬ (M60 86 8) = 4 → CallI 156 [vR 86, vI 1] (M60, W61) (fun r67 M65 W66 => ((r67 : Int) = 0 ∨ (r67 : Int) = 1) ∧ Q r67 M65 W66)))) ∧
        (¬ r62 ≠ 0 → Q 0 M60 W61)))) ∧ ((M 86 9) ≠ 7 → CallI 176 [vR 86, vI ((M 86 9) - 8)] (M, W) (fun r70 M68 W69 => (inI r70) ∧ 
        ((r70 ≠ 0 → (inI (M68 86 8)) ∧ 
          (((M68 86 8) = 4 → CallV 160 [vR 86] (M68, W69) (fun M71 W72 => Q 1 M71 W72)) ∧
          (¬ (M68 86 8) = 4 → CallI 156 [vR 86, vI 1] (M68, W69) (fun r75 M73 W74 => ((r75 : Int) = 0 ∨ (r75 : Int) = 1) ∧ Q r75 M73 W74)))) ∧
        (¬ r70 ≠ 0 → Q 0 M68 W69)))))))))))))))))))) ∧
    (¬ (M 86 9) < 3 → (inI (M 86 9)) ∧ 
      (((M 86 9) > 5 → (inI (M 86 9)) ∧ 
        (((M 86 9) = 0 → CallI 169 [vR 86] (M, W) (fun r78 M76 W77 => (inI r78) ∧ 
          ((r78 ≠ 0 → (inI (M76 86 8)) ∧ 
            (((M76 86 8) = 4 → CallV 160 [vR 86] (M76, W77) (fun M79 W80 => Q 1 M79 W80)) ∧
            (¬ (M76 86 8) = 4 → CallI 156 [vR 86, vI 1] (M76, W77) (fun r83 M81 W82 => ((r83 : Int) = 0 ∨ (r83 : Int) = 1) ∧ Q r83 M81 W82)))) ∧
          (¬ r78 ≠ 0 → Q 0 M76 W77)))) ∧ ((M 86 9) ≠ 0 → 
        (((M 86 9) = 1 → CallI 170 [vR 86] (M, W) (fun r86 M84 W85 => (inI r86) ∧ 
          ((r86 ≠ 0 → (inI (M84 86 8)) ∧ 
            (((M84 86 8) = 4 → CallV 160 [vR 86] (M84, W85) (fun M87 W88 => Q 1 M87 W88)) ∧
            (¬ (M84 86 8) = 4 → CallI 156 [vR 86, vI 1] (M84, W85) (fun r91 M89 W90 => ((r91 : Int) = 0 ∨ (r91 : Int) = 1) ∧ Q r91 M89 W90)))) ∧
          (¬ r86 ≠ 0 → Q 0 M84 W85)))) ∧ ((M 86 9) ≠ 1 → 
        (((M 86 9) = 2 → CallI 172 [vR 86] (M, W) (fun r94 M92 W93 => (inI r94) ∧ 
          ((r94 ≠ 0 → (inI (M92 86 8)) ∧ 
            (((M92 86 8) = 4 → CallV 160 [vR 86] (M92, W93) (fun M95 W96 => Q 1 M95 W96)) ∧
            (¬ (M92 86 8) = 4 → CallI 156 [vR 86, vI 1] (M92, W93) (fun r99 M97 W98 => ((r99 : Int) = 0 ∨ (r99 : Int) = 1) ∧ Q r99 M97 W98)))) ∧
          (¬ r94 ≠ 0 → Q 0 M92 W93)))) ∧ ((M 86 9) ≠ 2 → 
        (((M 86 9) = 3 → CallI 176 [vR 86, vI ((M 86 9) - 8)] (M, W) (fun r102 M100 W101 => (inI r102) ∧ 
          ((r102 ≠ 0 → (inI (M100 86 8)) ∧ 
            (((M100 86 8) = 4 → CallV 160 [vR 86] (M100, W101) (fun M103 W104 => Q 1 M103 W104)) ∧
            (¬ (M100 86 8) = 4 → CallI 156 [vR 86, vI 1] (M100, W101) (fun r107 M105 W106 => ((r107 : Int) = 0 ∨ (r107 : Int) = 1) ∧ Q r107 M105 W106)))) ∧
          (¬ r102 ≠ 0 → Q 0 M100 W101)))) ∧ ((M 86 9) ≠ 3 → 
        (((M 86 9) = 4 → CallI 176 [vR 86, vI ((M 86 9) - 8)] (M, W) (fun r110 M108 W109 => (inI r110) ∧ 
          ((r110 ≠ 0 → (inI (M108 86 8)) ∧ 
            (((M108 86 8) = 4 → CallV 160 [vR 86] (M108, W109) (fun M111 W112 => Q 1 M111 W112)) ∧
            (¬ (M108 86 8) = 4 → CallI 156 [vR 86, vI 1] (M108, W109) (fun r115 M113 W114 => ((r115 : Int) = 0 ∨ (r115 : Int) = 1) ∧ Q r115 M113 W114)))) ∧
          (¬ r110 ≠ 0 → Q 0 M108 W109)))) ∧ ((M 86 9) ≠ 4 → 
        (((M 86 9) = 5 → CallI 176 [vR 86, vI ((M 86 9) - 8)] (M, W) (fun r118 M116 W117 => (inI r118) ∧ 
          ((r118 ≠ 0 → (inI (M116 86 8)) ∧ 
            (((M116 86 8) = 4 → CallV 160 [vR 86] (M116, W117) (fun M119 W120 => Q 1 M119 W120)) ∧
            (¬ (M116 86 8) = 4 → CallI 156 [vR 86, vI 1] (M116, W117) (fun r123 M121 W122 => ((r123 : Int) = 0 ∨ (r123 : Int) = 1) ∧ Q r123 M121 W122)))) ∧
          (¬ r118 ≠ 0 → Q 0 M116 W117)))) ∧ ((M 86 9) ≠ 5 → 
        (((M 86 9) = 6 → CallI 174 [vR 86] (M, W) (fun r126 M124 W125 => (inI r126) ∧ 
          ((r126 ≠ 0 → (inI (M124 86 8)) ∧ 
            (((M124 86 8) = 4 → CallV 160 [vR 86] (M124, W125) (fun M127 W128 => Q 1 M127 W128)) ∧
            (¬ (M124 86 8) = 4 → CallI 156 [vR 86, vI 1] (M124, W125) (fun r131 M129 W130 => ((r131 : Int) = 0 ∨ (r131 : Int) = 1) ∧ Q r131 M129 W130)))) ∧
          (¬ r126 ≠ 0 → Q 0 M124 W125)))) ∧ ((M 86 9) ≠ 6 → 
        (((M 86 9) = 7 → CallI 175 [vR 86] (M, W) (fun r134 M132 W133 => (inI r134) ∧ 
          ((r134 ≠ 0 → (inI (M132 86 8)) ∧ 
            (((M132 86 8) = 4 → CallV 160 [vR 86] (M132, W133) (fun M135 W136 => Q 1 M135 W136)) ∧
            (¬ (M132 86 8) = 4 → CallI 156 [vR 86, vI 1] (M132, W133) (fun r139 M137 W138 => ((r139 : Int) = 0 ∨ (r139 : Int) = 1) ∧ Q r139 M137 W138)))) ∧
          (¬ r134 ≠ 0 → Q 0 M132 W133)))) ∧ ((M 86 9) ≠ 7 → CallI 176 [vR 86, vI ((M 86 9) - 8)] (M, W) (fun r142 M140 W141 => (inI r142) ∧ 
          ((r142 ≠ 0 → (inI (M140 86 8)) ∧ 
            (((M140 86 8) = 4 → CallV 160 [vR 86] (M140, W141) (fun M143 W144 => Q 1 M143 W144)) ∧
            (¬ (M140 86 8) = 4 → CallI 156 [vR 86, vI 1] (M140, W141) (fun r147 M145 W146 => ((r147 : Int) = 0 ∨ (r147 : Int) = 1) ∧ Q r147 M145 W146)))) ∧
          (¬ r142 ≠ 0 → Q 0 M140 W141)))))))))))))))))))) ∧
      (¬ (M 86 9) > 5 → CallI 156 [vR 86, vI 1] (M, W) (fun r150 M148 W149 => ((r150 : Int) = 0 ∨ (r150 : Int) = 1) ∧ Q r150 M148 W149)))))))) : CallI 177 [vR 86] (M, W) Q :=
  wpN_X (cut := fun p => false) 412 _ _ h
set_option maxRecDepth 20000 in
theorem e_X12_land (x1 : Int) (M : aM) (W : aW) (Q : Int → aM → aW → Prop) (h :
  (inI x1) ∧ 
  ((x1 < 0 → Q (-2) (up_ M 86 2 0) W) ∧
  (¬ x1 < 0 → (inI x1 ∧ inI ((up_ M 86 2 0) 86 1)) ∧ 
    ((x1 ≤ ((up_ M 86 2 0) 86 1) → CallV 163 [vR 86] ((up_ (up_ (up_ (up_ (up_ (up_ M 86 2 0) 86 6 x1) 86 1 0) 86 4 0) 86 5 (-1)) 86 7 0), W) (fun M1 W2 => CallV 160 [vR 86] (M1, W2) (fun M3 W4 => Xs 178 (55, [some (some (vR 86)), some (some (vI x1)), some (some (vI 0))], [], (M3, W4)) (QI Q)))) ∧
    (¬ x1 ≤ ((up_ M 86 2 0) 86 1) → Q (-2) (up_ M 86 2 0) W))))) : CallI 178 [vR 86, vI x1] (M, W) Q :=
  wpN_X (cut := fun p => Nat.beq p 55) 37 _ _ h
set_option maxRecDepth 20000 in
theorem k_X12_land_55 (x1 : Int) (x2 : Int) (M : aM) (W : aW) (Q : Int → aM → aW → Prop) (h :
  (inI (M 86 8)) ∧ 
  (((M 86 8) = 0 → CallV 182 [vR 86] (M, W) (fun M1 W2 => Q x2 M1 W2)) ∧
  (¬ (M 86 8) = 0 → CallI 177 [vR 86] (M, W) (fun r5 M3 W4 => (inI r5) ∧ 
    ((r5 ≠ 0 → Xs 178 (55, [some (some (vR 86)), some (some (vI x1)), some (some (vI (x2 + 1)))], [], (M3, W4)) (QI Q)) ∧
    (¬ r5 ≠ 0 → Q (-1) M3 W4)))))) : Xs 178 (55, [some (some (vR 86)), some (some (vI x1)), some (some (vI x2))], [], (M, W)) (QI Q) :=
  wpN_X (cut := fun p => Nat.beq p 55) 17 _ _ h
set_option maxRecDepth 20000 in
theorem e_X12_fault (x1 : Int) (M : aM) (W : aW) (Q : Int → aM → aW → Prop) (h :
  (inI x1) ∧ 
  ((x1 ≠ 0 → (inI x1) ∧ 
    ((x1 ≠ 1 → Q (-1) (up_ M 86 2 0) W) ∧
    (¬ x1 ≠ 1 → Q ((up_ M 86 2 0) 86 5) (up_ M 86 2 0) W))) ∧
  (¬ x1 ≠ 0 → Q ((up_ M 86 2 0) 86 4) (up_ M 86 2 0) W))) : CallI 179 [vR 86, vI x1] (M, W) Q :=
  wpN_X (cut := fun p => false) 20 _ _ h
set_option maxRecDepth 20000 in
theorem e_X12_places  (M : aM) (W : aW) (Q : Int → aM → aW → Prop) (h :
  Q (M 89 0) M W) : CallI 180 [vR 86] (M, W) Q :=
  wpN_X (cut := fun p => false) 7 _ _ h
set_option maxRecDepth 20000 in
theorem e_X12_doubts  (M : aM) (W : aW) (Q : Int → aM → aW → Prop) (h :
  Q (M 89 3) M W) : CallI 181 [vR 86] (M, W) Q :=
  wpN_X (cut := fun p => false) 7 _ _ h
set_option maxRecDepth 20000 in
theorem e_X12_keep  (M : aM) (W : aW) (Q : aM → aW → Prop) (h :
  Xs 182 (2, [some (some (vR 86)), some (some (vI 0)), none, none], [], (M, W)) (QV Q)) : CallV 182 [vR 86] (M, W) Q :=
  wpN_X (cut := fun p => Nat.beq p 2 || Nat.beq p 31 || Nat.beq p 60 || Nat.beq p 101 || Nat.beq p 132 || Nat.beq p 161 || Nat.beq p 190 || Nat.beq p 219 || Nat.beq p 240 || Nat.beq p 261 || Nat.beq p 399 || Nat.beq p 460 || Nat.beq p 518 || Nat.beq p 528 || Nat.beq p 587 || Nat.beq p 607) 5 _ _ h
set_option maxRecDepth 20000 in
theorem k_X12_keep_2 (x1 : Int) (d2 : aL) (d3 : aL) (M : aM) (W : aW) (Q : aM → aW → Prop) (h :
  (inI x1) ∧ 
  ((x1 ≥ 8 → Xs 182 (31, [some (some (vR 86)), some (some (vI 0)), d2, d3], [], (M, W)) (QV Q)) ∧
  (¬ x1 ≥ 8 → (0 ≤ (8 + x1) ∧ (8 + x1) < 16) ∧ (0 ≤ x1 ∧ x1 < 16) ∧ Xs 182 (2, [some (some (vR 86)), some (some (vI (x1 + 1))), d2, d3], [], ((up_ M 89 x1 (M 89 (8 + x1))), W)) (QV Q)))) : Xs 182 (2, [some (some (vR 86)), some (some (vI x1)), d2, d3], [], (M, W)) (QV Q) :=
  wpN_X (cut := fun p => Nat.beq p 2 || Nat.beq p 31 || Nat.beq p 60 || Nat.beq p 101 || Nat.beq p 132 || Nat.beq p 161 || Nat.beq p 190 || Nat.beq p 219 || Nat.beq p 240 || Nat.beq p 261 || Nat.beq p 399 || Nat.beq p 460 || Nat.beq p 518 || Nat.beq p 528 || Nat.beq p 587 || Nat.beq p 607) 21 _ _ h
set_option maxRecDepth 20000 in
theorem k_X12_keep_31 (x1 : Int) (d2 : aL) (d3 : aL) (M : aM) (W : aW) (Q : aM → aW → Prop) (h :
  (inI x1) ∧ 
  ((x1 ≥ 10 → Xs 182 (60, [some (some (vR 86)), some (some (vI 0)), d2, d3], [], (M, W)) (QV Q)) ∧
  (¬ x1 ≥ 10 → (0 ≤ (10 + x1) ∧ (10 + x1) < 20) ∧ (0 ≤ x1 ∧ x1 < 20) ∧ Xs 182 (31, [some (some (vR 86)), some (some (vI (x1 + 1))), d2, d3], [], ((up_ M 90 x1 (M 90 (10 + x1))), W)) (QV Q)))) : Xs 182 (31, [some (some (vR 86)), some (some (vI x1)), d2, d3], [], (M, W)) (QV Q) :=
  wpN_X (cut := fun p => Nat.beq p 2 || Nat.beq p 31 || Nat.beq p 60 || Nat.beq p 101 || Nat.beq p 132 || Nat.beq p 161 || Nat.beq p 190 || Nat.beq p 219 || Nat.beq p 240 || Nat.beq p 261 || Nat.beq p 399 || Nat.beq p 460 || Nat.beq p 518 || Nat.beq p 528 || Nat.beq p 587 || Nat.beq p 607) 21 _ _ h
set_option maxRecDepth 20000 in
theorem k_X12_keep_60 (x1 : Int) (d2 : aL) (d3 : aL) (M : aM) (W : aW) (Q : aM → aW → Prop) (h :
  (inI x1) ∧ 
  ((x1 ≥ 2 → Xs 182 (101, [some (some (vR 86)), some (some (vI 0)), d2, d3], [], (M, W)) (QV Q)) ∧
  (¬ x1 ≥ 2 → (0 ≤ (2 + x1) ∧ (2 + x1) < 4) ∧ (0 ≤ x1 ∧ x1 < 4) ∧ (0 ≤ (2 + x1) ∧ (2 + x1) < 4) ∧ (0 ≤ x1 ∧ x1 < 4) ∧ Xs 182 (60, [some (some (vR 86)), some (some (vI (x1 + 1))), d2, d3], [], ((up_ (up_ M 91 x1 (M 91 (2 + x1))) 92 x1 ((up_ M 91 x1 (M 91 (2 + x1))) 92 (2 + x1))), W)) (QV Q)))) : Xs 182 (60, [some (some (vR 86)), some (some (vI x1)), d2, d3], [], (M, W)) (QV Q) :=
  wpN_X (cut := fun p => Nat.beq p 2 || Nat.beq p 31 || Nat.beq p 60 || Nat.beq p 101 || Nat.beq p 132 || Nat.beq p 161 || Nat.beq p 190 || Nat.beq p 219 || Nat.beq p 240 || Nat.beq p 261 || Nat.beq p 399 || Nat.beq p 460 || Nat.beq p 518 || Nat.beq p 528 || Nat.beq p 587 || Nat.beq p 607) 31 _ _ h
set_option maxRecDepth 20000 in
theorem k_X12_keep_101 (x1 : Int) (d2 : aL) (d3 : aL) (M : aM) (W : aW) (Q : aM → aW → Prop) (h :
  (inI x1) ∧ 
  ((x1 ≥ 168 → Xs 182 (132, [some (some (vR 86)), some (some (vI 0)), d2, d3], [], (M, W)) (QV Q)) ∧
  (¬ x1 ≥ 168 → (0 ≤ (168 + x1) ∧ (168 + x1) < 336) ∧ (0 ≤ x1 ∧ x1 < 336) ∧ Xs 182 (101, [some (some (vR 86)), some (some (vI (x1 + 1))), d2, d3], [], ((up_ M 93 x1 (M 93 (168 + x1))), W)) (QV Q)))) : Xs 182 (101, [some (some (vR 86)), some (some (vI x1)), d2, d3], [], (M, W)) (QV Q) :=
  wpN_X (cut := fun p => Nat.beq p 2 || Nat.beq p 31 || Nat.beq p 60 || Nat.beq p 101 || Nat.beq p 132 || Nat.beq p 161 || Nat.beq p 190 || Nat.beq p 219 || Nat.beq p 240 || Nat.beq p 261 || Nat.beq p 399 || Nat.beq p 460 || Nat.beq p 518 || Nat.beq p 528 || Nat.beq p 587 || Nat.beq p 607) 21 _ _ h
set_option maxRecDepth 20000 in
theorem k_X12_keep_132 (x1 : Int) (d2 : aL) (d3 : aL) (M : aM) (W : aW) (Q : aM → aW → Prop) (h :
  (inI x1) ∧ 
  ((x1 ≥ 6 → Xs 182 (161, [some (some (vR 86)), some (some (vI 0)), d2, d3], [], (M, W)) (QV Q)) ∧
  (¬ x1 ≥ 6 → (0 ≤ (6 + x1) ∧ (6 + x1) < 12) ∧ (0 ≤ x1 ∧ x1 < 12) ∧ Xs 182 (132, [some (some (vR 86)), some (some (vI (x1 + 1))), d2, d3], [], ((up_ M 94 x1 (M 94 (6 + x1))), W)) (QV Q)))) : Xs 182 (132, [some (some (vR 86)), some (some (vI x1)), d2, d3], [], (M, W)) (QV Q) :=
  wpN_X (cut := fun p => Nat.beq p 2 || Nat.beq p 31 || Nat.beq p 60 || Nat.beq p 101 || Nat.beq p 132 || Nat.beq p 161 || Nat.beq p 190 || Nat.beq p 219 || Nat.beq p 240 || Nat.beq p 261 || Nat.beq p 399 || Nat.beq p 460 || Nat.beq p 518 || Nat.beq p 528 || Nat.beq p 587 || Nat.beq p 607) 21 _ _ h
set_option maxRecDepth 20000 in
theorem k_X12_keep_161 (x1 : Int) (d2 : aL) (d3 : aL) (M : aM) (W : aW) (Q : aM → aW → Prop) (h :
  (inI x1) ∧ 
  ((x1 ≥ 16 → Xs 182 (190, [some (some (vR 86)), some (some (vI 0)), d2, d3], [], (M, W)) (QV Q)) ∧
  (¬ x1 ≥ 16 → (0 ≤ (16 + x1) ∧ (16 + x1) < 32) ∧ (0 ≤ x1 ∧ x1 < 32) ∧ Xs 182 (161, [some (some (vR 86)), some (some (vI (x1 + 1))), d2, d3], [], ((up_ M 95 x1 (M 95 (16 + x1))), W)) (QV Q)))) : Xs 182 (161, [some (some (vR 86)), some (some (vI x1)), d2, d3], [], (M, W)) (QV Q) :=
  wpN_X (cut := fun p => Nat.beq p 2 || Nat.beq p 31 || Nat.beq p 60 || Nat.beq p 101 || Nat.beq p 132 || Nat.beq p 161 || Nat.beq p 190 || Nat.beq p 219 || Nat.beq p 240 || Nat.beq p 261 || Nat.beq p 399 || Nat.beq p 460 || Nat.beq p 518 || Nat.beq p 528 || Nat.beq p 587 || Nat.beq p 607) 21 _ _ h
set_option maxRecDepth 20000 in
theorem k_X12_keep_190 (x1 : Int) (d2 : aL) (d3 : aL) (M : aM) (W : aW) (Q : aM → aW → Prop) (h :
  (inI x1) ∧ 
  ((x1 ≥ 18 → Xs 182 (219, [some (some (vR 86)), some (some (vI 0)), d2, d3], [], (M, W)) (QV Q)) ∧
  (¬ x1 ≥ 18 → (0 ≤ (18 + x1) ∧ (18 + x1) < 36) ∧ (0 ≤ x1 ∧ x1 < 36) ∧ Xs 182 (190, [some (some (vR 86)), some (some (vI (x1 + 1))), d2, d3], [], ((up_ M 96 x1 (M 96 (18 + x1))), W)) (QV Q)))) : Xs 182 (190, [some (some (vR 86)), some (some (vI x1)), d2, d3], [], (M, W)) (QV Q) :=
  wpN_X (cut := fun p => Nat.beq p 2 || Nat.beq p 31 || Nat.beq p 60 || Nat.beq p 101 || Nat.beq p 132 || Nat.beq p 161 || Nat.beq p 190 || Nat.beq p 219 || Nat.beq p 240 || Nat.beq p 261 || Nat.beq p 399 || Nat.beq p 460 || Nat.beq p 518 || Nat.beq p 528 || Nat.beq p 587 || Nat.beq p 607) 21 _ _ h
set_option maxRecDepth 20000 in
theorem k_X12_keep_219 (x1 : Int) (d2 : aL) (d3 : aL) (M : aM) (W : aW) (Q : aM → aW → Prop) (h :
  (inI x1) ∧ 
  ((x1 ≥ 100 → Xs 182 (240, [some (some (vR 86)), some (some (vI 0)), d2, d3], [], (M, W)) (QV Q)) ∧
  (¬ x1 ≥ 100 → (0 ≤ x1 ∧ x1 < 100) ∧ Xs 182 (219, [some (some (vR 86)), some (some (vI (x1 + 1))), d2, d3], [], ((up_ M 98 x1 (-1)), W)) (QV Q)))) : Xs 182 (219, [some (some (vR 86)), some (some (vI x1)), d2, d3], [], (M, W)) (QV Q) :=
  wpN_X (cut := fun p => Nat.beq p 2 || Nat.beq p 31 || Nat.beq p 60 || Nat.beq p 101 || Nat.beq p 132 || Nat.beq p 161 || Nat.beq p 190 || Nat.beq p 219 || Nat.beq p 240 || Nat.beq p 261 || Nat.beq p 399 || Nat.beq p 460 || Nat.beq p 518 || Nat.beq p 528 || Nat.beq p 587 || Nat.beq p 607) 16 _ _ h
set_option maxRecDepth 20000 in
theorem k_X12_keep_240 (x1 : Int) (d2 : aL) (d3 : aL) (M : aM) (W : aW) (Q : aM → aW → Prop) (h :
  (inI x1) ∧ 
  ((x1 ≥ 10 → Xs 182 (261, [some (some (vR 86)), some (some (vI 0)), d2, d3], [], (M, W)) (QV Q)) ∧
  (¬ x1 ≥ 10 → (0 ≤ x1 ∧ x1 < 10) ∧ Xs 182 (240, [some (some (vR 86)), some (some (vI (x1 + 1))), d2, d3], [], ((up_ M 97 x1 0), W)) (QV Q)))) : Xs 182 (240, [some (some (vR 86)), some (some (vI x1)), d2, d3], [], (M, W)) (QV Q) :=
  wpN_X (cut := fun p => Nat.beq p 2 || Nat.beq p 31 || Nat.beq p 60 || Nat.beq p 101 || Nat.beq p 132 || Nat.beq p 161 || Nat.beq p 190 || Nat.beq p 219 || Nat.beq p 240 || Nat.beq p 261 || Nat.beq p 399 || Nat.beq p 460 || Nat.beq p 518 || Nat.beq p 528 || Nat.beq p 587 || Nat.beq p 607) 16 _ _ h
set_option maxRecDepth 20000 in
theorem k_X12_keep_261 (x1 : Int) (d2 : aL) (d3 : aL) (M : aM) (W : aW) (Q : aM → aW → Prop) (h :
  (inI x1 ∧ inI (M 89 2)) ∧ 
  ((x1 ≥ (M 89 2) → Xs 182 (399, [some (some (vR 86)), some (some (vI 0)), d2, d3], [], (M, W)) (QV Q)) ∧
  (¬ x1 ≥ (M 89 2) → (∀ v1 : Int, v1 = 7 * x1 → (0 ≤ v1 ∧ v1 < 336) ∧ (0 ≤ (v1 + 1) ∧ (v1 + 1) < 336) ∧ (0 ≤ ((10 * (M 93 v1)) + (M 93 (v1 + 1))) ∧ ((10 * (M 93 v1)) + (M 93 (v1 + 1))) < 100) ∧ (0 ≤ (v1 + 1) ∧ (v1 + 1) < 336) ∧ (0 ≤ v1 ∧ v1 < 336) ∧ (0 ≤ ((10 * ((up_ M 98 ((10 * (M 93 v1)) + (M 93 (v1 + 1))) x1) 93 (v1 + 1))) + ((up_ M 98 ((10 * (M 93 v1)) + (M 93 (v1 + 1))) x1) 93 v1)) ∧ ((10 * ((up_ M 98 ((10 * (M 93 v1)) + (M 93 (v1 + 1))) x1) 93 (v1 + 1))) + ((up_ M 98 ((10 * (M 93 v1)) + (M 93 (v1 + 1))) x1) 93 v1)) < 100) ∧ (0 ≤ (v1 + 6) ∧ (v1 + 6) < 336) ∧ (inI ((up_ (up_ M 98 ((10 * (M 93 v1)) + (M 93 (v1 + 1))) x1) 98 ((10 * ((up_ M 98 ((10 * (M 93 v1)) + (M 93 (v1 + 1))) x1) 93 (v1 + 1))) + ((up_ M 98 ((10 * (M 93 v1)) + (M 93 (v1 + 1))) x1) 93 v1)) x1) 93 (v1 + 6))) ∧ 
    ((((up_ (up_ M 98 ((10 * (M 93 v1)) + (M 93 (v1 + 1))) x1) 98 ((10 * ((up_ M 98 ((10 * (M 93 v1)) + (M 93 (v1 + 1))) x1) 93 (v1 + 1))) + ((up_ M 98 ((10 * (M 93 v1)) + (M 93 (v1 + 1))) x1) 93 v1)) x1) 93 (v1 + 6)) ≥ 0 → (0 ≤ v1 ∧ v1 < 336) ∧ (0 ≤ ((up_ (up_ M 98 ((10 * (M 93 v1)) + (M 93 (v1 + 1))) x1) 98 ((10 * ((up_ M 98 ((10 * (M 93 v1)) + (M 93 (v1 + 1))) x1) 93 (v1 + 1))) + ((up_ M 98 ((10 * (M 93 v1)) + (M 93 (v1 + 1))) x1) 93 v1)) x1) 93 v1) ∧ ((up_ (up_ M 98 ((10 * (M 93 v1)) + (M 93 (v1 + 1))) x1) 98 ((10 * ((up_ M 98 ((10 * (M 93 v1)) + (M 93 (v1 + 1))) x1) 93 (v1 + 1))) + ((up_ M 98 ((10 * (M 93 v1)) + (M 93 (v1 + 1))) x1) 93 v1)) x1) 93 v1) < 10) ∧ (0 ≤ (v1 + 6) ∧ (v1 + 6) < 336) ∧ (0 ≤ ((up_ (up_ M 98 ((10 * (M 93 v1)) + (M 93 (v1 + 1))) x1) 98 ((10 * ((up_ M 98 ((10 * (M 93 v1)) + (M 93 (v1 + 1))) x1) 93 (v1 + 1))) + ((up_ M 98 ((10 * (M 93 v1)) + (M 93 (v1 + 1))) x1) 93 v1)) x1) 93 v1) ∧ ((up_ (up_ M 98 ((10 * (M 93 v1)) + (M 93 (v1 + 1))) x1) 98 ((10 * ((up_ M 98 ((10 * (M 93 v1)) + (M 93 (v1 + 1))) x1) 93 (v1 + 1))) + ((up_ M 98 ((10 * (M 93 v1)) + (M 93 (v1 + 1))) x1) 93 v1)) x1) 93 v1) < 10) ∧ (0 ≤ (v1 + 1) ∧ (v1 + 1) < 336) ∧ (0 ≤ ((up_ (up_ (up_ M 98 ((10 * (M 93 v1)) + (M 93 (v1 + 1))) x1) 98 ((10 * ((up_ M 98 ((10 * (M 93 v1)) + (M 93 (v1 + 1))) x1) 93 (v1 + 1))) + ((up_ M 98 ((10 * (M 93 v1)) + (M 93 (v1 + 1))) x1) 93 v1)) x1) 97 ((up_ (up_ M 98 ((10 * (M 93 v1)) + (M 93 (v1 + 1))) x1) 98 ((10 * ((up_ M 98 ((10 * (M 93 v1)) + (M 93 (v1 + 1))) x1) 93 (v1 + 1))) + ((up_ M 98 ((10 * (M 93 v1)) + (M 93 (v1 + 1))) x1) 93 v1)) x1) 93 v1) (or_ ((up_ (up_ M 98 ((10 * (M 93 v1)) + (M 93 (v1 + 1))) x1) 98 ((10 * ((up_ M 98 ((10 * (M 93 v1)) + (M 93 (v1 + 1))) x1) 93 (v1 + 1))) + ((up_ M 98 ((10 * (M 93 v1)) + (M 93 (v1 + 1))) x1) 93 v1)) x1) 97 ((up_ (up_ M 98 ((10 * (M 93 v1)) + (M 93 (v1 + 1))) x1) 98 ((10 * ((up_ M 98 ((10 * (M 93 v1)) + (M 93 (v1 + 1))) x1) 93 (v1 + 1))) + ((up_ M 98 ((10 * (M 93 v1)) + (M 93 (v1 + 1))) x1) 93 v1)) x1) 93 v1)) (shl_ 1 ((up_ (up_ M 98 ((10 * (M 93 v1)) + (M 93 (v1 + 1))) x1) 98 ((10 * ((up_ M 98 ((10 * (M 93 v1)) + (M 93 (v1 + 1))) x1) 93 (v1 + 1))) + ((up_ M 98 ((10 * (M 93 v1)) + (M 93 (v1 + 1))) x1) 93 v1)) x1) 93 (v1 + 6))))) 93 (v1 + 1)) ∧ ((up_ (up_ (up_ M 98 ((10 * (M 93 v1)) + (M 93 (v1 + 1))) x1) 98 ((10 * ((up_ M 98 ((10 * (M 93 v1)) + (M 93 (v1 + 1))) x1) 93 (v1 + 1))) + ((up_ M 98 ((10 * (M 93 v1)) + (M 93 (v1 + 1))) x1) 93 v1)) x1) 97 ((up_ (up_ M 98 ((10 * (M 93 v1)) + (M 93 (v1 + 1))) x1) 98 ((10 * ((up_ M 98 ((10 * (M 93 v1)) + (M 93 (v1 + 1))) x1) 93 (v1 + 1))) + ((up_ M 98 ((10 * (M 93 v1)) + (M 93 (v1 + 1))) x1) 93 v1)) x1) 93 v1) (or_ ((up_ (up_ M 98 ((10 * (M 93 v1)) + (M 93 (v1 + 1))) x1) 98 ((10 * ((up_ M 98 ((10 * (M 93 v1)) + (M 93 (v1 + 1))) x1) 93 (v1 + 1))) + ((up_ M 98 ((10 * (M 93 v1)) + (M 93 (v1 + 1))) x1) 93 v1)) x1) 97 ((up_ (up_ M 98 ((10 * (M 93 v1)) + (M 93 (v1 + 1))) x1) 98 ((10 * ((up_ M 98 ((10 * (M 93 v1)) + (M 93 (v1 + 1))) x1) 93 (v1 + 1))) + ((up_ M 98 ((10 * (M 93 v1)) + (M 93 (v1 + 1))) x1) 93 v1)) x1) 93 v1)) (shl_ 1 ((up_ (up_ M 98 ((10 * (M 93 v1)) + (M 93 (v1 + 1))) x1) 98 ((10 * ((up_ M 98 ((10 * (M 93 v1)) + (M 93 (v1 + 1))) x1) 93 (v1 + 1))) + ((up_ M 98 ((10 * (M 93 v1)) + (M 93 (v1 + 1))) x1) 93 v1)) x1) 93 (v1 + 6))))) 93 (v1 + 1)) < 10) ∧ (0 ≤ (v1 + 6) ∧ (v1 + 6) < 336) ∧ (0 ≤ ((up_ (up_ (up_ M 98 ((10 * (M 93 v1)) + (M 93 (v1 + 1))) x1) 98 ((10 * ((up_ M 98 ((10 * (M 93 v1)) + (M 93 (v1 + 1))) x1) 93 (v1 + 1))) + ((up_ M 98 ((10 * (M 93 v1)) + (M 93 (v1 + 1))) x1) 93 v1)) x1) 97 ((up_ (up_ M 98 ((10 * (M 93 v1)) + (M 93 (v1 + 1))) x1) 98 ((10 * ((up_ M 98 ((10 * (M 93 v1)) + (M 93 (v1 + 1))) x1) 93 (v1 + 1))) + ((up_ M 98 ((10 * (M 93 v1)) + (M 93 (v1 + 1))) x1) 93 v1)) x1) 93 v1) (or_ ((up_ (up_ M 98 ((10 * (M 93 v1)) + (M 93 (v1 + 1))) x1) 98 ((10 * ((up_ M 98 ((10 * (M 93 v1)) + (M 93 (v1 + 1))) x1) 93 (v1 + 1))) + ((up_ M 98 ((10 * (M 93 v1)) + (M 93 (v1 + 1))) x1) 93 v1)) x1) 97 ((up_ (up_ M 98 ((10 * (M 93 v1)) + (M 93 (v1 + 1))) x1) 98 ((10 * ((up_ M 98 ((10 * (M 93 v1)) + (M 93 (v1 + 1))) x1) 93 (v1 + 1))) + ((up_ M 98 ((10 * (M 93 v1)) + (M 93 (v1 + 1))) x1) 93 v1)) x1) 93 v1)) (shl_ 1 ((up_ (up_ M 98 ((10 * (M 93 v1)) + (M 93 (v1 + 1))) x1) 98 ((10 * ((up_ M 98 ((10 * (M 93 v1)) + (M 93 (v1 + 1))) x1) 93 (v1 + 1))) + ((up_ M 98 ((10 * (M 93 v1)) + (M 93 (v1 + 1))) x1) 93 v1)) x1) 93 (v1 + 6))))) 93 (v1 + 1)) ∧ ((up_ (up_ (up_ M 98 ((10 * (M 93 v1)) + (M 93 (v1 + 1))) x1) 98 ((10 * ((up_ M 98 ((10 * (M 93 v1)) + (M 93 (v1 + 1))) x1) 93 (v1 + 1))) + ((up_ M 98 ((10 * (M 93 v1)) + (M 93 (v1 + 1))) x1) 93 v1)) x1) 97 ((up_ (up_ M 98 ((10 * (M 93 v1)) + (M 93 (v1 + 1))) x1) 98 ((10 * ((up_ M 98 ((10 * (M 93 v1)) + (M 93 (v1 + 1))) x1) 93 (v1 + 1))) + ((up_ M 98 ((10 * (M 93 v1)) + (M 93 (v1 + 1))) x1) 93 v1)) x1) 93 v1) (or_ ((up_ (up_ M 98 ((10 * (M 93 v1)) + (M 93 (v1 + 1))) x1) 98 ((10 * ((up_ M 98 ((10 * (M 93 v1)) + (M 93 (v1 + 1))) x1) 93 (v1 + 1))) + ((up_ M 98 ((10 * (M 93 v1)) + (M 93 (v1 + 1))) x1) 93 v1)) x1) 97 ((up_ (up_ M 98 ((10 * (M 93 v1)) + (M 93 (v1 + 1))) x1) 98 ((10 * ((up_ M 98 ((10 * (M 93 v1)) + (M 93 (v1 + 1))) x1) 93 (v1 + 1))) + ((up_ M 98 ((10 * (M 93 v1)) + (M 93 (v1 + 1))) x1) 93 v1)) x1) 93 v1)) (shl_ 1 ((up_ (up_ M 98 ((10 * (M 93 v1)) + (M 93 (v1 + 1))) x1) 98 ((10 * ((up_ M 98 ((10 * (M 93 v1)) + (M 93 (v1 + 1))) x1) 93 (v1 + 1))) + ((up_ M 98 ((10 * (M 93 v1)) + (M 93 (v1 + 1))) x1) 93 v1)) x1) 93 (v1 + 6))))) 93 (v1 + 1)) < 10) ∧ Xs 182 (261, [some (some (vR 86)), some (some (vI (x1 + 1))), some (some (vI v1)), d3], [], ((up_ (up_ (up_ (up_ M 98 ((10 * (M 93 v1)) + (M 93 (v1 + 1))) x1) 98 ((10 * ((up_ M 98 ((10 * (M 93 v1)) + (M 93 (v1 + 1))) x1) 93 (v1 + 1))) + ((up_ M 98 ((10 * (M 93 v1)) + (M 93 (v1 + 1))) x1) 93 v1)) x1) 97 ((up_ (up_ M 98 ((10 * (M 93 v1)) + (M 93 (v1 + 1))) x1) 98 ((10 * ((up_ M 98 ((10 * (M 93 v1)) + (M 93 (v1 + 1))) x1) 93 (v1 + 1))) + ((up_ M 98 ((10 * (M 93 v1)) + (M 93 (v1 + 1))) x1) 93 v1)) x1) 93 v1) (or_ ((up_ (up_ M 98 ((10 * (M 93 v1)) + (M 93 (v1 + 1))) x1) 98 ((10 * ((up_ M 98 ((10 * (M 93 v1)) + (M 93 (v1 + 1))) x1) 93 (v1 + 1))) + ((up_ M 98 ((10 * (M 93 v1)) + (M 93 (v1 + 1))) x1) 93 v1)) x1) 97 ((up_ (up_ M 98 ((10 * (M 93 v1)) + (M 93 (v1 + 1))) x1) 98 ((10 * ((up_ M 98 ((10 * (M 93 v1)) + (M 93 (v1 + 1))) x1) 93 (v1 + 1))) + ((up_ M 98 ((10 * (M 93 v1)) + (M 93 (v1 + 1))) x1) 93 v1)) x1) 93 v1)) (shl_ 1 ((up_ (up_ M 98 ((10 * (M 93 v1)) + (M 93 (v1 + 1))) x1) 98 ((10 * ((up_ M 98 ((10 * (M 93 v1)) + (M 93 (v1 + 1))) x1) 93 (v1 + 1))) + ((up_ M 98 ((10 * (M 93 v1)) + (M 93 (v1 + 1))) x1) 93 v1)) x1) 93 (v1 + 6))))) 97 ((up_ (up_ (up_ M 98 ((10 * (M 93 v1)) + (M 93 (v1 + 1))) x1) 98 ((10 * ((up_ M 98 ((10 * (M 93 v1)) + (M 93 (v1 + 1))) x1) 93 (v1 + 1))) + ((up_ M 98 ((10 * (M 93 v1)) + (M 93 (v1 + 1))) x1) 93 v1)) x1) 97 ((up_ (up_ M 98 ((10 * (M 93 v1)) + (M 93 (v1 + 1))) x1) 98 ((10 * ((up_ M 98 ((10 * (M 93 v1)) + (M 93 (v1 + 1))) x1) 93 (v1 + 1))) + ((up_ M 98 ((10 * (M 93 v1)) + (M 93 (v1 + 1))) x1) 93 v1)) x1) 93 v1) (or_ ((up_ (up_ M 98 ((10 * (M 93 v1)) + (M 93 (v1 + 1))) x1) 98 ((10 * ((up_ M 98 ((10 * (M 93 v1)) + (M 93 (v1 + 1))) x1) 93 (v1 + 1))) + ((up_ M 98 ((10 * (M 93 v1)) + (M 93 (v1 + 1))) x1) 93 v1)) x1) 97 ((up_ (up_ M 98 ((10 * (M 93 v1)) + (M 93 (v1 + 1))) x1) 98 ((10 * ((up_ M 98 ((10 * (M 93 v1)) + (M 93 (v1 + 1))) x1) 93 (v1 + 1))) + ((up_ M 98 ((10 * (M 93 v1)) + (M 93 (v1 + 1))) x1) 93 v1)) x1) 93 v1)) (shl_ 1 ((up_ (up_ M 98 ((10 * (M 93 v1)) + (M 93 (v1 + 1))) x1) 98 ((10 * ((up_ M 98 ((10 * (M 93 v1)) + (M 93 (v1 + 1))) x1) 93 (v1 + 1))) + ((up_ M 98 ((10 * (M 93 v1)) + (M 93 (v1 + 1))) x1) 93 v1)) x1) 93 (v1 + 6))))) 93 (v1 + 1)) (or_ ((up_ (up_ (up_ M 98 ((10 * (M 93 v1)) + (M 93 (v1 + 1))) x1) 98 ((10 * ((up_ M 98 ((10 * (M 93 v1)) + (M 93 (v1 + 1))) x1) 93 (v1 + 1))) + ((up_ M 98 ((10 * (M 93 v1)) + (M 93 (v1 + 1))) x1) 93 v1)) x1) 97 ((up_ (up_ M 98 ((10 * (M 93 v1)) + (M 93 (v1 + 1))) x1) 98 ((10 * ((up_ M 98 ((10 * (M 93 v1)) + (M 93 (v1 + 1))) x1) 93 (v1 + 1))) + ((up_ M 98 ((10 * (M 93 v1)) + (M 93 (v1 + 1))) x1) 93 v1)) x1) 93 v1) (or_ ((up_ (up_ M 98 ((10 * (M 93 v1)) + (M 93 (v1 + 1))) x1) 98 ((10 * ((up_ M 98 ((10 * (M 93 v1)) + (M 93 (v1 + 1))) x1) 93 (v1 + 1))) + ((up_ M 98 ((10 * (M 93 v1)) + (M 93 (v1 + 1))) x1) 93 v1)) x1) 97 ((up_ (up_ M 98 ((10 * (M 93 v1)) + (M 93 (v1 + 1))) x1) 98 ((10 * ((up_ M 98 ((10 * (M 93 v1)) + (M 93 (v1 + 1))) x1) 93 (v1 + 1))) + ((up_ M 98 ((10 * (M 93 v1)) + (M 93 (v1 + 1))) x1) 93 v1)) x1) 93 v1)) (shl_ 1 ((up_ (up_ M 98 ((10 * (M 93 v1)) + (M 93 (v1 + 1))) x1) 98 ((10 * ((up_ M 98 ((10 * (M 93 v1)) + (M 93 (v1 + 1))) x1) 93 (v1 + 1))) + ((up_ M 98 ((10 * (M 93 v1)) + (M 93 (v1 + 1))) x1) 93 v1)) x1) 93 (v1 + 6))))) 97 ((up_ (up_ (up_ M 98 ((10 * (M 93 v1)) + (M 93 (v1 + 1))) x1) 98 ((10 * ((up_ M 98 ((10 * (M 93 v1)) + (M 93 (v1 + 1))) x1) 93 (v1 + 1))) + ((up_ M 98 ((10 * (M 93 v1)) + (M 93 (v1 + 1))) x1) 93 v1)) x1) 97 ((up_ (up_ M 98 ((10 * (M 93 v1)) + (M 93 (v1 + 1))) x1) 98 ((10 * ((up_ M 98 ((10 * (M 93 v1)) + (M 93 (v1 + 1))) x1) 93 (v1 + 1))) + ((up_ M 98 ((10 * (M 93 v1)) + (M 93 (v1 + 1))) x1) 93 v1)) x1) 93 v1) (or_ ((up_ (up_ M 98 ((10 * (M 93 v1)) + (M 93 (v1 + 1))) x1) 98 ((10 * ((up_ M 98 ((10 * (M 93 v1)) + (M 93 (v1 + 1))) x1) 93 (v1 + 1))) + ((up_ M 98 ((10 * (M 93 v1)) + (M 93 (v1 + 1))) x1) 93 v1)) x1) 97 ((up_ (up_ M 98 ((10 * (M 93 v1)) + (M 93 (v1 + 1))) x1) 98 ((10 * ((up_ M 98 ((10 * (M 93 v1)) + (M 93 (v1 + 1))) x1) 93 (v1 + 1))) + ((up_ M 98 ((10 * (M 93 v1)) + (M 93 (v1 + 1))) x1) 93 v1)) x1) 93 v1)) (shl_ 1 ((up_ (up_ M 98 ((10 * (M 93 v1)) + (M 93 (v1 + 1))) x1) 98 ((10 * ((up_ M 98 ((10 * (M 93 v1)) + (M 93 (v1 + 1))) x1) 93 (v1 + 1))) + ((up_ M 98 ((10 * (M 93 v1)) + (M 93 (v1 + 1))) x1) 93 v1)) x1) 93 (v1 + 6))))) 93 (v1 + 1))) (shl_ 1 ((up_ (up_ (up_ M 98 ((10 * (M 93 v1)) + (M 93 (v1 + 1))) x1) 98 ((10 * ((up_ M 98 ((10 * (M 93 v1)) + (M 93 (v1 + 1))) x1) 93 (v1 + 1))) + ((up_ M 98 ((10 * (M 93 v1)) + (M 93 (v1 + 1))) x1) 93 v1)) x1) 97 ((up_ (up_ M 98 ((10 * (M 93 v1)) + (M 93 (v1 + 1))) x1) 98 ((10 * ((up_ M 98 ((10 * (M 93 v1)) + (M 93 (v1 + 1))) x1) 93 (v1 + 1))) + ((up_ M 98 ((10 * (M 93 v1)) + (M 93 (v1 + 1))) x1) 93 v1)) x1) 93 v1) (or_ ((up_ (up_ M 98 ((10 * (M 93 v1)) + (M 93 (v1 + 1))) x1) 98 ((10 * ((up_ M 98 ((10 * (M 93 v1)) + (M 93 (v1 + 1))) x1) 93 (v1 + 1))) + ((up_ M 98 ((10 * (M 93 v1)) + (M 93 (v1 + 1))) x1) 93 v1)) x1) 97 ((up_ (up_ M 98 ((10 * (M 93 v1)) + (M 93 (v1 + 1))) x1) 98 ((10 * ((up_ M 98 ((10 * (M 93 v1)) + (M 93 (v1 + 1))) x1) 93 (v1 + 1))) + ((up_ M 98 ((10 * (M 93 v1)) + (M 93 (v1 + 1))) x1) 93 v1)) x1) 93 v1)) (shl_ 1 ((up_ (up_ M 98 ((10 * (M 93 v1)) + (M 93 (v1 + 1))) x1) 98 ((10 * ((up_ M 98 ((10 * (M 93 v1)) + (M 93 (v1 + 1))) x1) 93 (v1 + 1))) + ((up_ M 98 ((10 * (M 93 v1)) + (M 93 (v1 + 1))) x1) 93 v1)) x1) 93 (v1 + 6))))) 93 (v1 + 6))))), W)) (QV Q)) ∧
    (¬ ((up_ (up_ M 98 ((10 * (M 93 v1)) + (M 93 (v1 + 1))) x1) 98 ((10 * ((up_ M 98 ((10 * (M 93 v1)) + (M 93 (v1 + 1))) x1) 93 (v1 + 1))) + ((up_ M 98 ((10 * (M 93 v1)) + (M 93 (v1 + 1))) x1) 93 v1)) x1) 93 (v1 + 6)) ≥ 0 → Xs 182 (261, [some (some (vR 86)), some (some (vI (x1 + 1))), some (some (vI v1)), d3], [], ((up_ (up_ M 98 ((10 * (M 93 v1)) + (M 93 (v1 + 1))) x1) 98 ((10 * ((up_ M 98 ((10 * (M 93 v1)) + (M 93 (v1 + 1))) x1) 93 (v1 + 1))) + ((up_ M 98 ((10 * (M 93 v1)) + (M 93 (v1 + 1))) x1) 93 v1)) x1), W)) (QV Q))))))) : Xs 182 (261, [some (some (vR 86)), some (some (vI x1)), d2, d3], [], (M, W)) (QV Q) :=
  wpN_X (cut := fun p => Nat.beq p 2 || Nat.beq p 31 || Nat.beq p 60 || Nat.beq p 101 || Nat.beq p 132 || Nat.beq p 161 || Nat.beq p 190 || Nat.beq p 219 || Nat.beq p 240 || Nat.beq p 261 || Nat.beq p 399 || Nat.beq p 460 || Nat.beq p 518 || Nat.beq p 528 || Nat.beq p 587 || Nat.beq p 607) 101 _ _ h
set_option maxRecDepth 20000 in
theorem k_X12_keep_399 (x1 : Int) (d2 : aL) (d3 : aL) (M : aM) (W : aW) (Q : aM → aW → Prop) (h :
  (inI x1 ∧ inI (M 89 4)) ∧ 
  ((x1 ≥ (M 89 4) → CallI 181 [vR 86] (M, W) (fun r3 M1 W2 => Xs 182 (460, [some (some (vR 86)), some (some (vI 0)), d2, d3], [], ((up_ (up_ M1 86 22 (shl_ 1 r3)) 86 23 1), W2)) (QV Q))) ∧
  (¬ x1 ≥ (M 89 4) → (0 ≤ (2 * x1) ∧ (2 * x1) < 32) ∧ (0 ≤ (M 95 (2 * x1)) ∧ (M 95 (2 * x1)) < 10) ∧ (0 ≤ ((2 * x1) + 1) ∧ ((2 * x1) + 1) < 32) ∧ (0 ≤ (M 95 (2 * x1)) ∧ (M 95 (2 * x1)) < 10) ∧ Xs 182 (399, [some (some (vR 86)), some (some (vI (x1 + 1))), d2, d3], [], ((up_ M 97 (M 95 (2 * x1)) (or_ (M 97 (M 95 (2 * x1))) (shl_ 1 (M 95 ((2 * x1) + 1))))), W)) (QV Q)))) : Xs 182 (399, [some (some (vR 86)), some (some (vI x1)), d2, d3], [], (M, W)) (QV Q) :=
  wpN_X (cut := fun p => Nat.beq p 2 || Nat.beq p 31 || Nat.beq p 60 || Nat.beq p 101 || Nat.beq p 132 || Nat.beq p 161 || Nat.beq p 190 || Nat.beq p 219 || Nat.beq p 240 || Nat.beq p 261 || Nat.beq p 399 || Nat.beq p 460 || Nat.beq p 518 || Nat.beq p 528 || Nat.beq p 587 || Nat.beq p 607) 45 _ _ h
set_option maxRecDepth 20000 in
theorem k_X12_keep_460 (x1 : Int) (d2 : aL) (d3 : aL) (M : aM) (W : aW) (Q : aM → aW → Prop) (h :
  (inI x1) ∧ 
  ((x1 ≥ 7 → Xs 182 (518, [some (some (vR 86)), some (some (vI 0)), some (some (vI 0)), d3], [], (M, W)) (QV Q)) ∧
  (¬ x1 ≥ 7 → (inI x1) ∧ 
    ((x1 ≠ 0 → (0 ≤ (x1 - 1) ∧ (x1 - 1) < 7) ∧ (0 ≤ x1 ∧ x1 < 7) ∧ CallI 181 [vR 86] ((up_ M 99 x1 (3 * (M 99 (x1 - 1)))), W) (fun r3 M1 W2 => (inI x1 ∧ inI r3) ∧ 
      ((x1 ≥ r3 → Xs 182 (460, [some (some (vR 86)), some (some (vI (x1 + 1))), d2, d3], [], (M1, W2)) (QV Q)) ∧
      (¬ x1 ≥ r3 → Xs 182 (460, [some (some (vR 86)), some (some (vI (x1 + 1))), d2, d3], [], ((up_ M1 86 23 ((M1 86 23) * 3)), W2)) (QV Q))))) ∧
    (¬ x1 ≠ 0 → (0 ≤ x1 ∧ x1 < 7) ∧ CallI 181 [vR 86] ((up_ M 99 x1 1), W) (fun r6 M4 W5 => (inI x1 ∧ inI r6) ∧ 
      ((x1 ≥ r6 → Xs 182 (460, [some (some (vR 86)), some (some (vI (x1 + 1))), d2, d3], [], (M4, W5)) (QV Q)) ∧
      (¬ x1 ≥ r6 → Xs 182 (460, [some (some (vR 86)), some (some (vI (x1 + 1))), d2, d3], [], ((up_ M4 86 23 ((M4 86 23) * 3)), W5)) (QV Q))))))))) : Xs 182 (460, [some (some (vR 86)), some (some (vI x1)), d2, d3], [], (M, W)) (QV Q) :=
  wpN_X (cut := fun p => Nat.beq p 2 || Nat.beq p 31 || Nat.beq p 60 || Nat.beq p 101 || Nat.beq p 132 || Nat.beq p 161 || Nat.beq p 190 || Nat.beq p 219 || Nat.beq p 240 || Nat.beq p 261 || Nat.beq p 399 || Nat.beq p 460 || Nat.beq p 518 || Nat.beq p 528 || Nat.beq p 587 || Nat.beq p 607) 59 _ _ h
set_option maxRecDepth 20000 in
theorem k_X12_keep_518 (x1 : Int) (x2 : Int) (d3 : aL) (M : aM) (W : aW) (Q : aM → aW → Prop) (h :
  CallI 181 [vR 86] (M, W) (fun r3 M1 W2 => (inI x2 ∧ inI r3) ∧ 
  ((x2 > r3 → Xs 182 (587, [some (some (vR 86)), some (some (vI x1)), some (some (vI 0)), d3], [], ((up_ (up_ (up_ M1 86 43 0) 86 41 0) 86 54 0), W2)) (QV Q)) ∧
  (¬ x2 > r3 → Xs 182 (528, [some (some (vR 86)), some (some (vI x1)), some (some (vI x2)), some (some (vI 0))], [], (M1, W2)) (QV Q))))) : Xs 182 (518, [some (some (vR 86)), some (some (vI x1)), some (some (vI x2)), d3], [], (M, W)) (QV Q) :=
  wpN_X (cut := fun p => Nat.beq p 2 || Nat.beq p 31 || Nat.beq p 60 || Nat.beq p 101 || Nat.beq p 132 || Nat.beq p 161 || Nat.beq p 190 || Nat.beq p 219 || Nat.beq p 240 || Nat.beq p 261 || Nat.beq p 399 || Nat.beq p 460 || Nat.beq p 518 || Nat.beq p 528 || Nat.beq p 587 || Nat.beq p 607) 21 _ _ h
set_option maxRecDepth 20000 in
theorem k_X12_keep_528 (x1 : Int) (x2 : Int) (x3 : Int) (M : aM) (W : aW) (Q : aM → aW → Prop) (h :
  (inI x3 ∧ inI (M 86 23)) ∧ 
  ((x3 ≥ (M 86 23) → Xs 182 (518, [some (some (vR 86)), some (some (vI x1)), some (some (vI (x2 + 1))), some (some (vI x3))], [], (M, W)) (QV Q)) ∧
  (¬ x3 ≥ (M 86 23) → CallI 184 [vR 86, vI x3] (M, W) (fun r3 M1 W2 => (inI r3 ∧ inI x2) ∧ 
    ((r3 = x2 → (0 ≤ x1 ∧ x1 < 729) ∧ Xs 182 (528, [some (some (vR 86)), some (some (vI (x1 + 1))), some (some (vI x2)), some (some (vI (x3 + 1)))], [], ((up_ M1 100 x1 x3), W2)) (QV Q)) ∧
    (¬ r3 = x2 → Xs 182 (528, [some (some (vR 86)), some (some (vI x1)), some (some (vI x2)), some (some (vI (x3 + 1)))], [], (M1, W2)) (QV Q))))))) : Xs 182 (528, [some (some (vR 86)), some (some (vI x1)), some (some (vI x2)), some (some (vI x3))], [], (M, W)) (QV Q) :=
  wpN_X (cut := fun p => Nat.beq p 2 || Nat.beq p 31 || Nat.beq p 60 || Nat.beq p 101 || Nat.beq p 132 || Nat.beq p 161 || Nat.beq p 190 || Nat.beq p 219 || Nat.beq p 240 || Nat.beq p 261 || Nat.beq p 399 || Nat.beq p 460 || Nat.beq p 518 || Nat.beq p 528 || Nat.beq p 587 || Nat.beq p 607) 27 _ _ h
set_option maxRecDepth 20000 in
theorem k_X12_keep_587 (x1 : Int) (x2 : Int) (d3 : aL) (M : aM) (W : aW) (Q : aM → aW → Prop) (h :
  (inI x2) ∧ 
  ((x2 ≥ 3 → Xs 182 (607, [some (some (vR 86)), some (some (vI x1)), some (some (vI 0)), d3], [], (M, W)) (QV Q)) ∧
  (¬ x2 ≥ 3 → (0 ≤ x2 ∧ x2 < 3) ∧ Xs 182 (587, [some (some (vR 86)), some (some (vI x1)), some (some (vI (x2 + 1))), d3], [], ((up_ M 107 x2 0), W)) (QV Q)))) : Xs 182 (587, [some (some (vR 86)), some (some (vI x1)), some (some (vI x2)), d3], [], (M, W)) (QV Q) :=
  wpN_X (cut := fun p => Nat.beq p 2 || Nat.beq p 31 || Nat.beq p 60 || Nat.beq p 101 || Nat.beq p 132 || Nat.beq p 161 || Nat.beq p 190 || Nat.beq p 219 || Nat.beq p 240 || Nat.beq p 261 || Nat.beq p 399 || Nat.beq p 460 || Nat.beq p 518 || Nat.beq p 528 || Nat.beq p 587 || Nat.beq p 607) 16 _ _ h
set_option maxRecDepth 20000 in
theorem k_X12_keep_607 (x1 : Int) (x2 : Int) (d3 : aL) (M : aM) (W : aW) (Q : aM → aW → Prop) (h :
  (inI x2) ∧ 
  ((x2 ≥ 58320 → CallV 186 [vR 86] (M, W) (fun M1 W2 => Q M1 W2)) ∧
  (¬ x2 ≥ 58320 → (0 ≤ x2 ∧ x2 < 58320) ∧ Xs 182 (607, [some (some (vR 86)), some (some (vI x1)), some (some (vI (x2 + 1))), d3], [], ((up_ M 113 x2 0), W)) (QV Q)))) : Xs 182 (607, [some (some (vR 86)), some (some (vI x1)), some (some (vI x2)), d3], [], (M, W)) (QV Q) :=
  wpN_X (cut := fun p => Nat.beq p 2 || Nat.beq p 31 || Nat.beq p 60 || Nat.beq p 101 || Nat.beq p 132 || Nat.beq p 161 || Nat.beq p 190 || Nat.beq p 219 || Nat.beq p 240 || Nat.beq p 261 || Nat.beq p 399 || Nat.beq p 460 || Nat.beq p 518 || Nat.beq p 528 || Nat.beq p 587 || Nat.beq p 607) 16 _ _ h
set_option maxRecDepth 20000 in
theorem e_X12_digit (x1 : Int) (x2 : Int) (M : aM) (W : aW) (Q : Int → aM → aW → Prop) (h :
  (0 ≤ x2 ∧ x2 < 7) ∧ (inI x1 ∧ inI (M 99 x2) ∧ (M 99 x2) ≠ 0) ∧ (inI (Int.tdiv x1 (M 99 x2)) ∧ inI 3 ∧ (3 : Int) ≠ 0) ∧ Q (Int.tmod (Int.tdiv x1 (M 99 x2)) 3) M W) : CallI 183 [vR 86, vI x1, vI x2] (M, W) Q :=
  wpN_X (cut := fun p => false) 11 _ _ h
set_option maxRecDepth 20000 in
theorem e_X12_openIn (x1 : Int) (M : aM) (W : aW) (Q : Int → aM → aW → Prop) (h :
  Xs 184 (4, [some (some (vR 86)), some (some (vI x1)), some (some (vI 0)), some (some (vI 0))], [], (M, W)) (QI Q)) : CallI 184 [vR 86, vI x1] (M, W) Q :=
  wpN_X (cut := fun p => Nat.beq p 4) 7 _ _ h
set_option maxRecDepth 20000 in
theorem k_X12_openIn_4 (x1 : Int) (x2 : Int) (x3 : Int) (M : aM) (W : aW) (Q : Int → aM → aW → Prop) (h :
  CallI 181 [vR 86] (M, W) (fun r3 M1 W2 => (inI x3 ∧ inI r3) ∧ 
  ((x3 ≥ r3 → Q x2 M1 W2) ∧
  (¬ x3 ≥ r3 → CallI 183 [vR 86, vI x1, vI x3] (M1, W2) (fun r6 M4 W5 => (inI r6) ∧ 
    ((r6 ≠ 0 → (∀ v7 : Int, v7 = x2 + 0 → Xs 184 (4, [some (some (vR 86)), some (some (vI x1)), some (some (vI v7)), some (some (vI (x3 + 1)))], [], (M4, W5)) (QI Q))) ∧
    (¬ r6 ≠ 0 → (∀ v8 : Int, v8 = x2 + 1 → Xs 184 (4, [some (some (vR 86)), some (some (vI x1)), some (some (vI v8)), some (some (vI (x3 + 1)))], [], (M4, W5)) (QI Q))))))))) : Xs 184 (4, [some (some (vR 86)), some (some (vI x1)), some (some (vI x2)), some (some (vI x3))], [], (M, W)) (QI Q) :=
  wpN_X (cut := fun p => Nat.beq p 4) 27 _ _ h
set_option maxRecDepth 20000 in
theorem e_X12_layUse (x1 : Int) (x2 : Int) (M : aM) (W : aW) (Q : aM → aW → Prop) (h :
  Xs 185 (2, [some (some (vR 86)), some (some (vI x1)), some (some (vI x2)), some (some (vI 0)), none, none, none, none, none, none, none, none, none, none, none], [], (M, W)) (QV Q)) : CallV 185 [vR 86, vI x1, vI x2] (M, W) Q :=
  wpN_X (cut := fun p => Nat.beq p 2 || Nat.beq p 16 || Nat.beq p 35 || Nat.beq p 93 || Nat.beq p 135 || Nat.beq p 172 || Nat.beq p 189 || Nat.beq p 208 || Nat.beq p 282) 5 _ _ h
set_option maxRecDepth 20000 in
theorem k_X12_layUse_2 (x1 : Int) (x2 : Int) (x3 : Int) (d4 : aL) (d5 : aL) (d6 : aL) (d7 : aL) (d8 : aL) (d9 : aL) (d10 : aL) (d11 : aL) (d12 : aL) (d13 : aL) (d14 : aL) (M : aM) (W : aW) (Q : aM → aW → Prop) (h :
  (inI x3 ∧ inI (M 86 22)) ∧ 
  ((x3 ≥ (M 86 22) → CallV 190 [vR 86] (M, W) (fun M1 W2 => Q M1 W2)) ∧
  (¬ x3 ≥ (M 86 22) → Xs 185 (16, [some (some (vR 86)), some (some (vI x1)), some (some (vI x2)), some (some (vI x3)), some (some (vL 0)), some none, some (some (vI 0)), d7, d8, d9, d10, d11, d12, d13, d14], [], (M, W)) (QV Q)))) : Xs 185 (2, [some (some (vR 86)), some (some (vI x1)), some (some (vI x2)), some (some (vI x3)), d4, d5, d6, d7, d8, d9, d10, d11, d12, d13, d14], [], (M, W)) (QV Q) :=
  wpN_X (cut := fun p => Nat.beq p 2 || Nat.beq p 16 || Nat.beq p 35 || Nat.beq p 93 || Nat.beq p 135 || Nat.beq p 172 || Nat.beq p 189 || Nat.beq p 208 || Nat.beq p 282) 14 _ _ h
set_option maxRecDepth 20000 in
theorem k_X12_layUse_16 (x1 : Int) (x2 : Int) (x3 : Int) (x4 : Int) (x6 : Int) (d7 : aL) (d8 : aL) (d9 : aL) (d10 : aL) (d11 : aL) (d12 : aL) (d13 : aL) (d14 : aL) (M : aM) (W : aW) (Q : aM → aW → Prop) (h :
  (inI x6 ∧ inI (shl_ 1 (M 89 1))) ∧ 
  ((x6 ≥ (shl_ 1 (M 89 1)) → (0 ≤ x3 ∧ x3 < 64) ∧ Xs 185 (2, [some (some (vR 86)), some (some (vI x1)), some (some (vI x2)), some (some (vI (x3 + 1))), some (some (vL x4)), some none, some (some (vI x6)), d7, d8, d9, d10, d11, d12, d13, d14], [], ((up_ M 102 x3 x4), W)) (QV Q)) ∧
  (¬ x6 ≥ (shl_ 1 (M 89 1)) → Xs 185 (35, [some (some (vR 86)), some (some (vI x1)), some (some (vI x2)), some (some (vI x3)), some (some (vL x4)), some none, some (some (vI x6)), some (some (vL 1)), some none, some (some (vI 0)), d10, d11, d12, d13, d14], [], (M, W)) (QV Q)))) : Xs 185 (16, [some (some (vR 86)), some (some (vI x1)), some (some (vI x2)), some (some (vI x3)), some (some (vL x4)), some none, some (some (vI x6)), d7, d8, d9, d10, d11, d12, d13, d14], [], (M, W)) (QV Q) :=
  wpN_X (cut := fun p => Nat.beq p 2 || Nat.beq p 16 || Nat.beq p 35 || Nat.beq p 93 || Nat.beq p 135 || Nat.beq p 172 || Nat.beq p 189 || Nat.beq p 208 || Nat.beq p 282) 23 _ _ h
set_option maxRecDepth 20000 in
theorem k_X12_layUse_35 (x1 : Int) (x2 : Int) (x3 : Int) (x4 : Int) (x6 : Int) (x7 : Int) (x9 : Int) (d10 : aL) (d11 : aL) (d12 : aL) (d13 : aL) (d14 : aL) (M : aM) (W : aW) (Q : aM → aW → Prop) (h :
  (inI x9 ∧ inI (M 89 1)) ∧ 
  ((x9 ≥ (M 89 1) → Xs 185 (93, [some (some (vR 86)), some (some (vI x1)), some (some (vI x2)), some (some (vI x3)), some (some (vL x4)), some none, some (some (vI x6)), some (some (vL x7)), some none, some (some (vI 0)), d10, d11, d12, d13, d14], [], (M, W)) (QV Q)) ∧
  (¬ x9 ≥ (M 89 1) → (inI (and_ (shr_ x6 x9) 1)) ∧ 
    (((and_ (shr_ x6 x9) 1) ≠ 1 → (0 ≤ x9 ∧ x9 < 4) ∧ (inI (10 - (M 92 x9))) ∧ (∀ v1 : Int, v1 = x7 * (10 - (M 92 x9)) → Xs 185 (35, [some (some (vR 86)), some (some (vI x1)), some (some (vI x2)), some (some (vI x3)), some (some (vL x4)), some none, some (some (vI x6)), some (some (vL v1)), some none, some (some (vI (x9 + 1))), d10, d11, d12, d13, d14], [], (M, W)) (QV Q))) ∧
    (¬ (and_ (shr_ x6 x9) 1) ≠ 1 → (0 ≤ x9 ∧ x9 < 4) ∧ (inI (M 92 x9)) ∧ (∀ v2 : Int, v2 = x7 * (M 92 x9) → Xs 185 (35, [some (some (vR 86)), some (some (vI x1)), some (some (vI x2)), some (some (vI x3)), some (some (vL x4)), some none, some (some (vI x6)), some (some (vL v2)), some none, some (some (vI (x9 + 1))), d10, d11, d12, d13, d14], [], (M, W)) (QV Q))))))) : Xs 185 (35, [some (some (vR 86)), some (some (vI x1)), some (some (vI x2)), some (some (vI x3)), some (some (vL x4)), some none, some (some (vI x6)), some (some (vL x7)), some none, some (some (vI x9)), d10, d11, d12, d13, d14], [], (M, W)) (QV Q) :=
  wpN_X (cut := fun p => Nat.beq p 2 || Nat.beq p 16 || Nat.beq p 35 || Nat.beq p 93 || Nat.beq p 135 || Nat.beq p 172 || Nat.beq p 189 || Nat.beq p 208 || Nat.beq p 282) 42 _ _ h
set_option maxRecDepth 20000 in
theorem k_X12_layUse_93 (x1 : Int) (x2 : Int) (x3 : Int) (x4 : Int) (x6 : Int) (x7 : Int) (x9 : Int) (d10 : aL) (d11 : aL) (d12 : aL) (d13 : aL) (d14 : aL) (M : aM) (W : aW) (Q : aM → aW → Prop) (h :
  CallI 181 [vR 86] (M, W) (fun r3 M1 W2 => (inI x9 ∧ inI r3) ∧ 
  ((x9 ≥ r3 → (∀ v4 : Int, v4 = x4 + x7 → Xs 185 (16, [some (some (vR 86)), some (some (vI x1)), some (some (vI x2)), some (some (vI x3)), some (some (vL v4)), some none, some (some (vI (x6 + 1))), some (some (vL x7)), some none, some (some (vI x9)), d10, d11, d12, d13, d14], [], (M1, W2)) (QV Q))) ∧
  (¬ x9 ≥ r3 → (0 ≤ x9 ∧ x9 < 12) ∧ (∀ v5 : Int, v5 = 7 * (M1 94 x9) → (inI x9 ∧ inI x1) ∧ 
    ((x9 ≠ x1 → (0 ≤ (v5 + 3) ∧ (v5 + 3) < 336) ∧ (∀ v6 : Int, v6 = M1 93 (v5 + 3) → Xs 185 (135, [some (some (vR 86)), some (some (vI x1)), some (some (vI x2)), some (some (vI x3)), some (some (vL x4)), some none, some (some (vI x6)), some (some (vL x7)), some none, some (some (vI x9)), some (some (vI v5)), some (some (vI v6)), d12, d13, d14], [], (M1, W2)) (QV Q))) ∧
    (¬ x9 ≠ x1 → (∀ v7 : Int, v7 = x2 → Xs 185 (135, [some (some (vR 86)), some (some (vI x1)), some (some (vI x2)), some (some (vI x3)), some (some (vL x4)), some none, some (some (vI x6)), some (some (vL x7)), some none, some (some (vI x9)), some (some (vI v5)), some (some (vI v7)), d12, d13, d14], [], (M1, W2)) (QV Q))))))))) : Xs 185 (93, [some (some (vR 86)), some (some (vI x1)), some (some (vI x2)), some (some (vI x3)), some (some (vL x4)), some none, some (some (vI x6)), some (some (vL x7)), some none, some (some (vI x9)), d10, d11, d12, d13, d14], [], (M, W)) (QV Q) :=
  wpN_X (cut := fun p => Nat.beq p 2 || Nat.beq p 16 || Nat.beq p 35 || Nat.beq p 93 || Nat.beq p 135 || Nat.beq p 172 || Nat.beq p 189 || Nat.beq p 208 || Nat.beq p 282) 35 _ _ h
set_option maxRecDepth 20000 in
theorem k_X12_layUse_135 (x1 : Int) (x2 : Int) (x3 : Int) (x4 : Int) (x6 : Int) (x7 : Int) (x9 : Int) (x10 : Int) (x11 : Int) (d12 : aL) (d13 : aL) (d14 : aL) (M : aM) (W : aW) (Q : aM → aW → Prop) (h :
  (0 ≤ (x10 + 4) ∧ (x10 + 4) < 336) ∧ (inI (M 93 (x10 + 4))) ∧ 
  (((M 93 (x10 + 4)) < 0 → Xs 185 (172, [some (some (vR 86)), some (some (vI x1)), some (some (vI x2)), some (some (vI x3)), some (some (vL x4)), some none, some (some (vI x6)), some (some (vL x7)), some none, some (some (vI x9)), some (some (vI x10)), some (some (vI x11)), some (some (vI 0)), d13, d14], [], (M, W)) (QV Q)) ∧
  (¬ (M 93 (x10 + 4)) < 0 → (0 ≤ (x10 + 4) ∧ (x10 + 4) < 336) ∧ (inI (and_ (shr_ x6 (M 93 (x10 + 4))) 1)) ∧ 
    (((and_ (shr_ x6 (M 93 (x10 + 4))) 1) ≠ 1 → Xs 185 (172, [some (some (vR 86)), some (some (vI x1)), some (some (vI x2)), some (some (vI x3)), some (some (vL x4)), some none, some (some (vI x6)), some (some (vL x7)), some none, some (some (vI x9)), some (some (vI x10)), some (some (vI x11)), some (some (vI 0)), d13, d14], [], (M, W)) (QV Q)) ∧
    (¬ (and_ (shr_ x6 (M 93 (x10 + 4))) 1) ≠ 1 → Xs 185 (172, [some (some (vR 86)), some (some (vI x1)), some (some (vI x2)), some (some (vI x3)), some (some (vL x4)), some none, some (some (vI x6)), some (some (vL x7)), some none, some (some (vI x9)), some (some (vI x10)), some (some (vI x11)), some (some (vI 1)), d13, d14], [], (M, W)) (QV Q)))))) : Xs 185 (135, [some (some (vR 86)), some (some (vI x1)), some (some (vI x2)), some (some (vI x3)), some (some (vL x4)), some none, some (some (vI x6)), some (some (vL x7)), some none, some (some (vI x9)), some (some (vI x10)), some (some (vI x11)), d12, d13, d14], [], (M, W)) (QV Q) :=
  wpN_X (cut := fun p => Nat.beq p 2 || Nat.beq p 16 || Nat.beq p 35 || Nat.beq p 93 || Nat.beq p 135 || Nat.beq p 172 || Nat.beq p 189 || Nat.beq p 208 || Nat.beq p 282) 31 _ _ h
set_option maxRecDepth 20000 in
theorem k_X12_layUse_172 (x1 : Int) (x2 : Int) (x3 : Int) (x4 : Int) (x6 : Int) (x7 : Int) (x9 : Int) (x10 : Int) (x11 : Int) (x12 : Int) (d13 : aL) (d14 : aL) (M : aM) (W : aW) (Q : aM → aW → Prop) (h :
  (inI (and_ (shr_ x3 x9) 1)) ∧ 
  (((and_ (shr_ x3 x9) 1) ≠ 1 → Xs 185 (189, [some (some (vR 86)), some (some (vI x1)), some (some (vI x2)), some (some (vI x3)), some (some (vL x4)), some none, some (some (vI x6)), some (some (vL x7)), some none, some (some (vI x9)), some (some (vI x10)), some (some (vI x11)), some (some (vI x12)), some (some (vI 0)), d14], [], (M, W)) (QV Q)) ∧
  (¬ (and_ (shr_ x3 x9) 1) ≠ 1 → Xs 185 (189, [some (some (vR 86)), some (some (vI x1)), some (some (vI x2)), some (some (vI x3)), some (some (vL x4)), some none, some (some (vI x6)), some (some (vL x7)), some none, some (some (vI x9)), some (some (vI x10)), some (some (vI x11)), some (some (vI x12)), some (some (vI 1)), d14], [], (M, W)) (QV Q)))) : Xs 185 (172, [some (some (vR 86)), some (some (vI x1)), some (some (vI x2)), some (some (vI x3)), some (some (vL x4)), some none, some (some (vI x6)), some (some (vL x7)), some none, some (some (vI x9)), some (some (vI x10)), some (some (vI x11)), some (some (vI x12)), d13, d14], [], (M, W)) (QV Q) :=
  wpN_X (cut := fun p => Nat.beq p 2 || Nat.beq p 16 || Nat.beq p 35 || Nat.beq p 93 || Nat.beq p 135 || Nat.beq p 172 || Nat.beq p 189 || Nat.beq p 208 || Nat.beq p 282) 16 _ _ h
set_option maxRecDepth 20000 in
theorem k_X12_layUse_189 (x1 : Int) (x2 : Int) (x3 : Int) (x4 : Int) (x6 : Int) (x7 : Int) (x9 : Int) (x10 : Int) (x11 : Int) (x12 : Int) (x13 : Int) (d14 : aL) (M : aM) (W : aW) (Q : aM → aW → Prop) (h :
  (0 ≤ (x10 + 3) ∧ (x10 + 3) < 336) ∧ (inI (M 93 (x10 + 3))) ∧ 
  (((M 93 (x10 + 3)) ≤ 0 → Xs 185 (208, [some (some (vR 86)), some (some (vI x1)), some (some (vI x2)), some (some (vI x3)), some (some (vL x4)), some none, some (some (vI x6)), some (some (vL x7)), some none, some (some (vI x9)), some (some (vI x10)), some (some (vI x11)), some (some (vI x12)), some (some (vI x13)), some (some (vI 0))], [], (M, W)) (QV Q)) ∧
  (¬ (M 93 (x10 + 3)) ≤ 0 → Xs 185 (208, [some (some (vR 86)), some (some (vI x1)), some (some (vI x2)), some (some (vI x3)), some (some (vL x4)), some none, some (some (vI x6)), some (some (vL x7)), some none, some (some (vI x9)), some (some (vI x10)), some (some (vI x11)), some (some (vI x12)), some (some (vI x13)), some (some (vI 1))], [], (M, W)) (QV Q)))) : Xs 185 (189, [some (some (vR 86)), some (some (vI x1)), some (some (vI x2)), some (some (vI x3)), some (some (vL x4)), some none, some (some (vI x6)), some (some (vL x7)), some none, some (some (vI x9)), some (some (vI x10)), some (some (vI x11)), some (some (vI x12)), some (some (vI x13)), d14], [], (M, W)) (QV Q) :=
  wpN_X (cut := fun p => Nat.beq p 2 || Nat.beq p 16 || Nat.beq p 35 || Nat.beq p 93 || Nat.beq p 135 || Nat.beq p 172 || Nat.beq p 189 || Nat.beq p 208 || Nat.beq p 282) 16 _ _ h
set_option maxRecDepth 20000 in
theorem k_X12_layUse_208 (x1 : Int) (x2 : Int) (x3 : Int) (x4 : Int) (x6 : Int) (x7 : Int) (x9 : Int) (x10 : Int) (x11 : Int) (x12 : Int) (x13 : Int) (x14 : Int) (M : aM) (W : aW) (Q : aM → aW → Prop) (h :
  (inI x12) ∧ 
  ((x12 = 0 → (inI x13) ∧ 
    ((x13 = 0 → (inI x14) ∧ 
      ((x14 = 0 → (∀ v1 : Int, v1 = x7 * 1 → Xs 185 (282, [some (some (vR 86)), some (some (vI x1)), some (some (vI x2)), some (some (vI x3)), some (some (vL x4)), some none, some (some (vI x6)), some (some (vL v1)), some none, some (some (vI x9)), some (some (vI x10)), some (some (vI x11)), some (some (vI x12)), some (some (vI x13)), some (some (vI x14))], [], (M, W)) (QV Q))) ∧
      (¬ x14 = 0 → (inI (10 - x11)) ∧ (∀ v2 : Int, v2 = x7 * (10 - x11) → Xs 185 (282, [some (some (vR 86)), some (some (vI x1)), some (some (vI x2)), some (some (vI x3)), some (some (vL x4)), some none, some (some (vI x6)), some (some (vL v2)), some none, some (some (vI x9)), some (some (vI x10)), some (some (vI x11)), some (some (vI x12)), some (some (vI x13)), some (some (vI x14))], [], (M, W)) (QV Q))))) ∧
    (¬ x13 = 0 → (inI x14) ∧ 
      ((x14 = 0 → (∀ v3 : Int, v3 = x7 * 0 → Xs 185 (282, [some (some (vR 86)), some (some (vI x1)), some (some (vI x2)), some (some (vI x3)), some (some (vL x4)), some none, some (some (vI x6)), some (some (vL v3)), some none, some (some (vI x9)), some (some (vI x10)), some (some (vI x11)), some (some (vI x12)), some (some (vI x13)), some (some (vI x14))], [], (M, W)) (QV Q))) ∧
      (¬ x14 = 0 → (inI x11) ∧ (∀ v4 : Int, v4 = x7 * x11 → Xs 185 (282, [some (some (vR 86)), some (some (vI x1)), some (some (vI x2)), some (some (vI x3)), some (some (vL x4)), some none, some (some (vI x6)), some (some (vL v4)), some none, some (some (vI x9)), some (some (vI x10)), some (some (vI x11)), some (some (vI x12)), some (some (vI x13)), some (some (vI x14))], [], (M, W)) (QV Q))))))) ∧
  (¬ x12 = 0 → (inI x13) ∧ 
    ((x13 ≠ 0 → (inI x14) ∧ 
      ((x14 = 0 → (∀ v5 : Int, v5 = x7 * 1 → Xs 185 (282, [some (some (vR 86)), some (some (vI x1)), some (some (vI x2)), some (some (vI x3)), some (some (vL x4)), some none, some (some (vI x6)), some (some (vL v5)), some none, some (some (vI x9)), some (some (vI x10)), some (some (vI x11)), some (some (vI x12)), some (some (vI x13)), some (some (vI x14))], [], (M, W)) (QV Q))) ∧
      (¬ x14 = 0 → (∀ v6 : Int, v6 = x7 * 10 → Xs 185 (282, [some (some (vR 86)), some (some (vI x1)), some (some (vI x2)), some (some (vI x3)), some (some (vL x4)), some none, some (some (vI x6)), some (some (vL v6)), some none, some (some (vI x9)), some (some (vI x10)), some (some (vI x11)), some (some (vI x12)), some (some (vI x13)), some (some (vI x14))], [], (M, W)) (QV Q))))) ∧
    (¬ x13 ≠ 0 → (∀ v7 : Int, v7 = x7 * 0 → Xs 185 (282, [some (some (vR 86)), some (some (vI x1)), some (some (vI x2)), some (some (vI x3)), some (some (vL x4)), some none, some (some (vI x6)), some (some (vL v7)), some none, some (some (vI x9)), some (some (vI x10)), some (some (vI x11)), some (some (vI x12)), some (some (vI x13)), some (some (vI x14))], [], (M, W)) (QV Q))))))) : Xs 185 (208, [some (some (vR 86)), some (some (vI x1)), some (some (vI x2)), some (some (vI x3)), some (some (vL x4)), some none, some (some (vI x6)), some (some (vL x7)), some none, some (some (vI x9)), some (some (vI x10)), some (some (vI x11)), some (some (vI x12)), some (some (vI x13)), some (some (vI x14))], [], (M, W)) (QV Q) :=
  wpN_X (cut := fun p => Nat.beq p 2 || Nat.beq p 16 || Nat.beq p 35 || Nat.beq p 93 || Nat.beq p 135 || Nat.beq p 172 || Nat.beq p 189 || Nat.beq p 208 || Nat.beq p 282) 56 _ _ h
set_option maxRecDepth 20000 in
theorem k_X12_layUse_282 (x1 : Int) (x2 : Int) (x3 : Int) (x4 : Int) (x6 : Int) (x7 : Int) (x9 : Int) (x10 : Int) (x11 : Int) (x12 : Int) (x13 : Int) (x14 : Int) (M : aM) (W : aW) (Q : aM → aW → Prop) (h :
  Xs 185 (93, [some (some (vR 86)), some (some (vI x1)), some (some (vI x2)), some (some (vI x3)), some (some (vL x4)), some none, some (some (vI x6)), some (some (vL x7)), some none, some (some (vI (x9 + 1))), some (some (vI x10)), some (some (vI x11)), some (some (vI x12)), some (some (vI x13)), some (some (vI x14))], [], (M, W)) (QV Q)) : Xs 185 (282, [some (some (vR 86)), some (some (vI x1)), some (some (vI x2)), some (some (vI x3)), some (some (vL x4)), some none, some (some (vI x6)), some (some (vL x7)), some none, some (some (vI x9)), some (some (vI x10)), some (some (vI x11)), some (some (vI x12)), some (some (vI x13)), some (some (vI x14))], [], (M, W)) (QV Q) :=
  wpN_X (cut := fun p => Nat.beq p 2 || Nat.beq p 16 || Nat.beq p 35 || Nat.beq p 93 || Nat.beq p 135 || Nat.beq p 172 || Nat.beq p 189 || Nat.beq p 208 || Nat.beq p 282) 5 _ _ h
set_option maxRecDepth 20000 in
theorem e_X12_layWeights  (M : aM) (W : aW) (Q : aM → aW → Prop) (h :
  CallV 185 [vR 86, vI (-1), vI 0] (M, W) (fun M1 W2 => Xs 186 (8, [some (some (vR 86)), some (some (vI 0))], [], (M1, W2)) (QV Q))) : CallV 186 [vR 86] (M, W) Q :=
  wpN_X (cut := fun p => Nat.beq p 8) 9 _ _ h
set_option maxRecDepth 20000 in
theorem k_X12_layWeights_8 (x1 : Int) (M : aM) (W : aW) (Q : aM → aW → Prop) (h :
  (inI x1) ∧ 
  ((x1 ≥ 64 → Q M W) ∧
  (¬ x1 ≥ 64 → (inI x1 ∧ inI (M 86 22)) ∧ 
    ((x1 ≥ (M 86 22) → (0 ≤ x1 ∧ x1 < 64) ∧ Xs 186 (8, [some (some (vR 86)), some (some (vI (x1 + 1)))], [], ((up_ M 101 x1 0), W)) (QV Q)) ∧
    (¬ x1 ≥ (M 86 22) → (0 ≤ x1 ∧ x1 < 64) ∧ (0 ≤ x1 ∧ x1 < 64) ∧ Xs 186 (8, [some (some (vR 86)), some (some (vI (x1 + 1)))], [], ((up_ M 101 x1 (M 102 x1)), W)) (QV Q)))))) : Xs 186 (8, [some (some (vR 86)), some (some (vI x1))], [], (M, W)) (QV Q) :=
  wpN_X (cut := fun p => Nat.beq p 8) 27 _ _ h
set_option maxRecDepth 20000 in
theorem e_X12_useAsTold  (M : aM) (W : aW) (Q : aM → aW → Prop) (h :
  Xs 187 (2, [some (some (vR 86)), some (some (vI 0))], [], (M, W)) (QV Q)) : CallV 187 [vR 86] (M, W) Q :=
  wpN_X (cut := fun p => Nat.beq p 2) 5 _ _ h
set_option maxRecDepth 20000 in
theorem k_X12_useAsTold_2 (x1 : Int) (M : aM) (W : aW) (Q : aM → aW → Prop) (h :
  (inI x1 ∧ inI (M 86 22)) ∧ 
  ((x1 ≥ (M 86 22) → CallV 190 [vR 86] (M, W) (fun M1 W2 => Q M1 W2)) ∧
  (¬ x1 ≥ (M 86 22) → (0 ≤ x1 ∧ x1 < 64) ∧ (0 ≤ x1 ∧ x1 < 64) ∧ Xs 187 (2, [some (some (vR 86)), some (some (vI (x1 + 1)))], [], ((up_ M 102 x1 (M 101 x1)), W)) (QV Q)))) : Xs 187 (2, [some (some (vR 86)), some (some (vI x1))], [], (M, W)) (QV Q) :=
  wpN_X (cut := fun p => Nat.beq p 2) 20 _ _ h
set_option maxRecDepth 20000 in
theorem e_X12_unknownIn (x1 : Int) (M : aM) (W : aW) (Q : Int → aM → aW → Prop) (h :
  Xs 188 (2, [some (some (vR 86)), some (some (vI x1)), some (some (vI 0))], [], (M, W)) (QI Q)) : CallI 188 [vR 86, vI x1] (M, W) Q :=
  wpN_X (cut := fun p => Nat.beq p 2) 5 _ _ h
set_option maxRecDepth 20000 in
theorem k_X12_unknownIn_2 (x1 : Int) (x2 : Int) (M : aM) (W : aW) (Q : Int → aM → aW → Prop) (h :
  CallI 183 [vR 86, vI x1, vI x2] (M, W) (fun r3 M1 W2 => (inI r3) ∧ 
  ((r3 = 0 → Q x2 M1 W2) ∧
  (¬ r3 = 0 → Xs 188 (2, [some (some (vR 86)), some (some (vI x1)), some (some (vI (x2 + 1)))], [], (M1, W2)) (QI Q))))) : Xs 188 (2, [some (some (vR 86)), some (some (vI x1)), some (some (vI x2))], [], (M, W)) (QI Q) :=
  wpN_X (cut := fun p => Nat.beq p 2) 12 _ _ h
set_option maxRecDepth 20000 in
theorem e_X12_worldOf (x1 : Int) (M : aM) (W : aW) (Q : Int → aM → aW → Prop) (h :
  Xs 189 (4, [some (some (vR 86)), some (some (vI x1)), some (some (vI 0)), some (some (vI 0))], [], (M, W)) (QI Q)) : CallI 189 [vR 86, vI x1] (M, W) Q :=
  wpN_X (cut := fun p => Nat.beq p 4) 7 _ _ h
set_option maxRecDepth 20000 in
theorem k_X12_worldOf_4 (x1 : Int) (x2 : Int) (x3 : Int) (M : aM) (W : aW) (Q : Int → aM → aW → Prop) (h :
  CallI 181 [vR 86] (M, W) (fun r3 M1 W2 => (inI x3 ∧ inI r3) ∧ 
  ((x3 ≥ r3 → Q x2 M1 W2) ∧
  (¬ x3 ≥ r3 → CallI 183 [vR 86, vI x1, vI x3] (M1, W2) (fun r6 M4 W5 => (inI r6) ∧ 
    ((r6 ≠ 2 → (∀ v7 : Int, v7 = or_ x2 0 → Xs 189 (4, [some (some (vR 86)), some (some (vI x1)), some (some (vI v7)), some (some (vI (x3 + 1)))], [], (M4, W5)) (QI Q))) ∧
    (¬ r6 ≠ 2 → (∀ v8 : Int, v8 = or_ x2 (shl_ 1 x3) → Xs 189 (4, [some (some (vR 86)), some (some (vI x1)), some (some (vI v8)), some (some (vI (x3 + 1)))], [], (M4, W5)) (QI Q))))))))) : Xs 189 (4, [some (some (vR 86)), some (some (vI x1)), some (some (vI x2)), some (some (vI x3))], [], (M, W)) (QI Q) :=
  wpN_X (cut := fun p => Nat.beq p 4) 30 _ _ h
set_option maxRecDepth 20000 in
theorem e_X12_layLikely  (M : aM) (W : aW) (Q : aM → aW → Prop) (h :
  Xs 190 (2, [some (some (vR 86)), some (some (vI 0)), none, none], [], (M, W)) (QV Q)) : CallV 190 [vR 86] (M, W) Q :=
  wpN_X (cut := fun p => Nat.beq p 2) 5 _ _ h
set_option maxRecDepth 20000 in
theorem k_X12_layLikely_2 (x1 : Int) (d2 : aL) (d3 : aL) (M : aM) (W : aW) (Q : aM → aW → Prop) (h :
  (inI x1 ∧ inI (M 86 23)) ∧ 
  ((x1 ≥ (M 86 23) → Q M W) ∧
  (¬ x1 ≥ (M 86 23) → (0 ≤ x1 ∧ x1 < 729) ∧ (∀ v1 : Int, v1 = M 100 x1 → CallI 184 [vR 86, vI v1] (M, W) (fun r4 M2 W3 => (inI r4) ∧ 
    ((r4 ≠ 0 → CallI 188 [vR 86, vI v1] (M2, W3) (fun r7 M5 W6 => (0 ≤ r7 ∧ r7 < 7) ∧ (0 ≤ (v1 + (M5 99 r7)) ∧ (v1 + (M5 99 r7)) < 729) ∧ (0 ≤ r7 ∧ r7 < 7) ∧ (0 ≤ (v1 + (2 * (M5 99 r7))) ∧ (v1 + (2 * (M5 99 r7))) < 729) ∧ (0 ≤ v1 ∧ v1 < 729) ∧ Xs 190 (2, [some (some (vR 86)), some (some (vI (x1 + 1))), some (some (vI v1)), some (some (vI r7))], [], ((up_ M5 103 v1 ((M5 103 (v1 + (M5 99 r7))) + (M5 103 (v1 + (2 * (M5 99 r7)))))), W6)) (QV Q))) ∧
    (¬ r4 ≠ 0 → CallI 189 [vR 86, vI v1] (M2, W3) (fun r10 M8 W9 => (0 ≤ r10 ∧ r10 < 64) ∧ (0 ≤ v1 ∧ v1 < 729) ∧ Xs 190 (2, [some (some (vR 86)), some (some (vI (x1 + 1))), some (some (vI v1)), d3], [], ((up_ M8 103 v1 (M8 102 r10)), W9)) (QV Q))))))))) : Xs 190 (2, [some (some (vR 86)), some (some (vI x1)), d2, d3], [], (M, W)) (QV Q) :=
  wpN_X (cut := fun p => Nat.beq p 2) 62 _ _ h
set_option maxRecDepth 20000 in
theorem e_X12_isWorld (x1 : Int) (M : aM) (W : aW) (Q : Int → aM → aW → Prop) (h :
  (inI x1) ∧ 
  ((x1 < 0 → ((0 : Int) = 0 ∨ (0 : Int) = 1) ∧ Q 0 M W) ∧
  (¬ x1 < 0 → (inI x1 ∧ inI (M 86 22)) ∧ 
    ((x1 ≥ (M 86 22) → ((0 : Int) = 0 ∨ (0 : Int) = 1) ∧ Q 0 M W) ∧
    (¬ x1 ≥ (M 86 22) → ((1 : Int) = 0 ∨ (1 : Int) = 1) ∧ Q 1 M W))))) : CallI 191 [vR 86, vI x1] (M, W) Q :=
  wpN_X (cut := fun p => false) 15 _ _ h
set_option maxRecDepth 20000 in
theorem e_X12_isKnowing (x1 : Int) (M : aM) (W : aW) (Q : Int → aM → aW → Prop) (h :
  (inI x1) ∧ 
  ((x1 < 0 → ((0 : Int) = 0 ∨ (0 : Int) = 1) ∧ Q 0 M W) ∧
  (¬ x1 < 0 → (inI x1 ∧ inI (M 86 23)) ∧ 
    ((x1 ≥ (M 86 23) → ((0 : Int) = 0 ∨ (0 : Int) = 1) ∧ Q 0 M W) ∧
    (¬ x1 ≥ (M 86 23) → ((1 : Int) = 0 ∨ (1 : Int) = 1) ∧ Q 1 M W))))) : CallI 192 [vR 86, vI x1] (M, W) Q :=
  wpN_X (cut := fun p => false) 15 _ _ h
set_option maxRecDepth 20000 in
theorem e_X12_isDoubtful (x1 : Int) (M : aM) (W : aW) (Q : Int → aM → aW → Prop) (h :
  (inI x1) ∧ 
  ((x1 < 0 → ((0 : Int) = 0 ∨ (0 : Int) = 1) ∧ Q 0 M W) ∧
  (¬ x1 < 0 → CallI 181 [vR 86] (M, W) (fun r3 M1 W2 => (inI x1 ∧ inI r3) ∧ 
    ((x1 ≥ r3 → ((0 : Int) = 0 ∨ (0 : Int) = 1) ∧ Q 0 M1 W2) ∧
    (¬ x1 ≥ r3 → ((1 : Int) = 0 ∨ (1 : Int) = 1) ∧ Q 1 M1 W2)))))) : CallI 193 [vR 86, vI x1] (M, W) Q :=
  wpN_X (cut := fun p => false) 15 _ _ h
set_option maxRecDepth 20000 in
theorem e_X12_isPlace (x1 : Int) (M : aM) (W : aW) (Q : Int → aM → aW → Prop) (h :
  (inI x1) ∧ 
  ((x1 < 0 → ((0 : Int) = 0 ∨ (0 : Int) = 1) ∧ Q 0 M W) ∧
  (¬ x1 < 0 → CallI 180 [vR 86] (M, W) (fun r3 M1 W2 => (inI x1 ∧ inI r3) ∧ 
    ((x1 ≥ r3 → ((0 : Int) = 0 ∨ (0 : Int) = 1) ∧ Q 0 M1 W2) ∧
    (¬ x1 ≥ r3 → ((1 : Int) = 0 ∨ (1 : Int) = 1) ∧ Q 1 M1 W2)))))) : CallI 194 [vR 86, vI x1] (M, W) Q :=
  wpN_X (cut := fun p => false) 15 _ _ h
set_option maxRecDepth 20000 in
theorem e_X12_weight (x1 : Int) (M : aM) (W : aW) (Q : Int → aM → aW → Prop) (h :
  CallI 191 [vR 86, vI x1] ((up_ M 86 2 0), W) (fun r3 M1 W2 => (inI r3) ∧ 
  ((r3 = 0 → Q (-1) M1 W2) ∧
  (¬ r3 = 0 → (0 ≤ x1 ∧ x1 < 64) ∧ Q (M1 101 x1) M1 W2)))) : CallL 195 [vR 86, vI x1] (M, W) Q :=
  wpN_X (cut := fun p => false) 17 _ _ h
set_option maxRecDepth 20000 in
theorem e_X12_likely (x1 : Int) (M : aM) (W : aW) (Q : Int → aM → aW → Prop) (h :
  CallI 192 [vR 86, vI x1] ((up_ M 86 2 0), W) (fun r3 M1 W2 => (inI r3) ∧ 
  ((r3 = 0 → Q (-1) M1 W2) ∧
  (¬ r3 = 0 → (0 ≤ x1 ∧ x1 < 729) ∧ Q (M1 103 x1) M1 W2)))) : CallL 196 [vR 86, vI x1] (M, W) Q :=
  wpN_X (cut := fun p => false) 17 _ _ h
set_option maxRecDepth 20000 in
theorem e_X12_shut (x1 : Int) (x2 : Int) (M : aM) (W : aW) (Q : Int → aM → aW → Prop) (h :
  CallI 192 [vR 86, vI x1] ((up_ M 86 2 0), W) (fun r3 M1 W2 => (inI r3) ∧ 
  ((r3 = 0 → Q (-1) M1 W2) ∧
  (¬ r3 = 0 → CallI 193 [vR 86, vI x2] (M1, W2) (fun r6 M4 W5 => (inI r6) ∧ 
    ((r6 ≠ 0 → CallI 183 [vR 86, vI x1, vI x2] (M4, W5) (fun r9 M7 W8 => (inI r9) ∧ 
      ((r9 ≠ 1 → (inI r9) ∧ 
        ((r9 ≠ 2 → (0 ≤ x2 ∧ x2 < 7) ∧ (0 ≤ (x1 + (2 * (M7 99 x2))) ∧ (x1 + (2 * (M7 99 x2))) < 729) ∧ Q (M7 103 (x1 + (2 * (M7 99 x2)))) M7 W8) ∧
        (¬ r9 ≠ 2 → (0 ≤ x1 ∧ x1 < 729) ∧ Q (M7 103 x1) M7 W8))) ∧
      (¬ r9 ≠ 1 → Q 0 M7 W8)))) ∧
    (¬ r6 ≠ 0 → Q (-1) M4 W5))))))) : CallL 197 [vR 86, vI x1, vI x2] (M, W) Q :=
  wpN_X (cut := fun p => false) 49 _ _ h
set_option maxRecDepth 20000 in
theorem e_X12_fails (x1 : Int) (M : aM) (W : aW) (Q : Int → aM → aW → Prop) (h :
  Q 0 (up_ M 86 2 x1) W) : CallI 198 [vR 86, vI x1] (M, W) Q :=
  wpN_X (cut := fun p => false) 7 _ _ h
set_option maxRecDepth 20000 in
theorem e_X12_look (x1 : Int) (x2 : Int) (M : aM) (W : aW) (Q : Int → aM → aW → Prop) (h :
  (inI x1) ∧ 
  ((x1 < 0 → CallI 198 [vR 86, vI 1] ((up_ M 86 2 0), W) (fun r3 M1 W2 => Q r3 M1 W2)) ∧
  (¬ x1 < 0 → (inI x1 ∧ inI ((up_ M 86 2 0) 89 2)) ∧ 
    ((x1 < ((up_ M 86 2 0) 89 2) → CallI 155 [vI x2, vI 0, vI 6] ((up_ M 86 2 0), W) (fun r6 M4 W5 => (inI r6) ∧ 
      ((r6 = 0 → CallI 198 [vR 86, vI 2] (M4, W5) (fun r9 M7 W8 => Q r9 M7 W8)) ∧
      (¬ r6 = 0 → (0 ≤ ((7 * x1) + x2) ∧ ((7 * x1) + x2) < 336) ∧ Q (M4 93 ((7 * x1) + x2)) M4 W5)))) ∧
    (¬ x1 < ((up_ M 86 2 0) 89 2) → CallI 198 [vR 86, vI 1] ((up_ M 86 2 0), W) (fun r12 M10 W11 => Q r12 M10 W11)))))) : CallI 199 [vR 86, vI x1, vI x2] (M, W) Q :=
  wpN_X (cut := fun p => false) 40 _ _ h
set_option maxRecDepth 20000 in
theorem e_X12_hasEnds  (M : aM) (W : aW) (Q : Int → aM → aW → Prop) (h :
  (inI (M 89 6)) ∧ 
  (((M 89 6) = (-1) → ((0 : Int) = 0 ∨ (0 : Int) = 1) ∧ Q 0 M W) ∧
  (¬ (M 89 6) = (-1) → (inI (M 89 7)) ∧ 
    (((M 89 7) = (-1) → ((0 : Int) = 0 ∨ (0 : Int) = 1) ∧ Q 0 M W) ∧
    (¬ (M 89 7) = (-1) → ((1 : Int) = 0 ∨ (1 : Int) = 1) ∧ Q 1 M W))))) : CallI 200 [vR 86] (M, W) Q :=
  wpN_X (cut := fun p => false) 21 _ _ h
set_option maxRecDepth 20000 in
theorem e_X12_hoursOf (x1 : Int) (x2 : Int) (M : aM) (W : aW) (Q : Int → aM → aW → Prop) (h :
  (0 ≤ ((7 * x1) + 6) ∧ ((7 * x1) + 6) < 336) ∧ (∀ v1 : Int, v1 = M 93 ((7 * x1) + 6) → (inI v1) ∧ 
  ((v1 < 0 → (0 ≤ ((7 * x1) + 2) ∧ ((7 * x1) + 2) < 336) ∧ Q (M 93 ((7 * x1) + 2)) M W) ∧
  (¬ v1 < 0 → CallI 183 [vR 86, vI x2, vI v1] (M, W) (fun r4 M2 W3 => (inI r4) ∧ 
    ((r4 ≠ 1 → CallI 183 [vR 86, vI x2, vI v1] (M2, W3) (fun r7 M5 W6 => (inI r7) ∧ 
      ((r7 ≠ 2 → Q (-1) M5 W6) ∧
      (¬ r7 ≠ 2 → (0 ≤ ((7 * x1) + 5) ∧ ((7 * x1) + 5) < 336) ∧ (inI (M5 93 ((7 * x1) + 5))) ∧ 
        (((M5 93 ((7 * x1) + 5)) ≤ 0 → Q (-1) M5 W6) ∧
        (¬ (M5 93 ((7 * x1) + 5)) ≤ 0 → (0 ≤ ((7 * x1) + 2) ∧ ((7 * x1) + 2) < 336) ∧ (0 ≤ ((7 * x1) + 5) ∧ ((7 * x1) + 5) < 336) ∧ Q ((M5 93 ((7 * x1) + 2)) + (M5 93 ((7 * x1) + 5))) M5 W6)))))) ∧
    (¬ r4 ≠ 1 → (0 ≤ ((7 * x1) + 2) ∧ ((7 * x1) + 2) < 336) ∧ Q (M2 93 ((7 * x1) + 2)) M2 W3))))))) : CallI 201 [vR 86, vI x1, vI x2] (M, W) Q :=
  wpN_X (cut := fun p => false) 75 _ _ h
set_option maxRecDepth 20000 in
theorem e_X12_hoursAs (x1 : Int) (x2 : Int) (x3 : Int) (M : aM) (W : aW) (Q : Int → aM → aW → Prop) (h :
  (0 ≤ ((7 * x1) + 6) ∧ ((7 * x1) + 6) < 336) ∧ (∀ v1 : Int, v1 = M 93 ((7 * x1) + 6) → (inI v1) ∧ 
  ((v1 < 0 → CallI 201 [vR 86, vI x1, vI x2] (M, W) (fun r4 M2 W3 => Q r4 M2 W3)) ∧
  (¬ v1 < 0 → CallI 183 [vR 86, vI x2, vI v1] (M, W) (fun r7 M5 W6 => (inI r7) ∧ 
    ((r7 = 0 → (inI x3) ∧ 
      ((x3 = 6 → (0 ≤ ((7 * x1) + 2) ∧ ((7 * x1) + 2) < 336) ∧ Q (M5 93 ((7 * x1) + 2)) M5 W6) ∧
      (¬ x3 = 6 → (inI x3 ∧ inI v1) ∧ 
        ((x3 ≠ v1 → (0 ≤ ((7 * x1) + 5) ∧ ((7 * x1) + 5) < 336) ∧ (inI (M5 93 ((7 * x1) + 5))) ∧ 
          (((M5 93 ((7 * x1) + 5)) ≤ 0 → Q (-1) M5 W6) ∧
          (¬ (M5 93 ((7 * x1) + 5)) ≤ 0 → (0 ≤ ((7 * x1) + 2) ∧ ((7 * x1) + 2) < 336) ∧ (0 ≤ ((7 * x1) + 5) ∧ ((7 * x1) + 5) < 336) ∧ Q ((M5 93 ((7 * x1) + 2)) + (M5 93 ((7 * x1) + 5))) M5 W6))) ∧
        (¬ x3 ≠ v1 → (0 ≤ ((7 * x1) + 2) ∧ ((7 * x1) + 2) < 336) ∧ Q (M5 93 ((7 * x1) + 2)) M5 W6))))) ∧
    (¬ r7 = 0 → CallI 201 [vR 86, vI x1, vI x2] (M5, W6) (fun r10 M8 W9 => Q r10 M8 W9)))))))) : CallI 202 [vR 86, vI x1, vI x2, vI x3] (M, W) Q :=
  wpN_X (cut := fun p => false) 82 _ _ h
set_option maxRecDepth 20000 in
theorem e_X12_layFar (x1 : Int) (x2 : Int) (M : aM) (W : aW) (Q : aM → aW → Prop) (h :
  Xs 203 (2, [some (some (vR 86)), some (some (vI x1)), some (some (vI x2)), some (some (vI 0)), none, none, none, none], [], (M, W)) (QV Q)) : CallV 203 [vR 86, vI x1, vI x2] (M, W) Q :=
  wpN_X (cut := fun p => Nat.beq p 2 || Nat.beq p 42 || Nat.beq p 53) 5 _ _ h
set_option maxRecDepth 20000 in
theorem k_X12_layFar_2 (x1 : Int) (x2 : Int) (x3 : Int) (d4 : aL) (d5 : aL) (d6 : aL) (d7 : aL) (M : aM) (W : aW) (Q : aM → aW → Prop) (h :
  CallI 180 [vR 86] (M, W) (fun r3 M1 W2 => (inI x3 ∧ inI r3) ∧ 
  ((x3 ≥ r3 → Xs 203 (42, [some (some (vR 86)), some (some (vI x1)), some (some (vI x2)), some (some (vI 0)), d4, d5, d6, d7], [], (M1, W2)) (QV Q)) ∧
  (¬ x3 ≥ r3 → (inI x3 ∧ inI (M1 89 7)) ∧ 
    ((x3 ≠ (M1 89 7) → (0 ≤ x3 ∧ x3 < 10) ∧ Xs 203 (2, [some (some (vR 86)), some (some (vI x1)), some (some (vI x2)), some (some (vI (x3 + 1))), d4, d5, d6, d7], [], ((up_ M1 104 x3 1000000), W2)) (QV Q)) ∧
    (¬ x3 ≠ (M1 89 7) → (0 ≤ x3 ∧ x3 < 10) ∧ Xs 203 (2, [some (some (vR 86)), some (some (vI x1)), some (some (vI x2)), some (some (vI (x3 + 1))), d4, d5, d6, d7], [], ((up_ M1 104 x3 0), W2)) (QV Q))))))) : Xs 203 (2, [some (some (vR 86)), some (some (vI x1)), some (some (vI x2)), some (some (vI x3)), d4, d5, d6, d7], [], (M, W)) (QV Q) :=
  wpN_X (cut := fun p => Nat.beq p 2 || Nat.beq p 42 || Nat.beq p 53) 29 _ _ h
set_option maxRecDepth 20000 in
theorem k_X12_layFar_42 (x1 : Int) (x2 : Int) (x3 : Int) (d4 : aL) (d5 : aL) (d6 : aL) (d7 : aL) (M : aM) (W : aW) (Q : aM → aW → Prop) (h :
  CallI 180 [vR 86] (M, W) (fun r3 M1 W2 => (inI x3 ∧ inI r3) ∧ 
  ((x3 ≥ r3 → Q M1 W2) ∧
  (¬ x3 ≥ r3 → Xs 203 (53, [some (some (vR 86)), some (some (vI x1)), some (some (vI x2)), some (some (vI x3)), some (some (vI 0)), d5, d6, d7], [], (M1, W2)) (QV Q))))) : Xs 203 (42, [some (some (vR 86)), some (some (vI x1)), some (some (vI x2)), some (some (vI x3)), d4, d5, d6, d7], [], (M, W)) (QV Q) :=
  wpN_X (cut := fun p => Nat.beq p 2 || Nat.beq p 42 || Nat.beq p 53) 10 _ _ h
set_option maxRecDepth 20000 in
theorem k_X12_layFar_53 (x1 : Int) (x2 : Int) (x3 : Int) (x4 : Int) (d5 : aL) (d6 : aL) (d7 : aL) (M : aM) (W : aW) (Q : aM → aW → Prop) (h :
  (inI x4 ∧ inI (M 89 2)) ∧ 
  ((x4 ≥ (M 89 2) → Xs 203 (42, [some (some (vR 86)), some (some (vI x1)), some (some (vI x2)), some (some (vI (x3 + 1))), some (some (vI x4)), d5, d6, d7], [], (M, W)) (QV Q)) ∧
  (¬ x4 ≥ (M 89 2) → CallI 202 [vR 86, vI x4, vI x1, vI x2] (M, W) (fun r3 M1 W2 => (inI r3) ∧ 
    ((r3 ≥ 0 → (0 ≤ (7 * x4) ∧ (7 * x4) < 336) ∧ (∀ v4 : Int, v4 = M1 93 (7 * x4) → (0 ≤ ((7 * x4) + 1) ∧ ((7 * x4) + 1) < 336) ∧ (∀ v5 : Int, v5 = M1 93 ((7 * x4) + 1) → (0 ≤ v5 ∧ v5 < 10) ∧ (0 ≤ v4 ∧ v4 < 10) ∧ (inI ((M1 104 v5) + r3) ∧ inI (M1 104 v4)) ∧ 
      ((((M1 104 v5) + r3) ≥ (M1 104 v4) → (0 ≤ v4 ∧ v4 < 10) ∧ (0 ≤ v5 ∧ v5 < 10) ∧ (inI ((M1 104 v4) + r3) ∧ inI (M1 104 v5)) ∧ 
        ((((M1 104 v4) + r3) ≥ (M1 104 v5) → Xs 203 (53, [some (some (vR 86)), some (some (vI x1)), some (some (vI x2)), some (some (vI x3)), some (some (vI (x4 + 1))), some (some (vI r3)), some (some (vI v4)), some (some (vI v5))], [], (M1, W2)) (QV Q)) ∧
        (¬ ((M1 104 v4) + r3) ≥ (M1 104 v5) → (0 ≤ v4 ∧ v4 < 10) ∧ (0 ≤ v5 ∧ v5 < 10) ∧ Xs 203 (53, [some (some (vR 86)), some (some (vI x1)), some (some (vI x2)), some (some (vI x3)), some (some (vI (x4 + 1))), some (some (vI r3)), some (some (vI v4)), some (some (vI v5))], [], ((up_ M1 104 v5 ((M1 104 v4) + r3)), W2)) (QV Q)))) ∧
      (¬ ((M1 104 v5) + r3) ≥ (M1 104 v4) → (0 ≤ v5 ∧ v5 < 10) ∧ (0 ≤ v4 ∧ v4 < 10) ∧ (0 ≤ v4 ∧ v4 < 10) ∧ (0 ≤ v5 ∧ v5 < 10) ∧ (inI (((up_ M1 104 v4 ((M1 104 v5) + r3)) 104 v4) + r3) ∧ inI ((up_ M1 104 v4 ((M1 104 v5) + r3)) 104 v5)) ∧ 
        (((((up_ M1 104 v4 ((M1 104 v5) + r3)) 104 v4) + r3) ≥ ((up_ M1 104 v4 ((M1 104 v5) + r3)) 104 v5) → Xs 203 (53, [some (some (vR 86)), some (some (vI x1)), some (some (vI x2)), some (some (vI x3)), some (some (vI (x4 + 1))), some (some (vI r3)), some (some (vI v4)), some (some (vI v5))], [], ((up_ M1 104 v4 ((M1 104 v5) + r3)), W2)) (QV Q)) ∧
        (¬ (((up_ M1 104 v4 ((M1 104 v5) + r3)) 104 v4) + r3) ≥ ((up_ M1 104 v4 ((M1 104 v5) + r3)) 104 v5) → (0 ≤ v4 ∧ v4 < 10) ∧ (0 ≤ v5 ∧ v5 < 10) ∧ Xs 203 (53, [some (some (vR 86)), some (some (vI x1)), some (some (vI x2)), some (some (vI x3)), some (some (vI (x4 + 1))), some (some (vI r3)), some (some (vI v4)), some (some (vI v5))], [], ((up_ (up_ M1 104 v4 ((M1 104 v5) + r3)) 104 v5 (((up_ M1 104 v4 ((M1 104 v5) + r3)) 104 v4) + r3)), W2)) (QV Q)))))))) ∧
    (¬ r3 ≥ 0 → Xs 203 (53, [some (some (vR 86)), some (some (vI x1)), some (some (vI x2)), some (some (vI x3)), some (some (vI (x4 + 1))), some (some (vI r3)), d6, d7], [], (M1, W2)) (QV Q))))))) : Xs 203 (53, [some (some (vR 86)), some (some (vI x1)), some (some (vI x2)), some (some (vI x3)), some (some (vI x4)), d5, d6, d7], [], (M, W)) (QV Q) :=
  wpN_X (cut := fun p => Nat.beq p 2 || Nat.beq p 42 || Nat.beq p 53) 114 _ _ h
set_option maxRecDepth 20000 in
theorem e_X12_fullOf (x1 : Int) (M : aM) (W : aW) (Q : Int → aM → aW → Prop) (h :
  Xs 204 (4, [some (some (vR 86)), some (some (vI x1)), some (some (vI 0)), some (some (vI 0))], [], (M, W)) (QI Q)) : CallI 204 [vR 86, vI x1] (M, W) Q :=
  wpN_X (cut := fun p => Nat.beq p 4) 7 _ _ h
set_option maxRecDepth 20000 in
theorem k_X12_fullOf_4 (x1 : Int) (x2 : Int) (x3 : Int) (M : aM) (W : aW) (Q : Int → aM → aW → Prop) (h :
  CallI 181 [vR 86] (M, W) (fun r3 M1 W2 => (inI x3 ∧ inI r3) ∧ 
  ((x3 ≥ r3 → Q x2 M1 W2) ∧
  (¬ x3 ≥ r3 → (0 ≤ x3 ∧ x3 < 7) ∧ (∀ v4 : Int, v4 = x2 + (((and_ (shr_ x1 x3) 1) + 1) * (M1 99 x3)) → Xs 204 (4, [some (some (vR 86)), some (some (vI x1)), some (some (vI v4)), some (some (vI (x3 + 1)))], [], (M1, W2)) (QI Q)))))) : Xs 204 (4, [some (some (vR 86)), some (some (vI x1)), some (some (vI x2)), some (some (vI x3))], [], (M, W)) (QI Q) :=
  wpN_X (cut := fun p => Nat.beq p 4) 26 _ _ h
set_option maxRecDepth 20000 in
theorem e_X12_knowingOf (x1 : Int) (M : aM) (W : aW) (Q : Int → aM → aW → Prop) (h :
  CallI 204 [vR 86, vI x1] (M, W) (fun r3 M1 W2 => CallV 203 [vR 86, vI r3, vI (-1)] (M1, W2) (fun M4 W5 => (0 ≤ (M4 89 6) ∧ (M4 89 6) < 10) ∧ (inI (M4 104 (M4 89 6))) ∧ 
  (((M4 104 (M4 89 6)) < 1000000 → (0 ≤ (M4 89 6) ∧ (M4 89 6) < 10) ∧ Q (M4 104 (M4 89 6)) M4 W5) ∧
  (¬ (M4 104 (M4 89 6)) < 1000000 → Q (-2) M4 W5))))) : CallI 205 [vR 86, vI x1] (M, W) Q :=
  wpN_X (cut := fun p => false) 28 _ _ h
set_option maxRecDepth 20000 in
theorem e_X12_knowing (x1 : Int) (M : aM) (W : aW) (Q : Int → aM → aW → Prop) (h :
  CallI 191 [vR 86, vI x1] ((up_ M 86 2 0), W) (fun r3 M1 W2 => (inI r3) ∧ 
  ((r3 = 0 → Q (-1) M1 W2) ∧
  (¬ r3 = 0 → CallI 200 [vR 86] (M1, W2) (fun r6 M4 W5 => (inI r6) ∧ 
    ((r6 = 0 → Q (-1) M4 W5) ∧
    (¬ r6 = 0 → CallI 205 [vR 86, vI x1] (M4, W5) (fun r9 M7 W8 => Q r9 M7 W8)))))))) : CallI 206 [vR 86, vI x1] (M, W) Q :=
  wpN_X (cut := fun p => false) 21 _ _ h
set_option maxRecDepth 20000 in
theorem e_X12_isSeen (x1 : Int) (x2 : Int) (M : aM) (W : aW) (Q : Int → aM → aW → Prop) (h :
  Xs 207 (2, [some (some (vR 86)), some (some (vI x1)), some (some (vI x2)), some (some (vI 0))], [], (M, W)) (QI Q)) : CallI 207 [vR 86, vI x1, vI x2] (M, W) Q :=
  wpN_X (cut := fun p => Nat.beq p 2) 5 _ _ h
set_option maxRecDepth 20000 in
theorem k_X12_isSeen_2 (x1 : Int) (x2 : Int) (x3 : Int) (M : aM) (W : aW) (Q : Int → aM → aW → Prop) (h :
  CallI 181 [vR 86] (M, W) (fun r3 M1 W2 => (inI x3 ∧ inI r3) ∧ 
  ((x3 ≥ r3 → Q 1 M1 W2) ∧
  (¬ x3 ≥ r3 → (0 ≤ x1 ∧ x1 < 10) ∧ (inI (and_ (shr_ (M1 97 x1) x3) 1)) ∧ 
    (((and_ (shr_ (M1 97 x1) x3) 1) ≠ 1 → Xs 207 (2, [some (some (vR 86)), some (some (vI x1)), some (some (vI x2)), some (some (vI (x3 + 1)))], [], (M1, W2)) (QI Q)) ∧
    (¬ (and_ (shr_ (M1 97 x1) x3) 1) ≠ 1 → CallI 183 [vR 86, vI x2, vI x3] (M1, W2) (fun r6 M4 W5 => (inI r6) ∧ 
      ((r6 ≠ 0 → Xs 207 (2, [some (some (vR 86)), some (some (vI x1)), some (some (vI x2)), some (some (vI (x3 + 1)))], [], (M4, W5)) (QI Q)) ∧
      (¬ r6 ≠ 0 → Q 0 M4 W5))))))))) : Xs 207 (2, [some (some (vR 86)), some (some (vI x1)), some (some (vI x2)), some (some (vI x3))], [], (M, W)) (QI Q) :=
  wpN_X (cut := fun p => Nat.beq p 2) 31 _ _ h
set_option maxRecDepth 20000 in
theorem e_X12_arrives (x1 : Int) (x2 : Int) (x3 : Int) (x4 : Int) (M : aM) (W : aW) (Q : Int → aM → aW → Prop) (h :
  Xs 208 (6, [some (some (vR 86)), some (some (vI x1)), some (some (vI x2)), some (some (vI x3)), some (some (vI x4)), some (some (vI 0)), some (some (vI 0)), none, none, none, none, none, none], [], (M, W)) (QL Q)) : CallL 208 [vR 86, vI x1, vI x2, vI x3, vI x4] (M, W) Q :=
  wpN_X (cut := fun p => Nat.beq p 6 || Nat.beq p 73 || Nat.beq p 92) 7 _ _ h
set_option maxRecDepth 20000 in
theorem k_X12_arrives_6 (x1 : Int) (x2 : Int) (x3 : Int) (x4 : Int) (x5 : Int) (x6 : Int) (d7 : aL) (d8 : aL) (d9 : aL) (d10 : aL) (d11 : aL) (d12 : aL) (M : aM) (W : aW) (Q : Int → aM → aW → Prop) (h :
  CallI 181 [vR 86] (M, W) (fun r3 M1 W2 => (inI x6 ∧ inI r3) ∧ 
  ((x6 ≥ r3 → (inI x2) ∧ 
    ((x2 = 0 → Xs 208 (73, [some (some (vR 86)), some (some (vI x1)), some (some (vI x2)), some (some (vI x3)), some (some (vI x4)), some (some (vI x5)), some (some (vL (-4000000000000000000))), some none, some (some (vI 0)), d9, d10, d11, d12], [], (M1, W2)) (QL Q)) ∧
    (¬ x2 = 0 → Xs 208 (73, [some (some (vR 86)), some (some (vI x1)), some (some (vI x2)), some (some (vI x3)), some (some (vI x4)), some (some (vI x5)), some (some (vL 0)), some none, some (some (vI 0)), d9, d10, d11, d12], [], (M1, W2)) (QL Q)))) ∧
  (¬ x6 ≥ r3 → (0 ≤ x3 ∧ x3 < 10) ∧ (inI (and_ (shr_ (M1 97 x3) x6) 1)) ∧ 
    (((and_ (shr_ (M1 97 x3) x6) 1) ≠ 1 → (∀ v4 : Int, v4 = x5 + 0 → Xs 208 (6, [some (some (vR 86)), some (some (vI x1)), some (some (vI x2)), some (some (vI x3)), some (some (vI x4)), some (some (vI v4)), some (some (vI (x6 + 1))), d7, d8, d9, d10, d11, d12], [], (M1, W2)) (QL Q))) ∧
    (¬ (and_ (shr_ (M1 97 x3) x6) 1) ≠ 1 → CallI 183 [vR 86, vI x4, vI x6] (M1, W2) (fun r7 M5 W6 => (inI r7) ∧ 
      ((r7 ≠ 0 → (∀ v8 : Int, v8 = x5 + 0 → Xs 208 (6, [some (some (vR 86)), some (some (vI x1)), some (some (vI x2)), some (some (vI x3)), some (some (vI x4)), some (some (vI v8)), some (some (vI (x6 + 1))), d7, d8, d9, d10, d11, d12], [], (M5, W6)) (QL Q))) ∧
      (¬ r7 ≠ 0 → (∀ v9 : Int, v9 = x5 + 1 → Xs 208 (6, [some (some (vR 86)), some (some (vI x1)), some (some (vI x2)), some (some (vI x3)), some (some (vI x4)), some (some (vI v9)), some (some (vI (x6 + 1))), d7, d8, d9, d10, d11, d12], [], (M5, W6)) (QL Q))))))))))) : Xs 208 (6, [some (some (vR 86)), some (some (vI x1)), some (some (vI x2)), some (some (vI x3)), some (some (vI x4)), some (some (vI x5)), some (some (vI x6)), d7, d8, d9, d10, d11, d12], [], (M, W)) (QL Q) :=
  wpN_X (cut := fun p => Nat.beq p 6 || Nat.beq p 73 || Nat.beq p 92) 54 _ _ h
set_option maxRecDepth 20000 in
theorem k_X12_arrives_73 (x1 : Int) (x2 : Int) (x3 : Int) (x4 : Int) (x5 : Int) (x6 : Int) (x8 : Int) (d9 : aL) (d10 : aL) (d11 : aL) (d12 : aL) (M : aM) (W : aW) (Q : Int → aM → aW → Prop) (h :
  (inI x8 ∧ inI (shl_ 1 x5)) ∧ 
  ((x8 ≥ (shl_ 1 x5) → Q x6 M W) ∧
  (¬ x8 ≥ (shl_ 1 x5) → Xs 208 (92, [some (some (vR 86)), some (some (vI x1)), some (some (vI x2)), some (some (vI x3)), some (some (vI x4)), some (some (vI x5)), some (some (vL x6)), some none, some (some (vI x8)), some (some (vI x4)), some (some (vI 0)), some (some (vI 0)), d12], [], (M, W)) (QL Q)))) : Xs 208 (73, [some (some (vR 86)), some (some (vI x1)), some (some (vI x2)), some (some (vI x3)), some (some (vI x4)), some (some (vI x5)), some (some (vL x6)), some none, some (some (vI x8)), d9, d10, d11, d12], [], (M, W)) (QL Q) :=
  wpN_X (cut := fun p => Nat.beq p 6 || Nat.beq p 73 || Nat.beq p 92) 16 _ _ h
set_option maxRecDepth 20000 in
theorem k_X12_arrives_92 (x1 : Int) (x2 : Int) (x3 : Int) (x4 : Int) (x5 : Int) (x6 : Int) (x8 : Int) (x9 : Int) (x10 : Int) (x11 : Int) (d12 : aL) (M : aM) (W : aW) (Q : Int → aM → aW → Prop) (h :
  CallI 181 [vR 86] (M, W) (fun r3 M1 W2 => (inI x11 ∧ inI r3) ∧ 
  ((x11 ≥ r3 → (0 ≤ x9 ∧ x9 < 729) ∧ (inL (M1 103 x9) ∧ inL 0) ∧
    (((M1 103 x9) ≠ 0 → (0 ≤ (((7290 * x1) + (10 * x9)) + x3) ∧ (((7290 * x1) + (10 * x9)) + x3) < 29160) ∧ (∀ v4 : Int, v4 = M1 105 (((7290 * x1) + (10 * x9)) + x3) → (inL v4 ∧ inL 4000000000000000000) ∧
      ((v4 < 4000000000000000000 → (inI x2) ∧ 
        ((x2 = 0 → (inL v4 ∧ inL x6) ∧
          ((v4 ≤ x6 → Xs 208 (73, [some (some (vR 86)), some (some (vI x1)), some (some (vI x2)), some (some (vI x3)), some (some (vI x4)), some (some (vI x5)), some (some (vL x6)), some none, some (some (vI (x8 + 1))), some (some (vI x9)), some (some (vI x10)), some (some (vL v4)), some none], [], (M1, W2)) (QL Q)) ∧
          (¬ v4 ≤ x6 → Xs 208 (73, [some (some (vR 86)), some (some (vI x1)), some (some (vI x2)), some (some (vI x3)), some (some (vI x4)), some (some (vI x5)), some (some (vL v4)), some none, some (some (vI (x8 + 1))), some (some (vI x9)), some (some (vI x10)), some (some (vL v4)), some none], [], (M1, W2)) (QL Q)))) ∧
        (¬ x2 = 0 → Xs 208 (73, [some (some (vR 86)), some (some (vI x1)), some (some (vI x2)), some (some (vI x3)), some (some (vI x4)), some (some (vI x5)), some (some (vL (x6 + v4))), some none, some (some (vI (x8 + 1))), some (some (vI x9)), some (some (vI x10)), some (some (vL v4)), some none], [], (M1, W2)) (QL Q)))) ∧
      (¬ v4 < 4000000000000000000 → Q 4000000000000000000 M1 W2)))) ∧
    (¬ (M1 103 x9) ≠ 0 → Xs 208 (73, [some (some (vR 86)), some (some (vI x1)), some (some (vI x2)), some (some (vI x3)), some (some (vI x4)), some (some (vI x5)), some (some (vL x6)), some none, some (some (vI (x8 + 1))), some (some (vI x9)), some (some (vI x10)), some (some (vI x11)), d12], [], (M1, W2)) (QL Q)))) ∧
  (¬ x11 ≥ r3 → (0 ≤ x3 ∧ x3 < 10) ∧ (inI (and_ (shr_ (M1 97 x3) x11) 1)) ∧ 
    (((and_ (shr_ (M1 97 x3) x11) 1) = 0 → Xs 208 (92, [some (some (vR 86)), some (some (vI x1)), some (some (vI x2)), some (some (vI x3)), some (some (vI x4)), some (some (vI x5)), some (some (vL x6)), some none, some (some (vI x8)), some (some (vI x9)), some (some (vI x10)), some (some (vI (x11 + 1))), d12], [], (M1, W2)) (QL Q)) ∧
    (¬ (and_ (shr_ (M1 97 x3) x11) 1) = 0 → CallI 183 [vR 86, vI x4, vI x11] (M1, W2) (fun r7 M5 W6 => (inI r7) ∧ 
      ((r7 = 0 → (0 ≤ x11 ∧ x11 < 7) ∧ (∀ v8 : Int, v8 = x9 + (((and_ (shr_ x8 x10) 1) + 1) * (M5 99 x11)) → Xs 208 (92, [some (some (vR 86)), some (some (vI x1)), some (some (vI x2)), some (some (vI x3)), some (some (vI x4)), some (some (vI x5)), some (some (vL x6)), some none, some (some (vI x8)), some (some (vI v8)), some (some (vI (x10 + 1))), some (some (vI (x11 + 1))), d12], [], (M5, W6)) (QL Q))) ∧
      (¬ r7 = 0 → Xs 208 (92, [some (some (vR 86)), some (some (vI x1)), some (some (vI x2)), some (some (vI x3)), some (some (vI x4)), some (some (vI x5)), some (some (vL x6)), some none, some (some (vI x8)), some (some (vI x9)), some (some (vI x10)), some (some (vI (x11 + 1))), d12], [], (M5, W6)) (QL Q)))))))))) : Xs 208 (92, [some (some (vR 86)), some (some (vI x1)), some (some (vI x2)), some (some (vI x3)), some (some (vI x4)), some (some (vI x5)), some (some (vL x6)), some none, some (some (vI x8)), some (some (vI x9)), some (some (vI x10)), some (some (vI x11)), d12], [], (M, W)) (QL Q) :=
  wpN_X (cut := fun p => Nat.beq p 6 || Nat.beq p 73 || Nat.beq p 92) 98 _ _ h
set_option maxRecDepth 20000 in
theorem e_X12_buys (x1 : Int) (x2 : Int) (x3 : Int) (x4 : Int) (M : aM) (W : aW) (Q : Int → aM → aW → Prop) (h :
  (0 ≤ ((3 * x3) + 1) ∧ ((3 * x3) + 1) < 36) ∧ (∀ v1 : Int, v1 = M 96 ((3 * x3) + 1) → (inI x2) ∧ 
  ((x2 = 0 → Xs 209 (28, [some (some (vR 86)), some (some (vI x1)), some (some (vI x2)), some (some (vI x3)), some (some (vI x4)), some (some (vI v1)), some (some (vL (-4000000000000000000))), some none, some (some (vI 1)), none, none, none], [], (M, W)) (QL Q)) ∧
  (¬ x2 = 0 → Xs 209 (28, [some (some (vR 86)), some (some (vI x1)), some (some (vI x2)), some (some (vI x3)), some (some (vI x4)), some (some (vI v1)), some (some (vL 0)), some none, some (some (vI 1)), none, none, none], [], (M, W)) (QL Q))))) : CallL 209 [vR 86, vI x1, vI x2, vI x3, vI x4] (M, W) Q :=
  wpN_X (cut := fun p => Nat.beq p 28) 24 _ _ h
set_option maxRecDepth 20000 in
theorem k_X12_buys_28 (x1 : Int) (x2 : Int) (x3 : Int) (x4 : Int) (x5 : Int) (x6 : Int) (x8 : Int) (d9 : aL) (d10 : aL) (d11 : aL) (M : aM) (W : aW) (Q : Int → aM → aW → Prop) (h :
  (inI x8) ∧ 
  ((x8 ≥ 3 → Q x6 M W) ∧
  (¬ x8 ≥ 3 → (0 ≤ x5 ∧ x5 < 7) ∧ (∀ v1 : Int, v1 = x4 + (x8 * (M 99 x5)) → (0 ≤ v1 ∧ v1 < 729) ∧ (inL (M 103 v1) ∧ inL 0) ∧
    (((M 103 v1) ≠ 0 → (0 ≤ (3 * x3) ∧ (3 * x3) < 36) ∧ (0 ≤ (((7290 * x1) + (10 * v1)) + (M 96 (3 * x3))) ∧ (((7290 * x1) + (10 * v1)) + (M 96 (3 * x3))) < 29160) ∧ (∀ v2 : Int, v2 = M 105 (((7290 * x1) + (10 * v1)) + (M 96 (3 * x3))) → (inL v2 ∧ inL 4000000000000000000) ∧
      ((v2 < 4000000000000000000 → (inI x2) ∧ 
        ((x2 = 0 → (inL v2 ∧ inL x6) ∧
          ((v2 ≤ x6 → Xs 209 (28, [some (some (vR 86)), some (some (vI x1)), some (some (vI x2)), some (some (vI x3)), some (some (vI x4)), some (some (vI x5)), some (some (vL x6)), some none, some (some (vI (x8 + 1))), some (some (vI v1)), some (some (vL v2)), some none], [], (M, W)) (QL Q)) ∧
          (¬ v2 ≤ x6 → Xs 209 (28, [some (some (vR 86)), some (some (vI x1)), some (some (vI x2)), some (some (vI x3)), some (some (vI x4)), some (some (vI x5)), some (some (vL v2)), some none, some (some (vI (x8 + 1))), some (some (vI v1)), some (some (vL v2)), some none], [], (M, W)) (QL Q)))) ∧
        (¬ x2 = 0 → Xs 209 (28, [some (some (vR 86)), some (some (vI x1)), some (some (vI x2)), some (some (vI x3)), some (some (vI x4)), some (some (vI x5)), some (some (vL (x6 + v2))), some none, some (some (vI (x8 + 1))), some (some (vI v1)), some (some (vL v2)), some none], [], (M, W)) (QL Q)))) ∧
      (¬ v2 < 4000000000000000000 → Q 4000000000000000000 M W)))) ∧
    (¬ (M 103 v1) ≠ 0 → Xs 209 (28, [some (some (vR 86)), some (some (vI x1)), some (some (vI x2)), some (some (vI x3)), some (some (vI x4)), some (some (vI x5)), some (some (vL x6)), some none, some (some (vI (x8 + 1))), some (some (vI v1)), d10, d11], [], (M, W)) (QL Q))))))) : Xs 209 (28, [some (some (vR 86)), some (some (vI x1)), some (some (vI x2)), some (some (vI x3)), some (some (vI x4)), some (some (vI x5)), some (some (vL x6)), some none, some (some (vI x8)), d9, d10, d11], [], (M, W)) (QL Q) :=
  wpN_X (cut := fun p => Nat.beq p 28) 73 _ _ h
set_option maxRecDepth 20000 in
theorem e_X12_layTerm  (M : aM) (W : aW) (Q : aM → aW → Prop) (h :
  Xs 210 (2, [some (some (vR 86)), some (some (vI 0)), none, none, none, none, none, none], [], (M, W)) (QV Q)) : CallV 210 [vR 86] (M, W) Q :=
  wpN_X (cut := fun p => Nat.beq p 2) 5 _ _ h
set_option maxRecDepth 20000 in
theorem k_X12_layTerm_2 (x1 : Int) (d2 : aL) (d3 : aL) (d4 : aL) (d5 : aL) (d6 : aL) (d7 : aL) (M : aM) (W : aW) (Q : aM → aW → Prop) (h :
  (inI x1 ∧ inI (M 86 23)) ∧ 
  ((x1 ≥ (M 86 23) → Q M W) ∧
  (¬ x1 ≥ (M 86 23) → (0 ≤ x1 ∧ x1 < 729) ∧ (∀ v1 : Int, v1 = M 100 x1 → CallI 184 [vR 86, vI v1] (M, W) (fun r4 M2 W3 => (inI r4) ∧ 
    ((r4 ≠ 0 → CallI 188 [vR 86, vI v1] (M2, W3) (fun r7 M5 W6 => (0 ≤ r7 ∧ r7 < 7) ∧ (0 ≤ (v1 + (M5 99 r7)) ∧ (v1 + (M5 99 r7)) < 729) ∧ (inL (M5 103 (v1 + (M5 99 r7))) ∧ inL 0) ∧
      (((M5 103 (v1 + (M5 99 r7))) ≤ 0 → (0 ≤ r7 ∧ r7 < 7) ∧ (0 ≤ (v1 + (2 * (M5 99 r7))) ∧ (v1 + (2 * (M5 99 r7))) < 729) ∧ (inL (M5 103 (v1 + (2 * (M5 99 r7)))) ∧ inL 0) ∧
        (((M5 103 (v1 + (2 * (M5 99 r7)))) ≤ 0 → (inL (-4000000000000000000) ∧ inL (-4000000000000000000)) ∧
          ((((-4000000000000000000) : Int) ≤ (-4000000000000000000) → (0 ≤ v1 ∧ v1 < 729) ∧ Xs 210 (2, [some (some (vR 86)), some (some (vI (x1 + 1))), some (some (vI v1)), some (some (vI r7)), some (some (vL (-4000000000000000000))), some none, some (some (vL (-4000000000000000000))), some none], [], ((up_ M5 109 v1 (-4000000000000000000)), W6)) (QV Q)) ∧
          (¬ ((-4000000000000000000) : Int) ≤ (-4000000000000000000) → (0 ≤ v1 ∧ v1 < 729) ∧ Xs 210 (2, [some (some (vR 86)), some (some (vI (x1 + 1))), some (some (vI v1)), some (some (vI r7)), some (some (vL (-4000000000000000000))), some none, some (some (vL (-4000000000000000000))), some none], [], ((up_ M5 109 v1 (-4000000000000000000)), W6)) (QV Q)))) ∧
        (¬ (M5 103 (v1 + (2 * (M5 99 r7)))) ≤ 0 → (0 ≤ r7 ∧ r7 < 7) ∧ (0 ≤ (v1 + (2 * (M5 99 r7))) ∧ (v1 + (2 * (M5 99 r7))) < 729) ∧ (inL (-4000000000000000000) ∧ inL (M5 109 (v1 + (2 * (M5 99 r7))))) ∧
          ((((-4000000000000000000) : Int) ≤ (M5 109 (v1 + (2 * (M5 99 r7)))) → (0 ≤ v1 ∧ v1 < 729) ∧ Xs 210 (2, [some (some (vR 86)), some (some (vI (x1 + 1))), some (some (vI v1)), some (some (vI r7)), some (some (vL (-4000000000000000000))), some none, some (some (vL (M5 109 (v1 + (2 * (M5 99 r7)))))), some none], [], ((up_ M5 109 v1 (M5 109 (v1 + (2 * (M5 99 r7))))), W6)) (QV Q)) ∧
          (¬ ((-4000000000000000000) : Int) ≤ (M5 109 (v1 + (2 * (M5 99 r7)))) → (0 ≤ v1 ∧ v1 < 729) ∧ Xs 210 (2, [some (some (vR 86)), some (some (vI (x1 + 1))), some (some (vI v1)), some (some (vI r7)), some (some (vL (-4000000000000000000))), some none, some (some (vL (M5 109 (v1 + (2 * (M5 99 r7)))))), some none], [], ((up_ M5 109 v1 (-4000000000000000000)), W6)) (QV Q)))))) ∧
      (¬ (M5 103 (v1 + (M5 99 r7))) ≤ 0 → (0 ≤ r7 ∧ r7 < 7) ∧ (0 ≤ (v1 + (M5 99 r7)) ∧ (v1 + (M5 99 r7)) < 729) ∧ (0 ≤ r7 ∧ r7 < 7) ∧ (0 ≤ (v1 + (2 * (M5 99 r7))) ∧ (v1 + (2 * (M5 99 r7))) < 729) ∧ (inL (M5 103 (v1 + (2 * (M5 99 r7)))) ∧ inL 0) ∧
        (((M5 103 (v1 + (2 * (M5 99 r7)))) ≤ 0 → (inL (M5 109 (v1 + (M5 99 r7))) ∧ inL (-4000000000000000000)) ∧
          (((M5 109 (v1 + (M5 99 r7))) ≤ (-4000000000000000000) → (0 ≤ v1 ∧ v1 < 729) ∧ Xs 210 (2, [some (some (vR 86)), some (some (vI (x1 + 1))), some (some (vI v1)), some (some (vI r7)), some (some (vL (M5 109 (v1 + (M5 99 r7))))), some none, some (some (vL (-4000000000000000000))), some none], [], ((up_ M5 109 v1 (-4000000000000000000)), W6)) (QV Q)) ∧
          (¬ (M5 109 (v1 + (M5 99 r7))) ≤ (-4000000000000000000) → (0 ≤ v1 ∧ v1 < 729) ∧ Xs 210 (2, [some (some (vR 86)), some (some (vI (x1 + 1))), some (some (vI v1)), some (some (vI r7)), some (some (vL (M5 109 (v1 + (M5 99 r7))))), some none, some (some (vL (-4000000000000000000))), some none], [], ((up_ M5 109 v1 (M5 109 (v1 + (M5 99 r7)))), W6)) (QV Q)))) ∧
        (¬ (M5 103 (v1 + (2 * (M5 99 r7)))) ≤ 0 → (0 ≤ r7 ∧ r7 < 7) ∧ (0 ≤ (v1 + (2 * (M5 99 r7))) ∧ (v1 + (2 * (M5 99 r7))) < 729) ∧ (inL (M5 109 (v1 + (M5 99 r7))) ∧ inL (M5 109 (v1 + (2 * (M5 99 r7))))) ∧
          (((M5 109 (v1 + (M5 99 r7))) ≤ (M5 109 (v1 + (2 * (M5 99 r7)))) → (0 ≤ v1 ∧ v1 < 729) ∧ Xs 210 (2, [some (some (vR 86)), some (some (vI (x1 + 1))), some (some (vI v1)), some (some (vI r7)), some (some (vL (M5 109 (v1 + (M5 99 r7))))), some none, some (some (vL (M5 109 (v1 + (2 * (M5 99 r7)))))), some none], [], ((up_ M5 109 v1 (M5 109 (v1 + (2 * (M5 99 r7))))), W6)) (QV Q)) ∧
          (¬ (M5 109 (v1 + (M5 99 r7))) ≤ (M5 109 (v1 + (2 * (M5 99 r7)))) → (0 ≤ v1 ∧ v1 < 729) ∧ Xs 210 (2, [some (some (vR 86)), some (some (vI (x1 + 1))), some (some (vI v1)), some (some (vI r7)), some (some (vL (M5 109 (v1 + (M5 99 r7))))), some none, some (some (vL (M5 109 (v1 + (2 * (M5 99 r7)))))), some none], [], ((up_ M5 109 v1 (M5 109 (v1 + (M5 99 r7)))), W6)) (QV Q))))))))) ∧
    (¬ r4 ≠ 0 → CallI 189 [vR 86, vI v1] (M2, W3) (fun r10 M8 W9 => (0 ≤ r10 ∧ r10 < 64) ∧ (0 ≤ v1 ∧ v1 < 729) ∧ Xs 210 (2, [some (some (vR 86)), some (some (vI (x1 + 1))), some (some (vI v1)), d3, d4, d5, d6, d7], [], ((up_ M8 109 v1 (M8 108 r10)), W9)) (QV Q))))))))) : Xs 210 (2, [some (some (vR 86)), some (some (vI x1)), d2, d3, d4, d5, d6, d7], [], (M, W)) (QV Q) :=
  wpN_X (cut := fun p => Nat.beq p 2) 182 _ _ h
set_option maxRecDepth 20000 in
theorem e_X12_isSold (x1 : Int) (x2 : Int) (x3 : Int) (M : aM) (W : aW) (Q : Int → aM → aW → Prop) (h :
  (0 ≤ (3 * x1) ∧ (3 * x1) < 36) ∧ (inI (M 96 (3 * x1)) ∧ inI x2) ∧ 
  (((M 96 (3 * x1)) ≠ x2 → ((0 : Int) = 0 ∨ (0 : Int) = 1) ∧ Q 0 M W) ∧
  (¬ (M 96 (3 * x1)) ≠ x2 → (0 ≤ ((3 * x1) + 1) ∧ ((3 * x1) + 1) < 36) ∧ CallI 183 [vR 86, vI x3, vI (M 96 ((3 * x1) + 1))] (M, W) (fun r3 M1 W2 => (inI r3) ∧ 
    ((r3 ≠ 0 → ((0 : Int) = 0 ∨ (0 : Int) = 1) ∧ Q 0 M1 W2) ∧
    (¬ r3 ≠ 0 → ((1 : Int) = 0 ∨ (1 : Int) = 1) ∧ Q 1 M1 W2)))))) : CallI 211 [vR 86, vI x1, vI x2, vI x3] (M, W) Q :=
  wpN_X (cut := fun p => false) 29 _ _ h
set_option maxRecDepth 20000 in
theorem e_X12_after (x1 : Int) (x3 : Int) (x4 : Int) (M : aM) (W : aW) (Q : Int → aM → aW → Prop) (h :
  (inL x4 ∧ inL 4000000000000000000) ∧
  ((x4 < 4000000000000000000 → (inI x3) ∧ Q ((x1 * x3) + x4) M W) ∧
  (¬ x4 < 4000000000000000000 → Q 4000000000000000000 M W))) : CallL 212 [vR 86, vL x1, vI x3, vL x4] (M, W) Q :=
  wpN_X (cut := fun p => false) 15 _ _ h
set_option maxRecDepth 20000 in
theorem e_X12_layValues (x1 : Int) (x2 : Int) (M : aM) (W : aW) (Q : aM → aW → Prop) (h :
  Xs 213 (2, [some (some (vR 86)), some (some (vI x1)), some (some (vI x2)), some (some (vI 0))], [], (M, W)) (QV Q)) : CallV 213 [vR 86, vI x1, vI x2] (M, W) Q :=
  wpN_X (cut := fun p => Nat.beq p 2 || Nat.beq p 58) 5 _ _ h
set_option maxRecDepth 20000 in
theorem k_X12_layValues_2 (x1 : Int) (x2 : Int) (x3 : Int) (M : aM) (W : aW) (Q : aM → aW → Prop) (h :
  (inI x3) ∧ 
  ((x3 ≥ 7290 → (inI (M 89 7)) ∧ 
    (((M 89 7) ≠ (-1) → Xs 213 (58, [some (some (vR 86)), some (some (vI x1)), some (some (vI x2)), some (some (vI 0))], [], (M, W)) (QV Q)) ∧
    (¬ (M 89 7) ≠ (-1) → Q M W))) ∧
  (¬ x3 ≥ 7290 → (0 ≤ ((7290 * x1) + x3) ∧ ((7290 * x1) + x3) < 29160) ∧ (0 ≤ ((7290 * x1) + x3) ∧ ((7290 * x1) + x3) < 29160) ∧ Xs 213 (2, [some (some (vR 86)), some (some (vI x1)), some (some (vI x2)), some (some (vI (x3 + 1)))], [], ((up_ (up_ M 105 ((7290 * x1) + x3) 4000000000000000000) 106 ((7290 * x1) + x3) (-2)), W)) (QV Q)))) : Xs 213 (2, [some (some (vR 86)), some (some (vI x1)), some (some (vI x2)), some (some (vI x3))], [], (M, W)) (QV Q) :=
  wpN_X (cut := fun p => Nat.beq p 2 || Nat.beq p 58) 36 _ _ h
set_option maxRecDepth 20000 in
theorem k_X12_layValues_58 (x1 : Int) (x2 : Int) (x3 : Int) (M : aM) (W : aW) (Q : aM → aW → Prop) (h :
  (inI x3 ∧ inI (M 86 23)) ∧ 
  ((x3 ≥ (M 86 23) → Q M W) ∧
  (¬ x3 ≥ (M 86 23) → (0 ≤ x3 ∧ x3 < 729) ∧ (0 ≤ (M 100 x3) ∧ (M 100 x3) < 729) ∧ (inL (M 103 (M 100 x3)) ∧ inL 0) ∧
    (((M 103 (M 100 x3)) ≤ 0 → Xs 213 (58, [some (some (vR 86)), some (some (vI x1)), some (some (vI x2)), some (some (vI (x3 + 1)))], [], (M, W)) (QV Q)) ∧
    (¬ (M 103 (M 100 x3)) ≤ 0 → (0 ≤ x3 ∧ x3 < 729) ∧ CallV 214 [vR 86, vI x1, vI x2, vI (M 100 x3)] (M, W) (fun M1 W2 => Xs 213 (58, [some (some (vR 86)), some (some (vI x1)), some (some (vI x2)), some (some (vI (x3 + 1)))], [], (M1, W2)) (QV Q))))))) : Xs 213 (58, [some (some (vR 86)), some (some (vI x1)), some (some (vI x2)), some (some (vI x3))], [], (M, W)) (QV Q) :=
  wpN_X (cut := fun p => Nat.beq p 2 || Nat.beq p 58) 30 _ _ h
set_option maxRecDepth 20000 in
theorem e_X12_layOne (x1 : Int) (x2 : Int) (x3 : Int) (M : aM) (W : aW) (Q : aM → aW → Prop) (h :
  (∀ v1 : Int, v1 = (7290 * x1) + (10 * x3) → (inI x2) ∧ 
  ((x2 = 0 → Xs 214 (31, [some (some (vR 86)), some (some (vI x1)), some (some (vI x2)), some (some (vI x3)), some (some (vI v1)), some (some (vL 1)), some none, some (some (vI 0)), none, none, none], [], (M, W)) (QV Q)) ∧
  (¬ x2 = 0 → (0 ≤ x3 ∧ x3 < 729) ∧ Xs 214 (31, [some (some (vR 86)), some (some (vI x1)), some (some (vI x2)), some (some (vI x3)), some (some (vI v1)), some (some (vL (M 103 x3))), some none, some (some (vI 0)), none, none, none], [], (M, W)) (QV Q))))) : CallV 214 [vR 86, vI x1, vI x2, vI x3] (M, W) Q :=
  wpN_X (cut := fun p => Nat.beq p 31 || Nat.beq p 97 || Nat.beq p 219 || Nat.beq p 230 || Nat.beq p 320) 26 _ _ h
set_option maxRecDepth 20000 in
theorem k_X12_layOne_31 (x1 : Int) (x2 : Int) (x3 : Int) (x4 : Int) (x5 : Int) (x7 : Int) (d8 : aL) (d9 : aL) (d10 : aL) (M : aM) (W : aW) (Q : aM → aW → Prop) (h :
  CallI 180 [vR 86] (M, W) (fun r3 M1 W2 => (inI x7 ∧ inI r3) ∧ 
  ((x7 ≥ r3 → Xs 214 (97, [some (some (vR 86)), some (some (vI x1)), some (some (vI x2)), some (some (vI x3)), some (some (vI x4)), some (some (vL x5)), some none, some (some (vI 0)), d8, d9, d10], [], (M1, W2)) (QV Q)) ∧
  (¬ x7 ≥ r3 → CallI 207 [vR 86, vI x7, vI x3] (M1, W2) (fun r6 M4 W5 => (inI r6) ∧ 
    ((r6 ≠ 0 → ((0 ≤ x7 ∧ x7 < 10) ∧ (0 : Int) ≤ 0 ∧ (0 : Int) ≤ 1) ∧ (0 ≤ x7 ∧ x7 < 10) ∧ (inI ((up_ M4 111 x7 0) 111 x7)) ∧ 
      ((((up_ M4 111 x7 0) 111 x7) = 0 → Xs 214 (31, [some (some (vR 86)), some (some (vI x1)), some (some (vI x2)), some (some (vI x3)), some (some (vI x4)), some (some (vL x5)), some none, some (some (vI (x7 + 1))), d8, d9, d10], [], ((up_ M4 111 x7 0), W5)) (QV Q)) ∧
      (¬ ((up_ M4 111 x7 0) 111 x7) = 0 → CallL 208 [vR 86, vI x1, vI x2, vI x7, vI x3] ((up_ M4 111 x7 0), W5) (fun r9 M7 W8 => (0 ≤ x7 ∧ x7 < 10) ∧ Xs 214 (31, [some (some (vR 86)), some (some (vI x1)), some (some (vI x2)), some (some (vI x3)), some (some (vI x4)), some (some (vL x5)), some none, some (some (vI (x7 + 1))), d8, d9, d10], [], ((up_ M7 110 x7 r9), W8)) (QV Q))))) ∧
    (¬ r6 ≠ 0 → ((0 ≤ x7 ∧ x7 < 10) ∧ (0 : Int) ≤ 1 ∧ (1 : Int) ≤ 1) ∧ (0 ≤ x7 ∧ x7 < 10) ∧ (inI ((up_ M4 111 x7 1) 111 x7)) ∧ 
      ((((up_ M4 111 x7 1) 111 x7) = 0 → Xs 214 (31, [some (some (vR 86)), some (some (vI x1)), some (some (vI x2)), some (some (vI x3)), some (some (vI x4)), some (some (vL x5)), some none, some (some (vI (x7 + 1))), d8, d9, d10], [], ((up_ M4 111 x7 1), W5)) (QV Q)) ∧
      (¬ ((up_ M4 111 x7 1) 111 x7) = 0 → CallL 208 [vR 86, vI x1, vI x2, vI x7, vI x3] ((up_ M4 111 x7 1), W5) (fun r12 M10 W11 => (0 ≤ x7 ∧ x7 < 10) ∧ Xs 214 (31, [some (some (vR 86)), some (some (vI x1)), some (some (vI x2)), some (some (vI x3)), some (some (vI x4)), some (some (vL x5)), some none, some (some (vI (x7 + 1))), d8, d9, d10], [], ((up_ M10 110 x7 r12), W11)) (QV Q))))))))))) : Xs 214 (31, [some (some (vR 86)), some (some (vI x1)), some (some (vI x2)), some (some (vI x3)), some (some (vI x4)), some (some (vL x5)), some none, some (some (vI x7)), d8, d9, d10], [], (M, W)) (QV Q) :=
  wpN_X (cut := fun p => Nat.beq p 31 || Nat.beq p 97 || Nat.beq p 219 || Nat.beq p 230 || Nat.beq p 320) 64 _ _ h
set_option maxRecDepth 20000 in
theorem k_X12_layOne_97 (x1 : Int) (x2 : Int) (x3 : Int) (x4 : Int) (x5 : Int) (x7 : Int) (d8 : aL) (d9 : aL) (d10 : aL) (M : aM) (W : aW) (Q : aM → aW → Prop) (h :
  (inI x7 ∧ inI (M 89 5)) ∧ 
  ((x7 ≥ (M 89 5) → (0 ≤ (M 89 7) ∧ (M 89 7) < 10) ∧ (inI (M 111 (M 89 7))) ∧ 
    (((M 111 (M 89 7)) = 0 → (inI x2) ∧ 
      ((x2 = 0 → (0 ≤ x3 ∧ x3 < 729) ∧ (0 ≤ (x4 + (M 89 7)) ∧ (x4 + (M 89 7)) < 29160) ∧ Xs 214 (219, [some (some (vR 86)), some (some (vI x1)), some (some (vI x2)), some (some (vI x3)), some (some (vI x4)), some (some (vL x5)), some none, some (some (vI 1)), d8, d9, d10], [], ((up_ M 105 (x4 + (M 89 7)) (M 109 x3)), W)) (QV Q)) ∧
      (¬ x2 = 0 → (0 ≤ (x4 + (M 89 7)) ∧ (x4 + (M 89 7)) < 29160) ∧ Xs 214 (219, [some (some (vR 86)), some (some (vI x1)), some (some (vI x2)), some (some (vI x3)), some (some (vI x4)), some (some (vL x5)), some none, some (some (vI 1)), d8, d9, d10], [], ((up_ M 105 (x4 + (M 89 7)) 0), W)) (QV Q)))) ∧
    (¬ (M 111 (M 89 7)) = 0 → (0 ≤ (x4 + (M 89 7)) ∧ (x4 + (M 89 7)) < 29160) ∧ Xs 214 (219, [some (some (vR 86)), some (some (vI x1)), some (some (vI x2)), some (some (vI x3)), some (some (vI x4)), some (some (vL x5)), some none, some (some (vI 1)), d8, d9, d10], [], ((up_ M 105 (x4 + (M 89 7)) 4000000000000000000), W)) (QV Q)))) ∧
  (¬ x7 ≥ (M 89 5) → (0 ≤ (3 * x7) ∧ (3 * x7) < 36) ∧ CallI 211 [vR 86, vI x7, vI (M 96 (3 * x7)), vI x3] (M, W) (fun r3 M1 W2 => (inI r3) ∧ 
    ((r3 = 0 → Xs 214 (97, [some (some (vR 86)), some (some (vI x1)), some (some (vI x2)), some (some (vI x3)), some (some (vI x4)), some (some (vL x5)), some none, some (some (vI (x7 + 1))), d8, d9, d10], [], (M1, W2)) (QV Q)) ∧
    (¬ r3 = 0 → (0 ≤ (3 * x7) ∧ (3 * x7) < 36) ∧ (0 ≤ (M1 96 (3 * x7)) ∧ (M1 96 (3 * x7)) < 10) ∧ (inI (M1 111 (M1 96 (3 * x7)))) ∧ 
      (((M1 111 (M1 96 (3 * x7))) ≠ 0 → Xs 214 (97, [some (some (vR 86)), some (some (vI x1)), some (some (vI x2)), some (some (vI x3)), some (some (vI x4)), some (some (vL x5)), some none, some (some (vI (x7 + 1))), d8, d9, d10], [], (M1, W2)) (QV Q)) ∧
      (¬ (M1 111 (M1 96 (3 * x7))) ≠ 0 → CallL 209 [vR 86, vI x1, vI x2, vI x7, vI x3] (M1, W2) (fun r6 M4 W5 => (0 ≤ x7 ∧ x7 < 6) ∧ Xs 214 (97, [some (some (vR 86)), some (some (vI x1)), some (some (vI x2)), some (some (vI x3)), some (some (vI x4)), some (some (vL x5)), some none, some (some (vI (x7 + 1))), d8, d9, d10], [], ((up_ M4 112 x7 r6), W5)) (QV Q)))))))))) : Xs 214 (97, [some (some (vR 86)), some (some (vI x1)), some (some (vI x2)), some (some (vI x3)), some (some (vI x4)), some (some (vL x5)), some none, some (some (vI x7)), d8, d9, d10], [], (M, W)) (QV Q) :=
  wpN_X (cut := fun p => Nat.beq p 31 || Nat.beq p 97 || Nat.beq p 219 || Nat.beq p 230 || Nat.beq p 320) 86 _ _ h
set_option maxRecDepth 20000 in
theorem k_X12_layOne_219 (x1 : Int) (x2 : Int) (x3 : Int) (x4 : Int) (x5 : Int) (x7 : Int) (d8 : aL) (d9 : aL) (d10 : aL) (M : aM) (W : aW) (Q : aM → aW → Prop) (h :
  (inI x7) ∧ 
  ((x7 = 0 → Xs 214 (320, [some (some (vR 86)), some (some (vI x1)), some (some (vI x2)), some (some (vI x3)), some (some (vI x4)), some (some (vL x5)), some none, some (some (vI x7)), some (some (vI 0)), d9, d10], [], (M, W)) (QV Q)) ∧
  (¬ x7 = 0 → Xs 214 (230, [some (some (vR 86)), some (some (vI x1)), some (some (vI x2)), some (some (vI x3)), some (some (vI x4)), some (some (vL x5)), some none, some (some (vI 0)), some (some (vI 0)), d9, d10], [], (M, W)) (QV Q)))) : Xs 214 (219, [some (some (vR 86)), some (some (vI x1)), some (some (vI x2)), some (some (vI x3)), some (some (vI x4)), some (some (vL x5)), some none, some (some (vI x7)), d8, d9, d10], [], (M, W)) (QV Q) :=
  wpN_X (cut := fun p => Nat.beq p 31 || Nat.beq p 97 || Nat.beq p 219 || Nat.beq p 230 || Nat.beq p 320) 12 _ _ h
set_option maxRecDepth 20000 in
theorem k_X12_layOne_230 (x1 : Int) (x2 : Int) (x3 : Int) (x4 : Int) (x5 : Int) (x7 : Int) (x8 : Int) (d9 : aL) (d10 : aL) (M : aM) (W : aW) (Q : aM → aW → Prop) (h :
  CallI 180 [vR 86] (M, W) (fun r3 M1 W2 => (inI x8 ∧ inI r3) ∧ 
  ((x8 ≥ r3 → Xs 214 (219, [some (some (vR 86)), some (some (vI x1)), some (some (vI x2)), some (some (vI x3)), some (some (vI x4)), some (some (vL x5)), some none, some (some (vI x7)), some (some (vI x8)), d9, d10], [], (M1, W2)) (QV Q)) ∧
  (¬ x8 ≥ r3 → (0 ≤ x8 ∧ x8 < 10) ∧ (inI (M1 111 x8)) ∧ 
    (((M1 111 x8) ≠ 0 → Xs 214 (230, [some (some (vR 86)), some (some (vI x1)), some (some (vI x2)), some (some (vI x3)), some (some (vI x4)), some (some (vL x5)), some none, some (some (vI x7)), some (some (vI (x8 + 1))), d9, d10], [], (M1, W2)) (QV Q)) ∧
    (¬ (M1 111 x8) ≠ 0 → (inI x8 ∧ inI (M1 89 7)) ∧ 
      ((x8 ≠ (M1 89 7) → CallL 216 [vR 86, vI x4, vL x5, vI x8, vI x3] (M1, W2) (fun r6 M4 W5 => (0 ≤ (x4 + x8) ∧ (x4 + x8) < 29160) ∧ (inL r6 ∧ inL (M4 105 (x4 + x8))) ∧
        ((r6 ≥ (M4 105 (x4 + x8)) → Xs 214 (230, [some (some (vR 86)), some (some (vI x1)), some (some (vI x2)), some (some (vI x3)), some (some (vI x4)), some (some (vL x5)), some none, some (some (vI x7)), some (some (vI (x8 + 1))), some (some (vL r6)), some none], [], (M4, W5)) (QV Q)) ∧
        (¬ r6 ≥ (M4 105 (x4 + x8)) → (0 ≤ (x4 + x8) ∧ (x4 + x8) < 29160) ∧ Xs 214 (230, [some (some (vR 86)), some (some (vI x1)), some (some (vI x2)), some (some (vI x3)), some (some (vI x4)), some (some (vL x5)), some none, some (some (vI 1)), some (some (vI (x8 + 1))), some (some (vL r6)), some none], [], ((up_ M4 105 (x4 + x8) r6), W5)) (QV Q))))) ∧
      (¬ x8 ≠ (M1 89 7) → Xs 214 (230, [some (some (vR 86)), some (some (vI x1)), some (some (vI x2)), some (some (vI x3)), some (some (vI x4)), some (some (vL x5)), some none, some (some (vI x7)), some (some (vI (x8 + 1))), d9, d10], [], (M1, W2)) (QV Q))))))))) : Xs 214 (230, [some (some (vR 86)), some (some (vI x1)), some (some (vI x2)), some (some (vI x3)), some (some (vI x4)), some (some (vL x5)), some none, some (some (vI x7)), some (some (vI x8)), d9, d10], [], (M, W)) (QV Q) :=
  wpN_X (cut := fun p => Nat.beq p 31 || Nat.beq p 97 || Nat.beq p 219 || Nat.beq p 230 || Nat.beq p 320) 56 _ _ h
set_option maxRecDepth 20000 in
theorem k_X12_layOne_320 (x1 : Int) (x2 : Int) (x3 : Int) (x4 : Int) (x5 : Int) (x7 : Int) (x8 : Int) (d9 : aL) (d10 : aL) (M : aM) (W : aW) (Q : aM → aW → Prop) (h :
  CallI 180 [vR 86] (M, W) (fun r3 M1 W2 => (inI x8 ∧ inI r3) ∧ 
  ((x8 ≥ r3 → Q M1 W2) ∧
  (¬ x8 ≥ r3 → (0 ≤ x8 ∧ x8 < 10) ∧ (inI (M1 111 x8)) ∧ 
    (((M1 111 x8) ≠ 0 → Xs 214 (320, [some (some (vR 86)), some (some (vI x1)), some (some (vI x2)), some (some (vI x3)), some (some (vI x4)), some (some (vL x5)), some none, some (some (vI x7)), some (some (vI (x8 + 1))), d9, d10], [], (M1, W2)) (QV Q)) ∧
    (¬ (M1 111 x8) ≠ 0 → (inI x8 ∧ inI (M1 89 7)) ∧ 
      ((x8 = (M1 89 7) → Xs 214 (320, [some (some (vR 86)), some (some (vI x1)), some (some (vI x2)), some (some (vI x3)), some (some (vI x4)), some (some (vL x5)), some none, some (some (vI x7)), some (some (vI (x8 + 1))), d9, d10], [], (M1, W2)) (QV Q)) ∧
      (¬ x8 = (M1 89 7) → (0 ≤ (x4 + x8) ∧ (x4 + x8) < 29160) ∧ (inL (M1 105 (x4 + x8)) ∧ inL 4000000000000000000) ∧
        (((M1 105 (x4 + x8)) ≥ 4000000000000000000 → Xs 214 (320, [some (some (vR 86)), some (some (vI x1)), some (some (vI x2)), some (some (vI x3)), some (some (vI x4)), some (some (vL x5)), some none, some (some (vI x7)), some (some (vI (x8 + 1))), d9, d10], [], (M1, W2)) (QV Q)) ∧
        (¬ (M1 105 (x4 + x8)) ≥ 4000000000000000000 → CallI 217 [vR 86, vI x4, vL x5, vI x8, vI x3] (M1, W2) (fun r6 M4 W5 => (0 ≤ (x4 + x8) ∧ (x4 + x8) < 29160) ∧ Xs 214 (320, [some (some (vR 86)), some (some (vI x1)), some (some (vI x2)), some (some (vI x3)), some (some (vI x4)), some (some (vL x5)), some none, some (some (vI x7)), some (some (vI (x8 + 1))), d9, d10], [], ((up_ M4 106 (x4 + x8) r6), W5)) (QV Q)))))))))))) : Xs 214 (320, [some (some (vR 86)), some (some (vI x1)), some (some (vI x2)), some (some (vI x3)), some (some (vI x4)), some (some (vL x5)), some none, some (some (vI x7)), some (some (vI x8)), d9, d10], [], (M, W)) (QV Q) :=
  wpN_X (cut := fun p => Nat.beq p 31 || Nat.beq p 97 || Nat.beq p 219 || Nat.beq p 230 || Nat.beq p 320) 50 _ _ h
set_option maxRecDepth 20000 in
theorem e_X12_goes (x1 : Int) (x2 : Int) (x4 : Int) (x5 : Int) (x6 : Int) (M : aM) (W : aW) (Q : Int → aM → aW → Prop) (h :
  (0 ≤ ((10 * x4) + x5) ∧ ((10 * x4) + x5) < 100) ∧ (∀ v1 : Int, v1 = M 98 ((10 * x4) + x5) → (inI v1) ∧ 
  ((v1 ≥ 0 → CallI 201 [vR 86, vI v1, vI x6] (M, W) (fun r4 M2 W3 => (inI r4) ∧ 
    ((r4 ≥ 0 → (0 ≤ x5 ∧ x5 < 10) ∧ (inI (M2 111 x5)) ∧ 
      (((M2 111 x5) = 0 → (0 ≤ (x1 + x5) ∧ (x1 + x5) < 29160) ∧ CallL 212 [vR 86, vL x2, vI r4, vL (M2 105 (x1 + x5))] (M2, W3) (fun r7 M5 W6 => Q r7 M5 W6)) ∧
      (¬ (M2 111 x5) = 0 → (0 ≤ x5 ∧ x5 < 10) ∧ CallL 212 [vR 86, vL x2, vI r4, vL (M2 110 x5)] (M2, W3) (fun r10 M8 W9 => Q r10 M8 W9)))) ∧
    (¬ r4 ≥ 0 → Q 4000000000000000000 M2 W3)))) ∧
  (¬ v1 ≥ 0 → (inI (-1)) ∧ 
    ((((-1) : Int) ≥ 0 → (0 ≤ x5 ∧ x5 < 10) ∧ (inI (M 111 x5)) ∧ 
      (((M 111 x5) = 0 → (0 ≤ (x1 + x5) ∧ (x1 + x5) < 29160) ∧ CallL 212 [vR 86, vL x2, vI (-1), vL (M 105 (x1 + x5))] (M, W) (fun r13 M11 W12 => Q r13 M11 W12)) ∧
      (¬ (M 111 x5) = 0 → (0 ≤ x5 ∧ x5 < 10) ∧ CallL 212 [vR 86, vL x2, vI (-1), vL (M 110 x5)] (M, W) (fun r16 M14 W15 => Q r16 M14 W15)))) ∧
    (¬ ((-1) : Int) ≥ 0 → Q 4000000000000000000 M W)))))) : CallL 215 [vR 86, vI x1, vL x2, vI x4, vI x5, vI x6] (M, W) Q :=
  wpN_X (cut := fun p => false) 77 _ _ h
set_option maxRecDepth 20000 in
theorem e_X12_least (x1 : Int) (x2 : Int) (x4 : Int) (x5 : Int) (M : aM) (W : aW) (Q : Int → aM → aW → Prop) (h :
  Xs 216 (8, [some (some (vR 86)), some (some (vI x1)), some (some (vL x2)), some none, some (some (vI x4)), some (some (vI x5)), some (some (vL 4000000000000000000)), some none, some (some (vI 0)), none, none], [], (M, W)) (QL Q)) : CallL 216 [vR 86, vI x1, vL x2, vI x4, vI x5] (M, W) Q :=
  wpN_X (cut := fun p => Nat.beq p 8 || Nat.beq p 57) 7 _ _ h
set_option maxRecDepth 20000 in
theorem k_X12_least_8 (x1 : Int) (x2 : Int) (x4 : Int) (x5 : Int) (x6 : Int) (x8 : Int) (d9 : aL) (d10 : aL) (M : aM) (W : aW) (Q : Int → aM → aW → Prop) (h :
  CallI 180 [vR 86] (M, W) (fun r3 M1 W2 => (inI x8 ∧ inI r3) ∧ 
  ((x8 ≥ r3 → Xs 216 (57, [some (some (vR 86)), some (some (vI x1)), some (some (vL x2)), some none, some (some (vI x4)), some (some (vI x5)), some (some (vL x6)), some none, some (some (vI 0)), d9, d10], [], (M1, W2)) (QL Q)) ∧
  (¬ x8 ≥ r3 → CallL 215 [vR 86, vI x1, vL x2, vI x4, vI x8, vI x5] (M1, W2) (fun r6 M4 W5 => (inL r6 ∧ inL x6) ∧
    ((r6 ≥ x6 → Xs 216 (8, [some (some (vR 86)), some (some (vI x1)), some (some (vL x2)), some none, some (some (vI x4)), some (some (vI x5)), some (some (vL x6)), some none, some (some (vI (x8 + 1))), some (some (vL r6)), some none], [], (M4, W5)) (QL Q)) ∧
    (¬ r6 ≥ x6 → Xs 216 (8, [some (some (vR 86)), some (some (vI x1)), some (some (vL x2)), some none, some (some (vI x4)), some (some (vI x5)), some (some (vL r6)), some none, some (some (vI (x8 + 1))), some (some (vL r6)), some none], [], (M4, W5)) (QL Q)))))))) : Xs 216 (8, [some (some (vR 86)), some (some (vI x1)), some (some (vL x2)), some none, some (some (vI x4)), some (some (vI x5)), some (some (vL x6)), some none, some (some (vI x8)), d9, d10], [], (M, W)) (QL Q) :=
  wpN_X (cut := fun p => Nat.beq p 8 || Nat.beq p 57) 31 _ _ h
set_option maxRecDepth 20000 in
theorem k_X12_least_57 (x1 : Int) (x2 : Int) (x4 : Int) (x5 : Int) (x6 : Int) (x8 : Int) (d9 : aL) (d10 : aL) (M : aM) (W : aW) (Q : Int → aM → aW → Prop) (h :
  (inI x8 ∧ inI (M 89 5)) ∧ 
  ((x8 ≥ (M 89 5) → Q x6 M W) ∧
  (¬ x8 ≥ (M 89 5) → CallI 211 [vR 86, vI x8, vI x4, vI x5] (M, W) (fun r3 M1 W2 => (inI r3) ∧ 
    ((r3 ≠ 0 → (0 ≤ ((3 * x8) + 2) ∧ ((3 * x8) + 2) < 36) ∧ (0 ≤ x8 ∧ x8 < 6) ∧ CallL 212 [vR 86, vL x2, vI (M1 96 ((3 * x8) + 2)), vL (M1 112 x8)] (M1, W2) (fun r6 M4 W5 => (inL r6 ∧ inL x6) ∧
      ((r6 ≥ x6 → Xs 216 (57, [some (some (vR 86)), some (some (vI x1)), some (some (vL x2)), some none, some (some (vI x4)), some (some (vI x5)), some (some (vL x6)), some none, some (some (vI (x8 + 1))), some (some (vL r6)), some none], [], (M4, W5)) (QL Q)) ∧
      (¬ r6 ≥ x6 → Xs 216 (57, [some (some (vR 86)), some (some (vI x1)), some (some (vL x2)), some none, some (some (vI x4)), some (some (vI x5)), some (some (vL r6)), some none, some (some (vI (x8 + 1))), some (some (vL r6)), some none], [], (M4, W5)) (QL Q))))) ∧
    (¬ r3 ≠ 0 → Xs 216 (57, [some (some (vR 86)), some (some (vI x1)), some (some (vL x2)), some none, some (some (vI x4)), some (some (vI x5)), some (some (vL x6)), some none, some (some (vI (x8 + 1))), d9, d10], [], (M1, W2)) (QL Q))))))) : Xs 216 (57, [some (some (vR 86)), some (some (vI x1)), some (some (vL x2)), some none, some (some (vI x4)), some (some (vI x5)), some (some (vL x6)), some none, some (some (vI x8)), d9, d10], [], (M, W)) (QL Q) :=
  wpN_X (cut := fun p => Nat.beq p 8 || Nat.beq p 57) 50 _ _ h
set_option maxRecDepth 20000 in
theorem e_X12_firstOf (x1 : Int) (x2 : Int) (x4 : Int) (x5 : Int) (M : aM) (W : aW) (Q : Int → aM → aW → Prop) (h :
  Xs 217 (3, [some (some (vR 86)), some (some (vI x1)), some (some (vL x2)), some none, some (some (vI x4)), some (some (vI x5)), some (some (vI 0))], [], (M, W)) (QI Q)) : CallI 217 [vR 86, vI x1, vL x2, vI x4, vI x5] (M, W) Q :=
  wpN_X (cut := fun p => Nat.beq p 3 || Nat.beq p 49) 5 _ _ h
set_option maxRecDepth 20000 in
theorem k_X12_firstOf_3 (x1 : Int) (x2 : Int) (x4 : Int) (x5 : Int) (x6 : Int) (M : aM) (W : aW) (Q : Int → aM → aW → Prop) (h :
  CallI 180 [vR 86] (M, W) (fun r3 M1 W2 => (inI x6 ∧ inI r3) ∧ 
  ((x6 ≥ r3 → Xs 217 (49, [some (some (vR 86)), some (some (vI x1)), some (some (vL x2)), some none, some (some (vI x4)), some (some (vI x5)), some (some (vI 0))], [], (M1, W2)) (QI Q)) ∧
  (¬ x6 ≥ r3 → CallL 215 [vR 86, vI x1, vL x2, vI x4, vI x6, vI x5] (M1, W2) (fun r6 M4 W5 => (0 ≤ (x1 + x4) ∧ (x1 + x4) < 29160) ∧ (inL r6 ∧ inL (M4 105 (x1 + x4))) ∧
    ((r6 ≠ (M4 105 (x1 + x4)) → Xs 217 (3, [some (some (vR 86)), some (some (vI x1)), some (some (vL x2)), some none, some (some (vI x4)), some (some (vI x5)), some (some (vI (x6 + 1)))], [], (M4, W5)) (QI Q)) ∧
    (¬ r6 ≠ (M4 105 (x1 + x4)) → Q x6 M4 W5))))))) : Xs 217 (3, [some (some (vR 86)), some (some (vI x1)), some (some (vL x2)), some none, some (some (vI x4)), some (some (vI x5)), some (some (vI x6))], [], (M, W)) (QI Q) :=
  wpN_X (cut := fun p => Nat.beq p 3 || Nat.beq p 49) 28 _ _ h
set_option maxRecDepth 20000 in
theorem k_X12_firstOf_49 (x1 : Int) (x2 : Int) (x4 : Int) (x5 : Int) (x6 : Int) (M : aM) (W : aW) (Q : Int → aM → aW → Prop) (h :
  (inI x6 ∧ inI (M 89 5)) ∧ 
  ((x6 ≥ (M 89 5) → Q (-2) M W) ∧
  (¬ x6 ≥ (M 89 5) → CallI 211 [vR 86, vI x6, vI x4, vI x5] (M, W) (fun r3 M1 W2 => (inI r3) ∧ 
    ((r3 = 0 → Xs 217 (49, [some (some (vR 86)), some (some (vI x1)), some (some (vL x2)), some none, some (some (vI x4)), some (some (vI x5)), some (some (vI (x6 + 1)))], [], (M1, W2)) (QI Q)) ∧
    (¬ r3 = 0 → (0 ≤ ((3 * x6) + 2) ∧ ((3 * x6) + 2) < 36) ∧ (0 ≤ x6 ∧ x6 < 6) ∧ CallL 212 [vR 86, vL x2, vI (M1 96 ((3 * x6) + 2)), vL (M1 112 x6)] (M1, W2) (fun r6 M4 W5 => (0 ≤ (x1 + x4) ∧ (x1 + x4) < 29160) ∧ (inL r6 ∧ inL (M4 105 (x1 + x4))) ∧
      ((r6 ≠ (M4 105 (x1 + x4)) → Xs 217 (49, [some (some (vR 86)), some (some (vI x1)), some (some (vL x2)), some none, some (some (vI x4)), some (some (vI x5)), some (some (vI (x6 + 1)))], [], (M4, W5)) (QI Q)) ∧
      (¬ r6 ≠ (M4 105 (x1 + x4)) → Q (100 + x6) M4 W5))))))))) : Xs 217 (49, [some (some (vR 86)), some (some (vI x1)), some (some (vL x2)), some none, some (some (vI x4)), some (some (vI x5)), some (some (vI x6))], [], (M, W)) (QI Q) :=
  wpN_X (cut := fun p => Nat.beq p 3 || Nat.beq p 49) 48 _ _ h
set_option maxRecDepth 20000 in
theorem e_X12_layBest  (M : aM) (W : aW) (Q : aM → aW → Prop) (h :
  (inI (M 107 0)) ∧ 
  (((M 107 0) = 0 → CallV 213 [vR 86, vI 0, vI 1] ((up_ M 107 0 1), W) (fun M1 W2 => Q M1 W2)) ∧
  (¬ (M 107 0) = 0 → Q M W))) : CallV 218 [vR 86] (M, W) Q :=
  wpN_X (cut := fun p => false) 18 _ _ h
set_option maxRecDepth 20000 in
theorem e_X12_laySure  (M : aM) (W : aW) (Q : aM → aW → Prop) (h :
  (inI (M 107 1)) ∧ 
  (((M 107 1) = 0 → Xs 219 (19, [some (some (vR 86)), some (some (vI 0))], [], ((up_ M 107 1 1), W)) (QV Q)) ∧
  (¬ (M 107 1) = 0 → Q M W))) : CallV 219 [vR 86] (M, W) Q :=
  wpN_X (cut := fun p => Nat.beq p 19) 16 _ _ h
set_option maxRecDepth 20000 in
theorem k_X12_laySure_19 (x1 : Int) (M : aM) (W : aW) (Q : aM → aW → Prop) (h :
  (inI x1 ∧ inI (M 86 22)) ∧ 
  ((x1 ≥ (M 86 22) → CallV 210 [vR 86] (M, W) (fun M1 W2 => CallV 213 [vR 86, vI 1, vI 0] (M1, W2) (fun M3 W4 => Q M3 W4))) ∧
  (¬ x1 ≥ (M 86 22) → (0 ≤ x1 ∧ x1 < 64) ∧ Xs 219 (19, [some (some (vR 86)), some (some (vI (x1 + 1)))], [], ((up_ M 108 x1 0), W)) (QV Q)))) : Xs 219 (19, [some (some (vR 86)), some (some (vI x1))], [], (M, W)) (QV Q) :=
  wpN_X (cut := fun p => Nat.beq p 19) 21 _ _ h
set_option maxRecDepth 20000 in
theorem e_X12_layPlan (x1 : Int) (M : aM) (W : aW) (Q : aM → aW → Prop) (h :
  (inI x1) ∧ 
  ((x1 ≠ 0 → (inI x1) ∧ 
    ((x1 ≠ 1 → (inI x1) ∧ 
      ((x1 ≠ 2 → Q M W) ∧
      (¬ x1 ≠ 2 → CallV 222 [vR 86] (M, W) (fun M1 W2 => Q M1 W2)))) ∧
    (¬ x1 ≠ 1 → CallV 219 [vR 86] (M, W) (fun M3 W4 => (inI x1) ∧ 
      ((x1 ≠ 2 → Q M3 W4) ∧
      (¬ x1 ≠ 2 → CallV 222 [vR 86] (M3, W4) (fun M5 W6 => Q M5 W6))))))) ∧
  (¬ x1 ≠ 0 → CallV 218 [vR 86] (M, W) (fun M7 W8 => (inI x1) ∧ 
    ((x1 ≠ 1 → (inI x1) ∧ 
      ((x1 ≠ 2 → Q M7 W8) ∧
      (¬ x1 ≠ 2 → CallV 222 [vR 86] (M7, W8) (fun M9 W10 => Q M9 W10)))) ∧
    (¬ x1 ≠ 1 → CallV 219 [vR 86] (M7, W8) (fun M11 W12 => (inI x1) ∧ 
      ((x1 ≠ 2 → Q M11 W12) ∧
      (¬ x1 ≠ 2 → CallV 222 [vR 86] (M11, W12) (fun M13 W14 => Q M13 W14)))))))))) : CallV 220 [vR 86, vI x1] (M, W) Q :=
  wpN_X (cut := fun p => false) 44 _ _ h
set_option maxRecDepth 20000 in
theorem e_X12_layTimes (x1 : Int) (M : aM) (W : aW) (Q : Int → aM → aW → Prop) (h :
  Xs 221 (14, [some (some (vR 86)), some (some (vI x1)), some (some (vI 0)), some (some (vI 0)), none, none, none], [], ((up_ (up_ M 86 38 0) 86 39 0), W)) (QI Q)) : CallI 221 [vR 86, vI x1] (M, W) Q :=
  wpN_X (cut := fun p => Nat.beq p 14) 13 _ _ h
set_option maxRecDepth 20000 in
theorem k_X12_layTimes_14 (x1 : Int) (x2 : Int) (x3 : Int) (d4 : aL) (d5 : aL) (d6 : aL) (M : aM) (W : aW) (Q : Int → aM → aW → Prop) (h :
  (inI x3 ∧ inI (M 86 22)) ∧ 
  ((x3 ≥ (M 86 22) → Q 1 M W) ∧
  (¬ x3 ≥ (M 86 22) → (0 ≤ x3 ∧ x3 < 64) ∧ (inL (M 101 x3) ∧ inL 0) ∧
    (((M 101 x3) ≠ 0 → CallL 231 [vR 86, vI x1, vI x3] (M, W) (fun r3 M1 W2 => CallI 205 [vR 86, vI x3] (M1, W2) (fun r6 M4 W5 => (inL r3 ∧ inL 0) ∧
      ((r3 < 0 → Q 0 M4 W5) ∧
      (¬ r3 < 0 → (inI r6) ∧ 
        ((r6 ≥ 0 → (inI x2) ∧ 
          ((x2 = 0 → (inI r6) ∧ Xs 221 (14, [some (some (vR 86)), some (some (vI x1)), some (some (vI 1)), some (some (vI (x3 + 1))), some (some (vL r3)), some none, some (some (vI r6))], [], ((up_ (up_ M4 86 38 r3) 86 39 r6), W5)) (QI Q)) ∧
          (¬ x2 = 0 → (inI r6) ∧ (inL (r3 * (M4 86 39)) ∧ inL ((M4 86 38) * r6)) ∧
            (((r3 * (M4 86 39)) > ((M4 86 38) * r6) → (inI r6) ∧ Xs 221 (14, [some (some (vR 86)), some (some (vI x1)), some (some (vI 1)), some (some (vI (x3 + 1))), some (some (vL r3)), some none, some (some (vI r6))], [], ((up_ (up_ M4 86 38 r3) 86 39 r6), W5)) (QI Q)) ∧
            (¬ (r3 * (M4 86 39)) > ((M4 86 38) * r6) → Xs 221 (14, [some (some (vR 86)), some (some (vI x1)), some (some (vI x2)), some (some (vI (x3 + 1))), some (some (vL r3)), some none, some (some (vI r6))], [], (M4, W5)) (QI Q)))))) ∧
        (¬ r6 ≥ 0 → Q 0 M4 W5))))))) ∧
    (¬ (M 101 x3) ≠ 0 → Xs 221 (14, [some (some (vR 86)), some (some (vI x1)), some (some (vI x2)), some (some (vI (x3 + 1))), d4, d5, d6], [], (M, W)) (QI Q)))))) : Xs 221 (14, [some (some (vR 86)), some (some (vI x1)), some (some (vI x2)), some (some (vI x3)), d4, d5, d6], [], (M, W)) (QI Q) :=
  wpN_X (cut := fun p => Nat.beq p 14) 76 _ _ h
set_option maxRecDepth 20000 in
theorem e_X12_layFair  (M : aM) (W : aW) (Q : aM → aW → Prop) (h :
  (inI (M 107 2)) ∧ 
  (((M 107 2) = 0 → Xs 222 (19, [some (some (vR 86)), some (some (vI 0)), none, none, none, none], [], ((up_ M 107 2 1), W)) (QV Q)) ∧
  (¬ (M 107 2) = 0 → Q M W))) : CallV 222 [vR 86] (M, W) Q :=
  wpN_X (cut := fun p => Nat.beq p 19 || Nat.beq p 119) 16 _ _ h
set_option maxRecDepth 20000 in
theorem k_X12_layFair_19 (x1 : Int) (d2 : aL) (d3 : aL) (d4 : aL) (d5 : aL) (M : aM) (W : aW) (Q : aM → aW → Prop) (h :
  (inI x1) ∧ 
  ((x1 ≥ 7290 → CallV 219 [vR 86] (M, W) (fun M1 W2 => CallI 200 [vR 86] (M1, W2) (fun r5 M3 W4 => (inI r5) ∧ 
    ((r5 = 0 → Q M3 W4) ∧
    (¬ r5 = 0 → CallI 221 [vR 86, vI 1] (M3, W4) (fun r8 M6 W7 => (inI r8) ∧ 
      ((r8 ≠ 0 → (inI (M6 89 6) ∧ inI (M6 89 7)) ∧ 
        (((M6 89 6) ≠ (M6 89 7) → (∀ v9 : Int, v9 = M6 86 38 → (∀ v10 : Int, v10 = M6 86 39 → CallV 223 [vR 86, vL v9, vL v10, vI 1] (M6, W7) (fun M11 W12 => Xs 222 (119, [some (some (vR 86)), some (some (vL v9)), some none, some (some (vL v10)), some none, d5], [], (M11, W12)) (QV Q))))) ∧
        (¬ (M6 89 6) ≠ (M6 89 7) → CallV 223 [vR 86, vL 0, vL 1, vI 0] (M6, W7) (fun M13 W14 => Q M13 W14)))) ∧
      (¬ r8 ≠ 0 → Q M6 W7)))))))) ∧
  (¬ x1 ≥ 7290 → (0 ≤ (14580 + x1) ∧ (14580 + x1) < 29160) ∧ (0 ≤ (14580 + x1) ∧ (14580 + x1) < 29160) ∧ Xs 222 (19, [some (some (vR 86)), some (some (vI (x1 + 1))), d2, d3, d4, d5], [], ((up_ (up_ M 105 (14580 + x1) 4000000000000000000) 106 (14580 + x1) (-2)), W)) (QV Q)))) : Xs 222 (19, [some (some (vR 86)), some (some (vI x1)), d2, d3, d4, d5], [], (M, W)) (QV Q) :=
  wpN_X (cut := fun p => Nat.beq p 19 || Nat.beq p 119) 60 _ _ h
set_option maxRecDepth 20000 in
theorem k_X12_layFair_119 (x1 : Int) (x3 : Int) (d5 : aL) (M : aM) (W : aW) (Q : aM → aW → Prop) (h :
  CallL 208 [vR 86, vI 2, vI 0, vI (M 89 6), vI 0] (M, W) (fun r3 M1 W2 => (inL r3 ∧ inL 0) ∧
  ((r3 > 0 → CallV 223 [vR 86, vL x1, vL x3, vI 0] (M1, W2) (fun M4 W5 => Q M4 W5)) ∧
  (¬ r3 > 0 → CallI 221 [vR 86, vI 2] (M1, W2) (fun r8 M6 W7 => (∀ v9 : Int, v9 = M6 86 38 → (∀ v10 : Int, v10 = M6 86 39 → CallV 223 [vR 86, vL v9, vL v10, vI 1] (M6, W7) (fun M11 W12 => Xs 222 (119, [some (some (vR 86)), some (some (vL v9)), some none, some (some (vL v10)), some none, some (some (vI r8))], [], (M11, W12)) (QV Q))))))))) : Xs 222 (119, [some (some (vR 86)), some (some (vL x1)), some none, some (some (vL x3)), some none, d5], [], (M, W)) (QV Q) :=
  wpN_X (cut := fun p => Nat.beq p 19 || Nat.beq p 119) 36 _ _ h
set_option maxRecDepth 20000 in
theorem e_X12_layLimits (x1 : Int) (x3 : Int) (x5 : Int) (M : aM) (W : aW) (Q : aM → aW → Prop) (h :
  Xs 223 (3, [some (some (vR 86)), some (some (vL x1)), some none, some (some (vL x3)), some none, some (some (vI x5)), some (some (vI 0)), none, none, none], [], (M, W)) (QV Q)) : CallV 223 [vR 86, vL x1, vL x3, vI x5] (M, W) Q :=
  wpN_X (cut := fun p => Nat.beq p 3) 5 _ _ h
set_option maxRecDepth 20000 in
theorem k_X12_layLimits_3 (x1 : Int) (x3 : Int) (x5 : Int) (x6 : Int) (d7 : aL) (d8 : aL) (d9 : aL) (M : aM) (W : aW) (Q : aM → aW → Prop) (h :
  (inI x6 ∧ inI (M 86 22)) ∧ 
  ((x6 ≥ (M 86 22) → CallV 210 [vR 86] (M, W) (fun M1 W2 => CallV 213 [vR 86, vI 2, vI 0] (M1, W2) (fun M3 W4 => Q M3 W4))) ∧
  (¬ x6 ≥ (M 86 22) → (0 ≤ x6 ∧ x6 < 64) ∧ (inL (M 101 x6) ∧ inL 0) ∧
    (((M 101 x6) ≠ 0 → CallI 205 [vR 86, vI x6] (M, W) (fun r7 M5 W6 => (inI r7) ∧ (∀ v8 : Int, v8 = x1 * r7 → (inI x5) ∧ 
      ((x5 = 0 → (inL v8 ∧ inL x3 ∧ x3 ≠ 0) ∧ (0 ≤ x6 ∧ x6 < 64) ∧ Xs 223 (3, [some (some (vR 86)), some (some (vL x1)), some none, some (some (vL x3)), some none, some (some (vI x5)), some (some (vI (x6 + 1))), some (some (vI r7)), some (some (vL v8)), some none], [], ((up_ M5 108 x6 (-(Int.tdiv v8 x3))), W6)) (QV Q)) ∧
      (¬ x5 = 0 → (inL ((v8 + x3) - 1) ∧ inL x3 ∧ x3 ≠ 0) ∧ (0 ≤ x6 ∧ x6 < 64) ∧ Xs 223 (3, [some (some (vR 86)), some (some (vL x1)), some none, some (some (vL x3)), some none, some (some (vI x5)), some (some (vI (x6 + 1))), some (some (vI r7)), some (some (vL v8)), some none], [], ((up_ M5 108 x6 (-((Int.tdiv ((v8 + x3) - 1) x3) - 1))), W6)) (QV Q)))))) ∧
    (¬ (M 101 x6) ≠ 0 → (inI 0) ∧ (∀ v9 : Int, v9 = x1 * 0 → (inI x5) ∧ 
      ((x5 = 0 → (inL v9 ∧ inL x3 ∧ x3 ≠ 0) ∧ (0 ≤ x6 ∧ x6 < 64) ∧ Xs 223 (3, [some (some (vR 86)), some (some (vL x1)), some none, some (some (vL x3)), some none, some (some (vI x5)), some (some (vI (x6 + 1))), some (some (vI 0)), some (some (vL v9)), some none], [], ((up_ M 108 x6 (-(Int.tdiv v9 x3))), W)) (QV Q)) ∧
      (¬ x5 = 0 → (inL ((v9 + x3) - 1) ∧ inL x3 ∧ x3 ≠ 0) ∧ (0 ≤ x6 ∧ x6 < 64) ∧ Xs 223 (3, [some (some (vR 86)), some (some (vL x1)), some none, some (some (vL x3)), some none, some (some (vI x5)), some (some (vI (x6 + 1))), some (some (vI 0)), some (some (vL v9)), some none], [], ((up_ M 108 x6 (-((Int.tdiv ((v9 + x3) - 1) x3) - 1))), W)) (QV Q))))))))) : Xs 223 (3, [some (some (vR 86)), some (some (vL x1)), some none, some (some (vL x3)), some none, some (some (vI x5)), some (some (vI x6)), d7, d8, d9], [], (M, W)) (QV Q) :=
  wpN_X (cut := fun p => Nat.beq p 3) 92 _ _ h
set_option maxRecDepth 20000 in
theorem e_X12_hopAt (x1 : Int) (x2 : Int) (x3 : Int) (M : aM) (W : aW) (Q : Int → aM → aW → Prop) (h :
  (∀ v1 : Int, v1 = (80 * x1) + (10 * (x2 + 1)) → (0 ≤ (v1 + x3) ∧ (v1 + x3) < 58320) ∧ (inI (M 113 (v1 + x3))) ∧ 
  (((M 113 (v1 + x3)) ≠ 0 → (0 ≤ (v1 + x3) ∧ (v1 + x3) < 58320) ∧ (inI (M 113 (v1 + x3))) ∧ 
    (((M 113 (v1 + x3)) ≠ 1 → (0 ≤ (v1 + x3) ∧ (v1 + x3) < 58320) ∧ Q ((M 113 (v1 + x3)) - 2) M W) ∧
    (¬ (M 113 (v1 + x3)) ≠ 1 → Q (-2) M W))) ∧
  (¬ (M 113 (v1 + x3)) ≠ 0 → CallV 203 [vR 86, vI x1, vI x2] (M, W) (fun M2 W3 => Xs 224 (34, [some (some (vR 86)), some (some (vI x1)), some (some (vI x2)), some (some (vI x3)), some (some (vI v1)), some (some (vI 0)), none, none, none], [], (M2, W3)) (QI Q)))))) : CallI 224 [vR 86, vI x1, vI x2, vI x3] (M, W) Q :=
  wpN_X (cut := fun p => Nat.beq p 34 || Nat.beq p 62) 46 _ _ h
set_option maxRecDepth 20000 in
theorem k_X12_hopAt_34 (x1 : Int) (x2 : Int) (x3 : Int) (x4 : Int) (x5 : Int) (d6 : aL) (d7 : aL) (d8 : aL) (M : aM) (W : aW) (Q : Int → aM → aW → Prop) (h :
  CallI 180 [vR 86] (M, W) (fun r3 M1 W2 => (inI x5 ∧ inI r3) ∧ 
  ((x5 ≥ r3 → (0 ≤ (x4 + x3) ∧ (x4 + x3) < 58320) ∧ (inI (M1 113 (x4 + x3))) ∧ 
    (((M1 113 (x4 + x3)) ≠ 1 → (0 ≤ (x4 + x3) ∧ (x4 + x3) < 58320) ∧ Q ((M1 113 (x4 + x3)) - 2) M1 W2) ∧
    (¬ (M1 113 (x4 + x3)) ≠ 1 → Q (-2) M1 W2))) ∧
  (¬ x5 ≥ r3 → (0 ≤ (x4 + x5) ∧ (x4 + x5) < 58320) ∧ CallI 180 [vR 86] ((up_ M1 113 (x4 + x5) 1), W2) (fun r6 M4 W5 => (∀ v7 : Int, v7 = r6 - 1 → Xs 224 (62, [some (some (vR 86)), some (some (vI x1)), some (some (vI x2)), some (some (vI x3)), some (some (vI x4)), some (some (vI x5)), some (some (vI v7)), d7, d8], [], (M4, W5)) (QI Q))))))) : Xs 224 (34, [some (some (vR 86)), some (some (vI x1)), some (some (vI x2)), some (some (vI x3)), some (some (vI x4)), some (some (vI x5)), d6, d7, d8], [], (M, W)) (QI Q) :=
  wpN_X (cut := fun p => Nat.beq p 34 || Nat.beq p 62) 39 _ _ h
set_option maxRecDepth 20000 in
theorem k_X12_hopAt_62 (x1 : Int) (x2 : Int) (x3 : Int) (x4 : Int) (x5 : Int) (x6 : Int) (d7 : aL) (d8 : aL) (M : aM) (W : aW) (Q : Int → aM → aW → Prop) (h :
  (inI x6) ∧ 
  ((x6 < 0 → Xs 224 (34, [some (some (vR 86)), some (some (vI x1)), some (some (vI x2)), some (some (vI x3)), some (some (vI x4)), some (some (vI (x5 + 1))), some (some (vI x6)), d7, d8], [], (M, W)) (QI Q)) ∧
  (¬ x6 < 0 → (inI x5 ∧ inI (M 89 7)) ∧ 
    ((x5 = (M 89 7) → Xs 224 (34, [some (some (vR 86)), some (some (vI x1)), some (some (vI x2)), some (some (vI x3)), some (some (vI x4)), some (some (vI (x5 + 1))), some (some (vI x6)), d7, d8], [], (M, W)) (QI Q)) ∧
    (¬ x5 = (M 89 7) → (0 ≤ ((10 * x5) + x6) ∧ ((10 * x5) + x6) < 100) ∧ (∀ v1 : Int, v1 = M 98 ((10 * x5) + x6) → (inI v1) ∧ 
      ((v1 ≥ 0 → CallI 202 [vR 86, vI v1, vI x1, vI x2] (M, W) (fun r4 M2 W3 => (inI r4) ∧ 
        ((r4 < 0 → Xs 224 (62, [some (some (vR 86)), some (some (vI x1)), some (some (vI x2)), some (some (vI x3)), some (some (vI x4)), some (some (vI x5)), some (some (vI (x6 + (-1)))), some (some (vI v1)), some (some (vI r4))], [], (M2, W3)) (QI Q)) ∧
        (¬ r4 < 0 → (0 ≤ x5 ∧ x5 < 10) ∧ (inI (M2 104 x5)) ∧ 
          (((M2 104 x5) ≥ 1000000 → Xs 224 (62, [some (some (vR 86)), some (some (vI x1)), some (some (vI x2)), some (some (vI x3)), some (some (vI x4)), some (some (vI x5)), some (some (vI (x6 + (-1)))), some (some (vI v1)), some (some (vI r4))], [], (M2, W3)) (QI Q)) ∧
          (¬ (M2 104 x5) ≥ 1000000 → (0 ≤ x6 ∧ x6 < 10) ∧ (0 ≤ x5 ∧ x5 < 10) ∧ (inI ((M2 104 x6) + r4) ∧ inI (M2 104 x5)) ∧ 
            ((((M2 104 x6) + r4) ≠ (M2 104 x5) → Xs 224 (62, [some (some (vR 86)), some (some (vI x1)), some (some (vI x2)), some (some (vI x3)), some (some (vI x4)), some (some (vI x5)), some (some (vI (x6 + (-1)))), some (some (vI v1)), some (some (vI r4))], [], (M2, W3)) (QI Q)) ∧
            (¬ ((M2 104 x6) + r4) ≠ (M2 104 x5) → (0 ≤ (x4 + x5) ∧ (x4 + x5) < 58320) ∧ Xs 224 (62, [some (some (vR 86)), some (some (vI x1)), some (some (vI x2)), some (some (vI x3)), some (some (vI x4)), some (some (vI x5)), some (some (vI (x6 + (-1)))), some (some (vI v1)), some (some (vI r4))], [], ((up_ M2 113 (x4 + x5) (x6 + 2)), W3)) (QI Q))))))))) ∧
      (¬ v1 ≥ 0 → (inI (-1)) ∧ 
        ((((-1) : Int) < 0 → Xs 224 (62, [some (some (vR 86)), some (some (vI x1)), some (some (vI x2)), some (some (vI x3)), some (some (vI x4)), some (some (vI x5)), some (some (vI (x6 + (-1)))), some (some (vI v1)), some (some (vI (-1)))], [], (M, W)) (QI Q)) ∧
        (¬ ((-1) : Int) < 0 → (0 ≤ x5 ∧ x5 < 10) ∧ (inI (M 104 x5)) ∧ 
          (((M 104 x5) ≥ 1000000 → Xs 224 (62, [some (some (vR 86)), some (some (vI x1)), some (some (vI x2)), some (some (vI x3)), some (some (vI x4)), some (some (vI x5)), some (some (vI (x6 + (-1)))), some (some (vI v1)), some (some (vI (-1)))], [], (M, W)) (QI Q)) ∧
          (¬ (M 104 x5) ≥ 1000000 → (0 ≤ x6 ∧ x6 < 10) ∧ (0 ≤ x5 ∧ x5 < 10) ∧ (inI ((M 104 x6) + (-1)) ∧ inI (M 104 x5)) ∧ 
            ((((M 104 x6) + (-1)) ≠ (M 104 x5) → Xs 224 (62, [some (some (vR 86)), some (some (vI x1)), some (some (vI x2)), some (some (vI x3)), some (some (vI x4)), some (some (vI x5)), some (some (vI (x6 + (-1)))), some (some (vI v1)), some (some (vI (-1)))], [], (M, W)) (QI Q)) ∧
            (¬ ((M 104 x6) + (-1)) ≠ (M 104 x5) → (0 ≤ (x4 + x5) ∧ (x4 + x5) < 58320) ∧ Xs 224 (62, [some (some (vR 86)), some (some (vI x1)), some (some (vI x2)), some (some (vI x3)), some (some (vI x4)), some (some (vI x5)), some (some (vI (x6 + (-1)))), some (some (vI v1)), some (some (vI (-1)))], [], ((up_ M 113 (x4 + x5) (x6 + 2)), W)) (QI Q))))))))))))))) : Xs 224 (62, [some (some (vR 86)), some (some (vI x1)), some (some (vI x2)), some (some (vI x3)), some (some (vI x4)), some (some (vI x5)), some (some (vI x6)), d7, d8], [], (M, W)) (QI Q) :=
  wpN_X (cut := fun p => Nat.beq p 34 || Nat.beq p 62) 116 _ _ h
set_option maxRecDepth 20000 in
theorem e_X12_firstUnknown (x1 : Int) (M : aM) (W : aW) (Q : Int → aM → aW → Prop) (h :
  Xs 225 (2, [some (some (vR 86)), some (some (vI x1)), some (some (vI 0))], [], (M, W)) (QI Q)) : CallI 225 [vR 86, vI x1] (M, W) Q :=
  wpN_X (cut := fun p => Nat.beq p 2) 5 _ _ h
set_option maxRecDepth 20000 in
theorem k_X12_firstUnknown_2 (x1 : Int) (x2 : Int) (M : aM) (W : aW) (Q : Int → aM → aW → Prop) (h :
  (inI x2 ∧ inI (M 86 41)) ∧ 
  ((x2 ≥ (M 86 41) → Q (-1) M W) ∧
  (¬ x2 ≥ (M 86 41) → (0 ≤ x2 ∧ x2 < 6) ∧ CallI 183 [vR 86, vI x1, vI (M 114 x2)] (M, W) (fun r3 M1 W2 => (inI r3) ∧ 
    ((r3 ≠ 0 → Xs 225 (2, [some (some (vR 86)), some (some (vI x1)), some (some (vI (x2 + 1)))], [], (M1, W2)) (QI Q)) ∧
    (¬ r3 ≠ 0 → (0 ≤ x2 ∧ x2 < 6) ∧ Q (M1 114 x2) M1 W2)))))) : Xs 225 (2, [some (some (vR 86)), some (some (vI x1)), some (some (vI x2))], [], (M, W)) (QI Q) :=
  wpN_X (cut := fun p => Nat.beq p 2) 24 _ _ h
set_option maxRecDepth 20000 in
theorem e_X12_byHand (x1 : Int) (x2 : Int) (M : aM) (W : aW) (Q : Int → aM → aW → Prop) (h :
  Xs 226 (2, [some (some (vR 86)), some (some (vI x1)), some (some (vI x2)), some (some (vI 0)), none, none], [], (M, W)) (QI Q)) : CallI 226 [vR 86, vI x1, vI x2] (M, W) Q :=
  wpN_X (cut := fun p => Nat.beq p 2) 5 _ _ h
set_option maxRecDepth 20000 in
theorem k_X12_byHand_2 (x1 : Int) (x2 : Int) (x3 : Int) (d4 : aL) (d5 : aL) (M : aM) (W : aW) (Q : Int → aM → aW → Prop) (h :
  (inI x3 ∧ inI (M 86 43)) ∧ 
  ((x3 ≥ (M 86 43) → Q (-2) M W) ∧
  (¬ x3 ≥ (M 86 43) → (0 ≤ ((4 * x3) + 1) ∧ ((4 * x3) + 1) < 120) ∧ (∀ v1 : Int, v1 = M 115 ((4 * x3) + 1) → (0 ≤ (4 * x3) ∧ (4 * x3) < 120) ∧ (inI (M 115 (4 * x3)) ∧ inI x1) ∧ 
    (((M 115 (4 * x3)) ≠ x1 → Xs 226 (2, [some (some (vR 86)), some (some (vI x1)), some (some (vI x2)), some (some (vI (x3 + 1))), some (some (vI v1)), d5], [], (M, W)) (QI Q)) ∧
    (¬ (M 115 (4 * x3)) ≠ x1 → (inI v1) ∧ 
      ((v1 = (-1) → (0 ≤ ((4 * x3) + 3) ∧ ((4 * x3) + 3) < 120) ∧ (0 ≤ ((10 * x1) + (M 115 ((4 * x3) + 3))) ∧ ((10 * x1) + (M 115 ((4 * x3) + 3))) < 100) ∧ (∀ v2 : Int, v2 = M 98 ((10 * x1) + (M 115 ((4 * x3) + 3))) → (inI v2) ∧ 
        ((v2 < 0 → Xs 226 (2, [some (some (vR 86)), some (some (vI x1)), some (some (vI x2)), some (some (vI (x3 + 1))), some (some (vI v1)), some (some (vI v2))], [], (M, W)) (QI Q)) ∧
        (¬ v2 < 0 → CallI 201 [vR 86, vI v2, vI x2] (M, W) (fun r5 M3 W4 => (inI r5) ∧ 
          ((r5 < 0 → Xs 226 (2, [some (some (vR 86)), some (some (vI x1)), some (some (vI x2)), some (some (vI (x3 + 1))), some (some (vI v1)), some (some (vI v2))], [], (M3, W4)) (QI Q)) ∧
          (¬ r5 < 0 → (0 ≤ ((4 * x3) + 3) ∧ ((4 * x3) + 3) < 120) ∧ Q (M3 115 ((4 * x3) + 3)) M3 W4))))))) ∧
      (¬ v1 = (-1) → CallI 183 [vR 86, vI x2, vI v1] (M, W) (fun r8 M6 W7 => (0 ≤ ((4 * x3) + 2) ∧ ((4 * x3) + 2) < 120) ∧ (inI r8 ∧ inI (M6 115 ((4 * x3) + 2))) ∧ 
        ((r8 = (M6 115 ((4 * x3) + 2)) → (0 ≤ ((4 * x3) + 3) ∧ ((4 * x3) + 3) < 120) ∧ (0 ≤ ((10 * x1) + (M6 115 ((4 * x3) + 3))) ∧ ((10 * x1) + (M6 115 ((4 * x3) + 3))) < 100) ∧ (∀ v9 : Int, v9 = M6 98 ((10 * x1) + (M6 115 ((4 * x3) + 3))) → (inI v9) ∧ 
          ((v9 < 0 → Xs 226 (2, [some (some (vR 86)), some (some (vI x1)), some (some (vI x2)), some (some (vI (x3 + 1))), some (some (vI v1)), some (some (vI v9))], [], (M6, W7)) (QI Q)) ∧
          (¬ v9 < 0 → CallI 201 [vR 86, vI v9, vI x2] (M6, W7) (fun r12 M10 W11 => (inI r12) ∧ 
            ((r12 < 0 → Xs 226 (2, [some (some (vR 86)), some (some (vI x1)), some (some (vI x2)), some (some (vI (x3 + 1))), some (some (vI v1)), some (some (vI v9))], [], (M10, W11)) (QI Q)) ∧
            (¬ r12 < 0 → (0 ≤ ((4 * x3) + 3) ∧ ((4 * x3) + 3) < 120) ∧ Q (M10 115 ((4 * x3) + 3)) M10 W11))))))) ∧
        (¬ r8 = (M6 115 ((4 * x3) + 2)) → Xs 226 (2, [some (some (vR 86)), some (some (vI x1)), some (some (vI x2)), some (some (vI (x3 + 1))), some (some (vI v1)), d5], [], (M6, W7)) (QI Q)))))))))))) : Xs 226 (2, [some (some (vR 86)), some (some (vI x1)), some (some (vI x2)), some (some (vI x3)), d4, d5], [], (M, W)) (QI Q) :=
  wpN_X (cut := fun p => Nat.beq p 2) 124 _ _ h
set_option maxRecDepth 20000 in
theorem e_X12_actOf (x1 : Int) (x2 : Int) (x3 : Int) (M : aM) (W : aW) (Q : Int → aM → aW → Prop) (h :
  (inI x1) ∧ 
  ((x1 ≥ 3 → (inI x1) ∧ 
    ((x1 ≠ 6 → (inI (M 89 7)) ∧ 
      (((M 89 7) ≠ (-1) → (inI x1) ∧ 
        ((x1 ≠ 3 → (inI x1) ∧ 
          ((x1 ≠ 4 → CallI 225 [vR 86, vI x3] (M, W) (fun r3 M1 W2 => CallI 224 [vR 86, vI x3, vI r3, vI x2] (M1, W2) (fun r6 M4 W5 => Q r6 M4 W5))) ∧
          (¬ x1 ≠ 4 → CallI 224 [vR 86, vI x3, vI (-1), vI x2] (M, W) (fun r9 M7 W8 => Q r9 M7 W8)))) ∧
        (¬ x1 ≠ 3 → CallI 224 [vR 86, vI x3, vI 6, vI x2] (M, W) (fun r12 M10 W11 => Q r12 M10 W11)))) ∧
      (¬ (M 89 7) ≠ (-1) → Q (-2) M W))) ∧
    (¬ x1 ≠ 6 → CallI 226 [vR 86, vI x2, vI x3] (M, W) (fun r15 M13 W14 => Q r15 M13 W14)))) ∧
  (¬ x1 ≥ 3 → (0 ≤ (((7290 * x1) + (10 * x3)) + x2) ∧ (((7290 * x1) + (10 * x3)) + x2) < 29160) ∧ Q (M 106 (((7290 * x1) + (10 * x3)) + x2)) M W))) : CallI 227 [vR 86, vI x1, vI x2, vI x3] (M, W) Q :=
  wpN_X (cut := fun p => false) 58 _ _ h
set_option maxRecDepth 20000 in
theorem e_X12_learns (x1 : Int) (x2 : Int) (x3 : Int) (M : aM) (W : aW) (Q : Int → aM → aW → Prop) (h :
  Xs 228 (6, [some (some (vR 86)), some (some (vI x1)), some (some (vI x2)), some (some (vI x3)), some (some (vI x2)), some (some (vI 0))], [], (M, W)) (QI Q)) : CallI 228 [vR 86, vI x1, vI x2, vI x3] (M, W) Q :=
  wpN_X (cut := fun p => Nat.beq p 6) 7 _ _ h
set_option maxRecDepth 20000 in
theorem k_X12_learns_6 (x1 : Int) (x2 : Int) (x3 : Int) (x4 : Int) (x5 : Int) (M : aM) (W : aW) (Q : Int → aM → aW → Prop) (h :
  CallI 181 [vR 86] (M, W) (fun r3 M1 W2 => (inI x5 ∧ inI r3) ∧ 
  ((x5 ≥ r3 → Q x4 M1 W2) ∧
  (¬ x5 ≥ r3 → (0 ≤ x1 ∧ x1 < 10) ∧ (inI (and_ (shr_ (M1 97 x1) x5) 1)) ∧ 
    (((and_ (shr_ (M1 97 x1) x5) 1) ≠ 1 → Xs 228 (6, [some (some (vR 86)), some (some (vI x1)), some (some (vI x2)), some (some (vI x3)), some (some (vI x4)), some (some (vI (x5 + 1)))], [], (M1, W2)) (QI Q)) ∧
    (¬ (and_ (shr_ (M1 97 x1) x5) 1) ≠ 1 → CallI 183 [vR 86, vI x4, vI x5] (M1, W2) (fun r6 M4 W5 => (inI r6) ∧ 
      ((r6 ≠ 0 → Xs 228 (6, [some (some (vR 86)), some (some (vI x1)), some (some (vI x2)), some (some (vI x3)), some (some (vI x4)), some (some (vI (x5 + 1)))], [], (M4, W5)) (QI Q)) ∧
      (¬ r6 ≠ 0 → (0 ≤ x5 ∧ x5 < 7) ∧ (∀ v7 : Int, v7 = x4 + (((and_ (shr_ x3 x5) 1) + 1) * (M4 99 x5)) → Xs 228 (6, [some (some (vR 86)), some (some (vI x1)), some (some (vI x2)), some (some (vI x3)), some (some (vI v7)), some (some (vI (x5 + 1)))], [], (M4, W5)) (QI Q))))))))))) : Xs 228 (6, [some (some (vR 86)), some (some (vI x1)), some (some (vI x2)), some (some (vI x3)), some (some (vI x4)), some (some (vI x5))], [], (M, W)) (QI Q) :=
  wpN_X (cut := fun p => Nat.beq p 6) 47 _ _ h
set_option maxRecDepth 20000 in
theorem e_X12_moves (x1 : Int) (x2 : Int) (M : aM) (W : aW) (Q : Int → aM → aW → Prop) (h :
  CallI 227 [vR 86, vI x1, vI (M 86 45), vI (M 86 46)] (M, W) (fun r3 M1 W2 => (inI r3) ∧ 
  ((r3 ≥ 0 → (inI r3) ∧ 
    ((r3 < 100 → (0 ≤ ((10 * (M1 86 45)) + r3) ∧ ((10 * (M1 86 45)) + r3) < 100) ∧ CallI 201 [vR 86, vI (M1 98 ((10 * (M1 86 45)) + r3)), vI (M1 86 46)] (M1, W2) (fun r6 M4 W5 => (inI r6) ∧ CallI 228 [vR 86, vI r3, vI ((up_ (up_ M4 86 47 ((M1 86 47) + r6)) 86 45 r3) 86 46), vI x2] ((up_ (up_ M4 86 47 ((M1 86 47) + r6)) 86 45 r3), W5) (fun r9 M7 W8 => Q 1 (up_ M7 86 46 r9) W8))) ∧
    (¬ r3 < 100 → (0 ≤ ((3 * (r3 - 100)) + 1) ∧ ((3 * (r3 - 100)) + 1) < 36) ∧ (∀ v10 : Int, v10 = M1 96 ((3 * (r3 - 100)) + 1) → (0 ≤ ((3 * (r3 - 100)) + 2) ∧ ((3 * (r3 - 100)) + 2) < 36) ∧ (inI (M1 96 ((3 * (r3 - 100)) + 2))) ∧ (0 ≤ v10 ∧ v10 < 7) ∧ Q 1 (up_ (up_ M1 86 47 ((M1 86 47) + (M1 96 ((3 * (r3 - 100)) + 2)))) 86 46 (((up_ M1 86 47 ((M1 86 47) + (M1 96 ((3 * (r3 - 100)) + 2)))) 86 46) + (((and_ (shr_ x2 v10) 1) + 1) * ((up_ M1 86 47 ((M1 86 47) + (M1 96 ((3 * (r3 - 100)) + 2)))) 99 v10)))) W2)))) ∧
  (¬ r3 ≥ 0 → Q 0 M1 W2)))) : CallI 229 [vR 86, vI x1, vI x2] (M, W) Q :=
  wpN_X (cut := fun p => false) 96 _ _ h
set_option maxRecDepth 20000 in
theorem e_X12_setsOut (x1 : Int) (M : aM) (W : aW) (Q : aM → aW → Prop) (h :
  CallI 228 [vR 86, vI ((up_ M 86 45 (M 89 6)) 86 45), vI 0, vI x1] ((up_ M 86 45 (M 89 6)), W) (fun r3 M1 W2 => Q (up_ (up_ M1 86 46 r3) 86 47 0) W2)) : CallV 230 [vR 86, vI x1] (M, W) Q :=
  wpN_X (cut := fun p => false) 20 _ _ h
set_option maxRecDepth 20000 in
theorem e_X12_hoursIn (x1 : Int) (x2 : Int) (M : aM) (W : aW) (Q : Int → aM → aW → Prop) (h :
  CallV 230 [vR 86, vI x2] (M, W) (fun M1 W2 => Xs 231 (7, [some (some (vR 86)), some (some (vI x1)), some (some (vI x2)), some (some (vI 0)), none], [], (M1, W2)) (QL Q))) : CallL 231 [vR 86, vI x1, vI x2] (M, W) Q :=
  wpN_X (cut := fun p => Nat.beq p 7) 8 _ _ h
set_option maxRecDepth 20000 in
theorem k_X12_hoursIn_7 (x1 : Int) (x2 : Int) (x3 : Int) (d4 : aL) (M : aM) (W : aW) (Q : Int → aM → aW → Prop) (h :
  (inI (M 86 45) ∧ inI (M 89 7)) ∧ 
  (((M 86 45) = (M 89 7) → Q (M 86 47) M W) ∧
  (¬ (M 86 45) = (M 89 7) → (∀ v1 : Int, v1 = M 86 46 → CallI 229 [vR 86, vI x1, vI x2] (M, W) (fun r4 M2 W3 => (inI r4) ∧ 
    ((r4 ≠ 0 → (inI v1 ∧ inI (M2 86 46)) ∧ 
      ((v1 ≠ (M2 86 46) → (inI 0) ∧ 
        (((0 : Int) ≤ 10 → Xs 231 (7, [some (some (vR 86)), some (some (vI x1)), some (some (vI x2)), some (some (vI 0)), some (some (vI v1))], [], (M2, W3)) (QL Q)) ∧
        (¬ (0 : Int) ≤ 10 → Q (-2) M2 W3))) ∧
      (¬ v1 ≠ (M2 86 46) → (inI (x3 + 1)) ∧ 
        (((x3 + 1) ≤ 10 → Xs 231 (7, [some (some (vR 86)), some (some (vI x1)), some (some (vI x2)), some (some (vI (x3 + 1))), some (some (vI v1))], [], (M2, W3)) (QL Q)) ∧
        (¬ (x3 + 1) ≤ 10 → Q (-2) M2 W3))))) ∧
    (¬ r4 ≠ 0 → Q (-2) M2 W3))))))) : Xs 231 (7, [some (some (vR 86)), some (some (vI x1)), some (some (vI x2)), some (some (vI x3)), d4], [], (M, W)) (QL Q) :=
  wpN_X (cut := fun p => Nat.beq p 7) 47 _ _ h
set_option maxRecDepth 20000 in
theorem e_X12_isPlan (x0 : Int) (M : aM) (W : aW) (Q : Int → aM → aW → Prop) (h :
  (inI x0) ∧ 
  ((x0 < 0 → ((0 : Int) = 0 ∨ (0 : Int) = 1) ∧ Q 0 M W) ∧
  (¬ x0 < 0 → (inI x0) ∧ 
    ((x0 ≥ 7 → ((0 : Int) = 0 ∨ (0 : Int) = 1) ∧ Q 0 M W) ∧
    (¬ x0 ≥ 7 → ((1 : Int) = 0 ∨ (1 : Int) = 1) ∧ Q 1 M W))))) : CallI 232 [vI x0] (M, W) Q :=
  wpN_X (cut := fun p => false) 14 _ _ h
set_option maxRecDepth 20000 in
theorem e_X12_meanOf (x1 : Int) (M : aM) (W : aW) (Q : Int → aM → aW → Prop) (h :
  Xs 233 (5, [some (some (vR 86)), some (some (vI x1)), some (some (vL 0)), some none, some (some (vI 0)), none, none], [], (M, W)) (QL Q)) : CallL 233 [vR 86, vI x1] (M, W) Q :=
  wpN_X (cut := fun p => Nat.beq p 5) 7 _ _ h
set_option maxRecDepth 20000 in
theorem k_X12_meanOf_5 (x1 : Int) (x2 : Int) (x4 : Int) (d5 : aL) (d6 : aL) (M : aM) (W : aW) (Q : Int → aM → aW → Prop) (h :
  (inI x4 ∧ inI (M 86 22)) ∧ 
  ((x4 ≥ (M 86 22) → Q x2 M W) ∧
  (¬ x4 ≥ (M 86 22) → (0 ≤ x4 ∧ x4 < 64) ∧ (inL (M 101 x4) ∧ inL 0) ∧
    (((M 101 x4) ≠ 0 → CallL 231 [vR 86, vI x1, vI x4] (M, W) (fun r3 M1 W2 => (inL r3 ∧ inL 0) ∧
      ((r3 ≥ 0 → (0 ≤ x4 ∧ x4 < 64) ∧ (∀ v4 : Int, v4 = x2 + ((M1 101 x4) * r3) → Xs 233 (5, [some (some (vR 86)), some (some (vI x1)), some (some (vL v4)), some none, some (some (vI (x4 + 1))), some (some (vL r3)), some none], [], (M1, W2)) (QL Q))) ∧
      (¬ r3 ≥ 0 → Q (-2) M1 W2)))) ∧
    (¬ (M 101 x4) ≠ 0 → Xs 233 (5, [some (some (vR 86)), some (some (vI x1)), some (some (vL x2)), some none, some (some (vI (x4 + 1))), d5, d6], [], (M, W)) (QL Q)))))) : Xs 233 (5, [some (some (vR 86)), some (some (vI x1)), some (some (vL x2)), some none, some (some (vI x4)), d5, d6], [], (M, W)) (QL Q) :=
  wpN_X (cut := fun p => Nat.beq p 5) 40 _ _ h
set_option maxRecDepth 20000 in
theorem e_X12_mean (x1 : Int) (M : aM) (W : aW) (Q : Int → aM → aW → Prop) (h :
  CallI 232 [vI x1] ((up_ M 86 2 0), W) (fun r3 M1 W2 => (inI r3) ∧ 
  ((r3 = 0 → Q (-1) M1 W2) ∧
  (¬ r3 = 0 → CallI 200 [vR 86] (M1, W2) (fun r6 M4 W5 => (inI r6) ∧ 
    ((r6 ≠ 0 → CallV 220 [vR 86, vI x1] (M4, W5) (fun M7 W8 => CallL 233 [vR 86, vI x1] (M7, W8) (fun r11 M9 W10 => Q r11 M9 W10))) ∧
    (¬ r6 ≠ 0 → Q (-1) M4 W5))))))) : CallL 234 [vR 86, vI x1] (M, W) Q :=
  wpN_X (cut := fun p => false) 22 _ _ h
set_option maxRecDepth 20000 in
theorem e_X12_worst (x1 : Int) (M : aM) (W : aW) (Q : Int → aM → aW → Prop) (h :
  CallI 232 [vI x1] ((up_ M 86 2 0), W) (fun r3 M1 W2 => (inI r3) ∧ 
  ((r3 = 0 → Q (-1) M1 W2) ∧
  (¬ r3 = 0 → CallI 200 [vR 86] (M1, W2) (fun r6 M4 W5 => (inI r6) ∧ 
    ((r6 ≠ 0 → CallV 220 [vR 86, vI x1] (M4, W5) (fun M7 W8 => Xs 235 (31, [some (some (vR 86)), some (some (vI x1)), some (some (vL 0)), some none, some (some (vI 0)), none, none], [], (M7, W8)) (QI Q))) ∧
    (¬ r6 ≠ 0 → Q (-1) M4 W5))))))) : CallI 235 [vR 86, vI x1] (M, W) Q :=
  wpN_X (cut := fun p => Nat.beq p 31) 23 _ _ h
set_option maxRecDepth 20000 in
theorem k_X12_worst_31 (x1 : Int) (x2 : Int) (x4 : Int) (d5 : aL) (d6 : aL) (M : aM) (W : aW) (Q : Int → aM → aW → Prop) (h :
  (inI x4 ∧ inI (M 86 22)) ∧ 
  ((x4 ≥ (M 86 22) → Q x2 M W) ∧
  (¬ x4 ≥ (M 86 22) → (0 ≤ x4 ∧ x4 < 64) ∧ (inL (M 101 x4) ∧ inL 0) ∧
    (((M 101 x4) ≠ 0 → CallL 231 [vR 86, vI x1, vI x4] (M, W) (fun r3 M1 W2 => (inL r3 ∧ inL 0) ∧
      ((r3 ≥ 0 → (inL r3 ∧ inL x2) ∧
        ((r3 ≤ x2 → Xs 235 (31, [some (some (vR 86)), some (some (vI x1)), some (some (vL x2)), some none, some (some (vI (x4 + 1))), some (some (vL r3)), some none], [], (M1, W2)) (QI Q)) ∧
        (¬ r3 ≤ x2 → Xs 235 (31, [some (some (vR 86)), some (some (vI x1)), some (some (vL r3)), some none, some (some (vI (x4 + 1))), some (some (vL r3)), some none], [], (M1, W2)) (QI Q)))) ∧
      (¬ r3 ≥ 0 → Q (-2) M1 W2)))) ∧
    (¬ (M 101 x4) ≠ 0 → Xs 235 (31, [some (some (vR 86)), some (some (vI x1)), some (some (vL x2)), some none, some (some (vI (x4 + 1))), d5, d6], [], (M, W)) (QI Q)))))) : Xs 235 (31, [some (some (vR 86)), some (some (vI x1)), some (some (vL x2)), some none, some (some (vI x4)), d5, d6], [], (M, W)) (QI Q) :=
  wpN_X (cut := fun p => Nat.beq p 31) 43 _ _ h
set_option maxRecDepth 20000 in
theorem e_X12_hours (x1 : Int) (x2 : Int) (M : aM) (W : aW) (Q : Int → aM → aW → Prop) (h :
  CallI 232 [vI x1] ((up_ M 86 2 0), W) (fun r3 M1 W2 => (inI r3) ∧ 
  ((r3 = 0 → Q (-1) M1 W2) ∧
  (¬ r3 = 0 → CallI 191 [vR 86, vI x2] (M1, W2) (fun r6 M4 W5 => (inI r6) ∧ 
    ((r6 = 0 → Q (-1) M4 W5) ∧
    (¬ r6 = 0 → CallI 200 [vR 86] (M4, W5) (fun r9 M7 W8 => (inI r9) ∧ 
      ((r9 = 0 → Q (-1) M7 W8) ∧
      (¬ r9 = 0 → (0 ≤ x2 ∧ x2 < 64) ∧ (inL (M7 101 x2) ∧ inL 0) ∧
        (((M7 101 x2) ≠ 0 → CallV 220 [vR 86, vI x1] (M7, W8) (fun M10 W11 => CallL 231 [vR 86, vI x1, vI x2] (M10, W11) (fun r14 M12 W13 => Q r14 M12 W13))) ∧
        (¬ (M7 101 x2) ≠ 0 → Q (-1) M7 W8)))))))))))) : CallI 236 [vR 86, vI x1, vI x2] (M, W) Q :=
  wpN_X (cut := fun p => false) 38 _ _ h
set_option maxRecDepth 20000 in
theorem e_X12_times (x1 : Int) (x2 : Int) (M : aM) (W : aW) (Q : Int → aM → aW → Prop) (h :
  CallI 232 [vI x1] ((up_ M 86 2 0), W) (fun r3 M1 W2 => (inI r3) ∧ 
  ((r3 = 0 → Q (-1) M1 W2) ∧
  (¬ r3 = 0 → CallI 155 [vI x2, vI 0, vI 1] (M1, W2) (fun r6 M4 W5 => (inI r6) ∧ 
    ((r6 = 0 → Q (-1) M4 W5) ∧
    (¬ r6 = 0 → CallI 200 [vR 86] (M4, W5) (fun r9 M7 W8 => (inI r9) ∧ 
      ((r9 ≠ 0 → CallV 220 [vR 86, vI x1] (M7, W8) (fun M10 W11 => CallI 221 [vR 86, vI x1] (M10, W11) (fun r14 M12 W13 => (inI r14) ∧ 
        ((r14 ≠ 0 → (inI x2) ∧ 
          ((x2 ≠ 0 → Q (M12 86 39) M12 W13) ∧
          (¬ x2 ≠ 0 → Q (M12 86 38) M12 W13))) ∧
        (¬ r14 ≠ 0 → Q (-2) M12 W13))))) ∧
      (¬ r9 ≠ 0 → Q (-1) M7 W8)))))))))) : CallI 237 [vR 86, vI x1, vI x2] (M, W) Q :=
  wpN_X (cut := fun p => false) 42 _ _ h
set_option maxRecDepth 20000 in
theorem e_X12_next (x1 : Int) (x2 : Int) (x3 : Int) (M : aM) (W : aW) (Q : Int → aM → aW → Prop) (h :
  CallI 232 [vI x1] ((up_ M 86 2 0), W) (fun r3 M1 W2 => (inI r3) ∧ 
  ((r3 = 0 → Q (-1) M1 W2) ∧
  (¬ r3 = 0 → CallI 200 [vR 86] (M1, W2) (fun r6 M4 W5 => (inI r6) ∧ 
    ((r6 = 0 → Q (-1) M4 W5) ∧
    (¬ r6 = 0 → CallI 194 [vR 86, vI x2] (M4, W5) (fun r9 M7 W8 => (inI r9) ∧ 
      ((r9 = 0 → Q (-1) M7 W8) ∧
      (¬ r9 = 0 → CallI 192 [vR 86, vI x3] (M7, W8) (fun r12 M10 W11 => (inI r12) ∧ 
        ((r12 = 0 → Q (-1) M10 W11) ∧
        (¬ r12 = 0 → (0 ≤ x3 ∧ x3 < 729) ∧ (inL (M10 103 x3) ∧ inL 0) ∧
          (((M10 103 x3) = 0 → Q (-1) M10 W11) ∧
          (¬ (M10 103 x3) = 0 → CallI 207 [vR 86, vI x2, vI x3] (M10, W11) (fun r15 M13 W14 => (inI r15) ∧ 
            ((r15 ≠ 0 → CallV 220 [vR 86, vI x1] (M13, W14) (fun M16 W17 => (inI x2 ∧ inI (M16 89 7)) ∧ 
              ((x2 ≠ (M16 89 7) → CallI 227 [vR 86, vI x1, vI x2, vI x3] (M16, W17) (fun r20 M18 W19 => Q r20 M18 W19)) ∧
              (¬ x2 ≠ (M16 89 7) → Q (-2) M16 W17)))) ∧
            (¬ r15 ≠ 0 → Q (-1) M13 W14)))))))))))))))))) : CallI 238 [vR 86, vI x1, vI x2, vI x3] (M, W) Q :=
  wpN_X (cut := fun p => false) 60 _ _ h
set_option maxRecDepth 20000 in
theorem e_X12_told (x1 : Int) (M : aM) (W : aW) (Q : Int → aM → aW → Prop) (h :
  (inL x1 ∧ inL 4000000000000000000) ∧
  ((x1 < 4000000000000000000 → Q x1 M W) ∧
  (¬ x1 < 4000000000000000000 → Q (-2) M W))) : CallL 239 [vR 86, vL x1] (M, W) Q :=
  wpN_X (cut := fun p => false) 10 _ _ h
set_option maxRecDepth 20000 in
theorem e_X12_from (x1 : Int) (x2 : Int) (M : aM) (W : aW) (Q : Int → aM → aW → Prop) (h :
  CallI 194 [vR 86, vI x1] ((up_ M 86 2 0), W) (fun r3 M1 W2 => (inI r3) ∧ 
  ((r3 = 0 → Q (-1) M1 W2) ∧
  (¬ r3 = 0 → CallI 192 [vR 86, vI x2] (M1, W2) (fun r6 M4 W5 => (inI r6) ∧ 
    ((r6 = 0 → Q (-1) M4 W5) ∧
    (¬ r6 = 0 → (0 ≤ x2 ∧ x2 < 729) ∧ (inL (M4 103 x2) ∧ inL 0) ∧
      (((M4 103 x2) = 0 → Q (-1) M4 W5) ∧
      (¬ (M4 103 x2) = 0 → (inI (M4 89 7)) ∧ 
        (((M4 89 7) ≠ (-1) → CallV 218 [vR 86] (M4, W5) (fun M7 W8 => CallL 208 [vR 86, vI 0, vI 1, vI x1, vI x2] (M7, W8) (fun r11 M9 W10 => CallL 239 [vR 86, vL r11] (M9, W10) (fun r14 M12 W13 => Q r14 M12 W13)))) ∧
        (¬ (M4 89 7) ≠ (-1) → Q (-1) M4 W5))))))))))) : CallL 240 [vR 86, vI x1, vI x2] (M, W) Q :=
  wpN_X (cut := fun p => false) 44 _ _ h
set_option maxRecDepth 20000 in
theorem e_X12_row (x1 : Int) (M : aM) (W : aW) (Q : Int → aM → aW → Prop) (h :
  CallI 193 [vR 86, vI x1] ((up_ M 86 2 0), W) (fun r3 M1 W2 => (inI r3) ∧ 
  ((r3 ≠ 0 → Xs 241 (17, [some (some (vR 86)), some (some (vI x1)), some (some (vI 0))], [], (M1, W2)) (QI Q)) ∧
  (¬ r3 ≠ 0 → Q (-1) M1 W2)))) : CallI 241 [vR 86, vI x1] (M, W) Q :=
  wpN_X (cut := fun p => Nat.beq p 17) 14 _ _ h
set_option maxRecDepth 20000 in
theorem k_X12_row_17 (x1 : Int) (x2 : Int) (M : aM) (W : aW) (Q : Int → aM → aW → Prop) (h :
  (inI x2 ∧ inI (M 86 41)) ∧ 
  ((x2 ≥ (M 86 41) → (0 ≤ (M 86 41) ∧ (M 86 41) < 6) ∧ Q ((up_ (up_ M 114 (M 86 41) x1) 86 41 (((up_ M 114 (M 86 41) x1) 86 41) + 1)) 86 41) (up_ (up_ M 114 (M 86 41) x1) 86 41 (((up_ M 114 (M 86 41) x1) 86 41) + 1)) W) ∧
  (¬ x2 ≥ (M 86 41) → (0 ≤ x2 ∧ x2 < 6) ∧ (inI (M 114 x2) ∧ inI x1) ∧ 
    (((M 114 x2) ≠ x1 → Xs 241 (17, [some (some (vR 86)), some (some (vI x1)), some (some (vI (x2 + 1)))], [], (M, W)) (QI Q)) ∧
    (¬ (M 114 x2) ≠ x1 → Q (-1) M W))))) : Xs 241 (17, [some (some (vR 86)), some (some (vI x1)), some (some (vI x2))], [], (M, W)) (QI Q) :=
  wpN_X (cut := fun p => Nat.beq p 17) 32 _ _ h
set_option maxRecDepth 20000 in
theorem e_X12_clear  (M : aM) (W : aW) (Q : Int → aM → aW → Prop) (h :
  (∀ v1 : Int, v1 = (up_ M 86 2 0) 86 41 → Q v1 (up_ (up_ M 86 2 0) 86 41 0) W)) : CallI 242 [vR 86] (M, W) Q :=
  wpN_X (cut := fun p => false) 13 _ _ h
set_option maxRecDepth 20000 in
theorem e_X12_nextRow  (M : aM) (W : aW) (Q : Int → aM → aW → Prop) (h :
  (∀ v1 : Int, v1 = (M 86 41) - 2 → Xs 243 (7, [some (some (vR 86)), some (some (vI v1)), none, none, none], [], (M, W)) (QI Q))) : CallI 243 [vR 86] (M, W) Q :=
  wpN_X (cut := fun p => Nat.beq p 7 || Nat.beq p 47 || Nat.beq p 86) 8 _ _ h
set_option maxRecDepth 20000 in
theorem k_X12_nextRow_7 (x1 : Int) (d2 : aL) (d3 : aL) (d4 : aL) (M : aM) (W : aW) (Q : Int → aM → aW → Prop) (h :
  (inI x1) ∧ 
  ((x1 < 0 → (inI x1) ∧ 
    ((x1 ≥ 0 → (∀ v1 : Int, v1 = (M 86 41) - 1 → Xs 243 (47, [some (some (vR 86)), some (some (vI x1)), some (some (vI v1)), d3, d4], [], (M, W)) (QI Q))) ∧
    (¬ x1 ≥ 0 → Q 0 M W))) ∧
  (¬ x1 < 0 → (0 ≤ x1 ∧ x1 < 6) ∧ (0 ≤ (x1 + 1) ∧ (x1 + 1) < 6) ∧ (inI (M 114 x1) ∧ inI (M 114 (x1 + 1))) ∧ 
    (((M 114 x1) ≤ (M 114 (x1 + 1)) → (inI x1) ∧ 
      ((x1 ≥ 0 → (∀ v2 : Int, v2 = (M 86 41) - 1 → Xs 243 (47, [some (some (vR 86)), some (some (vI x1)), some (some (vI v2)), d3, d4], [], (M, W)) (QI Q))) ∧
      (¬ x1 ≥ 0 → Q 0 M W))) ∧
    (¬ (M 114 x1) ≤ (M 114 (x1 + 1)) → Xs 243 (7, [some (some (vR 86)), some (some (vI (x1 + (-1)))), d2, d3, d4], [], (M, W)) (QI Q)))))) : Xs 243 (7, [some (some (vR 86)), some (some (vI x1)), d2, d3, d4], [], (M, W)) (QI Q) :=
  wpN_X (cut := fun p => Nat.beq p 7 || Nat.beq p 47 || Nat.beq p 86) 38 _ _ h
set_option maxRecDepth 20000 in
theorem k_X12_nextRow_47 (x1 : Int) (x2 : Int) (d3 : aL) (d4 : aL) (M : aM) (W : aW) (Q : Int → aM → aW → Prop) (h :
  (0 ≤ x2 ∧ x2 < 6) ∧ (0 ≤ x1 ∧ x1 < 6) ∧ (inI (M 114 x2) ∧ inI (M 114 x1)) ∧ 
  (((M 114 x2) ≥ (M 114 x1) → CallV 244 [vR 86, vI x1, vI x2] (M, W) (fun M1 W2 => (∀ v3 : Int, v3 = x1 + 1 → (∀ v4 : Int, v4 = (M1 86 41) - 1 → Xs 243 (86, [some (some (vR 86)), some (some (vI x1)), some (some (vI x2)), some (some (vI v3)), some (some (vI v4))], [], (M1, W2)) (QI Q))))) ∧
  (¬ (M 114 x2) ≥ (M 114 x1) → Xs 243 (47, [some (some (vR 86)), some (some (vI x1)), some (some (vI (x2 + (-1)))), d3, d4], [], (M, W)) (QI Q)))) : Xs 243 (47, [some (some (vR 86)), some (some (vI x1)), some (some (vI x2)), d3, d4], [], (M, W)) (QI Q) :=
  wpN_X (cut := fun p => Nat.beq p 7 || Nat.beq p 47 || Nat.beq p 86) 28 _ _ h
set_option maxRecDepth 20000 in
theorem k_X12_nextRow_86 (x1 : Int) (x2 : Int) (x3 : Int) (x4 : Int) (M : aM) (W : aW) (Q : Int → aM → aW → Prop) (h :
  (inI x3 ∧ inI x4) ∧ 
  ((x3 ≥ x4 → Q 1 M W) ∧
  (¬ x3 ≥ x4 → CallV 244 [vR 86, vI x3, vI x4] (M, W) (fun M1 W2 => Xs 243 (86, [some (some (vR 86)), some (some (vI x1)), some (some (vI x2)), some (some (vI (x3 + 1))), some (some (vI (x4 + (-1))))], [], (M1, W2)) (QI Q))))) : Xs 243 (86, [some (some (vR 86)), some (some (vI x1)), some (some (vI x2)), some (some (vI x3)), some (some (vI x4))], [], (M, W)) (QI Q) :=
  wpN_X (cut := fun p => Nat.beq p 7 || Nat.beq p 47 || Nat.beq p 86) 15 _ _ h
set_option maxRecDepth 20000 in
theorem e_X12_swap (x1 : Int) (x2 : Int) (M : aM) (W : aW) (Q : aM → aW → Prop) (h :
  (0 ≤ x1 ∧ x1 < 6) ∧ (∀ v1 : Int, v1 = M 114 x1 → (0 ≤ x2 ∧ x2 < 6) ∧ (0 ≤ x1 ∧ x1 < 6) ∧ (0 ≤ x2 ∧ x2 < 6) ∧ Q (up_ (up_ M 114 x1 (M 114 x2)) 114 x2 v1) W)) : CallV 244 [vR 86, vI x1, vI x2] (M, W) Q :=
  wpN_X (cut := fun p => false) 21 _ _ h
set_option maxRecDepth 20000 in
theorem e_X12_rows (x1 : Int) (M : aM) (W : aW) (Q : Int → aM → aW → Prop) (h :
  CallI 155 [vI x1, vI 0, vI 6] ((up_ M 86 2 0), W) (fun r3 M1 W2 => (inI r3) ∧ 
  ((r3 = 0 → Q (-1) M1 W2) ∧
  (¬ r3 = 0 → CallI 200 [vR 86] (M1, W2) (fun r6 M4 W5 => (inI r6) ∧ 
    ((r6 ≠ 0 → (∀ v7 : Int, v7 = M4 86 41 → Xs 245 (33, [some (some (vR 86)), some (some (vI x1)), some (some (vI v7)), some (some (vI 0)), none, none, none, none, none, none], [], (M4, W5)) (QL Q))) ∧
    (¬ r6 ≠ 0 → Q (-1) M4 W5))))))) : CallL 245 [vR 86, vI x1] (M, W) Q :=
  wpN_X (cut := fun p => Nat.beq p 33 || Nat.beq p 80 || Nat.beq p 126 || Nat.beq p 205) 23 _ _ h
set_option maxRecDepth 20000 in
theorem k_X12_rows_33 (x1 : Int) (x2 : Int) (x3 : Int) (d4 : aL) (d5 : aL) (d6 : aL) (d7 : aL) (d8 : aL) (d9 : aL) (M : aM) (W : aW) (Q : Int → aM → aW → Prop) (h :
  (inI x3) ∧ 
  ((x3 ≥ 6 → CallI 181 [vR 86] (M, W) (fun r3 M1 W2 => Xs 245 (80, [some (some (vR 86)), some (some (vI x1)), some (some (vI x2)), some (some (vL 0)), some none, some (some (vI 0)), some (some (vI 1)), d7, d8, d9], [], ((up_ M1 86 41 r3), W2)) (QL Q))) ∧
  (¬ x3 ≥ 6 → (0 ≤ x3 ∧ x3 < 6) ∧ (0 ≤ x3 ∧ x3 < 6) ∧ (0 ≤ x3 ∧ x3 < 6) ∧ Xs 245 (33, [some (some (vR 86)), some (some (vI x1)), some (some (vI x2)), some (some (vI (x3 + 1))), d4, d5, d6, d7, d8, d9], [], ((up_ (up_ M 116 x3 (M 114 x3)) 114 x3 x3), W)) (QL Q)))) : Xs 245 (33, [some (some (vR 86)), some (some (vI x1)), some (some (vI x2)), some (some (vI x3)), d4, d5, d6, d7, d8, d9], [], (M, W)) (QL Q) :=
  wpN_X (cut := fun p => Nat.beq p 33 || Nat.beq p 80 || Nat.beq p 126 || Nat.beq p 205) 32 _ _ h
set_option maxRecDepth 20000 in
theorem k_X12_rows_80 (x1 : Int) (x2 : Int) (x3 : Int) (x5 : Int) (x6 : Int) (d7 : aL) (d8 : aL) (d9 : aL) (M : aM) (W : aW) (Q : Int → aM → aW → Prop) (h :
  (inI x6) ∧ 
  ((x6 = 0 → (inI x1) ∧ 
    ((x1 ≠ 0 → (inI x1 ∧ inI (M 86 41)) ∧ 
      ((x1 > (M 86 41) → Xs 245 (205, [some (some (vR 86)), some (some (vI x1)), some (some (vI x2)), some (some (vL x3)), some none, some (some (vI x5)), some (some (vI x6)), some (some (vL (-1))), some none, some (some (vI 0))], [], ((up_ M 86 41 x2), W)) (QL Q)) ∧
      (¬ x1 > (M 86 41) → (0 ≤ (x1 - 1) ∧ (x1 - 1) < 6) ∧ (inI (M 117 (x1 - 1))) ∧ Xs 245 (205, [some (some (vR 86)), some (some (vI x1)), some (some (vI x2)), some (some (vL x3)), some none, some (some (vI x5)), some (some (vI x6)), some (some (vL (M 117 (x1 - 1)))), some none, some (some (vI 0))], [], ((up_ M 86 41 x2), W)) (QL Q)))) ∧
    (¬ x1 ≠ 0 → Xs 245 (205, [some (some (vR 86)), some (some (vI x1)), some (some (vI x2)), some (some (vL x3)), some none, some (some (vI x5)), some (some (vI x6)), some (some (vL x3)), some none, some (some (vI 0))], [], ((up_ M 86 41 x2), W)) (QL Q)))) ∧
  (¬ x6 = 0 → CallL 233 [vR 86, vI 5] (M, W) (fun r3 M1 W2 => (inI x5) ∧ 
    ((x5 = 0 → Xs 245 (126, [some (some (vR 86)), some (some (vI x1)), some (some (vI x2)), some (some (vL r3)), some none, some (some (vI 1)), some (some (vI x6)), some (some (vL r3)), some none, some (some (vI 0))], [], (M1, W2)) (QL Q)) ∧
    (¬ x5 = 0 → (inL r3 ∧ inL 0) ∧
      ((r3 < 0 → CallI 243 [vR 86] (M1, W2) (fun r6 M4 W5 => Xs 245 (80, [some (some (vR 86)), some (some (vI x1)), some (some (vI x2)), some (some (vL x3)), some none, some (some (vI x5)), some (some (vI r6)), some (some (vL r3)), some none, d9], [], (M4, W5)) (QL Q))) ∧
      (¬ r3 < 0 → (inL x3 ∧ inL 0) ∧
        ((x3 < 0 → Xs 245 (126, [some (some (vR 86)), some (some (vI x1)), some (some (vI x2)), some (some (vL r3)), some none, some (some (vI 1)), some (some (vI x6)), some (some (vL r3)), some none, some (some (vI 0))], [], (M1, W2)) (QL Q)) ∧
        (¬ x3 < 0 → (inL r3 ∧ inL x3) ∧
          ((r3 ≥ x3 → CallI 243 [vR 86] (M1, W2) (fun r9 M7 W8 => Xs 245 (80, [some (some (vR 86)), some (some (vI x1)), some (some (vI x2)), some (some (vL x3)), some none, some (some (vI x5)), some (some (vI r9)), some (some (vL r3)), some none, d9], [], (M7, W8)) (QL Q))) ∧
          (¬ r3 ≥ x3 → Xs 245 (126, [some (some (vR 86)), some (some (vI x1)), some (some (vI x2)), some (some (vL r3)), some none, some (some (vI 1)), some (some (vI x6)), some (some (vL r3)), some none, some (some (vI 0))], [], (M1, W2)) (QL Q))))))))))))) : Xs 245 (80, [some (some (vR 86)), some (some (vI x1)), some (some (vI x2)), some (some (vL x3)), some none, some (some (vI x5)), some (some (vI x6)), d7, d8, d9], [], (M, W)) (QL Q) :=
  wpN_X (cut := fun p => Nat.beq p 33 || Nat.beq p 80 || Nat.beq p 126 || Nat.beq p 205) 88 _ _ h
set_option maxRecDepth 20000 in
theorem k_X12_rows_126 (x1 : Int) (x2 : Int) (x3 : Int) (x5 : Int) (x6 : Int) (x7 : Int) (x9 : Int) (M : aM) (W : aW) (Q : Int → aM → aW → Prop) (h :
  (inI x9 ∧ inI (M 86 41)) ∧ 
  ((x9 ≥ (M 86 41) → CallI 243 [vR 86] (M, W) (fun r3 M1 W2 => Xs 245 (80, [some (some (vR 86)), some (some (vI x1)), some (some (vI x2)), some (some (vL x3)), some none, some (some (vI x5)), some (some (vI r3)), some (some (vL x7)), some none, some (some (vI x9))], [], (M1, W2)) (QL Q))) ∧
  (¬ x9 ≥ (M 86 41) → (0 ≤ x9 ∧ x9 < 6) ∧ (0 ≤ x9 ∧ x9 < 6) ∧ Xs 245 (126, [some (some (vR 86)), some (some (vI x1)), some (some (vI x2)), some (some (vL x3)), some none, some (some (vI x5)), some (some (vI x6)), some (some (vL x7)), some none, some (some (vI (x9 + 1)))], [], ((up_ M 117 x9 (M 114 x9)), W)) (QL Q)))) : Xs 245 (126, [some (some (vR 86)), some (some (vI x1)), some (some (vI x2)), some (some (vL x3)), some none, some (some (vI x5)), some (some (vI x6)), some (some (vL x7)), some none, some (some (vI x9))], [], (M, W)) (QL Q) :=
  wpN_X (cut := fun p => Nat.beq p 33 || Nat.beq p 80 || Nat.beq p 126 || Nat.beq p 205) 22 _ _ h
set_option maxRecDepth 20000 in
theorem k_X12_rows_205 (x1 : Int) (x2 : Int) (x3 : Int) (x5 : Int) (x6 : Int) (x7 : Int) (x9 : Int) (M : aM) (W : aW) (Q : Int → aM → aW → Prop) (h :
  (inI x9) ∧ 
  ((x9 ≥ 6 → Q x7 M W) ∧
  (¬ x9 ≥ 6 → (0 ≤ x9 ∧ x9 < 6) ∧ (0 ≤ x9 ∧ x9 < 6) ∧ Xs 245 (205, [some (some (vR 86)), some (some (vI x1)), some (some (vI x2)), some (some (vL x3)), some none, some (some (vI x5)), some (some (vI x6)), some (some (vL x7)), some none, some (some (vI (x9 + 1)))], [], ((up_ M 114 x9 (M 116 x9)), W)) (QL Q)))) : Xs 245 (205, [some (some (vR 86)), some (some (vI x1)), some (some (vI x2)), some (some (vL x3)), some none, some (some (vI x5)), some (some (vI x6)), some (some (vL x7)), some none, some (some (vI x9))], [], (M, W)) (QL Q) :=
  wpN_X (cut := fun p => Nat.beq p 33 || Nat.beq p 80 || Nat.beq p 126 || Nat.beq p 205) 18 _ _ h
set_option maxRecDepth 20000 in
theorem e_X12_rule (x1 : Int) (x2 : Int) (x3 : Int) (x4 : Int) (M : aM) (W : aW) (Q : Int → aM → aW → Prop) (h :
  (inI ((up_ M 86 2 0) 86 43)) ∧ 
  ((((up_ M 86 2 0) 86 43) = 30 → Q (-1) (up_ M 86 2 0) W) ∧
  (¬ ((up_ M 86 2 0) 86 43) = 30 → CallI 194 [vR 86, vI x1] ((up_ M 86 2 0), W) (fun r3 M1 W2 => (inI r3) ∧ 
    ((r3 = 0 → Q (-1) M1 W2) ∧
    (¬ r3 = 0 → CallI 194 [vR 86, vI x4] (M1, W2) (fun r6 M4 W5 => (inI r6) ∧ 
      ((r6 = 0 → Q (-1) M4 W5) ∧
      (¬ r6 = 0 → (inI x2) ∧ 
        ((x2 = (-1) → (0 ≤ (4 * (M4 86 43)) ∧ (4 * (M4 86 43)) < 120) ∧ (0 ≤ ((4 * ((up_ M4 115 (4 * (M4 86 43)) x1) 86 43)) + 1) ∧ ((4 * ((up_ M4 115 (4 * (M4 86 43)) x1) 86 43)) + 1) < 120) ∧ (0 ≤ ((4 * ((up_ (up_ M4 115 (4 * (M4 86 43)) x1) 115 ((4 * ((up_ M4 115 (4 * (M4 86 43)) x1) 86 43)) + 1) x2) 86 43)) + 2) ∧ ((4 * ((up_ (up_ M4 115 (4 * (M4 86 43)) x1) 115 ((4 * ((up_ M4 115 (4 * (M4 86 43)) x1) 86 43)) + 1) x2) 86 43)) + 2) < 120) ∧ (0 ≤ ((4 * ((up_ (up_ (up_ M4 115 (4 * (M4 86 43)) x1) 115 ((4 * ((up_ M4 115 (4 * (M4 86 43)) x1) 86 43)) + 1) x2) 115 ((4 * ((up_ (up_ M4 115 (4 * (M4 86 43)) x1) 115 ((4 * ((up_ M4 115 (4 * (M4 86 43)) x1) 86 43)) + 1) x2) 86 43)) + 2) x3) 86 43)) + 3) ∧ ((4 * ((up_ (up_ (up_ M4 115 (4 * (M4 86 43)) x1) 115 ((4 * ((up_ M4 115 (4 * (M4 86 43)) x1) 86 43)) + 1) x2) 115 ((4 * ((up_ (up_ M4 115 (4 * (M4 86 43)) x1) 115 ((4 * ((up_ M4 115 (4 * (M4 86 43)) x1) 86 43)) + 1) x2) 86 43)) + 2) x3) 86 43)) + 3) < 120) ∧ Q (((up_ (up_ (up_ (up_ (up_ M4 115 (4 * (M4 86 43)) x1) 115 ((4 * ((up_ M4 115 (4 * (M4 86 43)) x1) 86 43)) + 1) x2) 115 ((4 * ((up_ (up_ M4 115 (4 * (M4 86 43)) x1) 115 ((4 * ((up_ M4 115 (4 * (M4 86 43)) x1) 86 43)) + 1) x2) 86 43)) + 2) x3) 115 ((4 * ((up_ (up_ (up_ M4 115 (4 * (M4 86 43)) x1) 115 ((4 * ((up_ M4 115 (4 * (M4 86 43)) x1) 86 43)) + 1) x2) 115 ((4 * ((up_ (up_ M4 115 (4 * (M4 86 43)) x1) 115 ((4 * ((up_ M4 115 (4 * (M4 86 43)) x1) 86 43)) + 1) x2) 86 43)) + 2) x3) 86 43)) + 3) x4) 86 43 (((up_ (up_ (up_ (up_ M4 115 (4 * (M4 86 43)) x1) 115 ((4 * ((up_ M4 115 (4 * (M4 86 43)) x1) 86 43)) + 1) x2) 115 ((4 * ((up_ (up_ M4 115 (4 * (M4 86 43)) x1) 115 ((4 * ((up_ M4 115 (4 * (M4 86 43)) x1) 86 43)) + 1) x2) 86 43)) + 2) x3) 115 ((4 * ((up_ (up_ (up_ M4 115 (4 * (M4 86 43)) x1) 115 ((4 * ((up_ M4 115 (4 * (M4 86 43)) x1) 86 43)) + 1) x2) 115 ((4 * ((up_ (up_ M4 115 (4 * (M4 86 43)) x1) 115 ((4 * ((up_ M4 115 (4 * (M4 86 43)) x1) 86 43)) + 1) x2) 86 43)) + 2) x3) 86 43)) + 3) x4) 86 43) + 1)) 86 43) - 1) (up_ (up_ (up_ (up_ (up_ M4 115 (4 * (M4 86 43)) x1) 115 ((4 * ((up_ M4 115 (4 * (M4 86 43)) x1) 86 43)) + 1) x2) 115 ((4 * ((up_ (up_ M4 115 (4 * (M4 86 43)) x1) 115 ((4 * ((up_ M4 115 (4 * (M4 86 43)) x1) 86 43)) + 1) x2) 86 43)) + 2) x3) 115 ((4 * ((up_ (up_ (up_ M4 115 (4 * (M4 86 43)) x1) 115 ((4 * ((up_ M4 115 (4 * (M4 86 43)) x1) 86 43)) + 1) x2) 115 ((4 * ((up_ (up_ M4 115 (4 * (M4 86 43)) x1) 115 ((4 * ((up_ M4 115 (4 * (M4 86 43)) x1) 86 43)) + 1) x2) 86 43)) + 2) x3) 86 43)) + 3) x4) 86 43 (((up_ (up_ (up_ (up_ M4 115 (4 * (M4 86 43)) x1) 115 ((4 * ((up_ M4 115 (4 * (M4 86 43)) x1) 86 43)) + 1) x2) 115 ((4 * ((up_ (up_ M4 115 (4 * (M4 86 43)) x1) 115 ((4 * ((up_ M4 115 (4 * (M4 86 43)) x1) 86 43)) + 1) x2) 86 43)) + 2) x3) 115 ((4 * ((up_ (up_ (up_ M4 115 (4 * (M4 86 43)) x1) 115 ((4 * ((up_ M4 115 (4 * (M4 86 43)) x1) 86 43)) + 1) x2) 115 ((4 * ((up_ (up_ M4 115 (4 * (M4 86 43)) x1) 115 ((4 * ((up_ M4 115 (4 * (M4 86 43)) x1) 86 43)) + 1) x2) 86 43)) + 2) x3) 86 43)) + 3) x4) 86 43) + 1)) W5) ∧
        (¬ x2 = (-1) → CallI 193 [vR 86, vI x2] (M4, W5) (fun r9 M7 W8 => (inI r9) ∧ 
          ((r9 = 0 → Q (-1) M7 W8) ∧
          (¬ r9 = 0 → CallI 155 [vI x3, vI 0, vI 2] (M7, W8) (fun r12 M10 W11 => (inI r12) ∧ 
            ((r12 ≠ 0 → (0 ≤ (4 * (M10 86 43)) ∧ (4 * (M10 86 43)) < 120) ∧ (0 ≤ ((4 * ((up_ M10 115 (4 * (M10 86 43)) x1) 86 43)) + 1) ∧ ((4 * ((up_ M10 115 (4 * (M10 86 43)) x1) 86 43)) + 1) < 120) ∧ (0 ≤ ((4 * ((up_ (up_ M10 115 (4 * (M10 86 43)) x1) 115 ((4 * ((up_ M10 115 (4 * (M10 86 43)) x1) 86 43)) + 1) x2) 86 43)) + 2) ∧ ((4 * ((up_ (up_ M10 115 (4 * (M10 86 43)) x1) 115 ((4 * ((up_ M10 115 (4 * (M10 86 43)) x1) 86 43)) + 1) x2) 86 43)) + 2) < 120) ∧ (0 ≤ ((4 * ((up_ (up_ (up_ M10 115 (4 * (M10 86 43)) x1) 115 ((4 * ((up_ M10 115 (4 * (M10 86 43)) x1) 86 43)) + 1) x2) 115 ((4 * ((up_ (up_ M10 115 (4 * (M10 86 43)) x1) 115 ((4 * ((up_ M10 115 (4 * (M10 86 43)) x1) 86 43)) + 1) x2) 86 43)) + 2) x3) 86 43)) + 3) ∧ ((4 * ((up_ (up_ (up_ M10 115 (4 * (M10 86 43)) x1) 115 ((4 * ((up_ M10 115 (4 * (M10 86 43)) x1) 86 43)) + 1) x2) 115 ((4 * ((up_ (up_ M10 115 (4 * (M10 86 43)) x1) 115 ((4 * ((up_ M10 115 (4 * (M10 86 43)) x1) 86 43)) + 1) x2) 86 43)) + 2) x3) 86 43)) + 3) < 120) ∧ Q (((up_ (up_ (up_ (up_ (up_ M10 115 (4 * (M10 86 43)) x1) 115 ((4 * ((up_ M10 115 (4 * (M10 86 43)) x1) 86 43)) + 1) x2) 115 ((4 * ((up_ (up_ M10 115 (4 * (M10 86 43)) x1) 115 ((4 * ((up_ M10 115 (4 * (M10 86 43)) x1) 86 43)) + 1) x2) 86 43)) + 2) x3) 115 ((4 * ((up_ (up_ (up_ M10 115 (4 * (M10 86 43)) x1) 115 ((4 * ((up_ M10 115 (4 * (M10 86 43)) x1) 86 43)) + 1) x2) 115 ((4 * ((up_ (up_ M10 115 (4 * (M10 86 43)) x1) 115 ((4 * ((up_ M10 115 (4 * (M10 86 43)) x1) 86 43)) + 1) x2) 86 43)) + 2) x3) 86 43)) + 3) x4) 86 43 (((up_ (up_ (up_ (up_ M10 115 (4 * (M10 86 43)) x1) 115 ((4 * ((up_ M10 115 (4 * (M10 86 43)) x1) 86 43)) + 1) x2) 115 ((4 * ((up_ (up_ M10 115 (4 * (M10 86 43)) x1) 115 ((4 * ((up_ M10 115 (4 * (M10 86 43)) x1) 86 43)) + 1) x2) 86 43)) + 2) x3) 115 ((4 * ((up_ (up_ (up_ M10 115 (4 * (M10 86 43)) x1) 115 ((4 * ((up_ M10 115 (4 * (M10 86 43)) x1) 86 43)) + 1) x2) 115 ((4 * ((up_ (up_ M10 115 (4 * (M10 86 43)) x1) 115 ((4 * ((up_ M10 115 (4 * (M10 86 43)) x1) 86 43)) + 1) x2) 86 43)) + 2) x3) 86 43)) + 3) x4) 86 43) + 1)) 86 43) - 1) (up_ (up_ (up_ (up_ (up_ M10 115 (4 * (M10 86 43)) x1) 115 ((4 * ((up_ M10 115 (4 * (M10 86 43)) x1) 86 43)) + 1) x2) 115 ((4 * ((up_ (up_ M10 115 (4 * (M10 86 43)) x1) 115 ((4 * ((up_ M10 115 (4 * (M10 86 43)) x1) 86 43)) + 1) x2) 86 43)) + 2) x3) 115 ((4 * ((up_ (up_ (up_ M10 115 (4 * (M10 86 43)) x1) 115 ((4 * ((up_ M10 115 (4 * (M10 86 43)) x1) 86 43)) + 1) x2) 115 ((4 * ((up_ (up_ M10 115 (4 * (M10 86 43)) x1) 115 ((4 * ((up_ M10 115 (4 * (M10 86 43)) x1) 86 43)) + 1) x2) 86 43)) + 2) x3) 86 43)) + 3) x4) 86 43 (((up_ (up_ (up_ (up_ M10 115 (4 * (M10 86 43)) x1) 115 ((4 * ((up_ M10 115 (4 * (M10 86 43)) x1) 86 43)) + 1) x2) 115 ((4 * ((up_ (up_ M10 115 (4 * (M10 86 43)) x1) 115 ((4 * ((up_ M10 115 (4 * (M10 86 43)) x1) 86 43)) + 1) x2) 86 43)) + 2) x3) 115 ((4 * ((up_ (up_ (up_ M10 115 (4 * (M10 86 43)) x1) 115 ((4 * ((up_ M10 115 (4 * (M10 86 43)) x1) 86 43)) + 1) x2) 115 ((4 * ((up_ (up_ M10 115 (4 * (M10 86 43)) x1) 115 ((4 * ((up_ M10 115 (4 * (M10 86 43)) x1) 86 43)) + 1) x2) 86 43)) + 2) x3) 86 43)) + 3) x4) 86 43) + 1)) W11) ∧
            (¬ r12 ≠ 0 → Q (-1) M10 W11))))))))))))))))) : CallI 246 [vR 86, vI x1, vI x2, vI x3, vI x4] (M, W) Q :=
  wpN_X (cut := fun p => false) 137 _ _ h
set_option maxRecDepth 20000 in
theorem e_X12_ring (x1 : Int) (M : aM) (W : aW) (Q : Int → aM → aW → Prop) (h :
  CallI 200 [vR 86] ((up_ M 86 2 0), W) (fun r3 M1 W2 => (inI r3) ∧ 
  ((r3 = 0 → Q (-1) M1 W2) ∧
  (¬ r3 = 0 → (inI x1) ∧ 
    ((x1 ≥ 0 → Xs 247 (20, [some (some (vR 86)), some (some (vI x1)), some (some (vI 0))], [], (M1, W2)) (QI Q)) ∧
    (¬ x1 ≥ 0 → Q (-1) M1 W2)))))) : CallI 247 [vR 86, vI x1] (M, W) Q :=
  wpN_X (cut := fun p => Nat.beq p 20) 17 _ _ h
set_option maxRecDepth 20000 in
theorem k_X12_ring_20 (x1 : Int) (x2 : Int) (M : aM) (W : aW) (Q : Int → aM → aW → Prop) (h :
  (inI x2 ∧ inI (M 86 22)) ∧ 
  ((x2 ≥ (M 86 22) → Q (-1) M W) ∧
  (¬ x2 ≥ (M 86 22) → (0 ≤ x2 ∧ x2 < 64) ∧ (inL (M 101 x2) ∧ inL 0) ∧
    (((M 101 x2) ≤ 0 → Xs 247 (20, [some (some (vR 86)), some (some (vI x1)), some (some (vI (x2 + 1)))], [], (M, W)) (QI Q)) ∧
    (¬ (M 101 x2) ≤ 0 → CallL 231 [vR 86, vI 6, vI x2] (M, W) (fun r3 M1 W2 => (inL r3 ∧ inL 0) ∧
      ((r3 ≥ 0 → Xs 247 (20, [some (some (vR 86)), some (some (vI x1)), some (some (vI (x2 + 1)))], [], (M1, W2)) (QI Q)) ∧
      (¬ r3 ≥ 0 → CallI 248 [vR 86, vI x2, vI x1] (M1, W2) (fun r6 M4 W5 => Q r6 M4 W5))))))))) : Xs 247 (20, [some (some (vR 86)), some (some (vI x1)), some (some (vI x2))], [], (M, W)) (QI Q) :=
  wpN_X (cut := fun p => Nat.beq p 20) 31 _ _ h
set_option maxRecDepth 20000 in
theorem e_X12_ringIn (x1 : Int) (x2 : Int) (M : aM) (W : aW) (Q : Int → aM → aW → Prop) (h :
  CallV 230 [vR 86, vI x1] (M, W) (fun M1 W2 => Xs 248 (7, [some (some (vR 86)), some (some (vI x1)), some (some (vI x2)), some (some (vI 0)), none], [], (M1, W2)) (QI Q))) : CallI 248 [vR 86, vI x1, vI x2] (M, W) Q :=
  wpN_X (cut := fun p => Nat.beq p 7 || Nat.beq p 10) 8 _ _ h
set_option maxRecDepth 20000 in
theorem k_X12_ringIn_7 (x1 : Int) (x2 : Int) (x3 : Int) (d4 : aL) (M : aM) (W : aW) (Q : Int → aM → aW → Prop) (h :
  Xs 248 (10, [some (some (vR 86)), some (some (vI x1)), some (some (vI x2)), some (some (vI x3)), some (some (vI 0))], [], (M, W)) (QI Q)) : Xs 248 (7, [some (some (vR 86)), some (some (vI x1)), some (some (vI x2)), some (some (vI x3)), d4], [], (M, W)) (QI Q) :=
  wpN_X (cut := fun p => Nat.beq p 7 || Nat.beq p 10) 5 _ _ h
set_option maxRecDepth 20000 in
theorem k_X12_ringIn_10 (x1 : Int) (x2 : Int) (x3 : Int) (x4 : Int) (M : aM) (W : aW) (Q : Int → aM → aW → Prop) (h :
  (inI x4 ∧ inI x3) ∧ 
  ((x4 ≥ x3 → (0 ≤ x3 ∧ x3 < 120) ∧ (0 ≤ x3 ∧ x3 < 120) ∧ CallI 229 [vR 86, vI 6, vI x1] ((up_ (up_ M 118 x3 (M 86 45)) 119 x3 ((up_ M 118 x3 (M 86 45)) 86 46)), W) (fun r3 M1 W2 => (inI r3) ∧ 
    ((r3 ≠ 0 → Xs 248 (7, [some (some (vR 86)), some (some (vI x1)), some (some (vI x2)), some (some (vI (x3 + 1))), some (some (vI x4))], [], (M1, W2)) (QI Q)) ∧
    (¬ r3 ≠ 0 → (inI x2) ∧ 
      ((x2 ≠ 0 → Q (-1) M1 W2) ∧
      (¬ x2 ≠ 0 → Q (M1 86 45) M1 W2)))))) ∧
  (¬ x4 ≥ x3 → (0 ≤ x4 ∧ x4 < 120) ∧ (inI (M 118 x4) ∧ inI (M 86 45)) ∧ 
    (((M 118 x4) ≠ (M 86 45) → Xs 248 (10, [some (some (vR 86)), some (some (vI x1)), some (some (vI x2)), some (some (vI x3)), some (some (vI (x4 + 1)))], [], (M, W)) (QI Q)) ∧
    (¬ (M 118 x4) ≠ (M 86 45) → (0 ≤ x4 ∧ x4 < 120) ∧ (inI (M 119 x4) ∧ inI (M 86 46)) ∧ 
      (((M 119 x4) ≠ (M 86 46) → Xs 248 (10, [some (some (vR 86)), some (some (vI x1)), some (some (vI x2)), some (some (vI x3)), some (some (vI (x4 + 1)))], [], (M, W)) (QI Q)) ∧
      (¬ (M 119 x4) ≠ (M 86 46) → (inI x2 ∧ inI (x3 - x4)) ∧ 
        ((x2 ≥ (x3 - x4) → Q (-1) M W) ∧
        (¬ x2 ≥ (x3 - x4) → (0 ≤ (x4 + x2) ∧ (x4 + x2) < 120) ∧ Q (M 118 (x4 + x2)) M W))))))))) : Xs 248 (10, [some (some (vR 86)), some (some (vI x1)), some (some (vI x2)), some (some (vI x3)), some (some (vI x4))], [], (M, W)) (QI Q) :=
  wpN_X (cut := fun p => Nat.beq p 7 || Nat.beq p 10) 67 _ _ h
set_option maxRecDepth 20000 in
theorem e_X12_bell (x1 : Int) (M : aM) (W : aW) (Q : Int → aM → aW → Prop) (h :
  CallI 155 [vI x1, vI 0, vI 48] ((up_ M 86 2 0), W) (fun r3 M1 W2 => (inI r3) ∧ 
  ((r3 = 0 → Q (-1) M1 W2) ∧
  (¬ r3 = 0 → CallI 200 [vR 86] (M1, W2) (fun r6 M4 W5 => (inI r6) ∧ 
    ((r6 ≠ 0 → Xs 249 (28, [some (some (vR 86)), some (some (vI x1)), some (some (vI 0))], [], (M4, W5)) (QL Q)) ∧
    (¬ r6 ≠ 0 → Q (-1) M4 W5))))))) : CallL 249 [vR 86, vI x1] (M, W) Q :=
  wpN_X (cut := fun p => Nat.beq p 28) 20 _ _ h
set_option maxRecDepth 20000 in
theorem k_X12_bell_28 (x1 : Int) (x2 : Int) (M : aM) (W : aW) (Q : Int → aM → aW → Prop) (h :
  (inI x2 ∧ inI (M 86 23)) ∧ 
  ((x2 ≥ (M 86 23) → CallI 252 [vR 86, vI (M 89 6), vI 0, vI x1] (M, W) (fun r3 M1 W2 => (inI r3) ∧ Q r3 M1 W2)) ∧
  (¬ x2 ≥ (M 86 23) → (0 ≤ x2 ∧ x2 < 729) ∧ (0 ≤ (M 100 x2) ∧ (M 100 x2) < 729) ∧ (inL (M 103 (M 100 x2)) ∧ inL 0) ∧
    (((M 103 (M 100 x2)) ≤ 0 → Xs 249 (28, [some (some (vR 86)), some (some (vI x1)), some (some (vI (x2 + 1)))], [], (M, W)) (QL Q)) ∧
    (¬ (M 103 (M 100 x2)) ≤ 0 → (0 ≤ x2 ∧ x2 < 729) ∧ CallV 250 [vR 86, vI (M 100 x2), vI x1] (M, W) (fun M4 W5 => Xs 249 (28, [some (some (vR 86)), some (some (vI x1)), some (some (vI (x2 + 1)))], [], (M4, W5)) (QL Q))))))) : Xs 249 (28, [some (some (vR 86)), some (some (vI x1)), some (some (vI x2))], [], (M, W)) (QL Q) :=
  wpN_X (cut := fun p => Nat.beq p 28) 38 _ _ h
set_option maxRecDepth 20000 in
theorem e_X12_layBell (x1 : Int) (x2 : Int) (M : aM) (W : aW) (Q : aM → aW → Prop) (h :
  Xs 250 (2, [some (some (vR 86)), some (some (vI x1)), some (some (vI x2)), some (some (vI 0)), none], [], (M, W)) (QV Q)) : CallV 250 [vR 86, vI x1, vI x2] (M, W) Q :=
  wpN_X (cut := fun p => Nat.beq p 2 || Nat.beq p 10) 5 _ _ h
set_option maxRecDepth 20000 in
theorem k_X12_layBell_2 (x1 : Int) (x2 : Int) (x3 : Int) (d4 : aL) (M : aM) (W : aW) (Q : aM → aW → Prop) (h :
  (inI x3 ∧ inI x2) ∧ 
  ((x3 > x2 → Q M W) ∧
  (¬ x3 > x2 → Xs 250 (10, [some (some (vR 86)), some (some (vI x1)), some (some (vI x2)), some (some (vI x3)), some (some (vI 0))], [], (M, W)) (QV Q)))) : Xs 250 (2, [some (some (vR 86)), some (some (vI x1)), some (some (vI x2)), some (some (vI x3)), d4], [], (M, W)) (QV Q) :=
  wpN_X (cut := fun p => Nat.beq p 2 || Nat.beq p 10) 9 _ _ h
set_option maxRecDepth 20000 in
theorem k_X12_layBell_10 (x1 : Int) (x2 : Int) (x3 : Int) (x4 : Int) (M : aM) (W : aW) (Q : aM → aW → Prop) (h :
  CallI 180 [vR 86] (M, W) (fun r3 M1 W2 => (inI x4 ∧ inI r3) ∧ 
  ((x4 ≥ r3 → Xs 250 (2, [some (some (vR 86)), some (some (vI x1)), some (some (vI x2)), some (some (vI (x3 + 1))), some (some (vI x4))], [], (M1, W2)) (QV Q)) ∧
  (¬ x4 ≥ r3 → CallI 207 [vR 86, vI x4, vI x1] (M1, W2) (fun r6 M4 W5 => (inI r6) ∧ 
    ((r6 ≠ 0 → (inI x4 ∧ inI (M4 89 7)) ∧ 
      ((x4 ≠ (M4 89 7) → CallI 251 [vR 86, vI x4, vI x1, vI x3] (M4, W5) (fun r9 M7 W8 => (0 ≤ (((7290 * x3) + (10 * x1)) + x4) ∧ (((7290 * x3) + (10 * x1)) + x4) < 357210) ∧ Xs 250 (10, [some (some (vR 86)), some (some (vI x1)), some (some (vI x2)), some (some (vI x3)), some (some (vI (x4 + 1)))], [], ((up_ M7 120 (((7290 * x3) + (10 * x1)) + x4) r9), W8)) (QV Q))) ∧
      (¬ x4 ≠ (M4 89 7) → (0 ≤ x1 ∧ x1 < 729) ∧ (0 ≤ (((7290 * x3) + (10 * x1)) + x4) ∧ (((7290 * x3) + (10 * x1)) + x4) < 357210) ∧ Xs 250 (10, [some (some (vR 86)), some (some (vI x1)), some (some (vI x2)), some (some (vI x3)), some (some (vI (x4 + 1)))], [], ((up_ M4 120 (((7290 * x3) + (10 * x1)) + x4) (M4 103 x1)), W5)) (QV Q)))) ∧
    (¬ r6 ≠ 0 → Xs 250 (10, [some (some (vR 86)), some (some (vI x1)), some (some (vI x2)), some (some (vI x3)), some (some (vI (x4 + 1)))], [], (M4, W5)) (QV Q)))))))) : Xs 250 (10, [some (some (vR 86)), some (some (vI x1)), some (some (vI x2)), some (some (vI x3)), some (some (vI x4))], [], (M, W)) (QV Q) :=
  wpN_X (cut := fun p => Nat.beq p 2 || Nat.beq p 10) 54 _ _ h
set_option maxRecDepth 20000 in
theorem e_X12_bestInTime (x1 : Int) (x2 : Int) (x3 : Int) (M : aM) (W : aW) (Q : Int → aM → aW → Prop) (h :
  Xs 251 (6, [some (some (vR 86)), some (some (vI x1)), some (some (vI x2)), some (some (vI x3)), some (some (vI 0)), some (some (vI 0)), none, none, none], [], (M, W)) (QI Q)) : CallI 251 [vR 86, vI x1, vI x2, vI x3] (M, W) Q :=
  wpN_X (cut := fun p => Nat.beq p 6 || Nat.beq p 99 || Nat.beq p 145) 7 _ _ h
set_option maxRecDepth 20000 in
theorem k_X12_bestInTime_6 (x1 : Int) (x2 : Int) (x3 : Int) (x4 : Int) (x5 : Int) (d6 : aL) (d7 : aL) (d8 : aL) (M : aM) (W : aW) (Q : Int → aM → aW → Prop) (h :
  CallI 180 [vR 86] (M, W) (fun r3 M1 W2 => (inI x5 ∧ inI r3) ∧ 
  ((x5 ≥ r3 → Xs 251 (99, [some (some (vR 86)), some (some (vI x1)), some (some (vI x2)), some (some (vI x3)), some (some (vI x4)), some (some (vI 0)), d6, d7, d8], [], (M1, W2)) (QI Q)) ∧
  (¬ x5 ≥ r3 → (0 ≤ ((10 * x1) + x5) ∧ ((10 * x1) + x5) < 100) ∧ (∀ v4 : Int, v4 = M1 98 ((10 * x1) + x5) → (inI v4) ∧ 
    ((v4 ≥ 0 → CallI 201 [vR 86, vI v4, vI x2] (M1, W2) (fun r7 M5 W6 => (inI r7) ∧ 
      ((r7 < 0 → Xs 251 (6, [some (some (vR 86)), some (some (vI x1)), some (some (vI x2)), some (some (vI x3)), some (some (vI x4)), some (some (vI (x5 + 1))), some (some (vI v4)), some (some (vI r7)), d8], [], (M5, W6)) (QI Q)) ∧
      (¬ r7 < 0 → (inI r7 ∧ inI x3) ∧ 
        ((r7 ≤ x3 → CallI 252 [vR 86, vI x5, vI x2, vI (x3 - r7)] (M5, W6) (fun r10 M8 W9 => (inI r10 ∧ inI x4) ∧ 
          ((r10 ≤ x4 → Xs 251 (6, [some (some (vR 86)), some (some (vI x1)), some (some (vI x2)), some (some (vI x3)), some (some (vI x4)), some (some (vI (x5 + 1))), some (some (vI v4)), some (some (vI r7)), some (some (vI r10))], [], (M8, W9)) (QI Q)) ∧
          (¬ r10 ≤ x4 → Xs 251 (6, [some (some (vR 86)), some (some (vI x1)), some (some (vI x2)), some (some (vI x3)), some (some (vI r10)), some (some (vI (x5 + 1))), some (some (vI v4)), some (some (vI r7)), some (some (vI r10))], [], (M8, W9)) (QI Q))))) ∧
        (¬ r7 ≤ x3 → Xs 251 (6, [some (some (vR 86)), some (some (vI x1)), some (some (vI x2)), some (some (vI x3)), some (some (vI x4)), some (some (vI (x5 + 1))), some (some (vI v4)), some (some (vI r7)), d8], [], (M5, W6)) (QI Q))))))) ∧
    (¬ v4 ≥ 0 → (inI (-1)) ∧ 
      ((((-1) : Int) < 0 → Xs 251 (6, [some (some (vR 86)), some (some (vI x1)), some (some (vI x2)), some (some (vI x3)), some (some (vI x4)), some (some (vI (x5 + 1))), some (some (vI v4)), some (some (vI (-1))), d8], [], (M1, W2)) (QI Q)) ∧
      (¬ ((-1) : Int) < 0 → (inI (-1) ∧ inI x3) ∧ 
        ((((-1) : Int) ≤ x3 → CallI 252 [vR 86, vI x5, vI x2, vI (x3 - (-1))] (M1, W2) (fun r13 M11 W12 => (inI r13 ∧ inI x4) ∧ 
          ((r13 ≤ x4 → Xs 251 (6, [some (some (vR 86)), some (some (vI x1)), some (some (vI x2)), some (some (vI x3)), some (some (vI x4)), some (some (vI (x5 + 1))), some (some (vI v4)), some (some (vI (-1))), some (some (vI r13))], [], (M11, W12)) (QI Q)) ∧
          (¬ r13 ≤ x4 → Xs 251 (6, [some (some (vR 86)), some (some (vI x1)), some (some (vI x2)), some (some (vI x3)), some (some (vI r13)), some (some (vI (x5 + 1))), some (some (vI v4)), some (some (vI (-1))), some (some (vI r13))], [], (M11, W12)) (QI Q))))) ∧
        (¬ ((-1) : Int) ≤ x3 → Xs 251 (6, [some (some (vR 86)), some (some (vI x1)), some (some (vI x2)), some (some (vI x3)), some (some (vI x4)), some (some (vI (x5 + 1))), some (some (vI v4)), some (some (vI (-1))), d8], [], (M1, W2)) (QI Q)))))))))))) : Xs 251 (6, [some (some (vR 86)), some (some (vI x1)), some (some (vI x2)), some (some (vI x3)), some (some (vI x4)), some (some (vI x5)), d6, d7, d8], [], (M, W)) (QI Q) :=
  wpN_X (cut := fun p => Nat.beq p 6 || Nat.beq p 99 || Nat.beq p 145) 96 _ _ h
set_option maxRecDepth 20000 in
theorem k_X12_bestInTime_99 (x1 : Int) (x2 : Int) (x3 : Int) (x4 : Int) (x5 : Int) (d6 : aL) (d7 : aL) (d8 : aL) (M : aM) (W : aW) (Q : Int → aM → aW → Prop) (h :
  (inI x5 ∧ inI (M 89 5)) ∧ 
  ((x5 ≥ (M 89 5) → Q x4 M W) ∧
  (¬ x5 ≥ (M 89 5) → CallI 211 [vR 86, vI x5, vI x1, vI x2] (M, W) (fun r3 M1 W2 => (inI r3) ∧ 
    ((r3 = 0 → Xs 251 (99, [some (some (vR 86)), some (some (vI x1)), some (some (vI x2)), some (some (vI x3)), some (some (vI x4)), some (some (vI (x5 + 1))), d6, d7, d8], [], (M1, W2)) (QI Q)) ∧
    (¬ r3 = 0 → (0 ≤ ((3 * x5) + 2) ∧ ((3 * x5) + 2) < 36) ∧ (inI (M1 96 ((3 * x5) + 2)) ∧ inI x3) ∧ 
      (((M1 96 ((3 * x5) + 2)) ≤ x3 → Xs 251 (145, [some (some (vR 86)), some (some (vI x1)), some (some (vI x2)), some (some (vI x3)), some (some (vI x4)), some (some (vI x5)), some (some (vI 0)), some (some (vI 1)), d8], [], (M1, W2)) (QI Q)) ∧
      (¬ (M1 96 ((3 * x5) + 2)) ≤ x3 → Xs 251 (99, [some (some (vR 86)), some (some (vI x1)), some (some (vI x2)), some (some (vI x3)), some (some (vI x4)), some (some (vI (x5 + 1))), d6, d7, d8], [], (M1, W2)) (QI Q))))))))) : Xs 251 (99, [some (some (vR 86)), some (some (vI x1)), some (some (vI x2)), some (some (vI x3)), some (some (vI x4)), some (some (vI x5)), d6, d7, d8], [], (M, W)) (QI Q) :=
  wpN_X (cut := fun p => Nat.beq p 6 || Nat.beq p 99 || Nat.beq p 145) 38 _ _ h
set_option maxRecDepth 20000 in
theorem k_X12_bestInTime_145 (x1 : Int) (x2 : Int) (x3 : Int) (x4 : Int) (x5 : Int) (x6 : Int) (x7 : Int) (d8 : aL) (M : aM) (W : aW) (Q : Int → aM → aW → Prop) (h :
  (inI x7) ∧ 
  ((x7 ≥ 3 → (inI x6 ∧ inI x4) ∧ 
    ((x6 ≤ x4 → Xs 251 (99, [some (some (vR 86)), some (some (vI x1)), some (some (vI x2)), some (some (vI x3)), some (some (vI x4)), some (some (vI (x5 + 1))), some (some (vI x6)), some (some (vI x7)), d8], [], (M, W)) (QI Q)) ∧
    (¬ x6 ≤ x4 → Xs 251 (99, [some (some (vR 86)), some (some (vI x1)), some (some (vI x2)), some (some (vI x3)), some (some (vI x6)), some (some (vI (x5 + 1))), some (some (vI x6)), some (some (vI x7)), d8], [], (M, W)) (QI Q)))) ∧
  (¬ x7 ≥ 3 → (0 ≤ ((3 * x5) + 1) ∧ ((3 * x5) + 1) < 36) ∧ (0 ≤ (M 96 ((3 * x5) + 1)) ∧ (M 96 ((3 * x5) + 1)) < 7) ∧ (∀ v1 : Int, v1 = x2 + (x7 * (M 99 (M 96 ((3 * x5) + 1)))) → (0 ≤ v1 ∧ v1 < 729) ∧ (inL (M 103 v1) ∧ inL 0) ∧
    (((M 103 v1) ≤ 0 → Xs 251 (145, [some (some (vR 86)), some (some (vI x1)), some (some (vI x2)), some (some (vI x3)), some (some (vI x4)), some (some (vI x5)), some (some (vI x6)), some (some (vI (x7 + 1))), some (some (vI v1))], [], (M, W)) (QI Q)) ∧
    (¬ (M 103 v1) ≤ 0 → (0 ≤ ((3 * x5) + 2) ∧ ((3 * x5) + 2) < 36) ∧ (0 ≤ (((7290 * (x3 - (M 96 ((3 * x5) + 2)))) + (10 * v1)) + x1) ∧ (((7290 * (x3 - (M 96 ((3 * x5) + 2)))) + (10 * v1)) + x1) < 357210) ∧ (∀ v2 : Int, v2 = x6 + (M 120 (((7290 * (x3 - (M 96 ((3 * x5) + 2)))) + (10 * v1)) + x1)) → Xs 251 (145, [some (some (vR 86)), some (some (vI x1)), some (some (vI x2)), some (some (vI x3)), some (some (vI x4)), some (some (vI x5)), some (some (vI v2)), some (some (vI (x7 + 1))), some (some (vI v1))], [], (M, W)) (QI Q)))))))) : Xs 251 (145, [some (some (vR 86)), some (some (vI x1)), some (some (vI x2)), some (some (vI x3)), some (some (vI x4)), some (some (vI x5)), some (some (vI x6)), some (some (vI x7)), d8], [], (M, W)) (QI Q) :=
  wpN_X (cut := fun p => Nat.beq p 6 || Nat.beq p 99 || Nat.beq p 145) 71 _ _ h
set_option maxRecDepth 20000 in
theorem e_X12_comesInTime (x1 : Int) (x2 : Int) (x3 : Int) (M : aM) (W : aW) (Q : Int → aM → aW → Prop) (h :
  Xs 252 (6, [some (some (vR 86)), some (some (vI x1)), some (some (vI x2)), some (some (vI x3)), some (some (vI 0)), some (some (vI 0)), none, none, none, none], [], (M, W)) (QI Q)) : CallI 252 [vR 86, vI x1, vI x2, vI x3] (M, W) Q :=
  wpN_X (cut := fun p => Nat.beq p 6 || Nat.beq p 41) 7 _ _ h
set_option maxRecDepth 20000 in
theorem k_X12_comesInTime_6 (x1 : Int) (x2 : Int) (x3 : Int) (x4 : Int) (x5 : Int) (d6 : aL) (d7 : aL) (d8 : aL) (d9 : aL) (M : aM) (W : aW) (Q : Int → aM → aW → Prop) (h :
  (inI x5 ∧ inI (M 86 22)) ∧ 
  ((x5 ≥ (M 86 22) → Q x4 M W) ∧
  (¬ x5 ≥ (M 86 22) → (0 ≤ x1 ∧ x1 < 10) ∧ (inI (and_ x5 (xor_ (M 97 x1) (-1)))) ∧ 
    (((and_ x5 (xor_ (M 97 x1) (-1))) = 0 → Xs 252 (41, [some (some (vR 86)), some (some (vI x1)), some (some (vI x2)), some (some (vI x3)), some (some (vI x4)), some (some (vI x5)), some (some (vI x2)), some (some (vI 1)), some (some (vI 0)), d9], [], (M, W)) (QI Q)) ∧
    (¬ (and_ x5 (xor_ (M 97 x1) (-1))) = 0 → Xs 252 (6, [some (some (vR 86)), some (some (vI x1)), some (some (vI x2)), some (some (vI x3)), some (some (vI x4)), some (some (vI (x5 + 1))), d6, d7, d8, d9], [], (M, W)) (QI Q)))))) : Xs 252 (6, [some (some (vR 86)), some (some (vI x1)), some (some (vI x2)), some (some (vI x3)), some (some (vI x4)), some (some (vI x5)), d6, d7, d8, d9], [], (M, W)) (QI Q) :=
  wpN_X (cut := fun p => Nat.beq p 6 || Nat.beq p 41) 28 _ _ h
set_option maxRecDepth 20000 in
theorem k_X12_comesInTime_41 (x1 : Int) (x2 : Int) (x3 : Int) (x4 : Int) (x5 : Int) (x6 : Int) (x7 : Int) (x8 : Int) (d9 : aL) (M : aM) (W : aW) (Q : Int → aM → aW → Prop) (h :
  CallI 181 [vR 86] (M, W) (fun r3 M1 W2 => (inI x8 ∧ inI r3) ∧ 
  ((x8 ≥ r3 → (inI x7) ∧ 
    ((x7 = 0 → Xs 252 (6, [some (some (vR 86)), some (some (vI x1)), some (some (vI x2)), some (some (vI x3)), some (some (vI x4)), some (some (vI (x5 + 1))), some (some (vI x6)), some (some (vI x7)), some (some (vI x8)), d9], [], (M1, W2)) (QI Q)) ∧
    (¬ x7 = 0 → (0 ≤ x6 ∧ x6 < 729) ∧ (inL (M1 103 x6) ∧ inL 0) ∧
      (((M1 103 x6) ≤ 0 → Xs 252 (6, [some (some (vR 86)), some (some (vI x1)), some (some (vI x2)), some (some (vI x3)), some (some (vI x4)), some (some (vI (x5 + 1))), some (some (vI x6)), some (some (vI x7)), some (some (vI x8)), d9], [], (M1, W2)) (QI Q)) ∧
      (¬ (M1 103 x6) ≤ 0 → (0 ≤ (((7290 * x3) + (10 * x6)) + x1) ∧ (((7290 * x3) + (10 * x6)) + x1) < 357210) ∧ (∀ v4 : Int, v4 = x4 + (M1 120 (((7290 * x3) + (10 * x6)) + x1)) → Xs 252 (6, [some (some (vR 86)), some (some (vI x1)), some (some (vI x2)), some (some (vI x3)), some (some (vI v4)), some (some (vI (x5 + 1))), some (some (vI x6)), some (some (vI x7)), some (some (vI x8)), d9], [], (M1, W2)) (QI Q))))))) ∧
  (¬ x8 ≥ r3 → (inI x7) ∧ 
    ((x7 = 0 → (inI x7) ∧ 
      ((x7 = 0 → Xs 252 (6, [some (some (vR 86)), some (some (vI x1)), some (some (vI x2)), some (some (vI x3)), some (some (vI x4)), some (some (vI (x5 + 1))), some (some (vI x6)), some (some (vI x7)), some (some (vI x8)), d9], [], (M1, W2)) (QI Q)) ∧
      (¬ x7 = 0 → (0 ≤ x6 ∧ x6 < 729) ∧ (inL (M1 103 x6) ∧ inL 0) ∧
        (((M1 103 x6) ≤ 0 → Xs 252 (6, [some (some (vR 86)), some (some (vI x1)), some (some (vI x2)), some (some (vI x3)), some (some (vI x4)), some (some (vI (x5 + 1))), some (some (vI x6)), some (some (vI x7)), some (some (vI x8)), d9], [], (M1, W2)) (QI Q)) ∧
        (¬ (M1 103 x6) ≤ 0 → (0 ≤ (((7290 * x3) + (10 * x6)) + x1) ∧ (((7290 * x3) + (10 * x6)) + x1) < 357210) ∧ (∀ v5 : Int, v5 = x4 + (M1 120 (((7290 * x3) + (10 * x6)) + x1)) → Xs 252 (6, [some (some (vR 86)), some (some (vI x1)), some (some (vI x2)), some (some (vI x3)), some (some (vI v5)), some (some (vI (x5 + 1))), some (some (vI x6)), some (some (vI x7)), some (some (vI x8)), d9], [], (M1, W2)) (QI Q))))))) ∧
    (¬ x7 = 0 → (0 ≤ x1 ∧ x1 < 10) ∧ (inI (and_ (shr_ (M1 97 x1) x8) 1)) ∧ 
      (((and_ (shr_ (M1 97 x1) x8) 1) ≠ 0 → (∀ v6 : Int, v6 = (and_ (shr_ x5 x8) 1) + 1 → CallI 183 [vR 86, vI x2, vI x8] (M1, W2) (fun r9 M7 W8 => (inI r9) ∧ 
        ((r9 ≠ 0 → CallI 183 [vR 86, vI x2, vI x8] (M7, W8) (fun r12 M10 W11 => (inI r12 ∧ inI v6) ∧ 
          ((r12 ≠ v6 → Xs 252 (41, [some (some (vR 86)), some (some (vI x1)), some (some (vI x2)), some (some (vI x3)), some (some (vI x4)), some (some (vI x5)), some (some (vI x6)), some (some (vI 0)), some (some (vI (x8 + 1))), some (some (vI v6))], [], (M10, W11)) (QI Q)) ∧
          (¬ r12 ≠ v6 → Xs 252 (41, [some (some (vR 86)), some (some (vI x1)), some (some (vI x2)), some (some (vI x3)), some (some (vI x4)), some (some (vI x5)), some (some (vI x6)), some (some (vI 1)), some (some (vI (x8 + 1))), some (some (vI v6))], [], (M10, W11)) (QI Q))))) ∧
        (¬ r9 ≠ 0 → (0 ≤ x8 ∧ x8 < 7) ∧ (∀ v13 : Int, v13 = x6 + (v6 * (M7 99 x8)) → Xs 252 (41, [some (some (vR 86)), some (some (vI x1)), some (some (vI x2)), some (some (vI x3)), some (some (vI x4)), some (some (vI x5)), some (some (vI v13)), some (some (vI x7)), some (some (vI (x8 + 1))), some (some (vI v6))], [], (M7, W8)) (QI Q))))))) ∧
      (¬ (and_ (shr_ (M1 97 x1) x8) 1) ≠ 0 → Xs 252 (41, [some (some (vR 86)), some (some (vI x1)), some (some (vI x2)), some (some (vI x3)), some (some (vI x4)), some (some (vI x5)), some (some (vI x6)), some (some (vI x7)), some (some (vI (x8 + 1))), d9], [], (M1, W2)) (QI Q))))))))) : Xs 252 (41, [some (some (vR 86)), some (some (vI x1)), some (some (vI x2)), some (some (vI x3)), some (some (vI x4)), some (some (vI x5)), some (some (vI x6)), some (some (vI x7)), some (some (vI x8)), d9], [], (M, W)) (QI Q) :=
  wpN_X (cut := fun p => Nat.beq p 6 || Nat.beq p 41) 128 _ _ h
set_option maxRecDepth 20000 in
theorem e_X12_knowingSome (x1 : Int) (M : aM) (W : aW) (Q : Int → aM → aW → Prop) (h :
  CallV 218 [vR 86] (M, W) (fun M1 W2 => Xs 253 (9, [some (some (vR 86)), some (some (vI x1)), some (some (vL 0)), some none, some (some (vI 0)), none, none, none], [], (M1, W2)) (QL Q))) : CallL 253 [vR 86, vI x1] (M, W) Q :=
  wpN_X (cut := fun p => Nat.beq p 9 || Nat.beq p 36) 9 _ _ h
set_option maxRecDepth 20000 in
theorem k_X12_knowingSome_9 (x1 : Int) (x2 : Int) (x4 : Int) (d5 : aL) (d6 : aL) (d7 : aL) (M : aM) (W : aW) (Q : Int → aM → aW → Prop) (h :
  (inI x4 ∧ inI (M 86 22)) ∧ 
  ((x4 ≥ (M 86 22) → Q x2 M W) ∧
  (¬ x4 ≥ (M 86 22) → (inI (and_ x4 (xor_ x1 (-1)))) ∧ 
    (((and_ x4 (xor_ x1 (-1))) = 0 → Xs 253 (36, [some (some (vR 86)), some (some (vI x1)), some (some (vL x2)), some none, some (some (vI x4)), some (some (vI 0)), some (some (vI 0)), d7], [], (M, W)) (QL Q)) ∧
    (¬ (and_ x4 (xor_ x1 (-1))) = 0 → Xs 253 (9, [some (some (vR 86)), some (some (vI x1)), some (some (vL x2)), some none, some (some (vI (x4 + 1))), d5, d6, d7], [], (M, W)) (QL Q)))))) : Xs 253 (9, [some (some (vR 86)), some (some (vI x1)), some (some (vL x2)), some none, some (some (vI x4)), d5, d6, d7], [], (M, W)) (QL Q) :=
  wpN_X (cut := fun p => Nat.beq p 9 || Nat.beq p 36) 23 _ _ h
set_option maxRecDepth 20000 in
theorem k_X12_knowingSome_36 (x1 : Int) (x2 : Int) (x4 : Int) (x5 : Int) (x6 : Int) (d7 : aL) (M : aM) (W : aW) (Q : Int → aM → aW → Prop) (h :
  CallI 181 [vR 86] (M, W) (fun r3 M1 W2 => (inI x6 ∧ inI r3) ∧ 
  ((x6 ≥ r3 → (0 ≤ x5 ∧ x5 < 729) ∧ (inL (M1 103 x5) ∧ inL 0) ∧
    (((M1 103 x5) ≠ 0 → CallL 208 [vR 86, vI 0, vI 1, vI (M1 89 6), vI x5] (M1, W2) (fun r6 M4 W5 => (inL r6 ∧ inL 4000000000000000000) ∧
      ((r6 < 4000000000000000000 → (∀ v7 : Int, v7 = x2 + r6 → Xs 253 (9, [some (some (vR 86)), some (some (vI x1)), some (some (vL v7)), some none, some (some (vI (x4 + 1))), some (some (vI x5)), some (some (vL r6)), some none], [], (M4, W5)) (QL Q))) ∧
      (¬ r6 < 4000000000000000000 → Q 4000000000000000000 M4 W5)))) ∧
    (¬ (M1 103 x5) ≠ 0 → Xs 253 (9, [some (some (vR 86)), some (some (vI x1)), some (some (vL x2)), some none, some (some (vI (x4 + 1))), some (some (vI x5)), some (some (vI x6)), d7], [], (M1, W2)) (QL Q)))) ∧
  (¬ x6 ≥ r3 → (inI (and_ (shr_ x1 x6) 1)) ∧ 
    (((and_ (shr_ x1 x6) 1) ≠ 1 → Xs 253 (36, [some (some (vR 86)), some (some (vI x1)), some (some (vL x2)), some none, some (some (vI x4)), some (some (vI x5)), some (some (vI (x6 + 1))), d7], [], (M1, W2)) (QL Q)) ∧
    (¬ (and_ (shr_ x1 x6) 1) ≠ 1 → (0 ≤ x6 ∧ x6 < 7) ∧ (∀ v8 : Int, v8 = x5 + (((and_ (shr_ x4 x6) 1) + 1) * (M1 99 x6)) → Xs 253 (36, [some (some (vR 86)), some (some (vI x1)), some (some (vL x2)), some none, some (some (vI x4)), some (some (vI v8)), some (some (vI (x6 + 1))), d7], [], (M1, W2)) (QL Q)))))))) : Xs 253 (36, [some (some (vR 86)), some (some (vI x1)), some (some (vL x2)), some none, some (some (vI x4)), some (some (vI x5)), some (some (vI x6)), d7], [], (M, W)) (QL Q) :=
  wpN_X (cut := fun p => Nat.beq p 9 || Nat.beq p 36) 66 _ _ h
set_option maxRecDepth 20000 in
theorem e_X12_worth (x1 : Int) (M : aM) (W : aW) (Q : Int → aM → aW → Prop) (h :
  CallI 193 [vR 86, vI x1] ((up_ M 86 2 0), W) (fun r3 M1 W2 => (inI r3) ∧ 
  ((r3 = 0 → Q (-1) M1 W2) ∧
  (¬ r3 = 0 → CallI 200 [vR 86] (M1, W2) (fun r6 M4 W5 => (inI r6) ∧ 
    ((r6 ≠ 0 → CallL 253 [vR 86, vI 0] (M4, W5) (fun r9 M7 W8 => CallL 253 [vR 86, vI (shl_ 1 x1)] (M7, W8) (fun r12 M10 W11 => (inL r9 ∧ inL 4000000000000000000) ∧
      ((r9 ≥ 4000000000000000000 → Q (-2) M10 W11) ∧
      (¬ r9 ≥ 4000000000000000000 → (inL r12 ∧ inL 4000000000000000000) ∧
        ((r12 < 4000000000000000000 → Q (r9 - r12) M10 W11) ∧
        (¬ r12 < 4000000000000000000 → Q (-2) M10 W11))))))) ∧
    (¬ r6 ≠ 0 → Q (-1) M4 W5))))))) : CallL 254 [vR 86, vI x1] (M, W) Q :=
  wpN_X (cut := fun p => false) 42 _ _ h
set_option maxRecDepth 20000 in
theorem e_X12_scout (x1 : Int) (x2 : Int) (M : aM) (W : aW) (Q : Int → aM → aW → Prop) (h :
  CallI 155 [vI x1, vI 0, vI 99] ((up_ M 86 2 0), W) (fun r3 M1 W2 => (inI r3) ∧ 
  ((r3 = 0 → Q (-1) M1 W2) ∧
  (¬ r3 = 0 → CallI 155 [vI x2, vI 0, vI 1] (M1, W2) (fun r6 M4 W5 => (inI r6) ∧ 
    ((r6 = 0 → Q (-1) M4 W5) ∧
    (¬ r6 = 0 → CallI 200 [vR 86] (M4, W5) (fun r9 M7 W8 => (inI r9) ∧ 
      ((r9 ≠ 0 → Xs 255 (46, [some (some (vR 86)), some (some (vI x1)), some (some (vI x2)), some (some (vI (-1))), some (some (vL 0)), some none, some (some (vI 0)), some (some (vI 0)), none, none, none, none], [], (M7, W8)) (QL Q)) ∧
      (¬ r9 ≠ 0 → Q (-1) M7 W8)))))))))) : CallL 255 [vR 86, vI x1, vI x2] (M, W) Q :=
  wpN_X (cut := fun p => Nat.beq p 46 || Nat.beq p 81) 33 _ _ h
set_option maxRecDepth 20000 in
theorem k_X12_scout_46 (x1 : Int) (x2 : Int) (x3 : Int) (x4 : Int) (x6 : Int) (x7 : Int) (d8 : aL) (d9 : aL) (d10 : aL) (d11 : aL) (M : aM) (W : aW) (Q : Int → aM → aW → Prop) (h :
  (inI x7 ∧ inI (M 86 22)) ∧ 
  ((x7 ≥ (M 86 22) → (inI x3) ∧ 
    ((x3 ≠ (-1) → (inI x2) ∧ 
      ((x2 ≠ 0 → Q x4 M W) ∧
      (¬ x2 ≠ 0 → (inI x3) ∧ Q x3 M W))) ∧
    (¬ x3 ≠ (-1) → Q (-2) M W))) ∧
  (¬ x7 ≥ (M 86 22) → CallL 253 [vR 86, vI x7] (M, W) (fun r3 M1 W2 => (inL r3 ∧ inL 4000000000000000000) ∧
    ((r3 < 4000000000000000000 → Xs 255 (81, [some (some (vR 86)), some (some (vI x1)), some (some (vI x2)), some (some (vI x3)), some (some (vL x4)), some none, some (some (vI x6)), some (some (vI x7)), some (some (vL r3)), some none, some (some (vI 0)), some (some (vI 0))], [], (M1, W2)) (QL Q)) ∧
    (¬ r3 < 4000000000000000000 → Xs 255 (46, [some (some (vR 86)), some (some (vI x1)), some (some (vI x2)), some (some (vI x3)), some (some (vL x4)), some none, some (some (vI x6)), some (some (vI (x7 + 1))), some (some (vL r3)), some none, d10, d11], [], (M1, W2)) (QL Q))))))) : Xs 255 (46, [some (some (vR 86)), some (some (vI x1)), some (some (vI x2)), some (some (vI x3)), some (some (vL x4)), some none, some (some (vI x6)), some (some (vI x7)), d8, d9, d10, d11], [], (M, W)) (QL Q) :=
  wpN_X (cut := fun p => Nat.beq p 46 || Nat.beq p 81) 36 _ _ h
set_option maxRecDepth 20000 in
theorem k_X12_scout_81 (x1 : Int) (x2 : Int) (x3 : Int) (x4 : Int) (x6 : Int) (x7 : Int) (x8 : Int) (x10 : Int) (x11 : Int) (M : aM) (W : aW) (Q : Int → aM → aW → Prop) (h :
  CallI 181 [vR 86] (M, W) (fun r3 M1 W2 => (inI x11 ∧ inI r3) ∧ 
  ((x11 ≥ r3 → (inI x10) ∧ (inI x1) ∧ (∀ v4 : Int, v4 = x8 + ((x10 * x1) * (M1 103 0)) → (inI x3) ∧ 
    ((x3 = (-1) → Xs 255 (46, [some (some (vR 86)), some (some (vI x1)), some (some (vI x2)), some (some (vI x7)), some (some (vL v4)), some none, some (some (vI x10)), some (some (vI (x7 + 1))), some (some (vL v4)), some none, some (some (vI x10)), some (some (vI x11))], [], (M1, W2)) (QL Q)) ∧
    (¬ x3 = (-1) → (inL v4 ∧ inL x4) ∧
      ((v4 > x4 → Xs 255 (46, [some (some (vR 86)), some (some (vI x1)), some (some (vI x2)), some (some (vI x3)), some (some (vL x4)), some none, some (some (vI x6)), some (some (vI (x7 + 1))), some (some (vL v4)), some none, some (some (vI x10)), some (some (vI x11))], [], (M1, W2)) (QL Q)) ∧
      (¬ v4 > x4 → (inL v4 ∧ inL x4) ∧
        ((v4 ≠ x4 → Xs 255 (46, [some (some (vR 86)), some (some (vI x1)), some (some (vI x2)), some (some (vI x7)), some (some (vL v4)), some none, some (some (vI x10)), some (some (vI (x7 + 1))), some (some (vL v4)), some none, some (some (vI x10)), some (some (vI x11))], [], (M1, W2)) (QL Q)) ∧
        (¬ v4 ≠ x4 → (inI x10 ∧ inI x6) ∧ 
          ((x10 < x6 → Xs 255 (46, [some (some (vR 86)), some (some (vI x1)), some (some (vI x2)), some (some (vI x7)), some (some (vL v4)), some none, some (some (vI x10)), some (some (vI (x7 + 1))), some (some (vL v4)), some none, some (some (vI x10)), some (some (vI x11))], [], (M1, W2)) (QL Q)) ∧
          (¬ x10 < x6 → Xs 255 (46, [some (some (vR 86)), some (some (vI x1)), some (some (vI x2)), some (some (vI x3)), some (some (vL x4)), some none, some (some (vI x6)), some (some (vI (x7 + 1))), some (some (vL v4)), some none, some (some (vI x10)), some (some (vI x11))], [], (M1, W2)) (QL Q))))))))))) ∧
  (¬ x11 ≥ r3 → (∀ v5 : Int, v5 = x10 + (and_ (shr_ x7 x11) 1) → Xs 255 (81, [some (some (vR 86)), some (some (vI x1)), some (some (vI x2)), some (some (vI x3)), some (some (vL x4)), some none, some (some (vI x6)), some (some (vI x7)), some (some (vL x8)), some none, some (some (vI v5)), some (some (vI (x11 + 1)))], [], (M1, W2)) (QL Q)))))) : Xs 255 (81, [some (some (vR 86)), some (some (vI x1)), some (some (vI x2)), some (some (vI x3)), some (some (vL x4)), some none, some (some (vI x6)), some (some (vI x7)), some (some (vL x8)), some none, some (some (vI x10)), some (some (vI x11))], [], (M, W)) (QL Q) :=
  wpN_X (cut := fun p => Nat.beq p 46 || Nat.beq p 81) 76 _ _ h
set_option maxRecDepth 20000 in
theorem e_X12_keep_ (x1 : Int) (M : aM) (W : aW) (Q : Int → aM → aW → Prop) (h :
  CallI 193 [vR 86, vI x1] ((up_ M 86 2 0), W) (fun r3 M1 W2 => (inI r3) ∧ 
  ((r3 = 0 → Q (-1) M1 W2) ∧
  (¬ r3 = 0 → CallI 200 [vR 86] (M1, W2) (fun r6 M4 W5 => (inI r6) ∧ 
    ((r6 ≠ 0 → Xs 256 (26, [some (some (vR 86)), some (some (vI x1)), some (some (vI 0)), none], [], (M4, W5)) (QL Q)) ∧
    (¬ r6 ≠ 0 → Q (-1) M4 W5))))))) : CallL 256 [vR 86, vI x1] (M, W) Q :=
  wpN_X (cut := fun p => Nat.beq p 26) 19 _ _ h
set_option maxRecDepth 20000 in
theorem k_X12_keep__26 (x1 : Int) (x2 : Int) (d3 : aL) (M : aM) (W : aW) (Q : Int → aM → aW → Prop) (h :
  (inI x2 ∧ inI (M 86 22)) ∧ 
  ((x2 ≥ (M 86 22) → CallV 190 [vR 86] (M, W) (fun M1 W2 => CallV 213 [vR 86, vI 3, vI 1] (M1, W2) (fun M3 W4 => CallL 208 [vR 86, vI 3, vI 1, vI (M3 89 6), vI 0] (M3, W4) (fun r7 M5 W6 => CallV 187 [vR 86] (M5, W6) (fun M8 W9 => CallL 239 [vR 86, vL r7] (M8, W9) (fun r12 M10 W11 => Q r12 M10 W11)))))) ∧
  (¬ x2 ≥ (M 86 22) → (inI (and_ (shr_ x2 x1) 1)) ∧ 
    (((and_ (shr_ x2 x1) 1) ≠ 1 → (0 ≤ x2 ∧ x2 < 64) ∧ (0 ≤ (or_ x2 (shl_ 1 x1)) ∧ (or_ x2 (shl_ 1 x1)) < 64) ∧ (0 ≤ x2 ∧ x2 < 64) ∧ Xs 256 (26, [some (some (vR 86)), some (some (vI x1)), some (some (vI (x2 + 1))), d3], [], ((up_ M 102 x2 ((M 101 x2) + (M 101 (or_ x2 (shl_ 1 x1))))), W)) (QL Q)) ∧
    (¬ (and_ (shr_ x2 x1) 1) ≠ 1 → (0 ≤ x2 ∧ x2 < 64) ∧ Xs 256 (26, [some (some (vR 86)), some (some (vI x1)), some (some (vI (x2 + 1))), d3], [], ((up_ M 102 x2 0), W)) (QL Q)))))) : Xs 256 (26, [some (some (vR 86)), some (some (vI x1)), some (some (vI x2)), d3], [], (M, W)) (QL Q) :=
  wpN_X (cut := fun p => Nat.beq p 26) 61 _ _ h
set_option maxRecDepth 20000 in
theorem e_X12_edge (x1 : Int) (M : aM) (W : aW) (Q : Int → aM → aW → Prop) (h :
  CallI 193 [vR 86, vI x1] ((up_ M 86 2 0), W) (fun r3 M1 W2 => (inI r3) ∧ 
  ((r3 = 0 → Q (-1) M1 W2) ∧
  (¬ r3 = 0 → (0 ≤ x1 ∧ x1 < 12) ∧ (0 ≤ ((7 * (M1 94 x1)) + 3) ∧ ((7 * (M1 94 x1)) + 3) < 336) ∧ (inI (M1 93 ((7 * (M1 94 x1)) + 3))) ∧ 
    (((M1 93 ((7 * (M1 94 x1)) + 3)) = 0 → Q (-1) M1 W2) ∧
    (¬ (M1 93 ((7 * (M1 94 x1)) + 3)) = 0 → CallI 200 [vR 86] (M1, W2) (fun r6 M4 W5 => (inI r6) ∧ 
      ((r6 ≠ 0 → CallV 218 [vR 86] (M4, W5) (fun M7 W8 => (∀ v9 : Int, v9 = M7 89 6 → Xs 257 (55, [some (some (vR 86)), some (some (vI x1)), some (some (vI v9)), some (some (vI 0)), none, none, none], [], (M7, W8)) (QI Q)))) ∧
      (¬ r6 ≠ 0 → Q (-1) M4 W5))))))))) : CallI 257 [vR 86, vI x1] (M, W) Q :=
  wpN_X (cut := fun p => Nat.beq p 55 || Nat.beq p 148 || Nat.beq p 172) 40 _ _ h
set_option maxRecDepth 20000 in
theorem k_X12_edge_55 (x1 : Int) (x2 : Int) (x3 : Int) (d4 : aL) (d5 : aL) (d6 : aL) (M : aM) (W : aW) (Q : Int → aM → aW → Prop) (h :
  (inI x3 ∧ inI (M 86 22)) ∧ 
  ((x3 ≥ (M 86 22) → (0 ≤ x1 ∧ x1 < 12) ∧ (0 ≤ ((7 * (M 94 x1)) + 3) ∧ ((7 * (M 94 x1)) + 3) < 336) ∧ (∀ v1 : Int, v1 = (M 93 ((7 * (M 94 x1)) + 3)) + 1 → Xs 257 (148, [some (some (vR 86)), some (some (vI x1)), some (some (vI x2)), some (some (vI v1)), d4, d5, d6], [], (M, W)) (QI Q))) ∧
  (¬ x3 ≥ (M 86 22) → (0 ≤ x2 ∧ x2 < 10) ∧ (inI (and_ x3 (xor_ (M 97 x2) (-1)))) ∧ 
    (((and_ x3 (xor_ (M 97 x2) (-1))) ≠ 0 → (0 ≤ x3 ∧ x3 < 64) ∧ Xs 257 (55, [some (some (vR 86)), some (some (vI x1)), some (some (vI x2)), some (some (vI (x3 + 1))), d4, d5, d6], [], ((up_ M 121 x3 0), W)) (QI Q)) ∧
    (¬ (and_ x3 (xor_ (M 97 x2) (-1))) ≠ 0 → CallI 228 [vR 86, vI x2, vI 0, vI x3] (M, W) (fun r4 M2 W3 => (0 ≤ r4 ∧ r4 < 729) ∧ (inL (M2 103 r4) ∧ inL 0) ∧
      (((M2 103 r4) ≤ 0 → (0 ≤ x3 ∧ x3 < 64) ∧ Xs 257 (55, [some (some (vR 86)), some (some (vI x1)), some (some (vI x2)), some (some (vI (x3 + 1))), d4, d5, d6], [], ((up_ M2 121 x3 0), W3)) (QI Q)) ∧
      (¬ (M2 103 r4) ≤ 0 → CallI 228 [vR 86, vI x2, vI 0, vI x3] (M2, W3) (fun r7 M5 W6 => (0 ≤ ((10 * r7) + x2) ∧ ((10 * r7) + x2) < 29160) ∧ (0 ≤ x3 ∧ x3 < 64) ∧ Xs 257 (55, [some (some (vR 86)), some (some (vI x1)), some (some (vI x2)), some (some (vI (x3 + 1))), d4, d5, d6], [], ((up_ M5 121 x3 ((M5 106 ((10 * r7) + x2)) + 10)), W6)) (QI Q)))))))))) : Xs 257 (55, [some (some (vR 86)), some (some (vI x1)), some (some (vI x2)), some (some (vI x3)), d4, d5, d6], [], (M, W)) (QI Q) :=
  wpN_X (cut := fun p => Nat.beq p 55 || Nat.beq p 148 || Nat.beq p 172) 72 _ _ h
set_option maxRecDepth 20000 in
theorem k_X12_edge_148 (x1 : Int) (x2 : Int) (x3 : Int) (d4 : aL) (d5 : aL) (d6 : aL) (M : aM) (W : aW) (Q : Int → aM → aW → Prop) (h :
  (inI x3) ∧ 
  ((x3 ≥ 11 → Q 11 M W) ∧
  (¬ x3 ≥ 11 → CallV 185 [vR 86, vI x1, vI x3] (M, W) (fun M1 W2 => CallV 213 [vR 86, vI 3, vI 1] (M1, W2) (fun M3 W4 => Xs 257 (172, [some (some (vR 86)), some (some (vI x1)), some (some (vI x2)), some (some (vI x3)), some (some (vI 0)), some (some (vI 0)), d6], [], (M3, W4)) (QI Q)))))) : Xs 257 (148, [some (some (vR 86)), some (some (vI x1)), some (some (vI x2)), some (some (vI x3)), d4, d5, d6], [], (M, W)) (QI Q) :=
  wpN_X (cut := fun p => Nat.beq p 55 || Nat.beq p 148 || Nat.beq p 172) 20 _ _ h
set_option maxRecDepth 20000 in
theorem k_X12_edge_172 (x1 : Int) (x2 : Int) (x3 : Int) (x4 : Int) (x5 : Int) (d6 : aL) (M : aM) (W : aW) (Q : Int → aM → aW → Prop) (h :
  (inI x5 ∧ inI (M 86 22)) ∧ 
  ((x5 ≥ (M 86 22) → CallV 187 [vR 86] (M, W) (fun M1 W2 => (inI x4) ∧ 
    ((x4 = 0 → Xs 257 (148, [some (some (vR 86)), some (some (vI x1)), some (some (vI x2)), some (some (vI (x3 + 1))), some (some (vI x4)), some (some (vI x5)), d6], [], (M1, W2)) (QI Q)) ∧
    (¬ x4 = 0 → Q x3 M1 W2)))) ∧
  (¬ x5 ≥ (M 86 22) → CallI 228 [vR 86, vI x2, vI 0, vI x5] (M, W) (fun r5 M3 W4 => (inI x4) ∧ 
    ((x4 ≠ 0 → Xs 257 (172, [some (some (vR 86)), some (some (vI x1)), some (some (vI x2)), some (some (vI x3)), some (some (vI 1)), some (some (vI (x5 + 1))), some (some (vI r5))], [], (M3, W4)) (QI Q)) ∧
    (¬ x4 ≠ 0 → (0 ≤ x5 ∧ x5 < 64) ∧ (inI (M3 121 x5)) ∧ 
      (((M3 121 x5) ≤ 0 → Xs 257 (172, [some (some (vR 86)), some (some (vI x1)), some (some (vI x2)), some (some (vI x3)), some (some (vI 0)), some (some (vI (x5 + 1))), some (some (vI r5))], [], (M3, W4)) (QI Q)) ∧
      (¬ (M3 121 x5) ≤ 0 → (0 ≤ r5 ∧ r5 < 729) ∧ (inL (M3 103 r5) ∧ inL 0) ∧
        (((M3 103 r5) ≤ 0 → Xs 257 (172, [some (some (vR 86)), some (some (vI x1)), some (some (vI x2)), some (some (vI x3)), some (some (vI 0)), some (some (vI (x5 + 1))), some (some (vI r5))], [], (M3, W4)) (QI Q)) ∧
        (¬ (M3 103 r5) ≤ 0 → (0 ≤ ((21870 + (10 * r5)) + x2) ∧ ((21870 + (10 * r5)) + x2) < 29160) ∧ (0 ≤ x5 ∧ x5 < 64) ∧ (inI ((M3 106 ((21870 + (10 * r5)) + x2)) + 10) ∧ inI (M3 121 x5)) ∧ 
          ((((M3 106 ((21870 + (10 * r5)) + x2)) + 10) = (M3 121 x5) → Xs 257 (172, [some (some (vR 86)), some (some (vI x1)), some (some (vI x2)), some (some (vI x3)), some (some (vI 0)), some (some (vI (x5 + 1))), some (some (vI r5))], [], (M3, W4)) (QI Q)) ∧
          (¬ ((M3 106 ((21870 + (10 * r5)) + x2)) + 10) = (M3 121 x5) → Xs 257 (172, [some (some (vR 86)), some (some (vI x1)), some (some (vI x2)), some (some (vI x3)), some (some (vI 1)), some (some (vI (x5 + 1))), some (some (vI r5))], [], (M3, W4)) (QI Q))))))))))))) : Xs 257 (172, [some (some (vR 86)), some (some (vI x1)), some (some (vI x2)), some (some (vI x3)), some (some (vI x4)), some (some (vI x5)), d6], [], (M, W)) (QI Q) :=
  wpN_X (cut := fun p => Nat.beq p 55 || Nat.beq p 148 || Nat.beq p 172) 78 _ _ h
set_option maxRecDepth 20000 in
theorem e_X12_begin (x1 : Int) (M : aM) (W : aW) (Q : Int → aM → aW → Prop) (h :
  (inI x1) ∧ 
  ((x1 < 0 → Q 0 (up_ M 86 2 0) W) ∧
  (¬ x1 < 0 → CallI 200 [vR 86] ((up_ M 86 2 0), W) (fun r3 M1 W2 => (inI r3) ∧ 
    ((r3 ≠ 0 → (inI x1) ∧ (∀ v4 : Int, v4 = x1 → Xs 258 (29, [some (some (vR 86)), some (some (vI x1)), some (some (vL v4)), some none, some (some (vI 0)), none], [], ((up_ M1 86 55 0), W2)) (QI Q))) ∧
    (¬ r3 ≠ 0 → Q 0 M1 W2)))))) : CallI 258 [vR 86, vI x1] (M, W) Q :=
  wpN_X (cut := fun p => Nat.beq p 29 || Nat.beq p 128 || Nat.beq p 180) 23 _ _ h
set_option maxRecDepth 20000 in
theorem k_X12_begin_29 (x1 : Int) (x2 : Int) (x4 : Int) (d5 : aL) (M : aM) (W : aW) (Q : Int → aM → aW → Prop) (h :
  CallI 181 [vR 86] (M, W) (fun r3 M1 W2 => (inI x4 ∧ inI r3) ∧ 
  ((x4 ≥ r3 → Xs 258 (128, [some (some (vR 86)), some (some (vI x1)), some (some (vL x2)), some none, some (some (vI 0)), d5], [], (M1, W2)) (QI Q)) ∧
  (¬ x4 ≥ r3 → (0 ≤ x4 ∧ x4 < 12) ∧ (0 ≤ ((7 * (M1 94 x4)) + 3) ∧ ((7 * (M1 94 x4)) + 3) < 336) ∧ (inI (M1 93 ((7 * (M1 94 x4)) + 3))) ∧ 
    (((M1 93 ((7 * (M1 94 x4)) + 3)) ≠ 0 → (∀ v4 : Int, v4 = land_ ((x2 * 1103515245) + 12345) 2147483647 → (inL v4 ∧ inL 65536 ∧ (65536 : Int) ≠ 0) ∧ (inL (Int.tdiv v4 65536) ∧ inL 10 ∧ (10 : Int) ≠ 0) ∧ (0 ≤ x4 ∧ x4 < 12) ∧ (0 ≤ ((7 * (M1 94 x4)) + 3) ∧ ((7 * (M1 94 x4)) + 3) < 336) ∧ (inI (M1 93 ((7 * (M1 94 x4)) + 3))) ∧ (inL (Int.tmod (Int.tdiv v4 65536) 10) ∧ inL (M1 93 ((7 * (M1 94 x4)) + 3))) ∧
      (((Int.tmod (Int.tdiv v4 65536) 10) ≥ (M1 93 ((7 * (M1 94 x4)) + 3)) → Xs 258 (29, [some (some (vR 86)), some (some (vI x1)), some (some (vL v4)), some none, some (some (vI (x4 + 1))), d5], [], (M1, W2)) (QI Q)) ∧
      (¬ (Int.tmod (Int.tdiv v4 65536) 10) ≥ (M1 93 ((7 * (M1 94 x4)) + 3)) → Xs 258 (29, [some (some (vR 86)), some (some (vI x1)), some (some (vL v4)), some none, some (some (vI (x4 + 1))), d5], [], ((up_ M1 86 55 (or_ (M1 86 55) (shl_ 1 x4))), W2)) (QI Q))))) ∧
    (¬ (M1 93 ((7 * (M1 94 x4)) + 3)) ≠ 0 → Xs 258 (29, [some (some (vR 86)), some (some (vI x1)), some (some (vL x2)), some none, some (some (vI (x4 + 1))), d5], [], (M1, W2)) (QI Q))))))) : Xs 258 (29, [some (some (vR 86)), some (some (vI x1)), some (some (vL x2)), some none, some (some (vI x4)), d5], [], (M, W)) (QI Q) :=
  wpN_X (cut := fun p => Nat.beq p 29 || Nat.beq p 128 || Nat.beq p 180) 65 _ _ h
set_option maxRecDepth 20000 in
theorem k_X12_begin_128 (x1 : Int) (x2 : Int) (x4 : Int) (d5 : aL) (M : aM) (W : aW) (Q : Int → aM → aW → Prop) (h :
  (inI x4 ∧ inI (M 89 1)) ∧ 
  ((x4 ≥ (M 89 1) → CallI 228 [vR 86, vI ((up_ (up_ (up_ (up_ M 86 54 1) 86 56 0) 122 0 ((up_ (up_ M 86 54 1) 86 56 0) 89 6)) 123 0 0) 89 6), vI 0, vI ((up_ (up_ (up_ (up_ M 86 54 1) 86 56 0) 122 0 ((up_ (up_ M 86 54 1) 86 56 0) 89 6)) 123 0 0) 86 55)] ((up_ (up_ (up_ (up_ M 86 54 1) 86 56 0) 122 0 ((up_ (up_ M 86 54 1) 86 56 0) 89 6)) 123 0 0), W) (fun r3 M1 W2 => Q 1 (up_ M1 124 0 r3) W2)) ∧
  (¬ x4 ≥ (M 89 1) → (∀ v4 : Int, v4 = land_ ((x2 * 1103515245) + 12345) 2147483647 → (inL v4 ∧ inL 65536 ∧ (65536 : Int) ≠ 0) ∧ (inL (Int.tdiv v4 65536) ∧ inL 10 ∧ (10 : Int) ≠ 0) ∧ (0 ≤ x4 ∧ x4 < 4) ∧ (inI (M 92 x4)) ∧ (inL (Int.tmod (Int.tdiv v4 65536) 10) ∧ inL (M 92 x4)) ∧
    (((Int.tmod (Int.tdiv v4 65536) 10) < (M 92 x4) → Xs 258 (180, [some (some (vR 86)), some (some (vI x1)), some (some (vL v4)), some none, some (some (vI x4)), some (some (vI 0))], [], (M, W)) (QI Q)) ∧
    (¬ (Int.tmod (Int.tdiv v4 65536) 10) < (M 92 x4) → Xs 258 (128, [some (some (vR 86)), some (some (vI x1)), some (some (vL v4)), some none, some (some (vI (x4 + 1))), d5], [], (M, W)) (QI Q))))))) : Xs 258 (128, [some (some (vR 86)), some (some (vI x1)), some (some (vL x2)), some none, some (some (vI x4)), d5], [], (M, W)) (QI Q) :=
  wpN_X (cut := fun p => Nat.beq p 29 || Nat.beq p 128 || Nat.beq p 180) 68 _ _ h
set_option maxRecDepth 20000 in
theorem k_X12_begin_180 (x1 : Int) (x2 : Int) (x4 : Int) (x5 : Int) (M : aM) (W : aW) (Q : Int → aM → aW → Prop) (h :
  CallI 181 [vR 86] (M, W) (fun r3 M1 W2 => (inI x5 ∧ inI r3) ∧ 
  ((x5 ≥ r3 → Xs 258 (128, [some (some (vR 86)), some (some (vI x1)), some (some (vL x2)), some none, some (some (vI (x4 + 1))), some (some (vI x5))], [], (M1, W2)) (QI Q)) ∧
  (¬ x5 ≥ r3 → (0 ≤ x5 ∧ x5 < 12) ∧ (0 ≤ ((7 * (M1 94 x5)) + 4) ∧ ((7 * (M1 94 x5)) + 4) < 336) ∧ (inI (M1 93 ((7 * (M1 94 x5)) + 4)) ∧ inI x4) ∧ 
    (((M1 93 ((7 * (M1 94 x5)) + 4)) ≠ x4 → Xs 258 (180, [some (some (vR 86)), some (some (vI x1)), some (some (vL x2)), some none, some (some (vI x4)), some (some (vI (x5 + 1)))], [], (M1, W2)) (QI Q)) ∧
    (¬ (M1 93 ((7 * (M1 94 x5)) + 4)) ≠ x4 → Xs 258 (180, [some (some (vR 86)), some (some (vI x1)), some (some (vL x2)), some none, some (some (vI x4)), some (some (vI (x5 + 1)))], [], ((up_ M1 86 55 (or_ (M1 86 55) (shl_ 1 x5))), W2)) (QI Q))))))) : Xs 258 (180, [some (some (vR 86)), some (some (vI x1)), some (some (vL x2)), some none, some (some (vI x4)), some (some (vI x5))], [], (M, W)) (QI Q) :=
  wpN_X (cut := fun p => Nat.beq p 29 || Nat.beq p 128 || Nat.beq p 180) 36 _ _ h
set_option maxRecDepth 20000 in
theorem e_X12_canWalk  (M : aM) (W : aW) (Q : Int → aM → aW → Prop) (h :
  (inI (M 86 54)) ∧ 
  (((M 86 54) = 0 → ((0 : Int) = 0 ∨ (0 : Int) = 1) ∧ Q 0 M W) ∧
  (¬ (M 86 54) = 0 → (inI (M 86 56)) ∧ 
    (((M 86 56) ≥ 100 → ((0 : Int) = 0 ∨ (0 : Int) = 1) ∧ Q 0 M W) ∧
    (¬ (M 86 56) ≥ 100 → (0 ≤ (M 86 56) ∧ (M 86 56) < 101) ∧ (inI (M 122 (M 86 56)) ∧ inI (M 89 7)) ∧ 
      (((M 122 (M 86 56)) = (M 89 7) → ((0 : Int) = 0 ∨ (0 : Int) = 1) ∧ Q 0 M W) ∧
      (¬ (M 122 (M 86 56)) = (M 89 7) → ((1 : Int) = 0 ∨ (1 : Int) = 1) ∧ Q 1 M W))))))) : CallI 259 [vR 86] (M, W) Q :=
  wpN_X (cut := fun p => false) 28 _ _ h
set_option maxRecDepth 20000 in
theorem e_X12_go (x1 : Int) (M : aM) (W : aW) (Q : Int → aM → aW → Prop) (h :
  CallI 259 [vR 86] ((up_ M 86 2 0), W) (fun r3 M1 W2 => (inI r3) ∧ 
  ((r3 = 0 → Q (-1) M1 W2) ∧
  (¬ r3 = 0 → CallI 194 [vR 86, vI x1] (M1, W2) (fun r6 M4 W5 => (inI r6) ∧ 
    ((r6 ≠ 0 → (0 ≤ (M4 86 56) ∧ (M4 86 56) < 101) ∧ (0 ≤ ((10 * (M4 122 (M4 86 56))) + x1) ∧ ((10 * (M4 122 (M4 86 56))) + x1) < 100) ∧ (∀ v7 : Int, v7 = M4 98 ((10 * (M4 122 (M4 86 56))) + x1) → (inI v7) ∧ 
      ((v7 ≥ 0 → (0 ≤ (M4 86 56) ∧ (M4 86 56) < 101) ∧ CallI 201 [vR 86, vI v7, vI (M4 124 (M4 86 56))] (M4, W5) (fun r10 M8 W9 => (inI r10) ∧ 
        ((r10 ≥ 0 → (0 ≤ ((M8 86 56) + 1) ∧ ((M8 86 56) + 1) < 101) ∧ (0 ≤ ((up_ M8 122 ((M8 86 56) + 1) x1) 86 56) ∧ ((up_ M8 122 ((M8 86 56) + 1) x1) 86 56) < 101) ∧ (0 ≤ (((up_ M8 122 ((M8 86 56) + 1) x1) 86 56) + 1) ∧ (((up_ M8 122 ((M8 86 56) + 1) x1) 86 56) + 1) < 101) ∧ (0 ≤ ((up_ (up_ M8 122 ((M8 86 56) + 1) x1) 123 (((up_ M8 122 ((M8 86 56) + 1) x1) 86 56) + 1) (((up_ M8 122 ((M8 86 56) + 1) x1) 123 ((up_ M8 122 ((M8 86 56) + 1) x1) 86 56)) + r10)) 86 56) ∧ ((up_ (up_ M8 122 ((M8 86 56) + 1) x1) 123 (((up_ M8 122 ((M8 86 56) + 1) x1) 86 56) + 1) (((up_ M8 122 ((M8 86 56) + 1) x1) 123 ((up_ M8 122 ((M8 86 56) + 1) x1) 86 56)) + r10)) 86 56) < 101) ∧ CallI 228 [vR 86, vI x1, vI ((up_ (up_ M8 122 ((M8 86 56) + 1) x1) 123 (((up_ M8 122 ((M8 86 56) + 1) x1) 86 56) + 1) (((up_ M8 122 ((M8 86 56) + 1) x1) 123 ((up_ M8 122 ((M8 86 56) + 1) x1) 86 56)) + r10)) 124 ((up_ (up_ M8 122 ((M8 86 56) + 1) x1) 123 (((up_ M8 122 ((M8 86 56) + 1) x1) 86 56) + 1) (((up_ M8 122 ((M8 86 56) + 1) x1) 123 ((up_ M8 122 ((M8 86 56) + 1) x1) 86 56)) + r10)) 86 56)), vI ((up_ (up_ M8 122 ((M8 86 56) + 1) x1) 123 (((up_ M8 122 ((M8 86 56) + 1) x1) 86 56) + 1) (((up_ M8 122 ((M8 86 56) + 1) x1) 123 ((up_ M8 122 ((M8 86 56) + 1) x1) 86 56)) + r10)) 86 55)] ((up_ (up_ M8 122 ((M8 86 56) + 1) x1) 123 (((up_ M8 122 ((M8 86 56) + 1) x1) 86 56) + 1) (((up_ M8 122 ((M8 86 56) + 1) x1) 123 ((up_ M8 122 ((M8 86 56) + 1) x1) 86 56)) + r10)), W9) (fun r13 M11 W12 => (0 ≤ (((up_ (up_ M8 122 ((M8 86 56) + 1) x1) 123 (((up_ M8 122 ((M8 86 56) + 1) x1) 86 56) + 1) (((up_ M8 122 ((M8 86 56) + 1) x1) 123 ((up_ M8 122 ((M8 86 56) + 1) x1) 86 56)) + r10)) 86 56) + 1) ∧ (((up_ (up_ M8 122 ((M8 86 56) + 1) x1) 123 (((up_ M8 122 ((M8 86 56) + 1) x1) 86 56) + 1) (((up_ M8 122 ((M8 86 56) + 1) x1) 123 ((up_ M8 122 ((M8 86 56) + 1) x1) 86 56)) + r10)) 86 56) + 1) < 101) ∧ (0 ≤ ((up_ (up_ M11 124 (((up_ (up_ M8 122 ((M8 86 56) + 1) x1) 123 (((up_ M8 122 ((M8 86 56) + 1) x1) 86 56) + 1) (((up_ M8 122 ((M8 86 56) + 1) x1) 123 ((up_ M8 122 ((M8 86 56) + 1) x1) 86 56)) + r10)) 86 56) + 1) r13) 86 56 (((up_ M11 124 (((up_ (up_ M8 122 ((M8 86 56) + 1) x1) 123 (((up_ M8 122 ((M8 86 56) + 1) x1) 86 56) + 1) (((up_ M8 122 ((M8 86 56) + 1) x1) 123 ((up_ M8 122 ((M8 86 56) + 1) x1) 86 56)) + r10)) 86 56) + 1) r13) 86 56) + 1)) 86 56) ∧ ((up_ (up_ M11 124 (((up_ (up_ M8 122 ((M8 86 56) + 1) x1) 123 (((up_ M8 122 ((M8 86 56) + 1) x1) 86 56) + 1) (((up_ M8 122 ((M8 86 56) + 1) x1) 123 ((up_ M8 122 ((M8 86 56) + 1) x1) 86 56)) + r10)) 86 56) + 1) r13) 86 56 (((up_ M11 124 (((up_ (up_ M8 122 ((M8 86 56) + 1) x1) 123 (((up_ M8 122 ((M8 86 56) + 1) x1) 86 56) + 1) (((up_ M8 122 ((M8 86 56) + 1) x1) 123 ((up_ M8 122 ((M8 86 56) + 1) x1) 86 56)) + r10)) 86 56) + 1) r13) 86 56) + 1)) 86 56) < 101) ∧ Q ((up_ (up_ M11 124 (((up_ (up_ M8 122 ((M8 86 56) + 1) x1) 123 (((up_ M8 122 ((M8 86 56) + 1) x1) 86 56) + 1) (((up_ M8 122 ((M8 86 56) + 1) x1) 123 ((up_ M8 122 ((M8 86 56) + 1) x1) 86 56)) + r10)) 86 56) + 1) r13) 86 56 (((up_ M11 124 (((up_ (up_ M8 122 ((M8 86 56) + 1) x1) 123 (((up_ M8 122 ((M8 86 56) + 1) x1) 86 56) + 1) (((up_ M8 122 ((M8 86 56) + 1) x1) 123 ((up_ M8 122 ((M8 86 56) + 1) x1) 86 56)) + r10)) 86 56) + 1) r13) 86 56) + 1)) 123 ((up_ (up_ M11 124 (((up_ (up_ M8 122 ((M8 86 56) + 1) x1) 123 (((up_ M8 122 ((M8 86 56) + 1) x1) 86 56) + 1) (((up_ M8 122 ((M8 86 56) + 1) x1) 123 ((up_ M8 122 ((M8 86 56) + 1) x1) 86 56)) + r10)) 86 56) + 1) r13) 86 56 (((up_ M11 124 (((up_ (up_ M8 122 ((M8 86 56) + 1) x1) 123 (((up_ M8 122 ((M8 86 56) + 1) x1) 86 56) + 1) (((up_ M8 122 ((M8 86 56) + 1) x1) 123 ((up_ M8 122 ((M8 86 56) + 1) x1) 86 56)) + r10)) 86 56) + 1) r13) 86 56) + 1)) 86 56)) (up_ (up_ M11 124 (((up_ (up_ M8 122 ((M8 86 56) + 1) x1) 123 (((up_ M8 122 ((M8 86 56) + 1) x1) 86 56) + 1) (((up_ M8 122 ((M8 86 56) + 1) x1) 123 ((up_ M8 122 ((M8 86 56) + 1) x1) 86 56)) + r10)) 86 56) + 1) r13) 86 56 (((up_ M11 124 (((up_ (up_ M8 122 ((M8 86 56) + 1) x1) 123 (((up_ M8 122 ((M8 86 56) + 1) x1) 86 56) + 1) (((up_ M8 122 ((M8 86 56) + 1) x1) 123 ((up_ M8 122 ((M8 86 56) + 1) x1) 86 56)) + r10)) 86 56) + 1) r13) 86 56) + 1)) W12)) ∧
        (¬ r10 ≥ 0 → Q (-1) M8 W9)))) ∧
      (¬ v7 ≥ 0 → (inI (-1)) ∧ 
        ((((-1) : Int) ≥ 0 → (0 ≤ ((M4 86 56) + 1) ∧ ((M4 86 56) + 1) < 101) ∧ (0 ≤ ((up_ M4 122 ((M4 86 56) + 1) x1) 86 56) ∧ ((up_ M4 122 ((M4 86 56) + 1) x1) 86 56) < 101) ∧ (0 ≤ (((up_ M4 122 ((M4 86 56) + 1) x1) 86 56) + 1) ∧ (((up_ M4 122 ((M4 86 56) + 1) x1) 86 56) + 1) < 101) ∧ (0 ≤ ((up_ (up_ M4 122 ((M4 86 56) + 1) x1) 123 (((up_ M4 122 ((M4 86 56) + 1) x1) 86 56) + 1) (((up_ M4 122 ((M4 86 56) + 1) x1) 123 ((up_ M4 122 ((M4 86 56) + 1) x1) 86 56)) + (-1))) 86 56) ∧ ((up_ (up_ M4 122 ((M4 86 56) + 1) x1) 123 (((up_ M4 122 ((M4 86 56) + 1) x1) 86 56) + 1) (((up_ M4 122 ((M4 86 56) + 1) x1) 123 ((up_ M4 122 ((M4 86 56) + 1) x1) 86 56)) + (-1))) 86 56) < 101) ∧ CallI 228 [vR 86, vI x1, vI ((up_ (up_ M4 122 ((M4 86 56) + 1) x1) 123 (((up_ M4 122 ((M4 86 56) + 1) x1) 86 56) + 1) (((up_ M4 122 ((M4 86 56) + 1) x1) 123 ((up_ M4 122 ((M4 86 56) + 1) x1) 86 56)) + (-1))) 124 ((up_ (up_ M4 122 ((M4 86 56) + 1) x1) 123 (((up_ M4 122 ((M4 86 56) + 1) x1) 86 56) + 1) (((up_ M4 122 ((M4 86 56) + 1) x1) 123 ((up_ M4 122 ((M4 86 56) + 1) x1) 86 56)) + (-1))) 86 56)), vI ((up_ (up_ M4 122 ((M4 86 56) + 1) x1) 123 (((up_ M4 122 ((M4 86 56) + 1) x1) 86 56) + 1) (((up_ M4 122 ((M4 86 56) + 1) x1) 123 ((up_ M4 122 ((M4 86 56) + 1) x1) 86 56)) + (-1))) 86 55)] ((up_ (up_ M4 122 ((M4 86 56) + 1) x1) 123 (((up_ M4 122 ((M4 86 56) + 1) x1) 86 56) + 1) (((up_ M4 122 ((M4 86 56) + 1) x1) 123 ((up_ M4 122 ((M4 86 56) + 1) x1) 86 56)) + (-1))), W5) (fun r16 M14 W15 => (0 ≤ (((up_ (up_ M4 122 ((M4 86 56) + 1) x1) 123 (((up_ M4 122 ((M4 86 56) + 1) x1) 86 56) + 1) (((up_ M4 122 ((M4 86 56) + 1) x1) 123 ((up_ M4 122 ((M4 86 56) + 1) x1) 86 56)) + (-1))) 86 56) + 1) ∧ (((up_ (up_ M4 122 ((M4 86 56) + 1) x1) 123 (((up_ M4 122 ((M4 86 56) + 1) x1) 86 56) + 1) (((up_ M4 122 ((M4 86 56) + 1) x1) 123 ((up_ M4 122 ((M4 86 56) + 1) x1) 86 56)) + (-1))) 86 56) + 1) < 101) ∧ (0 ≤ ((up_ (up_ M14 124 (((up_ (up_ M4 122 ((M4 86 56) + 1) x1) 123 (((up_ M4 122 ((M4 86 56) + 1) x1) 86 56) + 1) (((up_ M4 122 ((M4 86 56) + 1) x1) 123 ((up_ M4 122 ((M4 86 56) + 1) x1) 86 56)) + (-1))) 86 56) + 1) r16) 86 56 (((up_ M14 124 (((up_ (up_ M4 122 ((M4 86 56) + 1) x1) 123 (((up_ M4 122 ((M4 86 56) + 1) x1) 86 56) + 1) (((up_ M4 122 ((M4 86 56) + 1) x1) 123 ((up_ M4 122 ((M4 86 56) + 1) x1) 86 56)) + (-1))) 86 56) + 1) r16) 86 56) + 1)) 86 56) ∧ ((up_ (up_ M14 124 (((up_ (up_ M4 122 ((M4 86 56) + 1) x1) 123 (((up_ M4 122 ((M4 86 56) + 1) x1) 86 56) + 1) (((up_ M4 122 ((M4 86 56) + 1) x1) 123 ((up_ M4 122 ((M4 86 56) + 1) x1) 86 56)) + (-1))) 86 56) + 1) r16) 86 56 (((up_ M14 124 (((up_ (up_ M4 122 ((M4 86 56) + 1) x1) 123 (((up_ M4 122 ((M4 86 56) + 1) x1) 86 56) + 1) (((up_ M4 122 ((M4 86 56) + 1) x1) 123 ((up_ M4 122 ((M4 86 56) + 1) x1) 86 56)) + (-1))) 86 56) + 1) r16) 86 56) + 1)) 86 56) < 101) ∧ Q ((up_ (up_ M14 124 (((up_ (up_ M4 122 ((M4 86 56) + 1) x1) 123 (((up_ M4 122 ((M4 86 56) + 1) x1) 86 56) + 1) (((up_ M4 122 ((M4 86 56) + 1) x1) 123 ((up_ M4 122 ((M4 86 56) + 1) x1) 86 56)) + (-1))) 86 56) + 1) r16) 86 56 (((up_ M14 124 (((up_ (up_ M4 122 ((M4 86 56) + 1) x1) 123 (((up_ M4 122 ((M4 86 56) + 1) x1) 86 56) + 1) (((up_ M4 122 ((M4 86 56) + 1) x1) 123 ((up_ M4 122 ((M4 86 56) + 1) x1) 86 56)) + (-1))) 86 56) + 1) r16) 86 56) + 1)) 123 ((up_ (up_ M14 124 (((up_ (up_ M4 122 ((M4 86 56) + 1) x1) 123 (((up_ M4 122 ((M4 86 56) + 1) x1) 86 56) + 1) (((up_ M4 122 ((M4 86 56) + 1) x1) 123 ((up_ M4 122 ((M4 86 56) + 1) x1) 86 56)) + (-1))) 86 56) + 1) r16) 86 56 (((up_ M14 124 (((up_ (up_ M4 122 ((M4 86 56) + 1) x1) 123 (((up_ M4 122 ((M4 86 56) + 1) x1) 86 56) + 1) (((up_ M4 122 ((M4 86 56) + 1) x1) 123 ((up_ M4 122 ((M4 86 56) + 1) x1) 86 56)) + (-1))) 86 56) + 1) r16) 86 56) + 1)) 86 56)) (up_ (up_ M14 124 (((up_ (up_ M4 122 ((M4 86 56) + 1) x1) 123 (((up_ M4 122 ((M4 86 56) + 1) x1) 86 56) + 1) (((up_ M4 122 ((M4 86 56) + 1) x1) 123 ((up_ M4 122 ((M4 86 56) + 1) x1) 86 56)) + (-1))) 86 56) + 1) r16) 86 56 (((up_ M14 124 (((up_ (up_ M4 122 ((M4 86 56) + 1) x1) 123 (((up_ M4 122 ((M4 86 56) + 1) x1) 86 56) + 1) (((up_ M4 122 ((M4 86 56) + 1) x1) 123 ((up_ M4 122 ((M4 86 56) + 1) x1) 86 56)) + (-1))) 86 56) + 1) r16) 86 56) + 1)) W15)) ∧
        (¬ ((-1) : Int) ≥ 0 → Q (-1) M4 W5)))))) ∧
    (¬ r6 ≠ 0 → Q (-1) M4 W5))))))) : CallI 260 [vR 86, vI x1] (M, W) Q :=
  wpN_X (cut := fun p => false) 153 _ _ h
set_option maxRecDepth 20000 in
theorem e_X12_buy (x1 : Int) (M : aM) (W : aW) (Q : Int → aM → aW → Prop) (h :
  CallI 259 [vR 86] ((up_ M 86 2 0), W) (fun r3 M1 W2 => (inI r3) ∧ 
  ((r3 = 0 → Q (-1) M1 W2) ∧
  (¬ r3 = 0 → (inI x1) ∧ 
    ((x1 < 0 → Q (-1) M1 W2) ∧
    (¬ x1 < 0 → (inI x1 ∧ inI (M1 89 5)) ∧ 
      ((x1 ≥ (M1 89 5) → Q (-1) M1 W2) ∧
      (¬ x1 ≥ (M1 89 5) → (0 ≤ (M1 86 56) ∧ (M1 86 56) < 101) ∧ (0 ≤ (M1 86 56) ∧ (M1 86 56) < 101) ∧ CallI 211 [vR 86, vI x1, vI (M1 122 (M1 86 56)), vI (M1 124 (M1 86 56))] (M1, W2) (fun r6 M4 W5 => (inI r6) ∧ 
        ((r6 ≠ 0 → (0 ≤ ((3 * x1) + 1) ∧ ((3 * x1) + 1) < 36) ∧ (∀ v7 : Int, v7 = M4 96 ((3 * x1) + 1) → (∀ v8 : Int, v8 = (and_ (shr_ (M4 86 55) v7) 1) + 1 → (0 ≤ (M4 86 56) ∧ (M4 86 56) < 101) ∧ (0 ≤ ((M4 86 56) + 1) ∧ ((M4 86 56) + 1) < 101) ∧ (0 ≤ ((up_ M4 122 ((M4 86 56) + 1) (M4 122 (M4 86 56))) 86 56) ∧ ((up_ M4 122 ((M4 86 56) + 1) (M4 122 (M4 86 56))) 86 56) < 101) ∧ (0 ≤ ((3 * x1) + 2) ∧ ((3 * x1) + 2) < 36) ∧ (0 ≤ (((up_ M4 122 ((M4 86 56) + 1) (M4 122 (M4 86 56))) 86 56) + 1) ∧ (((up_ M4 122 ((M4 86 56) + 1) (M4 122 (M4 86 56))) 86 56) + 1) < 101) ∧ (0 ≤ ((up_ (up_ M4 122 ((M4 86 56) + 1) (M4 122 (M4 86 56))) 123 (((up_ M4 122 ((M4 86 56) + 1) (M4 122 (M4 86 56))) 86 56) + 1) (((up_ M4 122 ((M4 86 56) + 1) (M4 122 (M4 86 56))) 123 ((up_ M4 122 ((M4 86 56) + 1) (M4 122 (M4 86 56))) 86 56)) + ((up_ M4 122 ((M4 86 56) + 1) (M4 122 (M4 86 56))) 96 ((3 * x1) + 2)))) 86 56) ∧ ((up_ (up_ M4 122 ((M4 86 56) + 1) (M4 122 (M4 86 56))) 123 (((up_ M4 122 ((M4 86 56) + 1) (M4 122 (M4 86 56))) 86 56) + 1) (((up_ M4 122 ((M4 86 56) + 1) (M4 122 (M4 86 56))) 123 ((up_ M4 122 ((M4 86 56) + 1) (M4 122 (M4 86 56))) 86 56)) + ((up_ M4 122 ((M4 86 56) + 1) (M4 122 (M4 86 56))) 96 ((3 * x1) + 2)))) 86 56) < 101) ∧ (0 ≤ v7 ∧ v7 < 7) ∧ (0 ≤ (((up_ (up_ M4 122 ((M4 86 56) + 1) (M4 122 (M4 86 56))) 123 (((up_ M4 122 ((M4 86 56) + 1) (M4 122 (M4 86 56))) 86 56) + 1) (((up_ M4 122 ((M4 86 56) + 1) (M4 122 (M4 86 56))) 123 ((up_ M4 122 ((M4 86 56) + 1) (M4 122 (M4 86 56))) 86 56)) + ((up_ M4 122 ((M4 86 56) + 1) (M4 122 (M4 86 56))) 96 ((3 * x1) + 2)))) 86 56) + 1) ∧ (((up_ (up_ M4 122 ((M4 86 56) + 1) (M4 122 (M4 86 56))) 123 (((up_ M4 122 ((M4 86 56) + 1) (M4 122 (M4 86 56))) 86 56) + 1) (((up_ M4 122 ((M4 86 56) + 1) (M4 122 (M4 86 56))) 123 ((up_ M4 122 ((M4 86 56) + 1) (M4 122 (M4 86 56))) 86 56)) + ((up_ M4 122 ((M4 86 56) + 1) (M4 122 (M4 86 56))) 96 ((3 * x1) + 2)))) 86 56) + 1) < 101) ∧ Q v8 (up_ (up_ (up_ (up_ M4 122 ((M4 86 56) + 1) (M4 122 (M4 86 56))) 123 (((up_ M4 122 ((M4 86 56) + 1) (M4 122 (M4 86 56))) 86 56) + 1) (((up_ M4 122 ((M4 86 56) + 1) (M4 122 (M4 86 56))) 123 ((up_ M4 122 ((M4 86 56) + 1) (M4 122 (M4 86 56))) 86 56)) + ((up_ M4 122 ((M4 86 56) + 1) (M4 122 (M4 86 56))) 96 ((3 * x1) + 2)))) 124 (((up_ (up_ M4 122 ((M4 86 56) + 1) (M4 122 (M4 86 56))) 123 (((up_ M4 122 ((M4 86 56) + 1) (M4 122 (M4 86 56))) 86 56) + 1) (((up_ M4 122 ((M4 86 56) + 1) (M4 122 (M4 86 56))) 123 ((up_ M4 122 ((M4 86 56) + 1) (M4 122 (M4 86 56))) 86 56)) + ((up_ M4 122 ((M4 86 56) + 1) (M4 122 (M4 86 56))) 96 ((3 * x1) + 2)))) 86 56) + 1) (((up_ (up_ M4 122 ((M4 86 56) + 1) (M4 122 (M4 86 56))) 123 (((up_ M4 122 ((M4 86 56) + 1) (M4 122 (M4 86 56))) 86 56) + 1) (((up_ M4 122 ((M4 86 56) + 1) (M4 122 (M4 86 56))) 123 ((up_ M4 122 ((M4 86 56) + 1) (M4 122 (M4 86 56))) 86 56)) + ((up_ M4 122 ((M4 86 56) + 1) (M4 122 (M4 86 56))) 96 ((3 * x1) + 2)))) 124 ((up_ (up_ M4 122 ((M4 86 56) + 1) (M4 122 (M4 86 56))) 123 (((up_ M4 122 ((M4 86 56) + 1) (M4 122 (M4 86 56))) 86 56) + 1) (((up_ M4 122 ((M4 86 56) + 1) (M4 122 (M4 86 56))) 123 ((up_ M4 122 ((M4 86 56) + 1) (M4 122 (M4 86 56))) 86 56)) + ((up_ M4 122 ((M4 86 56) + 1) (M4 122 (M4 86 56))) 96 ((3 * x1) + 2)))) 86 56)) + (v8 * ((up_ (up_ M4 122 ((M4 86 56) + 1) (M4 122 (M4 86 56))) 123 (((up_ M4 122 ((M4 86 56) + 1) (M4 122 (M4 86 56))) 86 56) + 1) (((up_ M4 122 ((M4 86 56) + 1) (M4 122 (M4 86 56))) 123 ((up_ M4 122 ((M4 86 56) + 1) (M4 122 (M4 86 56))) 86 56)) + ((up_ M4 122 ((M4 86 56) + 1) (M4 122 (M4 86 56))) 96 ((3 * x1) + 2)))) 99 v7)))) 86 56 (((up_ (up_ (up_ M4 122 ((M4 86 56) + 1) (M4 122 (M4 86 56))) 123 (((up_ M4 122 ((M4 86 56) + 1) (M4 122 (M4 86 56))) 86 56) + 1) (((up_ M4 122 ((M4 86 56) + 1) (M4 122 (M4 86 56))) 123 ((up_ M4 122 ((M4 86 56) + 1) (M4 122 (M4 86 56))) 86 56)) + ((up_ M4 122 ((M4 86 56) + 1) (M4 122 (M4 86 56))) 96 ((3 * x1) + 2)))) 124 (((up_ (up_ M4 122 ((M4 86 56) + 1) (M4 122 (M4 86 56))) 123 (((up_ M4 122 ((M4 86 56) + 1) (M4 122 (M4 86 56))) 86 56) + 1) (((up_ M4 122 ((M4 86 56) + 1) (M4 122 (M4 86 56))) 123 ((up_ M4 122 ((M4 86 56) + 1) (M4 122 (M4 86 56))) 86 56)) + ((up_ M4 122 ((M4 86 56) + 1) (M4 122 (M4 86 56))) 96 ((3 * x1) + 2)))) 86 56) + 1) (((up_ (up_ M4 122 ((M4 86 56) + 1) (M4 122 (M4 86 56))) 123 (((up_ M4 122 ((M4 86 56) + 1) (M4 122 (M4 86 56))) 86 56) + 1) (((up_ M4 122 ((M4 86 56) + 1) (M4 122 (M4 86 56))) 123 ((up_ M4 122 ((M4 86 56) + 1) (M4 122 (M4 86 56))) 86 56)) + ((up_ M4 122 ((M4 86 56) + 1) (M4 122 (M4 86 56))) 96 ((3 * x1) + 2)))) 124 ((up_ (up_ M4 122 ((M4 86 56) + 1) (M4 122 (M4 86 56))) 123 (((up_ M4 122 ((M4 86 56) + 1) (M4 122 (M4 86 56))) 86 56) + 1) (((up_ M4 122 ((M4 86 56) + 1) (M4 122 (M4 86 56))) 123 ((up_ M4 122 ((M4 86 56) + 1) (M4 122 (M4 86 56))) 86 56)) + ((up_ M4 122 ((M4 86 56) + 1) (M4 122 (M4 86 56))) 96 ((3 * x1) + 2)))) 86 56)) + (v8 * ((up_ (up_ M4 122 ((M4 86 56) + 1) (M4 122 (M4 86 56))) 123 (((up_ M4 122 ((M4 86 56) + 1) (M4 122 (M4 86 56))) 86 56) + 1) (((up_ M4 122 ((M4 86 56) + 1) (M4 122 (M4 86 56))) 123 ((up_ M4 122 ((M4 86 56) + 1) (M4 122 (M4 86 56))) 86 56)) + ((up_ M4 122 ((M4 86 56) + 1) (M4 122 (M4 86 56))) 96 ((3 * x1) + 2)))) 99 v7)))) 86 56) + 1)) W5))) ∧
        (¬ r6 ≠ 0 → Q (-1) M4 W5))))))))))) : CallI 261 [vR 86, vI x1] (M, W) Q :=
  wpN_X (cut := fun p => false) 116 _ _ h
set_option maxRecDepth 20000 in
theorem e_X12_back  (M : aM) (W : aW) (Q : Int → aM → aW → Prop) (h :
  (inI ((up_ M 86 2 0) 86 54)) ∧ 
  ((((up_ M 86 2 0) 86 54) = 0 → Q (-1) (up_ M 86 2 0) W) ∧
  (¬ ((up_ M 86 2 0) 86 54) = 0 → (inI ((up_ M 86 2 0) 86 56)) ∧ 
    ((((up_ M 86 2 0) 86 56) ≠ 0 → Q ((up_ (up_ M 86 2 0) 86 56 (((up_ M 86 2 0) 86 56) - 1)) 86 56) (up_ (up_ M 86 2 0) 86 56 (((up_ M 86 2 0) 86 56) - 1)) W) ∧
    (¬ ((up_ M 86 2 0) 86 56) ≠ 0 → Q (-1) (up_ M 86 2 0) W))))) : CallI 262 [vR 86] (M, W) Q :=
  wpN_X (cut := fun p => false) 24 _ _ h
set_option maxRecDepth 20000 in
theorem e_X12_walk (x1 : Int) (M : aM) (W : aW) (Q : Int → aM → aW → Prop) (h :
  (inI ((up_ M 86 2 0) 86 54)) ∧ 
  ((((up_ M 86 2 0) 86 54) ≠ 0 → (inI x1) ∧ 
    ((x1 = 0 → (0 ≤ ((up_ M 86 2 0) 86 56) ∧ ((up_ M 86 2 0) 86 56) < 101) ∧ Q ((up_ M 86 2 0) 122 ((up_ M 86 2 0) 86 56)) (up_ M 86 2 0) W) ∧ (x1 ≠ 0 → 
    ((x1 = 1 → (0 ≤ ((up_ M 86 2 0) 86 56) ∧ ((up_ M 86 2 0) 86 56) < 101) ∧ Q ((up_ M 86 2 0) 123 ((up_ M 86 2 0) 86 56)) (up_ M 86 2 0) W) ∧ (x1 ≠ 1 → 
    ((x1 = 2 → (0 ≤ ((up_ M 86 2 0) 86 56) ∧ ((up_ M 86 2 0) 86 56) < 101) ∧ Q ((up_ M 86 2 0) 124 ((up_ M 86 2 0) 86 56)) (up_ M 86 2 0) W) ∧ (x1 ≠ 2 → 
    ((x1 = 3 → Q ((up_ M 86 2 0) 86 56) (up_ M 86 2 0) W) ∧ (x1 ≠ 3 → 
    ((x1 = 4 → Q ((up_ M 86 2 0) 86 55) (up_ M 86 2 0) W) ∧ (x1 ≠ 4 → 
    ((x1 = 5 → (0 ≤ ((up_ M 86 2 0) 86 56) ∧ ((up_ M 86 2 0) 86 56) < 101) ∧ (inI ((up_ M 86 2 0) 122 ((up_ M 86 2 0) 86 56)) ∧ inI ((up_ M 86 2 0) 89 7)) ∧ 
      ((((up_ M 86 2 0) 122 ((up_ M 86 2 0) 86 56)) ≠ ((up_ M 86 2 0) 89 7) → Q 0 (up_ M 86 2 0) W) ∧
      (¬ ((up_ M 86 2 0) 122 ((up_ M 86 2 0) 86 56)) ≠ ((up_ M 86 2 0) 89 7) → Q 1 (up_ M 86 2 0) W))) ∧ (x1 ≠ 5 → Q (-1) (up_ M 86 2 0) W))))))))))))) ∧
  (¬ ((up_ M 86 2 0) 86 54) ≠ 0 → Q (-1) (up_ M 86 2 0) W))) : CallI 263 [vR 86, vI x1] (M, W) Q :=
  wpN_X (cut := fun p => false) 53 _ _ h
set_option maxRecDepth 20000 in
theorem e_X12_count (x1 : Int) (M : aM) (W : aW) (Q : Int → aM → aW → Prop) (h :
  (inI x1) ∧ 
  ((x1 = 0 → Q ((up_ M 86 2 0) 89 0) (up_ M 86 2 0) W) ∧ (x1 ≠ 0 → 
  ((x1 = 1 → Q ((up_ M 86 2 0) 89 2) (up_ M 86 2 0) W) ∧ (x1 ≠ 1 → 
  ((x1 = 2 → Q ((up_ M 86 2 0) 89 3) (up_ M 86 2 0) W) ∧ (x1 ≠ 2 → 
  ((x1 = 3 → Q ((up_ M 86 2 0) 89 1) (up_ M 86 2 0) W) ∧ (x1 ≠ 3 → 
  ((x1 = 4 → Q ((up_ M 86 2 0) 89 5) (up_ M 86 2 0) W) ∧ (x1 ≠ 4 → 
  ((x1 = 5 → Q ((up_ M 86 2 0) 89 6) (up_ M 86 2 0) W) ∧ (x1 ≠ 5 → 
  ((x1 = 6 → Q ((up_ M 86 2 0) 89 7) (up_ M 86 2 0) W) ∧ (x1 ≠ 6 → 
  ((x1 = 7 → Q ((up_ M 86 2 0) 86 43) (up_ M 86 2 0) W) ∧ (x1 ≠ 7 → 
  ((x1 = 8 → Q ((up_ M 86 2 0) 86 41) (up_ M 86 2 0) W) ∧ (x1 ≠ 8 → Q (-1) (up_ M 86 2 0) W))))))))))))))))))) : CallI 264 [vR 86, vI x1] (M, W) Q :=
  wpN_X (cut := fun p => false) 50 _ _ h
