set_option maxRecDepth 20000 in
theorem e_X0_init (x1 : Int) (x2 : Int) (x3 : Int) (M : aM) (F : aM) (dl : Int → Int) (sz ns : Int) (Q : aM → aW → Prop) (h :
  ((0 : Int) ≤ 65) ∧ (0 ≤ sz ∧ sz < 126 ∧ knd sz = 6) ∧ (okD ((ce_ M sz (dfl_ 6)), (ce_ F sz (fun _ => -1), dl, sz + 1, ns + 2)) 6 (sz) = true) ∧ CallV 58 [vR (sz)] ((ce_ M sz (dfl_ 6)), (ce_ F sz (fun _ => -1), dl, sz + 1, ns + 2)) (fun M1 W2 => (okD (M1, W2) 0 65 = true) ∧ (0 ≤ W2.2.2.1 ∧ W2.2.2.1 < 126 ∧ knd W2.2.2.1 = 21 ∧ ln_ W2.2.2.1 = 729) ∧ (okD ((ce_ M1 W2.2.2.1 (fun _ => 0)), ((up_ W2.1 65 2 (sz)), W2.2.1, W2.2.2.1 + 1, W2.2.2.2 + 729)) 0 65 = true) ∧ (0 ≤ W2.2.2.1 + 1 ∧ W2.2.2.1 + 1 < 126 ∧ knd (W2.2.2.1 + 1) = 21 ∧ ln_ (W2.2.2.1 + 1) = 6) ∧ (okD ((ce_ (ce_ M1 W2.2.2.1 (fun _ => 0)) (W2.2.2.1 + 1) (fun _ => 0)), ((up_ (up_ W2.1 65 2 (sz)) 65 4 (W2.2.2.1)), W2.2.1, W2.2.2.1 + 1 + 1, W2.2.2.2 + 729 + 6)) 0 65 = true) ∧ (0 ≤ W2.2.2.1 + 1 + 1 ∧ W2.2.2.1 + 1 + 1 < 126 ∧ knd (W2.2.2.1 + 1 + 1) = 20 ∧ ln_ (W2.2.2.1 + 1 + 1) = 6) ∧ (okD ((ce_ (ce_ (ce_ M1 W2.2.2.1 (fun _ => 0)) (W2.2.2.1 + 1) (fun _ => 0)) (W2.2.2.1 + 1 + 1) (fun _ => 0)), ((up_ (up_ (up_ W2.1 65 2 (sz)) 65 4 (W2.2.2.1)) 65 5 (W2.2.2.1 + 1)), W2.2.1, W2.2.2.1 + 1 + 1 + 1, W2.2.2.2 + 729 + 6 + 6)) 0 65 = true) ∧ (0 ≤ W2.2.2.1 + 1 + 1 + 1 ∧ W2.2.2.1 + 1 + 1 + 1 < 126 ∧ knd (W2.2.2.1 + 1 + 1 + 1) = 20 ∧ ln_ (W2.2.2.1 + 1 + 1 + 1) = 6) ∧ (okD ((ce_ (ce_ (ce_ (ce_ M1 W2.2.2.1 (fun _ => 0)) (W2.2.2.1 + 1) (fun _ => 0)) (W2.2.2.1 + 1 + 1) (fun _ => 0)) (W2.2.2.1 + 1 + 1 + 1) (fun _ => 0)), ((up_ (up_ (up_ (up_ W2.1 65 2 (sz)) 65 4 (W2.2.2.1)) 65 5 (W2.2.2.1 + 1)) 65 6 (W2.2.2.1 + 1 + 1)), W2.2.1, W2.2.2.1 + 1 + 1 + 1 + 1, W2.2.2.2 + 729 + 6 + 6 + 6)) 0 65 = true) ∧ (okD ((ce_ (ce_ (ce_ (ce_ M1 W2.2.2.1 (fun _ => 0)) (W2.2.2.1 + 1) (fun _ => 0)) (W2.2.2.1 + 1 + 1) (fun _ => 0)) (W2.2.2.1 + 1 + 1 + 1) (fun _ => 0)), ((up_ (up_ (up_ (up_ (up_ W2.1 65 2 (sz)) 65 4 (W2.2.2.1)) 65 5 (W2.2.2.1 + 1)) 65 6 (W2.2.2.1 + 1 + 1)) 65 10 (W2.2.2.1 + 1 + 1 + 1)), W2.2.1, W2.2.2.1 + 1 + 1 + 1 + 1, W2.2.2.2 + 729 + 6 + 6 + 6)) 0 65 = true) ∧ (okD ((ce_ (ce_ (ce_ (ce_ M1 W2.2.2.1 (fun _ => 0)) (W2.2.2.1 + 1) (fun _ => 0)) (W2.2.2.1 + 1 + 1) (fun _ => 0)) (W2.2.2.1 + 1 + 1 + 1) (fun _ => 0)), ((up_ (up_ (up_ (up_ (up_ (up_ W2.1 65 2 (sz)) 65 4 (W2.2.2.1)) 65 5 (W2.2.2.1 + 1)) 65 6 (W2.2.2.1 + 1 + 1)) 65 10 (W2.2.2.1 + 1 + 1 + 1)) 65 0 x1), W2.2.1, W2.2.2.1 + 1 + 1 + 1 + 1, W2.2.2.2 + 729 + 6 + 6 + 6)) 0 65 = true) ∧ (okD ((ce_ (ce_ (ce_ (ce_ M1 W2.2.2.1 (fun _ => 0)) (W2.2.2.1 + 1) (fun _ => 0)) (W2.2.2.1 + 1 + 1) (fun _ => 0)) (W2.2.2.1 + 1 + 1 + 1) (fun _ => 0)), ((up_ (up_ (up_ (up_ (up_ (up_ (up_ W2.1 65 2 (sz)) 65 4 (W2.2.2.1)) 65 5 (W2.2.2.1 + 1)) 65 6 (W2.2.2.1 + 1 + 1)) 65 10 (W2.2.2.1 + 1 + 1 + 1)) 65 0 x1) 65 1 x2), W2.2.1, W2.2.2.1 + 1 + 1 + 1 + 1, W2.2.2.2 + 729 + 6 + 6 + 6)) 0 65 = true) ∧ (0 ≤ W2.2.2.1 + 1 + 1 + 1 + 1 ∧ W2.2.2.1 + 1 + 1 + 1 + 1 < 126 ∧ knd (W2.2.2.1 + 1 + 1 + 1 + 1) = 9) ∧ (okD ((ce_ (up_ (ce_ (ce_ (ce_ (ce_ M1 W2.2.2.1 (fun _ => 0)) (W2.2.2.1 + 1) (fun _ => 0)) (W2.2.2.1 + 1 + 1) (fun _ => 0)) (W2.2.2.1 + 1 + 1 + 1) (fun _ => 0)) 65 7 x3) (W2.2.2.1 + 1 + 1 + 1 + 1) (dfl_ 9)), (ce_ (up_ (up_ (up_ (up_ (up_ (up_ (up_ W2.1 65 2 (sz)) 65 4 (W2.2.2.1)) 65 5 (W2.2.2.1 + 1)) 65 6 (W2.2.2.1 + 1 + 1)) 65 10 (W2.2.2.1 + 1 + 1 + 1)) 65 0 x1) 65 1 x2) (W2.2.2.1 + 1 + 1 + 1 + 1) (fun _ => -1), W2.2.1, W2.2.2.1 + 1 + 1 + 1 + 1 + 1, W2.2.2.2 + 729 + 6 + 6 + 6 + 7)) 9 (W2.2.2.1 + 1 + 1 + 1 + 1) = true) ∧ CallV 104 [vR (W2.2.2.1 + 1 + 1 + 1 + 1), vR x1, vR x3] ((ce_ (up_ (ce_ (ce_ (ce_ (ce_ M1 W2.2.2.1 (fun _ => 0)) (W2.2.2.1 + 1) (fun _ => 0)) (W2.2.2.1 + 1 + 1) (fun _ => 0)) (W2.2.2.1 + 1 + 1 + 1) (fun _ => 0)) 65 7 x3) (W2.2.2.1 + 1 + 1 + 1 + 1) (dfl_ 9)), (ce_ (up_ (up_ (up_ (up_ (up_ (up_ (up_ W2.1 65 2 (sz)) 65 4 (W2.2.2.1)) 65 5 (W2.2.2.1 + 1)) 65 6 (W2.2.2.1 + 1 + 1)) 65 10 (W2.2.2.1 + 1 + 1 + 1)) 65 0 x1) 65 1 x2) (W2.2.2.1 + 1 + 1 + 1 + 1) (fun _ => -1), W2.2.1, W2.2.2.1 + 1 + 1 + 1 + 1 + 1, W2.2.2.2 + 729 + 6 + 6 + 6 + 7)) (fun M3 W4 => (okD (M3, W4) 0 65 = true) ∧ Q M3 ((up_ W4.1 65 3 (W2.2.2.1 + 1 + 1 + 1 + 1)), W4.2.1, W4.2.2.1, W4.2.2.2)))) : CallV 0 [vR 65, vR x1, vR x2, vR x3] (M, (F, dl, sz, ns)) Q :=
  wpN_X (cut := fun p => false) 42 _ _ h
set_option maxRecDepth 20000 in
theorem e_X0_settle (x1 : Int) (M : aM) (W : aW) (Q : aM → aW → Prop) (h :
  Xs 1 (12, [some (some (vR 65)), some (some (vR x1)), some (some (vI 0))], [], ((up_ (up_ M 65 7 x1) 65 8 0), W)) (QV Q)) : CallV 1 [vR 65, vR x1] (M, W) Q :=
  wpN_X (cut := fun p => Nat.beq p 12) 11 _ _ h
set_option maxRecDepth 20000 in
theorem k_X0_settle_12 (x1 : Int) (x2 : Int) (M : aM) (W : aW) (Q : aM → aW → Prop) (h :
  (inI x2) ∧ 
  ((x2 ≥ 6 → Q M W) ∧
  (¬ x2 ≥ 6 → (0 ≤ x2 ∧ x2 < 6) ∧ (0 ≤ x2 ∧ x2 < 6) ∧ Xs 1 (12, [some (some (vR 65)), some (some (vR x1)), some (some (vI (x2 + 1)))], [], ((up_ (up_ M 70 x2 (-9)) 71 x2 (-9)), W)) (QV Q)))) : Xs 1 (12, [some (some (vR 65)), some (some (vR x1)), some (some (vI x2))], [], (M, W)) (QV Q) :=
  wpN_X (cut := fun p => Nat.beq p 12) 19 _ _ h
set_option maxRecDepth 20000 in
theorem e_X0_meanWith (x1 : Int) (M : aM) (W : aW) (Q : Int → aM → aW → Prop) (h :
  Xs 2 (5, [some (some (vR 65)), some (some (vI x1)), some (some (vL 0)), some none, some (some (vI 0)), none, none, none], [], (M, W)) (QL Q)) : CallL 2 [vR 65, vI x1] (M, W) Q :=
  wpN_X (cut := fun p => Nat.beq p 5) 7 _ _ h
set_option maxRecDepth 20000 in
theorem k_X0_meanWith_5 (x1 : Int) (x2 : Int) (x4 : Int) (d5 : aL) (d6 : aL) (d7 : aL) (M : aM) (W : aW) (Q : Int → aM → aW → Prop) (h :
  (inI x4 ∧ inI x1) ∧ 
  ((x4 > x1 → Q x2 M W) ∧
  (¬ x4 > x1 → CallI 23 [vR 27, vI x1, vI x4] (M, W) (fun r3 M1 W2 => (inI (and_ x4 (xor_ x1 (-1)))) ∧ 
    (((and_ x4 (xor_ x1 (-1))) ≠ 0 → Xs 2 (5, [some (some (vR 65)), some (some (vI x1)), some (some (vL x2)), some none, some (some (vI (x4 + 1))), some (some (vI r3)), d6, d7], [], (M1, W2)) (QL Q)) ∧
    (¬ (and_ x4 (xor_ x1 (-1))) ≠ 0 → (0 ≤ r3 ∧ r3 < 729) ∧ (inL (M1 39 r3) ∧ inL 0) ∧
      (((M1 39 r3) ≤ 0 → Xs 2 (5, [some (some (vR 65)), some (some (vI x1)), some (some (vL x2)), some none, some (some (vI (x4 + 1))), some (some (vI r3)), d6, d7], [], (M1, W2)) (QL Q)) ∧
      (¬ (M1 39 r3) ≤ 0 → (okO 86 3 (M1 65 7) = true) ∧ CallL 107 [vR 50, vI (M1 (M1 65 7) 6), vI r3] (M1, W2) (fun r6 M4 W5 => (inL r6 ∧ inL 0) ∧
        ((r6 ≥ 0 → (∀ v7 : Int, v7 = x2 + r6 → Xs 2 (5, [some (some (vR 65)), some (some (vI x1)), some (some (vL v7)), some none, some (some (vI (x4 + 1))), some (some (vI r3)), some (some (vL r6)), some none], [], (M4, W5)) (QL Q))) ∧
        (¬ r6 ≥ 0 → Q (-2) M4 W5))))))))))) : Xs 2 (5, [some (some (vR 65)), some (some (vI x1)), some (some (vL x2)), some none, some (some (vI x4)), d5, d6, d7], [], (M, W)) (QL Q) :=
  wpN_X (cut := fun p => Nat.beq p 5) 54 _ _ h
set_option maxRecDepth 20000 in
theorem e_X0_worthOf (x1 : Int) (M : aM) (W : aW) (Q : Int → aM → aW → Prop) (h :
  CallL 2 [vR 65, vI 0] (M, W) (fun r3 M1 W2 => CallL 2 [vR 65, vI (shl_ 1 x1)] (M1, W2) (fun r6 M4 W5 => (inL r3 ∧ inL 0) ∧
  ((r3 < 0 → Q (-2) M4 W5) ∧
  (¬ r3 < 0 → (inL r6 ∧ inL 0) ∧
    ((r6 ≥ 0 → Q (r3 - r6) M4 W5) ∧
    (¬ r6 ≥ 0 → Q (-2) M4 W5))))))) : CallL 3 [vR 65, vI x1] (M, W) Q :=
  wpN_X (cut := fun p => false) 28 _ _ h
set_option maxRecDepth 20000 in
theorem e_X0_lookAhead (x1 : Int) (x2 : Int) (M : aM) (W : aW) (Q : Int → aM → aW → Prop) (h :
  Xs 4 (8, [some (some (vR 65)), some (some (vI x1)), some (some (vI x2)), some (some (vI (-1))), some (some (vL 0)), some none, some (some (vI 0)), none, none, none, none], [], (M, W)) (QL Q)) : CallL 4 [vR 65, vI x1, vI x2] (M, W) Q :=
  wpN_X (cut := fun p => Nat.beq p 8) 9 _ _ h
set_option maxRecDepth 20000 in
theorem k_X0_lookAhead_8 (x1 : Int) (x2 : Int) (x3 : Int) (x4 : Int) (x6 : Int) (d7 : aL) (d8 : aL) (d9 : aL) (d10 : aL) (M : aM) (W : aW) (Q : Int → aM → aW → Prop) (h :
  (okO 86 3 (M 65 7) = true) ∧ CallI 33 [vR (M 65 7)] (M, W) (fun r3 M1 W2 => (inI x6 ∧ inI r3) ∧ 
  ((x6 ≥ r3 → (inI x3) ∧ 
    ((x3 ≥ 0 → (inI x2) ∧ 
      ((x2 ≠ 0 → Q x4 M1 W2) ∧
      (¬ x2 ≠ 0 → (inI x3) ∧ Q x3 M1 W2))) ∧
    (¬ x3 ≥ 0 → Q (-2) M1 W2))) ∧
  (¬ x6 ≥ r3 → CallL 2 [vR 65, vI x6] (M1, W2) (fun r6 M4 W5 => CallI 265 [vI x6] (M4, W5) (fun r9 M7 W8 => (inI r9) ∧ (inI x1) ∧ (∀ v10 : Int, v10 = r6 + ((r9 * x1) * (M7 39 0)) → (inL r6 ∧ inL 0) ∧
    ((r6 < 0 → Xs 4 (8, [some (some (vR 65)), some (some (vI x1)), some (some (vI x2)), some (some (vI x3)), some (some (vL x4)), some none, some (some (vI (x6 + 1))), some (some (vL r6)), some none, some (some (vL v10)), some none], [], (M7, W8)) (QL Q)) ∧
    (¬ r6 < 0 → (inI x3) ∧ 
      ((x3 < 0 → Xs 4 (8, [some (some (vR 65)), some (some (vI x1)), some (some (vI x2)), some (some (vI x6)), some (some (vL v10)), some none, some (some (vI (x6 + 1))), some (some (vL r6)), some none, some (some (vL v10)), some none], [], (M7, W8)) (QL Q)) ∧
      (¬ x3 < 0 → (inL v10 ∧ inL x4) ∧
        ((v10 < x4 → Xs 4 (8, [some (some (vR 65)), some (some (vI x1)), some (some (vI x2)), some (some (vI x6)), some (some (vL v10)), some none, some (some (vI (x6 + 1))), some (some (vL r6)), some none, some (some (vL v10)), some none], [], (M7, W8)) (QL Q)) ∧
        (¬ v10 < x4 → (inL v10 ∧ inL x4) ∧
          ((v10 ≠ x4 → Xs 4 (8, [some (some (vR 65)), some (some (vI x1)), some (some (vI x2)), some (some (vI x3)), some (some (vL x4)), some none, some (some (vI (x6 + 1))), some (some (vL r6)), some none, some (some (vL v10)), some none], [], (M7, W8)) (QL Q)) ∧
          (¬ v10 ≠ x4 → CallI 265 [vI x6] (M7, W8) (fun r13 M11 W12 => CallI 265 [vI x3] (M11, W12) (fun r16 M14 W15 => (inI r13 ∧ inI r16) ∧ 
            ((r13 ≥ r16 → Xs 4 (8, [some (some (vR 65)), some (some (vI x1)), some (some (vI x2)), some (some (vI x3)), some (some (vL x4)), some none, some (some (vI (x6 + 1))), some (some (vL r6)), some none, some (some (vL v10)), some none], [], (M14, W15)) (QL Q)) ∧
            (¬ r13 ≥ r16 → Xs 4 (8, [some (some (vR 65)), some (some (vI x1)), some (some (vI x2)), some (some (vI x6)), some (some (vL v10)), some none, some (some (vI (x6 + 1))), some (some (vL r6)), some none, some (some (vL v10)), some none], [], (M14, W15)) (QL Q)))))))))))))))))))) : Xs 4 (8, [some (some (vR 65)), some (some (vI x1)), some (some (vI x2)), some (some (vI x3)), some (some (vL x4)), some none, some (some (vI x6)), d7, d8, d9, d10], [], (M, W)) (QL Q) :=
  wpN_X (cut := fun p => Nat.beq p 8) 85 _ _ h
set_option maxRecDepth 20000 in
theorem e_X0_keptOpen (x1 : Int) (M : aM) (W : aW) (Q : Int → aM → aW → Prop) (h :
  (0 ≤ x1 ∧ x1 < 6) ∧ (inL (M 70 x1) ∧ inL (-9)) ∧
  (((M 70 x1) ≠ (-9) → (0 ≤ x1 ∧ x1 < 6) ∧ Q (M 70 x1) M W) ∧
  (¬ (M 70 x1) ≠ (-9) → CallV 59 [vR 66, vR (M 65 7), vI (-1), vI 0] (M, W) (fun M1 W2 => CallV 62 [vR 66, vR (M1 65 7), vI x1] (M1, W2) (fun M3 W4 => CallV 7 [vR 65] (M3, W4) (fun M5 W6 => (okO 86 3 (M5 65 7) = true) ∧ CallL 107 [vR 73, vI (M5 (M5 65 7) 6), vI 0] (M5, W6) (fun r9 M7 W8 => (0 ≤ x1 ∧ x1 < 6) ∧ (0 ≤ x1 ∧ x1 < 6) ∧ Q ((up_ M7 70 x1 r9) 70 x1) (up_ M7 70 x1 r9) W8))))))) : CallL 5 [vR 65, vI x1] (M, W) Q :=
  wpN_X (cut := fun p => false) 44 _ _ h
set_option maxRecDepth 20000 in
theorem e_X0_edgeOf (x1 : Int) (M : aM) (W : aW) (Q : Int → aM → aW → Prop) (h :
  (okO 86 3 (M 65 7) = true) ∧ CallI 36 [vR (M 65 7), vI x1] (M, W) (fun r3 M1 W2 => (∀ v4 : Int, v4 = r3 + 1 → Xs 6 (11, [some (some (vR 65)), some (some (vI x1)), some (some (vI v4))], [], (M1, W2)) (QI Q)))) : CallI 6 [vR 65, vI x1] (M, W) Q :=
  wpN_X (cut := fun p => Nat.beq p 11) 10 _ _ h
set_option maxRecDepth 20000 in
theorem k_X0_edgeOf_11 (x1 : Int) (x2 : Int) (M : aM) (W : aW) (Q : Int → aM → aW → Prop) (h :
  (inI x2) ∧ 
  ((x2 > 10 → (0 ≤ x1 ∧ x1 < 6) ∧ (inI (M 71 x1)) ∧ 
    (((M 71 x1) ≠ (-9) → (0 ≤ x1 ∧ x1 < 6) ∧ Q (M 71 x1) M W) ∧
    (¬ (M 71 x1) ≠ (-9) → (0 ≤ x1 ∧ x1 < 6) ∧ (0 ≤ x1 ∧ x1 < 6) ∧ Q ((up_ M 71 x1 11) 71 x1) (up_ M 71 x1 11) W))) ∧
  (¬ x2 > 10 → (0 ≤ x1 ∧ x1 < 6) ∧ (inI (M 71 x1)) ∧ 
    (((M 71 x1) ≠ (-9) → (0 ≤ x1 ∧ x1 < 6) ∧ (inI (M 71 x1)) ∧ 
      (((M 71 x1) ≠ (-9) → (0 ≤ x1 ∧ x1 < 6) ∧ Q (M 71 x1) M W) ∧
      (¬ (M 71 x1) ≠ (-9) → (0 ≤ x1 ∧ x1 < 6) ∧ (0 ≤ x1 ∧ x1 < 6) ∧ Q ((up_ M 71 x1 11) 71 x1) (up_ M 71 x1 11) W))) ∧
    (¬ (M 71 x1) ≠ (-9) → CallV 59 [vR 66, vR (M 65 7), vI x1, vI x2] (M, W) (fun M1 W2 => CallV 7 [vR 65] (M1, W2) (fun M3 W4 => CallI 8 [vR 65] (M3, W4) (fun r7 M5 W6 => (inI r7) ∧ 
      ((r7 = 0 → Xs 6 (11, [some (some (vR 65)), some (some (vI x1)), some (some (vI (x2 + 1)))], [], (M5, W6)) (QI Q)) ∧
      (¬ r7 = 0 → (0 ≤ x1 ∧ x1 < 6) ∧ Xs 6 (11, [some (some (vR 65)), some (some (vI x1)), some (some (vI (x2 + 1)))], [], ((up_ M5 71 x1 x2), W6)) (QI Q))))))))))) : Xs 6 (11, [some (some (vR 65)), some (some (vI x1)), some (some (vI x2))], [], (M, W)) (QI Q) :=
  wpN_X (cut := fun p => Nat.beq p 11) 76 _ _ h
set_option maxRecDepth 20000 in
theorem e_X0_solveTrial  (M : aM) (W : aW) (Q : aM → aW → Prop) (h :
  CallV 63 [vR 66, vR (M 65 7), vR 27] (M, W) (fun M1 W2 => CallV 109 [vR 73, vR (M1 65 7), vR 68, vI 1, vR 69] (M1, W2) (fun M3 W4 => Q M3 W4))) : CallV 7 [vR 65] (M, W) Q :=
  wpN_X (cut := fun p => false) 21 _ _ h
set_option maxRecDepth 20000 in
theorem e_X0_actsOtherwise  (M : aM) (W : aW) (Q : Int → aM → aW → Prop) (h :
  (okO 86 3 (M 65 7) = true) ∧ (okO 86 3 (M 65 7) = true) ∧ (okO 86 20 ((M 65 7) + 5) = true ∧ 0 ≤ (M (M 65 7) 6) ∧ (M (M 65 7) 6) < ln_ ((M 65 7) + 5)) ∧ (∀ v1 : Int, v1 = M ((M 65 7) + 5) (M (M 65 7) 6) → Xs 8 (18, [some (some (vR 65)), some (some (vI v1)), some (some (vI 0)), none], [], (M, W)) (QI Q))) : CallI 8 [vR 65] (M, W) Q :=
  wpN_X (cut := fun p => Nat.beq p 18) 13 _ _ h
set_option maxRecDepth 20000 in
theorem k_X0_actsOtherwise_18 (x1 : Int) (x2 : Int) (d3 : aL) (M : aM) (W : aW) (Q : Int → aM → aW → Prop) (h :
  (inI x2 ∧ inI x1) ∧ 
  ((x2 > x1 → Q 0 M W) ∧
  (¬ x2 > x1 → CallI 23 [vR 27, vI x1, vI x2] (M, W) (fun r3 M1 W2 => (0 ≤ r3 ∧ r3 < 729) ∧ (inL (M1 39 r3) ∧ inL 0) ∧
    (((M1 39 r3) ≤ 0 → Xs 8 (18, [some (some (vR 65)), some (some (vI x1)), some (some (vI (x2 + 1))), some (some (vI r3))], [], (M1, W2)) (QI Q)) ∧
    (¬ (M1 39 r3) ≤ 0 → (0 ≤ r3 ∧ r3 < 729) ∧ (inL (M1 68 r3) ∧ inL 0) ∧
      (((M1 68 r3) ≤ 0 → Xs 8 (18, [some (some (vR 65)), some (some (vI x1)), some (some (vI (x2 + 1))), some (some (vI r3))], [], (M1, W2)) (QI Q)) ∧
      (¬ (M1 68 r3) ≤ 0 → (okO 86 3 (M1 65 7) = true) ∧ CallI 105 [vR 50, vI (M1 (M1 65 7) 6), vI r3] (M1, W2) (fun r6 M4 W5 => (okO 86 3 (M4 65 7) = true) ∧ CallI 105 [vR 73, vI (M4 (M4 65 7) 6), vI r3] (M4, W5) (fun r9 M7 W8 => (inI r6 ∧ inI r9) ∧ 
        ((r6 = r9 → Xs 8 (18, [some (some (vR 65)), some (some (vI x1)), some (some (vI (x2 + 1))), some (some (vI r3))], [], (M7, W8)) (QI Q)) ∧
        (¬ r6 = r9 → Q 1 M7 W8)))))))))))) : Xs 8 (18, [some (some (vR 65)), some (some (vI x1)), some (some (vI x2)), d3], [], (M, W)) (QI Q) :=
  wpN_X (cut := fun p => Nat.beq p 18) 55 _ _ h
set_option maxRecDepth 20000 in
theorem e_X0_findRow  (M : aM) (W : aW) (Q : aM → aW → Prop) (h :
  (inI (M 65 8)) ∧ 
  (((M 65 8) = 0 → Xs 9 (30, [some (some (vR 65)), some (some (vR 47)), some (some (vI 0)), none, none, none], [], ((up_ (up_ M 65 8 1) 65 9 (-2)), W)) (QV Q)) ∧
  (¬ (M 65 8) = 0 → Q M W))) : CallV 9 [vR 65] (M, W) Q :=
  wpN_X (cut := fun p => Nat.beq p 30 || Nat.beq p 57) 19 _ _ h
set_option maxRecDepth 20000 in
theorem k_X0_findRow_30 (x2 : Int) (d3 : aL) (d4 : aL) (d5 : aL) (M : aM) (W : aW) (Q : aM → aW → Prop) (h :
  (inI x2) ∧ 
  ((x2 ≥ 6 → Xs 9 (57, [some (some (vR 65)), some (some (vR 47)), some (some (vI 1)), some (some (vI 0)), d4, d5], [], (M, W)) (QV Q)) ∧
  (¬ x2 ≥ 6 → (0 ≤ x2 ∧ x2 < 6) ∧ (0 ≤ x2 ∧ x2 < 6) ∧ Xs 9 (30, [some (some (vR 65)), some (some (vR 47)), some (some (vI (x2 + 1))), d3, d4, d5], [], ((up_ (up_ M 47 x2 x2) 72 x2 x2), W)) (QV Q)))) : Xs 9 (30, [some (some (vR 65)), some (some (vR 47)), some (some (vI x2)), d3, d4, d5], [], (M, W)) (QV Q) :=
  wpN_X (cut := fun p => Nat.beq p 30 || Nat.beq p 57) 22 _ _ h
set_option maxRecDepth 20000 in
theorem k_X0_findRow_57 (x2 : Int) (x3 : Int) (d4 : aL) (d5 : aL) (M : aM) (W : aW) (Q : aM → aW → Prop) (h :
  (inI x3) ∧ 
  ((x3 ≥ 729 → Q M W) ∧
  (¬ x3 ≥ 729 → (inI x2) ∧ 
    ((x2 = 0 → Q M W) ∧
    (¬ x2 = 0 → CallL 76 [vR 36, vI 7] (M, W) (fun r3 M1 W2 => (inL r3 ∧ inL 0) ∧
      ((r3 < 0 → (okO 86 3 (M1 65 7) = true) ∧ CallI 10 [vR 65, vR 47, vI (M1 (M1 65 7) 3)] (M1, W2) (fun r6 M4 W5 => Xs 9 (57, [some (some (vR 65)), some (some (vR 47)), some (some (vI r6)), some (some (vI (x3 + 1))), some (some (vL r3)), some none], [], (M4, W5)) (QV Q))) ∧
      (¬ r3 < 0 → (inL (M1 65 9) ∧ inL 0) ∧
        (((M1 65 9) < 0 → (okO 86 3 ((ce_ (up_ M1 65 9 r3) 72 (fun j => if 0 ≤ j ∧ j < 6 then (up_ M1 65 9 r3) 47 j else (up_ M1 65 9 r3) 72 j)) 65 7) = true) ∧ CallI 10 [vR 65, vR 47, vI ((ce_ (up_ M1 65 9 r3) 72 (fun j => if 0 ≤ j ∧ j < 6 then (up_ M1 65 9 r3) 47 j else (up_ M1 65 9 r3) 72 j)) ((ce_ (up_ M1 65 9 r3) 72 (fun j => if 0 ≤ j ∧ j < 6 then (up_ M1 65 9 r3) 47 j else (up_ M1 65 9 r3) 72 j)) 65 7) 3)] ((ce_ (up_ M1 65 9 r3) 72 (fun j => if 0 ≤ j ∧ j < 6 then (up_ M1 65 9 r3) 47 j else (up_ M1 65 9 r3) 72 j)), W2) (fun r9 M7 W8 => Xs 9 (57, [some (some (vR 65)), some (some (vR 47)), some (some (vI r9)), some (some (vI (x3 + 1))), some (some (vL r3)), some none], [], (M7, W8)) (QV Q))) ∧
        (¬ (M1 65 9) < 0 → (inL r3 ∧ inL (M1 65 9)) ∧
          ((r3 ≥ (M1 65 9) → (okO 86 3 (M1 65 7) = true) ∧ CallI 10 [vR 65, vR 47, vI (M1 (M1 65 7) 3)] (M1, W2) (fun r12 M10 W11 => Xs 9 (57, [some (some (vR 65)), some (some (vR 47)), some (some (vI r12)), some (some (vI (x3 + 1))), some (some (vL r3)), some none], [], (M10, W11)) (QV Q))) ∧
          (¬ r3 ≥ (M1 65 9) → (okO 86 3 ((ce_ (up_ M1 65 9 r3) 72 (fun j => if 0 ≤ j ∧ j < 6 then (up_ M1 65 9 r3) 47 j else (up_ M1 65 9 r3) 72 j)) 65 7) = true) ∧ CallI 10 [vR 65, vR 47, vI ((ce_ (up_ M1 65 9 r3) 72 (fun j => if 0 ≤ j ∧ j < 6 then (up_ M1 65 9 r3) 47 j else (up_ M1 65 9 r3) 72 j)) ((ce_ (up_ M1 65 9 r3) 72 (fun j => if 0 ≤ j ∧ j < 6 then (up_ M1 65 9 r3) 47 j else (up_ M1 65 9 r3) 72 j)) 65 7) 3)] ((ce_ (up_ M1 65 9 r3) 72 (fun j => if 0 ≤ j ∧ j < 6 then (up_ M1 65 9 r3) 47 j else (up_ M1 65 9 r3) 72 j)), W2) (fun r15 M13 W14 => Xs 9 (57, [some (some (vR 65)), some (some (vR 47)), some (some (vI r15)), some (some (vI (x3 + 1))), some (some (vL r3)), some none], [], (M13, W14)) (QV Q)))))))))))))) : Xs 9 (57, [some (some (vR 65)), some (some (vR 47)), some (some (vI x2)), some (some (vI x3)), d4, d5], [], (M, W)) (QV Q) :=
  wpN_X (cut := fun p => Nat.beq p 30 || Nat.beq p 57) 85 _ _ h
set_option maxRecDepth 20000 in
theorem e_X0_permute (x2 : Int) (M : aM) (W : aW) (Q : Int → aM → aW → Prop) (h :
  (∀ v1 : Int, v1 = x2 - 2 → Xs 10 (4, [some (some (vR 65)), some (some (vR 47)), some (some (vI x2)), some (some (vI v1)), none, none], [], (M, W)) (QI Q))) : CallI 10 [vR 65, vR 47, vI x2] (M, W) Q :=
  wpN_X (cut := fun p => Nat.beq p 4 || Nat.beq p 36 || Nat.beq p 69) 7 _ _ h
set_option maxRecDepth 20000 in
theorem k_X0_permute_4 (x2 : Int) (x3 : Int) (d4 : aL) (d5 : aL) (M : aM) (W : aW) (Q : Int → aM → aW → Prop) (h :
  (inI x3) ∧ 
  ((x3 < 0 → (inI x3) ∧ 
    ((x3 ≥ 0 → (∀ v1 : Int, v1 = x2 - 1 → Xs 10 (36, [some (some (vR 65)), some (some (vR 47)), some (some (vI x2)), some (some (vI x3)), some (some (vI v1)), d5], [], (M, W)) (QI Q))) ∧
    (¬ x3 ≥ 0 → Q 0 M W))) ∧
  (¬ x3 < 0 → (0 ≤ x3 ∧ x3 < 6) ∧ (0 ≤ (x3 + 1) ∧ (x3 + 1) < 6) ∧ (inI (M 47 x3) ∧ inI (M 47 (x3 + 1))) ∧ 
    (((M 47 x3) ≤ (M 47 (x3 + 1)) → (inI x3) ∧ 
      ((x3 ≥ 0 → (∀ v2 : Int, v2 = x2 - 1 → Xs 10 (36, [some (some (vR 65)), some (some (vR 47)), some (some (vI x2)), some (some (vI x3)), some (some (vI v2)), d5], [], (M, W)) (QI Q))) ∧
      (¬ x3 ≥ 0 → Q 0 M W))) ∧
    (¬ (M 47 x3) ≤ (M 47 (x3 + 1)) → Xs 10 (4, [some (some (vR 65)), some (some (vR 47)), some (some (vI x2)), some (some (vI (x3 + (-1)))), d4, d5], [], (M, W)) (QI Q)))))) : Xs 10 (4, [some (some (vR 65)), some (some (vR 47)), some (some (vI x2)), some (some (vI x3)), d4, d5], [], (M, W)) (QI Q) :=
  wpN_X (cut := fun p => Nat.beq p 4 || Nat.beq p 36 || Nat.beq p 69) 34 _ _ h
set_option maxRecDepth 20000 in
theorem k_X0_permute_36 (x2 : Int) (x3 : Int) (x4 : Int) (d5 : aL) (M : aM) (W : aW) (Q : Int → aM → aW → Prop) (h :
  (inI x4 ∧ inI x3) ∧ 
  ((x4 ≤ x3 → CallV 11 [vR 65, vR 47, vI x3, vI x4] (M, W) (fun M1 W2 => Xs 10 (69, [some (some (vR 65)), some (some (vR 47)), some (some (vI x2)), some (some (vI x3)), some (some (vI x4)), some (some (vI 0))], [], (M1, W2)) (QI Q))) ∧
  (¬ x4 ≤ x3 → (0 ≤ x4 ∧ x4 < 6) ∧ (0 ≤ x3 ∧ x3 < 6) ∧ (inI (M 47 x4) ∧ inI (M 47 x3)) ∧ 
    (((M 47 x4) ≥ (M 47 x3) → CallV 11 [vR 65, vR 47, vI x3, vI x4] (M, W) (fun M3 W4 => Xs 10 (69, [some (some (vR 65)), some (some (vR 47)), some (some (vI x2)), some (some (vI x3)), some (some (vI x4)), some (some (vI 0))], [], (M3, W4)) (QI Q))) ∧
    (¬ (M 47 x4) ≥ (M 47 x3) → Xs 10 (36, [some (some (vR 65)), some (some (vR 47)), some (some (vI x2)), some (some (vI x3)), some (some (vI (x4 + (-1)))), d5], [], (M, W)) (QI Q)))))) : Xs 10 (36, [some (some (vR 65)), some (some (vR 47)), some (some (vI x2)), some (some (vI x3)), some (some (vI x4)), d5], [], (M, W)) (QI Q) :=
  wpN_X (cut := fun p => Nat.beq p 4 || Nat.beq p 36 || Nat.beq p 69) 31 _ _ h
set_option maxRecDepth 20000 in
theorem k_X0_permute_69 (x2 : Int) (x3 : Int) (x4 : Int) (x5 : Int) (M : aM) (W : aW) (Q : Int → aM → aW → Prop) (h :
  (inI ((x3 + 1) + x5) ∧ inI ((x2 - 1) - x5)) ∧ 
  ((((x3 + 1) + x5) ≥ ((x2 - 1) - x5) → Q 1 M W) ∧
  (¬ ((x3 + 1) + x5) ≥ ((x2 - 1) - x5) → CallV 11 [vR 65, vR 47, vI ((x3 + 1) + x5), vI ((x2 - 1) - x5)] (M, W) (fun M1 W2 => Xs 10 (69, [some (some (vR 65)), some (some (vR 47)), some (some (vI x2)), some (some (vI x3)), some (some (vI x4)), some (some (vI (x5 + 1)))], [], (M1, W2)) (QI Q))))) : Xs 10 (69, [some (some (vR 65)), some (some (vR 47)), some (some (vI x2)), some (some (vI x3)), some (some (vI x4)), some (some (vI x5))], [], (M, W)) (QI Q) :=
  wpN_X (cut := fun p => Nat.beq p 4 || Nat.beq p 36 || Nat.beq p 69) 31 _ _ h
set_option maxRecDepth 20000 in
theorem e_X0_swap (x2 : Int) (x3 : Int) (M : aM) (W : aW) (Q : aM → aW → Prop) (h :
  (0 ≤ x2 ∧ x2 < 6) ∧ (∀ v1 : Int, v1 = M 47 x2 → (0 ≤ x3 ∧ x3 < 6) ∧ (0 ≤ x2 ∧ x2 < 6) ∧ (0 ≤ x3 ∧ x3 < 6) ∧ Q (up_ (up_ M 47 x2 (M 47 x3)) 47 x3 v1) W)) : CallV 11 [vR 65, vR 47, vI x2, vI x3] (M, W) Q :=
  wpN_X (cut := fun p => false) 17 _ _ h
set_option maxRecDepth 20000 in
theorem e_X1_init (x1 : Int) (x2 : Int) (M : aM) (F : aM) (dl : Int → Int) (sz ns : Int) (Q : aM → aW → Prop) (h :
  ((0 : Int) ≤ 78) ∧ (0 ≤ sz ∧ sz < 126 ∧ knd sz = 20 ∧ ln_ sz = 0) ∧ (okD ((ce_ M sz (fun _ => 0)), (F, dl, sz + 1, ns + 0)) 1 78 = true) ∧ (0 ≤ sz + 1 ∧ sz + 1 < 126 ∧ knd (sz + 1) = 20 ∧ ln_ (sz + 1) = 100) ∧ (okD ((ce_ (up_ (ce_ M sz (fun _ => 0)) 78 2 (sz)) (sz + 1) (fun _ => 0)), (F, dl, sz + 1 + 1, ns + 0 + 100)) 1 78 = true) ∧ (0 ≤ sz + 1 + 1 ∧ sz + 1 + 1 < 126 ∧ knd (sz + 1 + 1) = 20 ∧ ln_ (sz + 1 + 1) = 10) ∧ (okD ((ce_ (ce_ (up_ (ce_ M sz (fun _ => 0)) 78 2 (sz)) (sz + 1) (fun _ => 0)) (sz + 1 + 1) (fun _ => 0)), ((up_ F 78 3 (sz + 1)), dl, sz + 1 + 1 + 1, ns + 0 + 100 + 10)) 1 78 = true) ∧ (okD ((ce_ (ce_ (up_ (ce_ M sz (fun _ => 0)) 78 2 (sz)) (sz + 1) (fun _ => 0)) (sz + 1 + 1) (fun _ => 0)), ((up_ (up_ F 78 3 (sz + 1)) 78 4 (sz + 1 + 1)), dl, sz + 1 + 1 + 1, ns + 0 + 100 + 10)) 1 78 = true) ∧ (okD ((ce_ (ce_ (up_ (ce_ M sz (fun _ => 0)) 78 2 (sz)) (sz + 1) (fun _ => 0)) (sz + 1 + 1) (fun _ => 0)), ((up_ (up_ (up_ F 78 3 (sz + 1)) 78 4 (sz + 1 + 1)) 78 1 x1), dl, sz + 1 + 1 + 1, ns + 0 + 100 + 10)) 1 78 = true) ∧ Q (up_ (ce_ (ce_ (up_ (ce_ M sz (fun _ => 0)) 78 2 (sz)) (sz + 1) (fun _ => 0)) (sz + 1 + 1) (fun _ => 0)) 78 5 x2) ((up_ (up_ (up_ F 78 3 (sz + 1)) 78 4 (sz + 1 + 1)) 78 1 x1), dl, sz + 1 + 1 + 1, ns + 0 + 100 + 10)) : CallV 12 [vR 78, vR x1, vR x2] (M, (F, dl, sz, ns)) Q :=
  wpN_X (cut := fun p => false) 23 _ _ h
set_option maxRecDepth 20000 in
theorem e_X1_mostBy (x1 : Int) (x2 : Int) (M : aM) (W : aW) (Q : Int → aM → aW → Prop) (h :
  (inI (M 78 0)) ∧ 
  (((M 78 0) ≠ 0 → (okO 86 3 (M 78 5) = true) ∧ CallI 14 [vR 78, vI 0, vI (M (M 78 5) 6)] (M, W) (fun r3 M1 W2 => (okD (M1, W2) 20 (M 78 2) = true ∧ 0 ≤ (r3 + x1) ∧ (r3 + x1) < lD_ W2.2.1 (M 78 2)) ∧ (inI (M1 (M 78 2) (r3 + x1))) ∧ Q (M1 (M 78 2) (r3 + x1)) M1 W2)) ∧
  (¬ (M 78 0) ≠ 0 → CallV 16 [vR 78, vR 39] ((up_ M 78 5 x2), W) (fun M4 W5 => (okO 86 3 ((up_ M4 78 0 1) 78 5) = true) ∧ CallI 14 [vR 78, vI 0, vI ((up_ M4 78 0 1) ((up_ M4 78 0 1) 78 5) 6)] ((up_ M4 78 0 1), W5) (fun r8 M6 W7 => (okD (M6, W7) 20 ((up_ M4 78 0 1) 78 2) = true ∧ 0 ≤ (r8 + x1) ∧ (r8 + x1) < lD_ W7.2.1 ((up_ M4 78 0 1) 78 2)) ∧ (inI (M6 ((up_ M4 78 0 1) 78 2) (r8 + x1))) ∧ Q (M6 ((up_ M4 78 0 1) 78 2) (r8 + x1)) M6 W7))))) : CallL 13 [vR 78, vI x1, vR x2, vR 39] (M, W) Q :=
  wpN_X (cut := fun p => false) 40 _ _ h
set_option maxRecDepth 20000 in
theorem e_X1_at (x1 : Int) (x2 : Int) (M : aM) (W : aW) (Q : Int → aM → aW → Prop) (h :
  (okO 86 3 (M 78 5) = true) ∧ Q (((x1 * (M (M 78 5) 0)) + x2) * 49) M W) : CallI 14 [vR 78, vI x1, vI x2] (M, W) Q :=
  wpN_X (cut := fun p => false) 12 _ _ h
set_option maxRecDepth 20000 in
theorem e_X1_makeRoom  (M : aM) (W : aW) (Q : aM → aW → Prop) (h :
  (okO 86 3 (M 78 5) = true) ∧ CallI 34 [vR (M 78 5)] (M, W) (fun r3 M1 W2 => CallI 14 [vR 78, vI r3, vI 0] (M1, W2) (fun r6 M4 W5 => (okD (M4, W5) 20 (M4 78 2) = true) ∧ (inI (lD_ W5.2.1 (M4 78 2)) ∧ inI r6) ∧ 
  (((lD_ W5.2.1 (M4 78 2)) ≥ r6 → Q M4 W5) ∧
  (¬ (lD_ W5.2.1 (M4 78 2)) ≥ r6 → (okD (M4, W5) 20 (M4 78 2) = true) ∧ (inI r6 ∧ inI (2 * (lD_ W5.2.1 (M4 78 2)))) ∧ (inI 357210 ∧ inI (max_ r6 (2 * (lD_ W5.2.1 (M4 78 2))))) ∧ (126 ≤ W5.2.2.1 ∧ 0 ≤ (min_ 357210 (max_ r6 (2 * (lD_ W5.2.1 (M4 78 2))))) ∧ (min_ 357210 (max_ r6 (2 * (lD_ W5.2.1 (M4 78 2))))) ≤ 100000000) ∧ Q (up_ (ce_ M4 W5.2.2.1 (fun _ => 0)) 78 2 (W5.2.2.1)) (W5.1, up1 W5.2.1 W5.2.2.1 (min_ 357210 (max_ r6 (2 * (lD_ W5.2.1 (M4 78 2))))), W5.2.2.1 + 1, W5.2.2.2 + (min_ 357210 (max_ r6 (2 * (lD_ W5.2.1 (M4 78 2))))))))))) : CallV 15 [vR 78] (M, W) Q :=
  wpN_X (cut := fun p => false) 28 _ _ h
set_option maxRecDepth 20000 in
theorem e_X1_fill  (M : aM) (W : aW) (Q : aM → aW → Prop) (h :
  CallV 15 [vR 78] (M, W) (fun M1 W2 => (okO 86 3 (M1 78 5) = true) ∧ CallI 34 [vR (M1 78 5)] (M1, W2) (fun r5 M3 W4 => (∀ v6 : Int, v6 = r5 - 1 → Xs 16 (14, [some (some (vR 78)), some (some (vR 39)), some (some (vI v6)), none], [], (M3, W4)) (QV Q))))) : CallV 16 [vR 78, vR 39] (M, W) Q :=
  wpN_X (cut := fun p => Nat.beq p 14 || Nat.beq p 49 || Nat.beq p 91) 11 _ _ h
set_option maxRecDepth 20000 in
theorem k_X1_fill_14 (x2 : Int) (d3 : aL) (M : aM) (W : aW) (Q : aM → aW → Prop) (h :
  (inI x2) ∧ 
  ((x2 < 0 → Q M W) ∧
  (¬ x2 < 0 → (0 ≤ x2 ∧ x2 < 729) ∧ (0 ≤ x2 ∧ x2 < 729) ∧ (okO 86 3 (M 78 5) = true) ∧ CallV 39 [vR (M 78 5), vR 80, vI (M 28 x2), vI (M 29 x2)] (M, W) (fun M1 W2 => Xs 16 (49, [some (some (vR 78)), some (some (vR 39)), some (some (vI x2)), some (some (vI 0))], [], (M1, W2)) (QV Q))))) : Xs 16 (14, [some (some (vR 78)), some (some (vR 39)), some (some (vI x2)), d3], [], (M, W)) (QV Q) :=
  wpN_X (cut := fun p => Nat.beq p 14 || Nat.beq p 49 || Nat.beq p 91) 23 _ _ h
set_option maxRecDepth 20000 in
theorem k_X1_fill_49 (x2 : Int) (x3 : Int) (M : aM) (W : aW) (Q : aM → aW → Prop) (h :
  (okO 86 3 (M 78 5) = true) ∧ (inI x3 ∧ inI (M (M 78 5) 0)) ∧ 
  ((x3 ≥ (M (M 78 5) 0) → Xs 16 (91, [some (some (vR 78)), some (some (vR 39)), some (some (vI x2)), some (some (vI 0))], [], (M, W)) (QV Q)) ∧
  (¬ x3 ≥ (M (M 78 5) 0) → (okO 86 3 (M 78 5) = true) ∧ (okO 86 20 ((M 78 5) + 5) = true ∧ 0 ≤ x3 ∧ x3 < ln_ ((M 78 5) + 5)) ∧ CallI 25 [vR 27, vI x2, vI (M ((M 78 5) + 5) x3)] (M, W) (fun r3 M1 W2 => (0 ≤ x3 ∧ x3 < 10) ∧ Xs 16 (49, [some (some (vR 78)), some (some (vR 39)), some (some (vI x2)), some (some (vI (x3 + 1)))], [], ((up_ M1 81 x3 r3), W2)) (QV Q))))) : Xs 16 (49, [some (some (vR 78)), some (some (vR 39)), some (some (vI x2)), some (some (vI x3))], [], (M, W)) (QV Q) :=
  wpN_X (cut := fun p => Nat.beq p 14 || Nat.beq p 49 || Nat.beq p 91) 26 _ _ h
set_option maxRecDepth 20000 in
theorem k_X1_fill_91 (x2 : Int) (x3 : Int) (M : aM) (W : aW) (Q : aM → aW → Prop) (h :
  (inI x3) ∧ 
  ((x3 ≥ 49 → Xs 16 (14, [some (some (vR 78)), some (some (vR 39)), some (some (vI (x2 + (-1)))), some (some (vI x3))], [], (M, W)) (QV Q)) ∧
  (¬ x3 ≥ 49 → (0 ≤ x2 ∧ x2 < 729) ∧ CallV 17 [vR 78, vI x2, vI x3, vI (M 39 x2)] (M, W) (fun M1 W2 => Xs 16 (91, [some (some (vR 78)), some (some (vR 39)), some (some (vI x2)), some (some (vI (x3 + 1)))], [], (M1, W2)) (QV Q))))) : Xs 16 (91, [some (some (vR 78)), some (some (vR 39)), some (some (vI x2)), some (some (vI x3))], [], (M, W)) (QV Q) :=
  wpN_X (cut := fun p => Nat.beq p 14 || Nat.beq p 49 || Nat.beq p 91) 19 _ _ h
set_option maxRecDepth 20000 in
theorem e_X1_fillHour (x1 : Int) (x2 : Int) (x3 : Int) (M : aM) (W : aW) (Q : aM → aW → Prop) (h :
  Xs 17 (3, [some (some (vR 78)), some (some (vI x1)), some (some (vI x2)), some (some (vI x3)), some (some (vI 0)), none], [], (M, W)) (QV Q)) : CallV 17 [vR 78, vI x1, vI x2, vI x3] (M, W) Q :=
  wpN_X (cut := fun p => Nat.beq p 3) 5 _ _ h
set_option maxRecDepth 20000 in
theorem k_X1_fillHour_3 (x1 : Int) (x2 : Int) (x3 : Int) (x4 : Int) (d5 : aL) (M : aM) (W : aW) (Q : aM → aW → Prop) (h :
  (okO 86 3 (M 78 5) = true) ∧ (inI x4 ∧ inI (M (M 78 5) 0)) ∧ 
  ((x4 ≥ (M (M 78 5) 0) → Q M W) ∧
  (¬ x4 ≥ (M (M 78 5) 0) → (okO 86 3 (M 78 5) = true) ∧ (inI x4 ∧ inI (M (M 78 5) 7)) ∧ 
    ((x4 = (M (M 78 5) 7) → CallI 14 [vR 78, vI x1, vI x4] (M, W) (fun r3 M1 W2 => (okD (M1, W2) 20 (M 78 2) = true ∧ 0 ≤ (r3 + x2) ∧ (r3 + x2) < lD_ W2.2.1 (M 78 2)) ∧ Xs 17 (3, [some (some (vR 78)), some (some (vI x1)), some (some (vI x2)), some (some (vI x3)), some (some (vI (x4 + 1))), some (some (vI x3))], [], ((up_ M1 (M 78 2) (r3 + x2) x3), W2)) (QV Q))) ∧
    (¬ x4 = (M (M 78 5) 7) → (inI x3) ∧ 
      ((x3 ≠ 0 → (0 ≤ x4 ∧ x4 < 10) ∧ (inI (M 81 x4)) ∧ 
        (((M 81 x4) < 0 → CallI 18 [vR 78, vI x1, vI x4, vI x2] (M, W) (fun r6 M4 W5 => CallI 19 [vR 78, vI x1, vI x4, vI x2] (M4, W5) (fun r9 M7 W8 => (inI r6 ∧ inI r9) ∧ CallI 14 [vR 78, vI x1, vI x4] (M7, W8) (fun r12 M10 W11 => (okD (M10, W11) 20 (M7 78 2) = true ∧ 0 ≤ (r12 + x2) ∧ (r12 + x2) < lD_ W11.2.1 (M7 78 2)) ∧ Xs 17 (3, [some (some (vR 78)), some (some (vI x1)), some (some (vI x2)), some (some (vI x3)), some (some (vI (x4 + 1))), some (some (vI (max_ r6 r9)))], [], ((up_ M10 (M7 78 2) (r12 + x2) (max_ r6 r9)), W11)) (QV Q))))) ∧
        (¬ (M 81 x4) < 0 → (0 ≤ x4 ∧ x4 < 10) ∧ CallI 20 [vR 78, vI x1, vI x4, vI (M 81 x4), vI x2] (M, W) (fun r15 M13 W14 => CallI 14 [vR 78, vI x1, vI x4] (M13, W14) (fun r18 M16 W17 => (okD (M16, W17) 20 (M13 78 2) = true ∧ 0 ≤ (r18 + x2) ∧ (r18 + x2) < lD_ W17.2.1 (M13 78 2)) ∧ Xs 17 (3, [some (some (vR 78)), some (some (vI x1)), some (some (vI x2)), some (some (vI x3)), some (some (vI (x4 + 1))), some (some (vI r15))], [], ((up_ M16 (M13 78 2) (r18 + x2) r15), W17)) (QV Q)))))) ∧
      (¬ x3 ≠ 0 → CallI 14 [vR 78, vI x1, vI x4] (M, W) (fun r21 M19 W20 => (okD (M19, W20) 20 (M 78 2) = true ∧ 0 ≤ (r21 + x2) ∧ (r21 + x2) < lD_ W20.2.1 (M 78 2)) ∧ Xs 17 (3, [some (some (vR 78)), some (some (vI x1)), some (some (vI x2)), some (some (vI x3)), some (some (vI (x4 + 1))), some (some (vI x3))], [], ((up_ M19 (M 78 2) (r21 + x2) x3), W20)) (QV Q))))))))) : Xs 17 (3, [some (some (vR 78)), some (some (vI x1)), some (some (vI x2)), some (some (vI x3)), some (some (vI x4)), d5], [], (M, W)) (QV Q) :=
  wpN_X (cut := fun p => Nat.beq p 3) 101 _ _ h
set_option maxRecDepth 20000 in
theorem e_X1_mostByGoing (x1 : Int) (x2 : Int) (x3 : Int) (M : aM) (W : aW) (Q : Int → aM → aW → Prop) (h :
  Xs 18 (6, [some (some (vR 78)), some (some (vI x1)), some (some (vI x2)), some (some (vI x3)), some (some (vI 0)), some (some (vI 0)), none], [], (M, W)) (QI Q)) : CallI 18 [vR 78, vI x1, vI x2, vI x3] (M, W) Q :=
  wpN_X (cut := fun p => Nat.beq p 6) 7 _ _ h
set_option maxRecDepth 20000 in
theorem k_X1_mostByGoing_6 (x1 : Int) (x2 : Int) (x3 : Int) (x4 : Int) (x5 : Int) (d6 : aL) (M : aM) (W : aW) (Q : Int → aM → aW → Prop) (h :
  (okO 86 3 (M 78 5) = true) ∧ (inI x5 ∧ inI (M (M 78 5) 0)) ∧ 
  ((x5 ≥ (M (M 78 5) 0) → Q x4 M W) ∧
  (¬ x5 ≥ (M (M 78 5) 0) → (0 ≤ ((x2 * 10) + x5) ∧ ((x2 * 10) + x5) < 100) ∧ (∀ v1 : Int, v1 = M 80 ((x2 * 10) + x5) → (inI v1) ∧ 
    ((v1 ≤ 0 → Xs 18 (6, [some (some (vR 78)), some (some (vI x1)), some (some (vI x2)), some (some (vI x3)), some (some (vI x4)), some (some (vI (x5 + 1))), some (some (vI v1))], [], (M, W)) (QI Q)) ∧
    (¬ v1 ≤ 0 → (inI v1 ∧ inI x3) ∧ 
      ((v1 > x3 → Xs 18 (6, [some (some (vR 78)), some (some (vI x1)), some (some (vI x2)), some (some (vI x3)), some (some (vI x4)), some (some (vI (x5 + 1))), some (some (vI v1))], [], (M, W)) (QI Q)) ∧
      (¬ v1 > x3 → CallI 14 [vR 78, vI x1, vI x5] (M, W) (fun r4 M2 W3 => (okD (M2, W3) 20 (M 78 2) = true ∧ 0 ≤ ((r4 + x3) - v1) ∧ ((r4 + x3) - v1) < lD_ W3.2.1 (M 78 2)) ∧ (inI x4 ∧ inI (M2 (M 78 2) ((r4 + x3) - v1))) ∧ Xs 18 (6, [some (some (vR 78)), some (some (vI x1)), some (some (vI x2)), some (some (vI x3)), some (some (vI (max_ x4 (M2 (M 78 2) ((r4 + x3) - v1))))), some (some (vI (x5 + 1))), some (some (vI v1))], [], (M2, W3)) (QI Q)))))))))) : Xs 18 (6, [some (some (vR 78)), some (some (vI x1)), some (some (vI x2)), some (some (vI x3)), some (some (vI x4)), some (some (vI x5)), d6], [], (M, W)) (QI Q) :=
  wpN_X (cut := fun p => Nat.beq p 6) 46 _ _ h
set_option maxRecDepth 20000 in
theorem e_X1_mostByHearing (x1 : Int) (x2 : Int) (x3 : Int) (M : aM) (W : aW) (Q : Int → aM → aW → Prop) (h :
  Xs 19 (6, [some (some (vR 78)), some (some (vI x1)), some (some (vI x2)), some (some (vI x3)), some (some (vI 0)), some (some (vI 0)), none, none], [], (M, W)) (QI Q)) : CallI 19 [vR 78, vI x1, vI x2, vI x3] (M, W) Q :=
  wpN_X (cut := fun p => Nat.beq p 6) 7 _ _ h
set_option maxRecDepth 20000 in
theorem k_X1_mostByHearing_6 (x1 : Int) (x2 : Int) (x3 : Int) (x4 : Int) (x5 : Int) (d6 : aL) (d7 : aL) (M : aM) (W : aW) (Q : Int → aM → aW → Prop) (h :
  (okO 86 3 (M 78 5) = true) ∧ (inI x5 ∧ inI (M (M 78 5) 5)) ∧ 
  ((x5 ≥ (M (M 78 5) 5) → Q x4 M W) ∧
  (¬ x5 ≥ (M (M 78 5) 5) → (okO 86 3 (M 78 5) = true) ∧ (okO 86 20 ((M 78 5) + 7) = true ∧ 0 ≤ x5 ∧ x5 < ln_ ((M 78 5) + 7)) ∧ (∀ v1 : Int, v1 = M ((M 78 5) + 7) x5 → (okO 86 3 (M 78 5) = true) ∧ (okO 86 20 ((M 78 5) + 8) = true ∧ 0 ≤ x5 ∧ x5 < ln_ ((M 78 5) + 8)) ∧ (∀ v2 : Int, v2 = x3 - (M ((M 78 5) + 8) x5) → (inI v2) ∧ 
    ((v2 < 0 → Xs 19 (6, [some (some (vR 78)), some (some (vI x1)), some (some (vI x2)), some (some (vI x3)), some (some (vI x4)), some (some (vI (x5 + 1))), some (some (vI v1)), some (some (vI v2))], [], (M, W)) (QI Q)) ∧
    (¬ v2 < 0 → (okO 86 3 (M 78 5) = true) ∧ (okO 86 20 ((M 78 5) + 6) = true ∧ 0 ≤ x5 ∧ x5 < ln_ ((M 78 5) + 6)) ∧ (inI (M ((M 78 5) + 6) x5) ∧ inI x2) ∧ 
      (((M ((M 78 5) + 6) x5) ≠ x2 → Xs 19 (6, [some (some (vR 78)), some (some (vI x1)), some (some (vI x2)), some (some (vI x3)), some (some (vI x4)), some (some (vI (x5 + 1))), some (some (vI v1)), some (some (vI v2))], [], (M, W)) (QI Q)) ∧
      (¬ (M ((M 78 5) + 6) x5) ≠ x2 → CallI 22 [vR 27, vI x1, vI v1] (M, W) (fun r5 M3 W4 => (inI r5) ∧ 
        ((r5 ≠ 0 → Xs 19 (6, [some (some (vR 78)), some (some (vI x1)), some (some (vI x2)), some (some (vI x3)), some (some (vI x4)), some (some (vI (x5 + 1))), some (some (vI v1)), some (some (vI v2))], [], (M3, W4)) (QI Q)) ∧
        (¬ r5 ≠ 0 → CallI 20 [vR 78, vI x1, vI x2, vI v1, vI v2] (M3, W4) (fun r8 M6 W7 => (inI x4 ∧ inI r8) ∧ Xs 19 (6, [some (some (vR 78)), some (some (vI x1)), some (some (vI x2)), some (some (vI x3)), some (some (vI (max_ x4 r8))), some (some (vI (x5 + 1))), some (some (vI v1)), some (some (vI v2))], [], (M6, W7)) (QI Q)))))))))))))) : Xs 19 (6, [some (some (vR 78)), some (some (vI x1)), some (some (vI x2)), some (some (vI x3)), some (some (vI x4)), some (some (vI x5)), d6, d7], [], (M, W)) (QI Q) :=
  wpN_X (cut := fun p => Nat.beq p 6) 59 _ _ h
set_option maxRecDepth 20000 in
theorem e_X1_learnt (x1 : Int) (x2 : Int) (x3 : Int) (x4 : Int) (M : aM) (W : aW) (Q : Int → aM → aW → Prop) (h :
  (0 ≤ x3 ∧ x3 < 7) ∧ (∀ v1 : Int, v1 = x1 + (thr_ x3) → CallI 14 [vR 78, vI v1, vI x2] (M, W) (fun r4 M2 W3 => (okD (M2, W3) 20 (M 78 2) = true ∧ 0 ≤ (r4 + x4) ∧ (r4 + x4) < lD_ W3.2.1 (M 78 2)) ∧ (0 ≤ x3 ∧ x3 < 7) ∧ CallI 14 [vR 78, vI (v1 + (thr_ x3)), vI x2] (M2, W3) (fun r7 M5 W6 => (okD (M5, W6) 20 (M2 78 2) = true ∧ 0 ≤ (r7 + x4) ∧ (r7 + x4) < lD_ W6.2.1 (M2 78 2)) ∧ Q ((M2 (M 78 2) (r4 + x4)) + (M5 (M2 78 2) (r7 + x4))) M5 W6)))) : CallI 20 [vR 78, vI x1, vI x2, vI x3, vI x4] (M, W) Q :=
  wpN_X (cut := fun p => false) 32 _ _ h
set_option maxRecDepth 20000 in
theorem e_X7_init (x1 : Int) (x2 : Int) (x3 : Int) (M : aM) (F : aM) (dl : Int → Int) (sz ns : Int) (Q : aM → aW → Prop) (h :
  ((0 : Int) ≤ 36) ∧ (0 ≤ sz ∧ sz < 126 ∧ knd sz = 6) ∧ (okD ((ce_ M sz (dfl_ 6)), (ce_ F sz (fun _ => -1), dl, sz + 1, ns + 2)) 6 (sz) = true) ∧ CallV 58 [vR (sz)] ((ce_ M sz (dfl_ 6)), (ce_ F sz (fun _ => -1), dl, sz + 1, ns + 2)) (fun M1 W2 => (okD (M1, W2) 7 36 = true) ∧ (0 ≤ W2.2.2.1 ∧ W2.2.2.1 < 126 ∧ knd W2.2.2.1 = 10) ∧ (okD ((ce_ M1 W2.2.2.1 (dfl_ 10)), (ce_ (up_ W2.1 36 3 (sz)) W2.2.2.1 (fun _ => -1), W2.2.1, W2.2.2.1 + 1, W2.2.2.2 + 3)) 10 (W2.2.2.1) = true) ∧ CallV 114 [vR (W2.2.2.1)] ((ce_ M1 W2.2.2.1 (dfl_ 10)), (ce_ (up_ W2.1 36 3 (sz)) W2.2.2.1 (fun _ => -1), W2.2.1, W2.2.2.1 + 1, W2.2.2.2 + 3)) (fun M3 W4 => (okD (M3, W4) 7 36 = true) ∧ (0 ≤ W4.2.2.1 ∧ W4.2.2.1 < 126 ∧ knd W4.2.2.1 = 21 ∧ ln_ W4.2.2.1 = 729) ∧ (okD ((ce_ M3 W4.2.2.1 (fun _ => 0)), ((up_ W4.1 36 4 (W2.2.2.1)), W4.2.1, W4.2.2.1 + 1, W4.2.2.2 + 729)) 7 36 = true) ∧ (0 ≤ W4.2.2.1 + 1 ∧ W4.2.2.1 + 1 < 126 ∧ knd (W4.2.2.1 + 1) = 23 ∧ ln_ (W4.2.2.1 + 1) = 3) ∧ (okD ((ce_ (ce_ M3 W4.2.2.1 (fun _ => 0)) (W4.2.2.1 + 1) (fun _ => 0)), ((up_ (up_ W4.1 36 4 (W2.2.2.1)) 36 8 (W4.2.2.1)), W4.2.1, W4.2.2.1 + 1 + 1, W4.2.2.2 + 729 + 3)) 7 36 = true) ∧ (0 ≤ W4.2.2.1 + 1 + 1 ∧ W4.2.2.1 + 1 + 1 < 126 ∧ knd (W4.2.2.1 + 1 + 1) = 20 ∧ ln_ (W4.2.2.1 + 1 + 1) = 6) ∧ (okD ((ce_ (ce_ (ce_ M3 W4.2.2.1 (fun _ => 0)) (W4.2.2.1 + 1) (fun _ => 0)) (W4.2.2.1 + 1 + 1) (fun _ => 0)), ((up_ (up_ (up_ W4.1 36 4 (W2.2.2.1)) 36 8 (W4.2.2.1)) 36 9 (W4.2.2.1 + 1)), W4.2.1, W4.2.2.1 + 1 + 1 + 1, W4.2.2.2 + 729 + 3 + 6)) 7 36 = true) ∧ (0 ≤ W4.2.2.1 + 1 + 1 + 1 ∧ W4.2.2.1 + 1 + 1 + 1 < 126 ∧ knd (W4.2.2.1 + 1 + 1 + 1) = 20 ∧ ln_ (W4.2.2.1 + 1 + 1 + 1) = 6) ∧ (okD ((ce_ (ce_ (ce_ (ce_ M3 W4.2.2.1 (fun _ => 0)) (W4.2.2.1 + 1) (fun _ => 0)) (W4.2.2.1 + 1 + 1) (fun _ => 0)) (W4.2.2.1 + 1 + 1 + 1) (fun _ => 0)), ((up_ (up_ (up_ (up_ W4.1 36 4 (W2.2.2.1)) 36 8 (W4.2.2.1)) 36 9 (W4.2.2.1 + 1)) 36 10 (W4.2.2.1 + 1 + 1)), W4.2.1, W4.2.2.1 + 1 + 1 + 1 + 1, W4.2.2.2 + 729 + 3 + 6 + 6)) 7 36 = true) ∧ (0 ≤ W4.2.2.1 + 1 + 1 + 1 + 1 ∧ W4.2.2.1 + 1 + 1 + 1 + 1 < 126 ∧ knd (W4.2.2.1 + 1 + 1 + 1 + 1) = 20 ∧ ln_ (W4.2.2.1 + 1 + 1 + 1 + 1) = 100) ∧ (okD ((ce_ (ce_ (ce_ (ce_ (ce_ M3 W4.2.2.1 (fun _ => 0)) (W4.2.2.1 + 1) (fun _ => 0)) (W4.2.2.1 + 1 + 1) (fun _ => 0)) (W4.2.2.1 + 1 + 1 + 1) (fun _ => 0)) (W4.2.2.1 + 1 + 1 + 1 + 1) (fun _ => 0)), ((up_ (up_ (up_ (up_ (up_ W4.1 36 4 (W2.2.2.1)) 36 8 (W4.2.2.1)) 36 9 (W4.2.2.1 + 1)) 36 10 (W4.2.2.1 + 1 + 1)) 36 12 (W4.2.2.1 + 1 + 1 + 1)), W4.2.1, W4.2.2.1 + 1 + 1 + 1 + 1 + 1, W4.2.2.2 + 729 + 3 + 6 + 6 + 100)) 7 36 = true) ∧ (0 ≤ W4.2.2.1 + 1 + 1 + 1 + 1 + 1 ∧ W4.2.2.1 + 1 + 1 + 1 + 1 + 1 < 126 ∧ knd (W4.2.2.1 + 1 + 1 + 1 + 1 + 1) = 20 ∧ ln_ (W4.2.2.1 + 1 + 1 + 1 + 1 + 1) = 100) ∧ (okD ((ce_ (ce_ (ce_ (ce_ (ce_ (ce_ M3 W4.2.2.1 (fun _ => 0)) (W4.2.2.1 + 1) (fun _ => 0)) (W4.2.2.1 + 1 + 1) (fun _ => 0)) (W4.2.2.1 + 1 + 1 + 1) (fun _ => 0)) (W4.2.2.1 + 1 + 1 + 1 + 1) (fun _ => 0)) (W4.2.2.1 + 1 + 1 + 1 + 1 + 1) (fun _ => 0)), ((up_ (up_ (up_ (up_ (up_ (up_ W4.1 36 4 (W2.2.2.1)) 36 8 (W4.2.2.1)) 36 9 (W4.2.2.1 + 1)) 36 10 (W4.2.2.1 + 1 + 1)) 36 12 (W4.2.2.1 + 1 + 1 + 1)) 36 13 (W4.2.2.1 + 1 + 1 + 1 + 1)), W4.2.1, W4.2.2.1 + 1 + 1 + 1 + 1 + 1 + 1, W4.2.2.2 + 729 + 3 + 6 + 6 + 100 + 100)) 7 36 = true) ∧ (okD ((ce_ (ce_ (ce_ (ce_ (ce_ (ce_ M3 W4.2.2.1 (fun _ => 0)) (W4.2.2.1 + 1) (fun _ => 0)) (W4.2.2.1 + 1 + 1) (fun _ => 0)) (W4.2.2.1 + 1 + 1 + 1) (fun _ => 0)) (W4.2.2.1 + 1 + 1 + 1 + 1) (fun _ => 0)) (W4.2.2.1 + 1 + 1 + 1 + 1 + 1) (fun _ => 0)), ((up_ (up_ (up_ (up_ (up_ (up_ (up_ W4.1 36 4 (W2.2.2.1)) 36 8 (W4.2.2.1)) 36 9 (W4.2.2.1 + 1)) 36 10 (W4.2.2.1 + 1 + 1)) 36 12 (W4.2.2.1 + 1 + 1 + 1)) 36 13 (W4.2.2.1 + 1 + 1 + 1 + 1)) 36 14 (W4.2.2.1 + 1 + 1 + 1 + 1 + 1)), W4.2.1, W4.2.2.1 + 1 + 1 + 1 + 1 + 1 + 1, W4.2.2.2 + 729 + 3 + 6 + 6 + 100 + 100)) 7 36 = true) ∧ (okD ((ce_ (ce_ (ce_ (ce_ (ce_ (ce_ M3 W4.2.2.1 (fun _ => 0)) (W4.2.2.1 + 1) (fun _ => 0)) (W4.2.2.1 + 1 + 1) (fun _ => 0)) (W4.2.2.1 + 1 + 1 + 1) (fun _ => 0)) (W4.2.2.1 + 1 + 1 + 1 + 1) (fun _ => 0)) (W4.2.2.1 + 1 + 1 + 1 + 1 + 1) (fun _ => 0)), ((up_ (up_ (up_ (up_ (up_ (up_ (up_ (up_ W4.1 36 4 (W2.2.2.1)) 36 8 (W4.2.2.1)) 36 9 (W4.2.2.1 + 1)) 36 10 (W4.2.2.1 + 1 + 1)) 36 12 (W4.2.2.1 + 1 + 1 + 1)) 36 13 (W4.2.2.1 + 1 + 1 + 1 + 1)) 36 14 (W4.2.2.1 + 1 + 1 + 1 + 1 + 1)) 36 0 x1), W4.2.1, W4.2.2.1 + 1 + 1 + 1 + 1 + 1 + 1, W4.2.2.2 + 729 + 3 + 6 + 6 + 100 + 100)) 7 36 = true) ∧ (okD ((ce_ (ce_ (ce_ (ce_ (ce_ (ce_ M3 W4.2.2.1 (fun _ => 0)) (W4.2.2.1 + 1) (fun _ => 0)) (W4.2.2.1 + 1 + 1) (fun _ => 0)) (W4.2.2.1 + 1 + 1 + 1) (fun _ => 0)) (W4.2.2.1 + 1 + 1 + 1 + 1) (fun _ => 0)) (W4.2.2.1 + 1 + 1 + 1 + 1 + 1) (fun _ => 0)), ((up_ (up_ (up_ (up_ (up_ (up_ (up_ (up_ (up_ W4.1 36 4 (W2.2.2.1)) 36 8 (W4.2.2.1)) 36 9 (W4.2.2.1 + 1)) 36 10 (W4.2.2.1 + 1 + 1)) 36 12 (W4.2.2.1 + 1 + 1 + 1)) 36 13 (W4.2.2.1 + 1 + 1 + 1 + 1)) 36 14 (W4.2.2.1 + 1 + 1 + 1 + 1 + 1)) 36 0 x1) 36 1 x2), W4.2.1, W4.2.2.1 + 1 + 1 + 1 + 1 + 1 + 1, W4.2.2.2 + 729 + 3 + 6 + 6 + 100 + 100)) 7 36 = true) ∧ (0 ≤ W4.2.2.1 + 1 + 1 + 1 + 1 + 1 + 1 ∧ W4.2.2.1 + 1 + 1 + 1 + 1 + 1 + 1 < 126 ∧ knd (W4.2.2.1 + 1 + 1 + 1 + 1 + 1 + 1) = 9) ∧ (okD ((ce_ (up_ (ce_ (ce_ (ce_ (ce_ (ce_ (ce_ M3 W4.2.2.1 (fun _ => 0)) (W4.2.2.1 + 1) (fun _ => 0)) (W4.2.2.1 + 1 + 1) (fun _ => 0)) (W4.2.2.1 + 1 + 1 + 1) (fun _ => 0)) (W4.2.2.1 + 1 + 1 + 1 + 1) (fun _ => 0)) (W4.2.2.1 + 1 + 1 + 1 + 1 + 1) (fun _ => 0)) 36 2 x3) (W4.2.2.1 + 1 + 1 + 1 + 1 + 1 + 1) (dfl_ 9)), (ce_ (up_ (up_ (up_ (up_ (up_ (up_ (up_ (up_ (up_ W4.1 36 4 (W2.2.2.1)) 36 8 (W4.2.2.1)) 36 9 (W4.2.2.1 + 1)) 36 10 (W4.2.2.1 + 1 + 1)) 36 12 (W4.2.2.1 + 1 + 1 + 1)) 36 13 (W4.2.2.1 + 1 + 1 + 1 + 1)) 36 14 (W4.2.2.1 + 1 + 1 + 1 + 1 + 1)) 36 0 x1) 36 1 x2) (W4.2.2.1 + 1 + 1 + 1 + 1 + 1 + 1) (fun _ => -1), W4.2.1, W4.2.2.1 + 1 + 1 + 1 + 1 + 1 + 1 + 1, W4.2.2.2 + 729 + 3 + 6 + 6 + 100 + 100 + 7)) 9 (W4.2.2.1 + 1 + 1 + 1 + 1 + 1 + 1) = true) ∧ CallV 104 [vR (W4.2.2.1 + 1 + 1 + 1 + 1 + 1 + 1), vR x1, vR x3] ((ce_ (up_ (ce_ (ce_ (ce_ (ce_ (ce_ (ce_ M3 W4.2.2.1 (fun _ => 0)) (W4.2.2.1 + 1) (fun _ => 0)) (W4.2.2.1 + 1 + 1) (fun _ => 0)) (W4.2.2.1 + 1 + 1 + 1) (fun _ => 0)) (W4.2.2.1 + 1 + 1 + 1 + 1) (fun _ => 0)) (W4.2.2.1 + 1 + 1 + 1 + 1 + 1) (fun _ => 0)) 36 2 x3) (W4.2.2.1 + 1 + 1 + 1 + 1 + 1 + 1) (dfl_ 9)), (ce_ (up_ (up_ (up_ (up_ (up_ (up_ (up_ (up_ (up_ W4.1 36 4 (W2.2.2.1)) 36 8 (W4.2.2.1)) 36 9 (W4.2.2.1 + 1)) 36 10 (W4.2.2.1 + 1 + 1)) 36 12 (W4.2.2.1 + 1 + 1 + 1)) 36 13 (W4.2.2.1 + 1 + 1 + 1 + 1)) 36 14 (W4.2.2.1 + 1 + 1 + 1 + 1 + 1)) 36 0 x1) 36 1 x2) (W4.2.2.1 + 1 + 1 + 1 + 1 + 1 + 1) (fun _ => -1), W4.2.1, W4.2.2.1 + 1 + 1 + 1 + 1 + 1 + 1 + 1, W4.2.2.2 + 729 + 3 + 6 + 6 + 100 + 100 + 7)) (fun M5 W6 => (okD (M5, W6) 7 36 = true) ∧ (0 ≤ W6.2.2.1 ∧ W6.2.2.1 < 126 ∧ knd W6.2.2.1 = 9) ∧ (okD ((ce_ M5 W6.2.2.1 (dfl_ 9)), (ce_ (up_ W6.1 36 5 (W4.2.2.1 + 1 + 1 + 1 + 1 + 1 + 1)) W6.2.2.1 (fun _ => -1), W6.2.1, W6.2.2.1 + 1, W6.2.2.2 + 7)) 9 (W6.2.2.1) = true) ∧ CallV 104 [vR (W6.2.2.1), vR x1, vR x3] ((ce_ M5 W6.2.2.1 (dfl_ 9)), (ce_ (up_ W6.1 36 5 (W4.2.2.1 + 1 + 1 + 1 + 1 + 1 + 1)) W6.2.2.1 (fun _ => -1), W6.2.1, W6.2.2.1 + 1, W6.2.2.2 + 7)) (fun M7 W8 => (okD (M7, W8) 7 36 = true) ∧ (0 ≤ W8.2.2.1 ∧ W8.2.2.1 < 126 ∧ knd W8.2.2.1 = 9) ∧ (okD ((ce_ M7 W8.2.2.1 (dfl_ 9)), (ce_ (up_ W8.1 36 6 (W6.2.2.1)) W8.2.2.1 (fun _ => -1), W8.2.1, W8.2.2.1 + 1, W8.2.2.2 + 7)) 9 (W8.2.2.1) = true) ∧ CallV 104 [vR (W8.2.2.1), vR x1, vR x3] ((ce_ M7 W8.2.2.1 (dfl_ 9)), (ce_ (up_ W8.1 36 6 (W6.2.2.1)) W8.2.2.1 (fun _ => -1), W8.2.1, W8.2.2.1 + 1, W8.2.2.2 + 7)) (fun M9 W10 => (okD (M9, W10) 7 36 = true) ∧ Q M9 ((up_ W10.1 36 7 (W8.2.2.1)), W10.2.1, W10.2.2.1, W10.2.2.2))))))) : CallV 64 [vR 36, vR x1, vR x2, vR x3] (M, (F, dl, sz, ns)) Q :=
  wpN_X (cut := fun p => false) 69 _ _ h
set_option maxRecDepth 20000 in
theorem e_X7_settle (x1 : Int) (M : aM) (W : aW) (Q : aM → aW → Prop) (h :
  Xs 65 (12, [some (some (vR 36)), some (some (vR x1)), some (some (vI 0))], [], ((up_ (up_ M 36 2 x1) 36 11 0), W)) (QV Q)) : CallV 65 [vR 36, vR x1] (M, W) Q :=
  wpN_X (cut := fun p => Nat.beq p 12) 11 _ _ h
set_option maxRecDepth 20000 in
theorem k_X7_settle_12 (x1 : Int) (x2 : Int) (M : aM) (W : aW) (Q : aM → aW → Prop) (h :
  (inI x2 ∧ inI 3) ∧ 
  ((x2 ≥ 3 → CallV 59 [vR 37, vR (M 36 2), vI (-1), vI 0] (M, W) (fun M1 W2 => CallV 63 [vR 37, vR (M1 36 2), vR 27] (M1, W2) (fun M3 W4 => CallV 115 [vR 40, vR (M3 36 2)] (M3, W4) (fun M5 W6 => Q M5 W6)))) ∧
  (¬ x2 ≥ 3 → (0 ≤ x2 ∧ x2 < 3) ∧ Xs 65 (12, [some (some (vR 36)), some (some (vR x1)), some (some (vI (x2 + 1)))], [], ((up_ M 45 x2 0), W)) (QV Q)))) : Xs 65 (12, [some (some (vR 36)), some (some (vR x1)), some (some (vI x2))], [], (M, W)) (QV Q) :=
  wpN_X (cut := fun p => Nat.beq p 12) 35 _ _ h
set_option maxRecDepth 20000 in
theorem e_X7_inRow (x1 : Int) (M : aM) (W : aW) (Q : Int → aM → aW → Prop) (h :
  Xs 66 (2, [some (some (vR 36)), some (some (vI x1)), some (some (vI 0))], [], (M, W)) (QI Q)) : CallI 66 [vR 36, vI x1] (M, W) Q :=
  wpN_X (cut := fun p => Nat.beq p 2) 5 _ _ h
set_option maxRecDepth 20000 in
theorem k_X7_inRow_2 (x1 : Int) (x2 : Int) (M : aM) (W : aW) (Q : Int → aM → aW → Prop) (h :
  (inI x2 ∧ inI (M 36 11)) ∧ 
  ((x2 ≥ (M 36 11) → Q 0 M W) ∧
  (¬ x2 ≥ (M 36 11) → (0 ≤ x2 ∧ x2 < 6) ∧ (inI (M 46 x2) ∧ inI x1) ∧ 
    (((M 46 x2) ≠ x1 → Xs 66 (2, [some (some (vR 36)), some (some (vI x1)), some (some (vI (x2 + 1)))], [], (M, W)) (QI Q)) ∧
    (¬ (M 46 x2) ≠ x1 → Q 1 M W))))) : Xs 66 (2, [some (some (vR 36)), some (some (vI x1)), some (some (vI x2))], [], (M, W)) (QI Q) :=
  wpN_X (cut := fun p => Nat.beq p 2) 19 _ _ h
set_option maxRecDepth 20000 in
theorem e_X7_addToRow (x1 : Int) (M : aM) (W : aW) (Q : Int → aM → aW → Prop) (h :
  (inI (M 36 11) ∧ inI 6) ∧ 
  (((M 36 11) ≥ 6 → Q (M 36 11) M W) ∧
  (¬ (M 36 11) ≥ 6 → (0 ≤ (M 36 11) ∧ (M 36 11) < 6) ∧ Q ((up_ (up_ M 46 (M 36 11) x1) 36 11 (((up_ M 46 (M 36 11) x1) 36 11) + 1)) 36 11) (up_ (up_ M 46 (M 36 11) x1) 36 11 (((up_ M 46 (M 36 11) x1) 36 11) + 1)) W))) : CallI 67 [vR 36, vI x1] (M, W) Q :=
  wpN_X (cut := fun p => false) 26 _ _ h
set_option maxRecDepth 20000 in
theorem e_X7_knowingOf (x1 : Int) (M : aM) (W : aW) (Q : Int → aM → aW → Prop) (h :
  (okO 86 3 (M 36 2) = true) ∧ (0 ≤ ((x1 * 10) + (M (M 36 2) 6)) ∧ ((x1 * 10) + (M (M 36 2) 6)) < 640) ∧ (∀ v1 : Int, v1 = M 41 ((x1 * 10) + (M (M 36 2) 6)) → (inI v1) ∧ 
  ((v1 < 1000000 → Q v1 M W) ∧
  (¬ v1 < 1000000 → Q (-2) M W)))) : CallI 68 [vR 36, vI x1] (M, W) Q :=
  wpN_X (cut := fun p => false) 22 _ _ h
set_option maxRecDepth 20000 in
theorem e_X7_prepare (x1 : Int) (M : aM) (W : aW) (Q : aM → aW → Prop) (h :
  (inI x1) ∧ 
  ((x1 ≠ 0 → (inI x1) ∧ 
    ((x1 = 1 → Xs 69 (60, [some (some (vR 36)), some (some (vI x1)), none, none], [], (M, W)) (QV Q)) ∧
    (¬ x1 = 1 → (inI x1) ∧ 
      ((x1 ≠ 2 → (inI x1) ∧ 
        ((x1 ≠ 2 → Xs 69 (120, [some (some (vR 36)), some (some (vI x1)), none, none], [], (M, W)) (QV Q)) ∧
        (¬ x1 ≠ 2 → (inI (M 45 2)) ∧ 
          (((M 45 2) = 0 → CallI 78 [vR 36, vI 1] ((up_ M 45 2 1), W) (fun r3 M1 W2 => (inI r3) ∧ 
            ((r3 ≠ 0 → (inI (M1 36 15)) ∧ 
              (((M1 36 15) ≤ 0 → Xs 69 (159, [some (some (vR 36)), some (some (vI x1)), some (some (vI 0)), some (some (vI 0))], [], (M1, W2)) (QV Q)) ∧
              (¬ (M1 36 15) ≤ 0 → Xs 69 (159, [some (some (vR 36)), some (some (vI x1)), some (some (vI 1)), some (some (vI 0))], [], (M1, W2)) (QV Q)))) ∧
            (¬ r3 ≠ 0 → CallV 108 [vR 60] (M1, W2) (fun M4 W5 => Q M4 W5))))) ∧
          (¬ (M 45 2) = 0 → Xs 69 (120, [some (some (vR 36)), some (some (vI x1)), none, none], [], (M, W)) (QV Q)))))) ∧
      (¬ x1 ≠ 2 → Xs 69 (60, [some (some (vR 36)), some (some (vI x1)), none, none], [], (M, W)) (QV Q)))))) ∧
  (¬ x1 ≠ 0 → (inI (M 45 0)) ∧ 
    (((M 45 0) ≠ 0 → (inI x1) ∧ 
      ((x1 = 1 → Xs 69 (60, [some (some (vR 36)), some (some (vI x1)), none, none], [], (M, W)) (QV Q)) ∧
      (¬ x1 = 1 → (inI x1) ∧ 
        ((x1 ≠ 2 → (inI x1) ∧ 
          ((x1 ≠ 2 → Xs 69 (120, [some (some (vR 36)), some (some (vI x1)), none, none], [], (M, W)) (QV Q)) ∧
          (¬ x1 ≠ 2 → (inI (M 45 2)) ∧ 
            (((M 45 2) = 0 → CallI 78 [vR 36, vI 1] ((up_ M 45 2 1), W) (fun r8 M6 W7 => (inI r8) ∧ 
              ((r8 ≠ 0 → (inI (M6 36 15)) ∧ 
                (((M6 36 15) ≤ 0 → Xs 69 (159, [some (some (vR 36)), some (some (vI x1)), some (some (vI 0)), some (some (vI 0))], [], (M6, W7)) (QV Q)) ∧
                (¬ (M6 36 15) ≤ 0 → Xs 69 (159, [some (some (vR 36)), some (some (vI x1)), some (some (vI 1)), some (some (vI 0))], [], (M6, W7)) (QV Q)))) ∧
              (¬ r8 ≠ 0 → CallV 108 [vR 60] (M6, W7) (fun M9 W10 => Q M9 W10))))) ∧
            (¬ (M 45 2) = 0 → Xs 69 (120, [some (some (vR 36)), some (some (vI x1)), none, none], [], (M, W)) (QV Q)))))) ∧
        (¬ x1 ≠ 2 → Xs 69 (60, [some (some (vR 36)), some (some (vI x1)), none, none], [], (M, W)) (QV Q)))))) ∧
    (¬ (M 45 0) ≠ 0 → CallV 71 [vR 36, vI 0, vI 0, vI 0] (M, W) (fun M11 W12 => CallV 109 [vR 50, vR (M11 36 2), vR 39, vI 1, vR 44] (M11, W12) (fun M13 W14 => (inI x1) ∧ 
      ((x1 = 1 → Xs 69 (60, [some (some (vR 36)), some (some (vI x1)), none, none], [], ((up_ M13 45 0 1), W14)) (QV Q)) ∧
      (¬ x1 = 1 → (inI x1) ∧ 
        ((x1 ≠ 2 → (inI x1) ∧ 
          ((x1 ≠ 2 → Xs 69 (120, [some (some (vR 36)), some (some (vI x1)), none, none], [], ((up_ M13 45 0 1), W14)) (QV Q)) ∧
          (¬ x1 ≠ 2 → (inI ((up_ M13 45 0 1) 45 2)) ∧ 
            ((((up_ M13 45 0 1) 45 2) = 0 → CallI 78 [vR 36, vI 1] ((up_ (up_ M13 45 0 1) 45 2 1), W14) (fun r17 M15 W16 => (inI r17) ∧ 
              ((r17 ≠ 0 → (inI (M15 36 15)) ∧ 
                (((M15 36 15) ≤ 0 → Xs 69 (159, [some (some (vR 36)), some (some (vI x1)), some (some (vI 0)), some (some (vI 0))], [], (M15, W16)) (QV Q)) ∧
                (¬ (M15 36 15) ≤ 0 → Xs 69 (159, [some (some (vR 36)), some (some (vI x1)), some (some (vI 1)), some (some (vI 0))], [], (M15, W16)) (QV Q)))) ∧
              (¬ r17 ≠ 0 → CallV 108 [vR 60] (M15, W16) (fun M18 W19 => Q M18 W19))))) ∧
            (¬ ((up_ M13 45 0 1) 45 2) = 0 → Xs 69 (120, [some (some (vR 36)), some (some (vI x1)), none, none], [], ((up_ M13 45 0 1), W14)) (QV Q)))))) ∧
        (¬ x1 ≠ 2 → Xs 69 (60, [some (some (vR 36)), some (some (vI x1)), none, none], [], ((up_ M13 45 0 1), W14)) (QV Q)))))))))))) : CallV 69 [vR 36, vI x1] (M, W) Q :=
  wpN_X (cut := fun p => Nat.beq p 60 || Nat.beq p 120 || Nat.beq p 159) 165 _ _ h
set_option maxRecDepth 20000 in
theorem k_X7_prepare_60 (x1 : Int) (d2 : aL) (d3 : aL) (M : aM) (W : aW) (Q : aM → aW → Prop) (h :
  (inI (M 45 1)) ∧ 
  (((M 45 1) ≠ 0 → (inI x1) ∧ 
    ((x1 ≠ 2 → Xs 69 (120, [some (some (vR 36)), some (some (vI x1)), d2, d3], [], (M, W)) (QV Q)) ∧
    (¬ x1 ≠ 2 → (inI (M 45 2)) ∧ 
      (((M 45 2) = 0 → CallI 78 [vR 36, vI 1] ((up_ M 45 2 1), W) (fun r3 M1 W2 => (inI r3) ∧ 
        ((r3 ≠ 0 → (inI (M1 36 15)) ∧ 
          (((M1 36 15) ≤ 0 → Xs 69 (159, [some (some (vR 36)), some (some (vI x1)), some (some (vI 0)), some (some (vI 0))], [], (M1, W2)) (QV Q)) ∧
          (¬ (M1 36 15) ≤ 0 → Xs 69 (159, [some (some (vR 36)), some (some (vI x1)), some (some (vI 1)), some (some (vI 0))], [], (M1, W2)) (QV Q)))) ∧
        (¬ r3 ≠ 0 → CallV 108 [vR 60] (M1, W2) (fun M4 W5 => Q M4 W5))))) ∧
      (¬ (M 45 2) = 0 → Xs 69 (120, [some (some (vR 36)), some (some (vI x1)), d2, d3], [], (M, W)) (QV Q)))))) ∧
  (¬ (M 45 1) ≠ 0 → CallV 71 [vR 36, vI 0, vI 0, vI 0] (M, W) (fun M6 W7 => CallV 109 [vR 55, vR (M6 36 2), vR 39, vI 0, vR 44] (M6, W7) (fun M8 W9 => (inI x1) ∧ 
    ((x1 ≠ 2 → Xs 69 (120, [some (some (vR 36)), some (some (vI x1)), d2, d3], [], ((up_ M8 45 1 1), W9)) (QV Q)) ∧
    (¬ x1 ≠ 2 → (inI ((up_ M8 45 1 1) 45 2)) ∧ 
      ((((up_ M8 45 1 1) 45 2) = 0 → CallI 78 [vR 36, vI 1] ((up_ (up_ M8 45 1 1) 45 2 1), W9) (fun r12 M10 W11 => (inI r12) ∧ 
        ((r12 ≠ 0 → (inI (M10 36 15)) ∧ 
          (((M10 36 15) ≤ 0 → Xs 69 (159, [some (some (vR 36)), some (some (vI x1)), some (some (vI 0)), some (some (vI 0))], [], (M10, W11)) (QV Q)) ∧
          (¬ (M10 36 15) ≤ 0 → Xs 69 (159, [some (some (vR 36)), some (some (vI x1)), some (some (vI 1)), some (some (vI 0))], [], (M10, W11)) (QV Q)))) ∧
        (¬ r12 ≠ 0 → CallV 108 [vR 60] (M10, W11) (fun M13 W14 => Q M13 W14))))) ∧
      (¬ ((up_ M8 45 1 1) 45 2) = 0 → Xs 69 (120, [some (some (vR 36)), some (some (vI x1)), d2, d3], [], ((up_ M8 45 1 1), W9)) (QV Q)))))))))) : Xs 69 (60, [some (some (vR 36)), some (some (vI x1)), d2, d3], [], (M, W)) (QV Q) :=
  wpN_X (cut := fun p => Nat.beq p 60 || Nat.beq p 120 || Nat.beq p 159) 102 _ _ h
set_option maxRecDepth 20000 in
theorem k_X7_prepare_120 (x1 : Int) (d2 : aL) (d3 : aL) (M : aM) (W : aW) (Q : aM → aW → Prop) (h :
  Q M W) : Xs 69 (120, [some (some (vR 36)), some (some (vI x1)), d2, d3], [], (M, W)) (QV Q) :=
  wpN_X (cut := fun p => Nat.beq p 60 || Nat.beq p 120 || Nat.beq p 159) 3 _ _ h
set_option maxRecDepth 20000 in
theorem k_X7_prepare_159 (x1 : Int) (x2 : Int) (x3 : Int) (M : aM) (W : aW) (Q : aM → aW → Prop) (h :
  (inI x3) ∧ 
  ((x3 ≥ 1000000 → CallV 70 [vR 36, vI 0] (M, W) (fun M1 W2 => Q M1 W2)) ∧
  (¬ x3 ≥ 1000000 → (inI x2) ∧ 
    ((x2 = 0 → CallV 70 [vR 36, vI 0] (M, W) (fun M3 W4 => Q M3 W4)) ∧
    (¬ x2 = 0 → CallV 70 [vR 36, vI 1] (M, W) (fun M5 W6 => (okO 86 3 (M5 36 2) = true) ∧ CallL 106 [vR 60, vI (M5 (M5 36 2) 6), vI 0] (M5, W6) (fun r9 M7 W8 => (inL r9 ∧ inL 0) ∧
      ((r9 > 0 → Xs 69 (159, [some (some (vR 36)), some (some (vI x1)), some (some (vI 0)), some (some (vI (x3 + 1)))], [], (M7, W8)) (QV Q)) ∧
      (¬ r9 > 0 → CallI 78 [vR 36, vI 2] (M7, W8) (fun r12 M10 W11 => (inI r12) ∧ 
        ((r12 = 0 → Xs 69 (159, [some (some (vR 36)), some (some (vI x1)), some (some (vI 0)), some (some (vI (x3 + 1)))], [], (M10, W11)) (QV Q)) ∧
        (¬ r12 = 0 → Xs 69 (159, [some (some (vR 36)), some (some (vI x1)), some (some (vI 1)), some (some (vI (x3 + 1)))], [], (M10, W11)) (QV Q))))))))))))) : Xs 69 (159, [some (some (vR 36)), some (some (vI x1)), some (some (vI x2)), some (some (vI x3))], [], (M, W)) (QV Q) :=
  wpN_X (cut := fun p => Nat.beq p 60 || Nat.beq p 120 || Nat.beq p 159) 47 _ _ h
set_option maxRecDepth 20000 in
theorem e_X7_solveFair (x1 : Int) (M : aM) (W : aW) (Q : aM → aW → Prop) (h :
  CallV 71 [vR 36, vI (M 36 15), vI x1, vI (M 36 16)] (M, W) (fun M1 W2 => CallV 109 [vR 60, vR (M1 36 2), vR 39, vI 0, vR 44] (M1, W2) (fun M3 W4 => Q M3 W4))) : CallV 70 [vR 36, vI x1] (M, W) Q :=
  wpN_X (cut := fun p => false) 21 _ _ h
set_option maxRecDepth 20000 in
theorem e_X7_fillEnds (x1 : Int) (x2 : Int) (x3 : Int) (M : aM) (W : aW) (Q : aM → aW → Prop) (h :
  (okO 86 3 (M 36 2) = true) ∧ CallI 33 [vR (M 36 2)] (M, W) (fun r3 M1 W2 => (∀ v4 : Int, v4 = r3 - 1 → (okO 86 3 (M1 36 2) = true) ∧ CallI 34 [vR (M1 36 2)] (M1, W2) (fun r7 M5 W6 => (∀ v8 : Int, v8 = r7 - 1 → Xs 71 (22, [some (some (vR 36)), some (some (vI x1)), some (some (vI x2)), some (some (vI x3)), some (some (vI v4)), some (some (vI v8)), none], [], (M5, W6)) (QV Q)))))) : CallV 71 [vR 36, vI x1, vI x2, vI x3] (M, W) Q :=
  wpN_X (cut := fun p => Nat.beq p 22) 15 _ _ h
set_option maxRecDepth 20000 in
theorem k_X7_fillEnds_22 (x1 : Int) (x2 : Int) (x3 : Int) (x4 : Int) (x5 : Int) (d6 : aL) (M : aM) (W : aW) (Q : aM → aW → Prop) (h :
  (inI x5) ∧ 
  ((x5 < 0 → Q M W) ∧
  (¬ x5 < 0 → CallI 25 [vR 27, vI x5, vI x4] (M, W) (fun r3 M1 W2 => (inI r3) ∧ 
    ((r3 < 0 → (inI x3) ∧ 
      ((x3 ≤ 0 → (0 ≤ x5 ∧ x5 < 729) ∧ Xs 71 (22, [some (some (vR 36)), some (some (vI x1)), some (some (vI x2)), some (some (vI x3)), some (some (vI x4)), some (some (vI (x5 + (-1)))), some (some (vI r3))], [], ((up_ M1 44 x5 0), W2)) (QV Q)) ∧
      (¬ x3 ≤ 0 → (inI x1) ∧ 
        ((x1 > 0 → (inI x1) ∧ (0 ≤ x5 ∧ x5 < 729) ∧ CallI 68 [vR 36, vI (M1 29 x5)] (M1, W2) (fun r6 M4 W5 => (inI r6) ∧ (inI x2) ∧ (inI x3) ∧ (inL ((x1 * r6) - x2) ∧ inL x3 ∧ x3 ≠ 0) ∧ (0 ≤ x5 ∧ x5 < 729) ∧ Xs 71 (22, [some (some (vR 36)), some (some (vI x1)), some (some (vI x2)), some (some (vI x3)), some (some (vI x4)), some (some (vI (x5 + (-1)))), some (some (vI r3))], [], ((up_ M4 44 x5 (-(Int.tdiv ((x1 * r6) - x2) x3))), W5)) (QV Q))) ∧
        (¬ x1 > 0 → (0 ≤ x5 ∧ x5 < 729) ∧ Xs 71 (22, [some (some (vR 36)), some (some (vI x1)), some (some (vI x2)), some (some (vI x3)), some (some (vI x4)), some (some (vI (x5 + (-1)))), some (some (vI r3))], [], ((up_ M1 44 x5 0), W2)) (QV Q)))))) ∧
    (¬ r3 < 0 → (0 ≤ r3 ∧ r3 < 7) ∧ (0 ≤ r3 ∧ r3 < 7) ∧ CallL 72 [vR 36, vI (x5 + (thr_ r3)), vI (x5 + (2 * (thr_ r3)))] (M1, W2) (fun r9 M7 W8 => (0 ≤ x5 ∧ x5 < 729) ∧ Xs 71 (22, [some (some (vR 36)), some (some (vI x1)), some (some (vI x2)), some (some (vI x3)), some (some (vI x4)), some (some (vI (x5 + (-1)))), some (some (vI r3))], [], ((up_ M7 44 x5 r9), W8)) (QV Q)))))))) : Xs 71 (22, [some (some (vR 36)), some (some (vI x1)), some (some (vI x2)), some (some (vI x3)), some (some (vI x4)), some (some (vI x5)), d6], [], (M, W)) (QV Q) :=
  wpN_X (cut := fun p => Nat.beq p 22) 82 _ _ h
set_option maxRecDepth 20000 in
theorem e_X7_greaterEnd (x1 : Int) (x2 : Int) (M : aM) (W : aW) (Q : Int → aM → aW → Prop) (h :
  (0 ≤ x1 ∧ x1 < 729) ∧ (inL (M 39 x1) ∧ inL 0) ∧
  (((M 39 x1) > 0 → (0 ≤ x2 ∧ x2 < 729) ∧ (inL (M 39 x2) ∧ inL 0) ∧
    (((M 39 x2) > 0 → (0 ≤ x1 ∧ x1 < 729) ∧ (0 ≤ x2 ∧ x2 < 729) ∧ (inL (M 44 x1) ∧ inL (M 44 x2)) ∧ Q (max_ (M 44 x1) (M 44 x2)) M W) ∧
    (¬ (M 39 x2) > 0 → (0 ≤ x1 ∧ x1 < 729) ∧ Q (M 44 x1) M W))) ∧
  (¬ (M 39 x1) > 0 → (0 ≤ x2 ∧ x2 < 729) ∧ Q (M 44 x2) M W))) : CallL 72 [vR 36, vI x1, vI x2] (M, W) Q :=
  wpN_X (cut := fun p => false) 37 _ _ h
set_option maxRecDepth 20000 in
theorem e_X7_does (x1 : Int) (x2 : Int) (x3 : Int) (M : aM) (W : aW) (Q : Int → aM → aW → Prop) (h :
  (okO 86 3 (M 36 2) = true) ∧ (inI x2 ∧ inI (M (M 36 2) 7)) ∧ 
  ((x2 ≠ (M (M 36 2) 7) → (okO 86 3 (M 36 2) = true) ∧ CallI 33 [vR (M 36 2)] (M, W) (fun r3 M1 W2 => (0 ≤ x3 ∧ x3 < 729) ∧ (∀ v4 : Int, v4 = and_ (r3 - 1) (xor_ (M1 28 x3) (-1)) → (inI x1) ∧ 
    ((x1 = 0 → CallI 105 [vR 50, vI x2, vI x3] (M1, W2) (fun r7 M5 W6 => Q r7 M5 W6)) ∧ (x1 ≠ 0 → 
    ((x1 = 1 → CallI 105 [vR 55, vI x2, vI x3] (M1, W2) (fun r10 M8 W9 => Q r10 M8 W9)) ∧ (x1 ≠ 1 → 
    ((x1 = 2 → CallI 105 [vR 60, vI x2, vI x3] (M1, W2) (fun r13 M11 W12 => Q r13 M11 W12)) ∧ (x1 ≠ 2 → 
    ((x1 = 3 → (0 ≤ x3 ∧ x3 < 729) ∧ (0 ≤ (((M1 29 x3) * 10) + x2) ∧ (((M1 29 x3) * 10) + x2) < 640) ∧ Q (M1 42 (((M1 29 x3) * 10) + x2)) M1 W2) ∧ (x1 ≠ 3 → 
    ((x1 = 4 → (0 ≤ ((v4 * 10) + x2) ∧ ((v4 * 10) + x2) < 640) ∧ Q (M1 42 ((v4 * 10) + x2)) M1 W2) ∧ (x1 ≠ 4 → 
    ((x1 = 5 → CallI 74 [vR 36, vR 46, vI (M1 36 11), vI x3, vI v4] (M1, W2) (fun r16 M14 W15 => (0 ≤ ((r16 * 10) + x2) ∧ ((r16 * 10) + x2) < 640) ∧ Q (M14 42 ((r16 * 10) + x2)) M14 W15)) ∧ (x1 ≠ 5 → 
    ((x1 = 6 → CallI 45 [vR 31, vR (M1 36 2), vR 27, vI x2, vI x3] (M1, W2) (fun r19 M17 W18 => Q r19 M17 W18)) ∧ (x1 ≠ 6 → 
    ((x1 = 7 → (okO 86 3 (M1 36 2) = true) ∧ CallI 74 [vR 36, vR 47, vI (M1 (M1 36 2) 3), vI x3, vI v4] (M1, W2) (fun r22 M20 W21 => (0 ≤ ((r22 * 10) + x2) ∧ ((r22 * 10) + x2) < 640) ∧ Q (M20 42 ((r22 * 10) + x2)) M20 W21)) ∧ (x1 ≠ 7 → CallI 45 [vR 31, vR (M1 36 2), vR 27, vI x2, vI x3] (M1, W2) (fun r25 M23 W24 => Q r25 M23 W24)))))))))))))))))))) ∧
  (¬ x2 ≠ (M (M 36 2) 7) → Q (-2) M W))) : CallI 73 [vR 36, vI x1, vI x2, vI x3] (M, W) Q :=
  wpN_X (cut := fun p => false) 122 _ _ h
set_option maxRecDepth 20000 in
theorem e_X7_trying (x1 : Int) (x2 : Int) (x3 : Int) (x4 : Int) (M : aM) (W : aW) (Q : Int → aM → aW → Prop) (h :
  (0 ≤ x3 ∧ x3 < 729) ∧ (0 ≤ x3 ∧ x3 < 729) ∧ (∀ v1 : Int, v1 = or_ (M 28 x3) (M 29 x3) → Xs 74 (24, [some (some (vR 36)), some (some (vR x1)), some (some (vI x2)), some (some (vI x3)), some (some (vI x4)), some (some (vI v1)), some (some (vI 0))], [], (M, W)) (QI Q))) : CallI 74 [vR 36, vR x1, vI x2, vI x3, vI x4] (M, W) Q :=
  wpN_X (cut := fun p => Nat.beq p 24) 17 _ _ h
set_option maxRecDepth 20000 in
theorem k_X7_trying_24 (x1 : Int) (x2 : Int) (x3 : Int) (x4 : Int) (x5 : Int) (x6 : Int) (M : aM) (W : aW) (Q : Int → aM → aW → Prop) (h :
  (inI x6 ∧ inI x2) ∧ 
  ((x6 ≥ x2 → Q x4 M W) ∧
  (¬ x6 ≥ x2 → (okO 86 20 x1 = true) ∧ (inI x6 ∧ inI (ln_ x1)) ∧ 
    ((x6 ≥ (ln_ x1) → Q x4 M W) ∧
    (¬ x6 ≥ (ln_ x1) → (okO 86 20 x1 = true ∧ 0 ≤ x6 ∧ x6 < ln_ x1) ∧ (inI (and_ (shr_ x5 (M x1 x6)) 1)) ∧ 
      (((and_ (shr_ x5 (M x1 x6)) 1) ≠ 0 → Xs 74 (24, [some (some (vR 36)), some (some (vR x1)), some (some (vI x2)), some (some (vI x3)), some (some (vI x4)), some (some (vI x5)), some (some (vI (x6 + 1)))], [], (M, W)) (QI Q)) ∧
      (¬ (and_ (shr_ x5 (M x1 x6)) 1) ≠ 0 → (okO 86 20 x1 = true ∧ 0 ≤ x6 ∧ x6 < ln_ x1) ∧ Q (and_ x4 (xor_ (shl_ 1 (M x1 x6)) (-1))) M W))))))) : Xs 74 (24, [some (some (vR 36)), some (some (vR x1)), some (some (vI x2)), some (some (vI x3)), some (some (vI x4)), some (some (vI x5)), some (some (vI x6))], [], (M, W)) (QI Q) :=
  wpN_X (cut := fun p => Nat.beq p 24) 34 _ _ h
set_option maxRecDepth 20000 in
theorem e_X7_hoursIn (x1 : Int) (x2 : Int) (M : aM) (W : aW) (Q : Int → aM → aW → Prop) (h :
  (okO 86 3 (M 36 2) = true) ∧ (∀ v1 : Int, v1 = M (M 36 2) 6 → (okO 86 3 (M 36 2) = true) ∧ (okO 86 20 ((M 36 2) + 5) = true ∧ 0 ≤ v1 ∧ v1 < ln_ ((M 36 2) + 5)) ∧ CallI 24 [vR 27, vI 0, vI (M ((M 36 2) + 5) v1), vI x2] (M, W) (fun r4 M2 W3 => Xs 75 (34, [some (some (vR 36)), some (some (vI x1)), some (some (vI x2)), some (some (vI v1)), some (some (vI r4)), some (some (vI 0)), some (some (vI 0)), none], [], (M2, W3)) (QI Q)))) : CallI 75 [vR 36, vI x1, vI x2] (M, W) Q :=
  wpN_X (cut := fun p => Nat.beq p 34) 22 _ _ h
set_option maxRecDepth 20000 in
theorem k_X7_hoursIn_34 (x1 : Int) (x2 : Int) (x3 : Int) (x4 : Int) (x5 : Int) (x6 : Int) (d7 : aL) (M : aM) (W : aW) (Q : Int → aM → aW → Prop) (h :
  (inI x6) ∧ 
  ((x6 ≥ 100 → (okO 86 3 (M 36 2) = true) ∧ (inI x3 ∧ inI (M (M 36 2) 7)) ∧ 
    ((x3 ≠ (M (M 36 2) 7) → Q (-2) M W) ∧
    (¬ x3 ≠ (M (M 36 2) 7) → Q x5 M W))) ∧
  (¬ x6 ≥ 100 → (okO 86 3 (M 36 2) = true) ∧ (inI x3 ∧ inI (M (M 36 2) 7)) ∧ 
    ((x3 = (M (M 36 2) 7) → (okO 86 3 (M 36 2) = true) ∧ (inI x3 ∧ inI (M (M 36 2) 7)) ∧ 
      ((x3 ≠ (M (M 36 2) 7) → Q (-2) M W) ∧
      (¬ x3 ≠ (M (M 36 2) 7) → Q x5 M W))) ∧
    (¬ x3 = (M (M 36 2) 7) → CallI 73 [vR 36, vI x1, vI x3, vI x4] (M, W) (fun r3 M1 W2 => (inI r3) ∧ 
      ((r3 ≥ 0 → (inI r3) ∧ 
        ((r3 < 100 → (0 ≤ x4 ∧ x4 < 729) ∧ (0 ≤ x4 ∧ x4 < 729) ∧ (okO 86 3 (M1 36 2) = true) ∧ CallI 38 [vR (M1 36 2), vI x3, vI r3, vI (M1 28 x4), vI (M1 29 x4)] (M1, W2) (fun r6 M4 W5 => (∀ v7 : Int, v7 = x5 + r6 → (okO 86 3 (M4 36 2) = true) ∧ (okO 86 20 ((M4 36 2) + 5) = true ∧ 0 ≤ r3 ∧ r3 < ln_ ((M4 36 2) + 5)) ∧ CallI 24 [vR 27, vI x4, vI (M4 ((M4 36 2) + 5) r3), vI x2] (M4, W5) (fun r10 M8 W9 => Xs 75 (34, [some (some (vR 36)), some (some (vI x1)), some (some (vI x2)), some (some (vI r3)), some (some (vI r10)), some (some (vI v7)), some (some (vI (x6 + 1))), some (some (vI r3))], [], (M8, W9)) (QI Q))))) ∧
        (¬ r3 < 100 → (okO 86 3 (M1 36 2) = true) ∧ (okO 86 20 ((M1 36 2) + 8) = true ∧ 0 ≤ (r3 - 100) ∧ (r3 - 100) < ln_ ((M1 36 2) + 8)) ∧ (∀ v11 : Int, v11 = x5 + (M1 ((M1 36 2) + 8) (r3 - 100)) → (okO 86 3 (M1 36 2) = true) ∧ (okO 86 20 ((M1 36 2) + 7) = true ∧ 0 ≤ (r3 - 100) ∧ (r3 - 100) < ln_ ((M1 36 2) + 7)) ∧ CallI 24 [vR 27, vI x4, vI (shl_ 1 (M1 ((M1 36 2) + 7) (r3 - 100))), vI x2] (M1, W2) (fun r14 M12 W13 => Xs 75 (34, [some (some (vR 36)), some (some (vI x1)), some (some (vI x2)), some (some (vI x3)), some (some (vI r14)), some (some (vI v11)), some (some (vI (x6 + 1))), some (some (vI r3))], [], (M12, W13)) (QI Q)))))) ∧
      (¬ r3 ≥ 0 → Q (-2) M1 W2)))))))) : Xs 75 (34, [some (some (vR 36)), some (some (vI x1)), some (some (vI x2)), some (some (vI x3)), some (some (vI x4)), some (some (vI x5)), some (some (vI x6)), d7], [], (M, W)) (QI Q) :=
  wpN_X (cut := fun p => Nat.beq p 34) 106 _ _ h
set_option maxRecDepth 20000 in
theorem e_X7_meanOf (x1 : Int) (M : aM) (W : aW) (Q : Int → aM → aW → Prop) (h :
  Xs 76 (5, [some (some (vR 36)), some (some (vI x1)), some (some (vL 0)), some none, some (some (vI 0)), none], [], (M, W)) (QL Q)) : CallL 76 [vR 36, vI x1] (M, W) Q :=
  wpN_X (cut := fun p => Nat.beq p 5) 7 _ _ h
set_option maxRecDepth 20000 in
theorem k_X7_meanOf_5 (x1 : Int) (x2 : Int) (x4 : Int) (d5 : aL) (M : aM) (W : aW) (Q : Int → aM → aW → Prop) (h :
  (okO 86 3 (M 36 2) = true) ∧ CallI 33 [vR (M 36 2)] (M, W) (fun r3 M1 W2 => (inI x4 ∧ inI r3) ∧ 
  ((x4 ≥ r3 → Q x2 M1 W2) ∧
  (¬ x4 ≥ r3 → (0 ≤ x4 ∧ x4 < 64) ∧ (inL (M1 38 x4) ∧ inL 0) ∧
    (((M1 38 x4) ≤ 0 → Xs 76 (5, [some (some (vR 36)), some (some (vI x1)), some (some (vL x2)), some none, some (some (vI (x4 + 1))), d5], [], (M1, W2)) (QL Q)) ∧
    (¬ (M1 38 x4) ≤ 0 → CallI 75 [vR 36, vI x1, vI x4] (M1, W2) (fun r6 M4 W5 => (inI r6) ∧ 
      ((r6 ≥ 0 → (0 ≤ x4 ∧ x4 < 64) ∧ (inI r6) ∧ (∀ v7 : Int, v7 = x2 + ((M4 38 x4) * r6) → Xs 76 (5, [some (some (vR 36)), some (some (vI x1)), some (some (vL v7)), some none, some (some (vI (x4 + 1))), some (some (vI r6))], [], (M4, W5)) (QL Q))) ∧
      (¬ r6 ≥ 0 → Q (-2) M4 W5))))))))) : Xs 76 (5, [some (some (vR 36)), some (some (vI x1)), some (some (vL x2)), some none, some (some (vI x4)), d5], [], (M, W)) (QL Q) :=
  wpN_X (cut := fun p => Nat.beq p 5) 42 _ _ h
set_option maxRecDepth 20000 in
theorem e_X7_worstOf (x1 : Int) (M : aM) (W : aW) (Q : Int → aM → aW → Prop) (h :
  Xs 77 (4, [some (some (vR 36)), some (some (vI x1)), some (some (vI 0)), some (some (vI 0)), none], [], (M, W)) (QI Q)) : CallI 77 [vR 36, vI x1] (M, W) Q :=
  wpN_X (cut := fun p => Nat.beq p 4) 7 _ _ h
set_option maxRecDepth 20000 in
theorem k_X7_worstOf_4 (x1 : Int) (x2 : Int) (x3 : Int) (d4 : aL) (M : aM) (W : aW) (Q : Int → aM → aW → Prop) (h :
  (okO 86 3 (M 36 2) = true) ∧ CallI 33 [vR (M 36 2)] (M, W) (fun r3 M1 W2 => (inI x3 ∧ inI r3) ∧ 
  ((x3 ≥ r3 → Q x2 M1 W2) ∧
  (¬ x3 ≥ r3 → (0 ≤ x3 ∧ x3 < 64) ∧ (inL (M1 38 x3) ∧ inL 0) ∧
    (((M1 38 x3) ≤ 0 → Xs 77 (4, [some (some (vR 36)), some (some (vI x1)), some (some (vI x2)), some (some (vI (x3 + 1))), d4], [], (M1, W2)) (QI Q)) ∧
    (¬ (M1 38 x3) ≤ 0 → CallI 75 [vR 36, vI x1, vI x3] (M1, W2) (fun r6 M4 W5 => (inI r6) ∧ 
      ((r6 ≥ 0 → (inI x2 ∧ inI r6) ∧ Xs 77 (4, [some (some (vR 36)), some (some (vI x1)), some (some (vI (max_ x2 r6))), some (some (vI (x3 + 1))), some (some (vI r6))], [], (M4, W5)) (QI Q)) ∧
      (¬ r6 ≥ 0 → Q (-2) M4 W5))))))))) : Xs 77 (4, [some (some (vR 36)), some (some (vI x1)), some (some (vI x2)), some (some (vI x3)), d4], [], (M, W)) (QI Q) :=
  wpN_X (cut := fun p => Nat.beq p 4) 35 _ _ h
set_option maxRecDepth 20000 in
theorem e_X7_gauge (x1 : Int) (M : aM) (W : aW) (Q : Int → aM → aW → Prop) (h :
  Xs 78 (12, [some (some (vR 36)), some (some (vI x1)), some (some (vI 0)), none, none], [], ((up_ (up_ M 36 15 0) 36 16 0), W)) (QI Q)) : CallI 78 [vR 36, vI x1] (M, W) Q :=
  wpN_X (cut := fun p => Nat.beq p 12) 11 _ _ h
set_option maxRecDepth 20000 in
theorem k_X7_gauge_12 (x1 : Int) (x2 : Int) (d3 : aL) (d4 : aL) (M : aM) (W : aW) (Q : Int → aM → aW → Prop) (h :
  (okO 86 3 (M 36 2) = true) ∧ CallI 33 [vR (M 36 2)] (M, W) (fun r3 M1 W2 => (inI x2 ∧ inI r3) ∧ 
  ((x2 ≥ r3 → Q 1 M1 W2) ∧
  (¬ x2 ≥ r3 → (0 ≤ x2 ∧ x2 < 64) ∧ (inL (M1 38 x2) ∧ inL 0) ∧
    (((M1 38 x2) ≤ 0 → Xs 78 (12, [some (some (vR 36)), some (some (vI x1)), some (some (vI (x2 + 1))), d3, d4], [], (M1, W2)) (QI Q)) ∧
    (¬ (M1 38 x2) ≤ 0 → CallI 75 [vR 36, vI x1, vI x2] (M1, W2) (fun r6 M4 W5 => CallI 68 [vR 36, vI x2] (M4, W5) (fun r9 M7 W8 => (inI r6) ∧ 
      ((r6 < 0 → Q 0 M7 W8) ∧
      (¬ r6 < 0 → (inI r9) ∧ 
        ((r9 ≥ 0 → (inI (M7 36 16)) ∧ 
          (((M7 36 16) = 0 → Xs 78 (12, [some (some (vR 36)), some (some (vI x1)), some (some (vI (x2 + 1))), some (some (vI r6)), some (some (vI r9))], [], ((up_ (up_ M7 36 15 r6) 36 16 r9), W8)) (QI Q)) ∧
          (¬ (M7 36 16) = 0 → (inI (r6 * (M7 36 16)) ∧ inI ((M7 36 15) * r9)) ∧ 
            (((r6 * (M7 36 16)) ≤ ((M7 36 15) * r9) → Xs 78 (12, [some (some (vR 36)), some (some (vI x1)), some (some (vI (x2 + 1))), some (some (vI r6)), some (some (vI r9))], [], (M7, W8)) (QI Q)) ∧
            (¬ (r6 * (M7 36 16)) ≤ ((M7 36 15) * r9) → Xs 78 (12, [some (some (vR 36)), some (some (vI x1)), some (some (vI (x2 + 1))), some (some (vI r6)), some (some (vI r9))], [], ((up_ (up_ M7 36 15 r6) 36 16 r9), W8)) (QI Q)))))) ∧
        (¬ r9 ≥ 0 → Q 0 M7 W8)))))))))))) : Xs 78 (12, [some (some (vR 36)), some (some (vI x1)), some (some (vI x2)), d3, d4], [], (M, W)) (QI Q) :=
  wpN_X (cut := fun p => Nat.beq p 12) 69 _ _ h
set_option maxRecDepth 20000 in
theorem e_X7_ringPlace (x1 : Int) (M : aM) (W : aW) (Q : Int → aM → aW → Prop) (h :
  Xs 79 (2, [some (some (vR 36)), some (some (vI x1)), some (some (vI 0))], [], (M, W)) (QI Q)) : CallI 79 [vR 36, vI x1] (M, W) Q :=
  wpN_X (cut := fun p => Nat.beq p 2) 5 _ _ h
set_option maxRecDepth 20000 in
theorem k_X7_ringPlace_2 (x1 : Int) (x2 : Int) (M : aM) (W : aW) (Q : Int → aM → aW → Prop) (h :
  (okO 86 3 (M 36 2) = true) ∧ CallI 33 [vR (M 36 2)] (M, W) (fun r3 M1 W2 => (inI x2 ∧ inI r3) ∧ 
  ((x2 ≥ r3 → Q (-1) M1 W2) ∧
  (¬ x2 ≥ r3 → (0 ≤ x2 ∧ x2 < 64) ∧ (inL (M1 38 x2) ∧ inL 0) ∧
    (((M1 38 x2) ≤ 0 → Xs 79 (2, [some (some (vR 36)), some (some (vI x1)), some (some (vI (x2 + 1)))], [], (M1, W2)) (QI Q)) ∧
    (¬ (M1 38 x2) ≤ 0 → CallI 75 [vR 36, vI 6, vI x2] (M1, W2) (fun r6 M4 W5 => (inI r6) ∧ 
      ((r6 ≥ 0 → Xs 79 (2, [some (some (vR 36)), some (some (vI x1)), some (some (vI (x2 + 1)))], [], (M4, W5)) (QI Q)) ∧
      (¬ r6 ≥ 0 → CallI 80 [vR 36, vI x2, vI x1] (M4, W5) (fun r9 M7 W8 => Q r9 M7 W8)))))))))) : Xs 79 (2, [some (some (vR 36)), some (some (vI x1)), some (some (vI x2))], [], (M, W)) (QI Q) :=
  wpN_X (cut := fun p => Nat.beq p 2) 32 _ _ h
set_option maxRecDepth 20000 in
theorem e_X7_ringIn (x1 : Int) (x2 : Int) (M : aM) (W : aW) (Q : Int → aM → aW → Prop) (h :
  (okO 86 3 (M 36 2) = true) ∧ (∀ v1 : Int, v1 = M (M 36 2) 6 → (okO 86 3 (M 36 2) = true) ∧ (okO 86 20 ((M 36 2) + 5) = true ∧ 0 ≤ v1 ∧ v1 < ln_ ((M 36 2) + 5)) ∧ CallI 24 [vR 27, vI 0, vI (M ((M 36 2) + 5) v1), vI x1] (M, W) (fun r4 M2 W3 => Xs 80 (31, [some (some (vR 36)), some (some (vI x1)), some (some (vI x2)), some (some (vI v1)), some (some (vI r4)), some (some (vI 0)), none, none], [], (M2, W3)) (QI Q)))) : CallI 80 [vR 36, vI x1, vI x2] (M, W) Q :=
  wpN_X (cut := fun p => Nat.beq p 31) 20 _ _ h
set_option maxRecDepth 20000 in
theorem k_X7_ringIn_31 (x1 : Int) (x2 : Int) (x3 : Int) (x4 : Int) (x5 : Int) (d6 : aL) (d7 : aL) (M : aM) (W : aW) (Q : Int → aM → aW → Prop) (h :
  (inI x5) ∧ 
  ((x5 ≥ 100 → Q (-1) M W) ∧
  (¬ x5 ≥ 100 → CallI 81 [vR 36, vI x3, vI x4, vI x5] (M, W) (fun r3 M1 W2 => (inI r3) ∧ 
    ((r3 < 0 → (0 ≤ x5 ∧ x5 < 100) ∧ (0 ≤ x5 ∧ x5 < 100) ∧ CallI 73 [vR 36, vI 6, vI x3, vI x4] ((up_ (up_ M1 48 x5 x3) 49 x5 x4), W2) (fun r6 M4 W5 => (inI r6) ∧ 
      ((r6 ≥ 0 → (okO 86 3 (M4 36 2) = true) ∧ (okO 86 20 ((M4 36 2) + 5) = true ∧ 0 ≤ r6 ∧ r6 < ln_ ((M4 36 2) + 5)) ∧ CallI 24 [vR 27, vI x4, vI (M4 ((M4 36 2) + 5) r6), vI x1] (M4, W5) (fun r9 M7 W8 => Xs 80 (31, [some (some (vR 36)), some (some (vI x1)), some (some (vI x2)), some (some (vI r6)), some (some (vI r9)), some (some (vI (x5 + 1))), some (some (vI r3)), some (some (vI r6))], [], (M7, W8)) (QI Q))) ∧
      (¬ r6 ≥ 0 → (inI x2) ∧ 
        ((x2 ≠ 0 → Q (-1) M4 W5) ∧
        (¬ x2 ≠ 0 → Q x3 M4 W5)))))) ∧
    (¬ r3 < 0 → (inI x2 ∧ inI (x5 - r3)) ∧ 
      ((x2 ≥ (x5 - r3) → Q (-1) M1 W2) ∧
      (¬ x2 ≥ (x5 - r3) → (0 ≤ (r3 + x2) ∧ (r3 + x2) < 100) ∧ Q (M1 48 (r3 + x2)) M1 W2)))))))) : Xs 80 (31, [some (some (vR 36)), some (some (vI x1)), some (some (vI x2)), some (some (vI x3)), some (some (vI x4)), some (some (vI x5)), d6, d7], [], (M, W)) (QI Q) :=
  wpN_X (cut := fun p => Nat.beq p 31) 71 _ _ h
set_option maxRecDepth 20000 in
theorem e_X7_trackedAt (x1 : Int) (x2 : Int) (x3 : Int) (M : aM) (W : aW) (Q : Int → aM → aW → Prop) (h :
  Xs 81 (3, [some (some (vR 36)), some (some (vI x1)), some (some (vI x2)), some (some (vI x3)), some (some (vI 0))], [], (M, W)) (QI Q)) : CallI 81 [vR 36, vI x1, vI x2, vI x3] (M, W) Q :=
  wpN_X (cut := fun p => Nat.beq p 3) 5 _ _ h
set_option maxRecDepth 20000 in
theorem k_X7_trackedAt_3 (x1 : Int) (x2 : Int) (x3 : Int) (x4 : Int) (M : aM) (W : aW) (Q : Int → aM → aW → Prop) (h :
  (inI x4 ∧ inI x3) ∧ 
  ((x4 ≥ x3 → Q (-1) M W) ∧
  (¬ x4 ≥ x3 → (0 ≤ x4 ∧ x4 < 100) ∧ (inI (M 48 x4) ∧ inI x1) ∧ 
    (((M 48 x4) ≠ x1 → Xs 81 (3, [some (some (vR 36)), some (some (vI x1)), some (some (vI x2)), some (some (vI x3)), some (some (vI (x4 + 1)))], [], (M, W)) (QI Q)) ∧
    (¬ (M 48 x4) ≠ x1 → (0 ≤ x4 ∧ x4 < 100) ∧ (inI (M 49 x4) ∧ inI x2) ∧ 
      (((M 49 x4) ≠ x2 → Xs 81 (3, [some (some (vR 36)), some (some (vI x1)), some (some (vI x2)), some (some (vI x3)), some (some (vI (x4 + 1)))], [], (M, W)) (QI Q)) ∧
      (¬ (M 49 x4) ≠ x2 → Q x4 M W))))))) : Xs 81 (3, [some (some (vR 36)), some (some (vI x1)), some (some (vI x2)), some (some (vI x3)), some (some (vI x4))], [], (M, W)) (QI Q) :=
  wpN_X (cut := fun p => Nat.beq p 3) 27 _ _ h
set_option maxRecDepth 20000 in
theorem e_X9_init (x0 : Int) (x1 : Int) (x2 : Int) (M : aM) (F : aM) (dl : Int → Int) (sz ns : Int) (Q : aM → aW → Prop) (h :
  ((0 : Int) ≤ x0) ∧ (0 ≤ sz ∧ sz < 126 ∧ knd sz = 21 ∧ ln_ sz = 7290) ∧ (okD ((ce_ M sz (fun _ => 0)), (F, dl, sz + 1, ns + 7290)) 9 x0 = true) ∧ (0 ≤ sz + 1 ∧ sz + 1 < 126 ∧ knd (sz + 1) = 20 ∧ ln_ (sz + 1) = 7290) ∧ (okD ((ce_ (ce_ M sz (fun _ => 0)) (sz + 1) (fun _ => 0)), ((up_ F x0 1 (sz)), dl, sz + 1 + 1, ns + 7290 + 7290)) 9 x0 = true) ∧ (0 ≤ sz + 1 + 1 ∧ sz + 1 + 1 < 126 ∧ knd (sz + 1 + 1) = 20 ∧ ln_ (sz + 1 + 1) = 100) ∧ (okD ((ce_ (ce_ (ce_ M sz (fun _ => 0)) (sz + 1) (fun _ => 0)) (sz + 1 + 1) (fun _ => 0)), ((up_ (up_ F x0 1 (sz)) x0 2 (sz + 1)), dl, sz + 1 + 1 + 1, ns + 7290 + 7290 + 100)) 9 x0 = true) ∧ (0 ≤ sz + 1 + 1 + 1 ∧ sz + 1 + 1 + 1 < 126 ∧ knd (sz + 1 + 1 + 1) = 21 ∧ ln_ (sz + 1 + 1 + 1) = 0) ∧ (okD ((ce_ (ce_ (ce_ (ce_ M sz (fun _ => 0)) (sz + 1) (fun _ => 0)) (sz + 1 + 1) (fun _ => 0)) (sz + 1 + 1 + 1) (fun _ => 0)), ((up_ (up_ (up_ F x0 1 (sz)) x0 2 (sz + 1)) x0 3 (sz + 1 + 1)), dl, sz + 1 + 1 + 1 + 1, ns + 7290 + 7290 + 100 + 0)) 9 x0 = true) ∧ (okD ((up_ (ce_ (ce_ (ce_ (ce_ M sz (fun _ => 0)) (sz + 1) (fun _ => 0)) (sz + 1 + 1) (fun _ => 0)) (sz + 1 + 1 + 1) (fun _ => 0)) x0 5 (sz + 1 + 1 + 1)), ((up_ (up_ (up_ F x0 1 (sz)) x0 2 (sz + 1)) x0 3 (sz + 1 + 1)), dl, sz + 1 + 1 + 1 + 1, ns + 7290 + 7290 + 100 + 0)) 9 x0 = true) ∧ (okD ((up_ (ce_ (ce_ (ce_ (ce_ M sz (fun _ => 0)) (sz + 1) (fun _ => 0)) (sz + 1 + 1) (fun _ => 0)) (sz + 1 + 1 + 1) (fun _ => 0)) x0 5 (sz + 1 + 1 + 1)), ((up_ (up_ (up_ (up_ F x0 1 (sz)) x0 2 (sz + 1)) x0 3 (sz + 1 + 1)) x0 0 x1), dl, sz + 1 + 1 + 1 + 1, ns + 7290 + 7290 + 100 + 0)) 9 x0 = true) ∧ Q (up_ (up_ (ce_ (ce_ (ce_ (ce_ M sz (fun _ => 0)) (sz + 1) (fun _ => 0)) (sz + 1 + 1) (fun _ => 0)) (sz + 1 + 1 + 1) (fun _ => 0)) x0 5 (sz + 1 + 1 + 1)) x0 4 x2) ((up_ (up_ (up_ (up_ F x0 1 (sz)) x0 2 (sz + 1)) x0 3 (sz + 1 + 1)) x0 0 x1), dl, sz + 1 + 1 + 1 + 1, ns + 7290 + 7290 + 100 + 0)) : CallV 104 [vR x0, vR x1, vR x2] (M, (F, dl, sz, ns)) Q :=
  wpN_X (cut := fun p => false) 27 _ _ h
set_option maxRecDepth 20000 in
theorem e_X9_act (x0 : Int) (x1 : Int) (x2 : Int) (M : aM) (W : aW) (Q : Int → aM → aW → Prop) (h :
  (okO 86 9 x0 = true) ∧ (okO 86 20 (x0 + 2) = true ∧ 0 ≤ ((x2 * 10) + x1) ∧ ((x2 * 10) + x1) < ln_ (x0 + 2)) ∧ Q (M (x0 + 2) ((x2 * 10) + x1)) M W) : CallI 105 [vR x0, vI x1, vI x2] (M, W) Q :=
  wpN_X (cut := fun p => false) 11 _ _ h
set_option maxRecDepth 20000 in
theorem e_X9_value (x0 : Int) (x1 : Int) (x2 : Int) (M : aM) (W : aW) (Q : Int → aM → aW → Prop) (h :
  (okO 86 9 x0 = true) ∧ (okO 86 21 (x0 + 1) = true ∧ 0 ≤ ((x2 * 10) + x1) ∧ ((x2 * 10) + x1) < ln_ (x0 + 1)) ∧ Q (M (x0 + 1) ((x2 * 10) + x1)) M W) : CallL 106 [vR x0, vI x1, vI x2] (M, W) Q :=
  wpN_X (cut := fun p => false) 11 _ _ h
set_option maxRecDepth 20000 in
theorem e_X9_meanFrom (x0 : Int) (x1 : Int) (x2 : Int) (M : aM) (W : aW) (Q : Int → aM → aW → Prop) (h :
  (okO 86 9 x0 = true) ∧ CallL 106 [vR x0, vI x1, vI x2] (M, W) (fun r3 M1 W2 => (inL r3 ∧ inL 1152921504606846976) ∧
  ((r3 < 1152921504606846976 → Q r3 M1 W2) ∧
  (¬ r3 < 1152921504606846976 → Q (-2) M1 W2)))) : CallL 107 [vR x0, vI x1, vI x2] (M, W) Q :=
  wpN_X (cut := fun p => false) 15 _ _ h
set_option maxRecDepth 20000 in
theorem e_X9_stayEverywhere (x0 : Int) (M : aM) (W : aW) (Q : aM → aW → Prop) (h :
  Xs 108 (2, [some (some (vR x0)), some (some (vI 0))], [], (M, W)) (QV Q)) : CallV 108 [vR x0] (M, W) Q :=
  wpN_X (cut := fun p => Nat.beq p 2) 5 _ _ h
set_option maxRecDepth 20000 in
theorem k_X9_stayEverywhere_2 (x0 : Int) (x1 : Int) (M : aM) (W : aW) (Q : aM → aW → Prop) (h :
  (okO 86 9 x0 = true) ∧ (okO 86 20 (x0 + 2) = true) ∧ (inI x1 ∧ inI (ln_ (x0 + 2))) ∧ 
  ((x1 ≥ (ln_ (x0 + 2)) → Q M W) ∧
  (¬ x1 ≥ (ln_ (x0 + 2)) → (okO 86 9 x0 = true) ∧ (okO 86 20 (x0 + 2) = true ∧ 0 ≤ x1 ∧ x1 < ln_ (x0 + 2)) ∧ Xs 108 (2, [some (some (vR x0)), some (some (vI (x1 + 1)))], [], ((up_ M (x0 + 2) x1 (-2)), W)) (QV Q)))) : Xs 108 (2, [some (some (vR x0)), some (some (vI x1))], [], (M, W)) (QV Q) :=
  wpN_X (cut := fun p => Nat.beq p 2) 16 _ _ h
set_option maxRecDepth 20000 in
theorem e_X9_solve (x0 : Int) (x1 : Int) (x2 : Int) (x3 : Int) (x4 : Int) (M : aM) (W : aW) (Q : aM → aW → Prop) (h :
  (okO 86 9 x0 = true) ∧ (okO 86 9 x0 = true) ∧ (okO 86 9 x0 = true ∧ ((x3 : Int) = 0 ∨ (x3 : Int) = 1)) ∧ (okO 86 9 x0 = true) ∧ (okO 86 3 ((up_ (up_ (up_ M x0 4 x1) x0 5 x2) x0 6 x3) x0 4) = true) ∧ CallI 34 [vR ((up_ (up_ (up_ M x0 4 x1) x0 5 x2) x0 6 x3) x0 4)] ((up_ (up_ (up_ M x0 4 x1) x0 5 x2) x0 6 x3), W) (fun r3 M1 W2 => (∀ v4 : Int, v4 = r3 - 1 → Xs 109 (26, [some (some (vR x0)), some (some (vR x1)), some (some (vR x2)), some (some (vI x3)), some (some (vR x4)), some (some (vI v4))], [], (M1, W2)) (QV Q)))) : CallV 109 [vR x0, vR x1, vR x2, vI x3, vR x4] (M, W) Q :=
  wpN_X (cut := fun p => Nat.beq p 26) 18 _ _ h
set_option maxRecDepth 20000 in
theorem k_X9_solve_26 (x0 : Int) (x1 : Int) (x2 : Int) (x3 : Int) (x4 : Int) (x5 : Int) (M : aM) (W : aW) (Q : aM → aW → Prop) (h :
  (inI x5) ∧ 
  ((x5 < 0 → Q M W) ∧
  (¬ x5 < 0 → (okO 86 9 x0 = true) ∧ (okO 86 21 (M x0 5) = true ∧ 0 ≤ x5 ∧ x5 < ln_ (M x0 5)) ∧ (inL (M (M x0 5) x5) ∧ inL 0) ∧
    (((M (M x0 5) x5) ≤ 0 → Xs 109 (26, [some (some (vR x0)), some (some (vR x1)), some (some (vR x2)), some (some (vI x3)), some (some (vR x4)), some (some (vI (x5 + (-1))))], [], (M, W)) (QV Q)) ∧
    (¬ (M (M x0 5) x5) ≤ 0 → (okO 86 9 x0 = true) ∧ (okO 86 9 x0 = true) ∧ (okO 86 9 x0 = true) ∧ (0 ≤ x5 ∧ x5 < 729) ∧ (okO 86 9 x0 = true) ∧ (0 ≤ x5 ∧ x5 < 729) ∧ (okO 86 3 (M x0 4) = true) ∧ CallV 39 [vR (M x0 4), vR (x0 + 3), vI (M 28 x5), vI (M 29 x5)] (M, W) (fun M1 W2 => (okO 86 21 x4 = true ∧ 0 ≤ x5 ∧ x5 < ln_ x4) ∧ (okO 86 9 x0 = true) ∧ CallV 110 [vR x0, vI x5, vL (M1 x4 x5)] (M1, W2) (fun M3 W4 => Xs 109 (26, [some (some (vR x0)), some (some (vR x1)), some (some (vR x2)), some (some (vI x3)), some (some (vR x4)), some (some (vI (x5 + (-1))))], [], (M3, W4)) (QV Q)))))))) : Xs 109 (26, [some (some (vR x0)), some (some (vR x1)), some (some (vR x2)), some (some (vI x3)), some (some (vR x4)), some (some (vI x5))], [], (M, W)) (QV Q) :=
  wpN_X (cut := fun p => Nat.beq p 26) 38 _ _ h
set_option maxRecDepth 20000 in
theorem e_X9_solveKnown (x0 : Int) (x1 : Int) (x2 : Int) (M : aM) (W : aW) (Q : aM → aW → Prop) (h :
  (∀ v1 : Int, v1 = x1 * 10 → Xs 110 (9, [some (some (vR x0)), some (some (vI x1)), some (some (vL x2)), some none, some (some (vI v1)), some (some (vI 0)), none, none, none], [], (M, W)) (QV Q))) : CallV 110 [vR x0, vI x1, vL x2] (M, W) Q :=
  wpN_X (cut := fun p => Nat.beq p 9 || Nat.beq p 121 || Nat.beq p 144) 9 _ _ h
set_option maxRecDepth 20000 in
theorem k_X9_solveKnown_9 (x0 : Int) (x1 : Int) (x2 : Int) (x4 : Int) (x5 : Int) (d6 : aL) (d7 : aL) (d8 : aL) (M : aM) (W : aW) (Q : aM → aW → Prop) (h :
  (okO 86 9 x0 = true) ∧ (okO 86 3 (M x0 4) = true) ∧ (inI x5 ∧ inI (M (M x0 4) 0)) ∧ 
  ((x5 ≥ (M (M x0 4) 0) → Xs 110 (121, [some (some (vR x0)), some (some (vI x1)), some (some (vL x2)), some none, some (some (vI x4)), some (some (vI 1)), some (some (vI 0)), d7, d8], [], (M, W)) (QV Q)) ∧
  (¬ x5 ≥ (M (M x0 4) 0) → (okO 86 9 x0 = true) ∧ (okO 86 9 x0 = true) ∧ (okO 86 3 (M x0 4) = true) ∧ (okO 86 20 ((M x0 4) + 5) = true ∧ 0 ≤ x5 ∧ x5 < ln_ ((M x0 4) + 5)) ∧ CallI 25 [vR 27, vI x1, vI (M ((M x0 4) + 5) x5)] (M, W) (fun r3 M1 W2 => (okO 86 9 x0 = true) ∧ (okO 86 20 (x0 + 2) = true ∧ 0 ≤ (x4 + x5) ∧ (x4 + x5) < ln_ (x0 + 2)) ∧ (okO 86 9 x0 = true) ∧ (okO 86 3 ((up_ M1 (x0 + 2) (x4 + x5) (-2)) x0 4) = true) ∧ (inI x5 ∧ inI ((up_ M1 (x0 + 2) (x4 + x5) (-2)) ((up_ M1 (x0 + 2) (x4 + x5) (-2)) x0 4) 7)) ∧ 
    ((x5 ≠ ((up_ M1 (x0 + 2) (x4 + x5) (-2)) ((up_ M1 (x0 + 2) (x4 + x5) (-2)) x0 4) 7) → (okO 86 9 x0 = true) ∧ (inI r3) ∧ 
      ((r3 ≥ 0 → (okO 86 9 x0 = true) ∧ CallL 113 [vR x0, vI x5, vI x1, vI r3] ((up_ M1 (x0 + 2) (x4 + x5) (-2)), W2) (fun r6 M4 W5 => (okO 86 21 (x0 + 1) = true ∧ 0 ≤ (x4 + x5) ∧ (x4 + x5) < ln_ (x0 + 1)) ∧ Xs 110 (9, [some (some (vR x0)), some (some (vI x1)), some (some (vL x2)), some none, some (some (vI x4)), some (some (vI (x5 + 1))), some (some (vI r3)), d7, d8], [], ((up_ M4 (x0 + 1) (x4 + x5) r6), W5)) (QV Q))) ∧
      (¬ r3 ≥ 0 → (okO 86 21 (x0 + 1) = true ∧ 0 ≤ (x4 + x5) ∧ (x4 + x5) < ln_ (x0 + 1)) ∧ Xs 110 (9, [some (some (vR x0)), some (some (vI x1)), some (some (vL x2)), some none, some (some (vI x4)), some (some (vI (x5 + 1))), some (some (vI r3)), d7, d8], [], ((up_ (up_ M1 (x0 + 2) (x4 + x5) (-2)) (x0 + 1) (x4 + x5) 1152921504606846976), W2)) (QV Q)))) ∧
    (¬ x5 ≠ ((up_ M1 (x0 + 2) (x4 + x5) (-2)) ((up_ M1 (x0 + 2) (x4 + x5) (-2)) x0 4) 7) → (okO 86 9 x0 = true) ∧ (okO 86 21 (x0 + 1) = true ∧ 0 ≤ (x4 + x5) ∧ (x4 + x5) < ln_ (x0 + 1)) ∧ Xs 110 (9, [some (some (vR x0)), some (some (vI x1)), some (some (vL x2)), some none, some (some (vI x4)), some (some (vI (x5 + 1))), some (some (vI r3)), d7, d8], [], ((up_ (up_ M1 (x0 + 2) (x4 + x5) (-2)) (x0 + 1) (x4 + x5) x2), W2)) (QV Q))))))) : Xs 110 (9, [some (some (vR x0)), some (some (vI x1)), some (some (vL x2)), some none, some (some (vI x4)), some (some (vI x5)), d6, d7, d8], [], (M, W)) (QV Q) :=
  wpN_X (cut := fun p => Nat.beq p 9 || Nat.beq p 121 || Nat.beq p 144) 67 _ _ h
set_option maxRecDepth 20000 in
theorem k_X9_solveKnown_121 (x0 : Int) (x1 : Int) (x2 : Int) (x4 : Int) (x5 : Int) (x6 : Int) (d7 : aL) (d8 : aL) (M : aM) (W : aW) (Q : aM → aW → Prop) (h :
  (okO 86 9 x0 = true) ∧ (okO 86 3 (M x0 4) = true) ∧ (inI x6 ∧ inI (M (M x0 4) 0)) ∧ 
  ((x6 > (M (M x0 4) 0) → Q M W) ∧
  (¬ x6 > (M (M x0 4) 0) → (inI x5) ∧ 
    ((x5 = 0 → Q M W) ∧
    (¬ x5 = 0 → Xs 110 (144, [some (some (vR x0)), some (some (vI x1)), some (some (vL x2)), some none, some (some (vI x4)), some (some (vI 0)), some (some (vI x6)), some (some (vI 0)), d8], [], (M, W)) (QV Q)))))) : Xs 110 (121, [some (some (vR x0)), some (some (vI x1)), some (some (vL x2)), some none, some (some (vI x4)), some (some (vI x5)), some (some (vI x6)), d7, d8], [], (M, W)) (QV Q) :=
  wpN_X (cut := fun p => Nat.beq p 9 || Nat.beq p 121 || Nat.beq p 144) 16 _ _ h
set_option maxRecDepth 20000 in
theorem k_X9_solveKnown_144 (x0 : Int) (x1 : Int) (x2 : Int) (x4 : Int) (x5 : Int) (x6 : Int) (x7 : Int) (d8 : aL) (M : aM) (W : aW) (Q : aM → aW → Prop) (h :
  (okO 86 9 x0 = true) ∧ (okO 86 3 (M x0 4) = true) ∧ (inI x7 ∧ inI (M (M x0 4) 0)) ∧ 
  ((x7 ≥ (M (M x0 4) 0) → Xs 110 (121, [some (some (vR x0)), some (some (vI x1)), some (some (vL x2)), some none, some (some (vI x4)), some (some (vI x5)), some (some (vI (x6 + 1))), some (some (vI x7)), d8], [], (M, W)) (QV Q)) ∧
  (¬ x7 ≥ (M (M x0 4) 0) → (okO 86 9 x0 = true) ∧ (okO 86 3 (M x0 4) = true) ∧ (inI x7 ∧ inI (M (M x0 4) 7)) ∧ 
    ((x7 = (M (M x0 4) 7) → (inI 1) ∧ 
      (((1 : Int) ≠ 0 → Xs 110 (144, [some (some (vR x0)), some (some (vI x1)), some (some (vL x2)), some none, some (some (vI x4)), some (some (vI x5)), some (some (vI x6)), some (some (vI (x7 + 1))), some (some (vI 1))], [], (M, W)) (QV Q)) ∧
      (¬ (1 : Int) ≠ 0 → (okO 86 9 x0 = true) ∧ CallI 111 [vR x0, vI x7, vI x1] (M, W) (fun r3 M1 W2 => (inI r3) ∧ 
        ((r3 = 0 → Xs 110 (144, [some (some (vR x0)), some (some (vI x1)), some (some (vL x2)), some none, some (some (vI x4)), some (some (vI x5)), some (some (vI x6)), some (some (vI (x7 + 1))), some (some (vI 1))], [], (M1, W2)) (QV Q)) ∧
        (¬ r3 = 0 → Xs 110 (144, [some (some (vR x0)), some (some (vI x1)), some (some (vL x2)), some none, some (some (vI x4)), some (some (vI 1)), some (some (vI x6)), some (some (vI (x7 + 1))), some (some (vI 1))], [], (M1, W2)) (QV Q))))))) ∧
    (¬ x7 = (M (M x0 4) 7) → (okO 86 9 x0 = true) ∧ (okO 86 9 x0 = true) ∧ (okO 86 3 (M x0 4) = true) ∧ (okO 86 20 ((M x0 4) + 5) = true ∧ 0 ≤ x7 ∧ x7 < ln_ ((M x0 4) + 5)) ∧ CallI 25 [vR 27, vI x1, vI (M ((M x0 4) + 5) x7)] (M, W) (fun r6 M4 W5 => (inI r6) ∧ 
      ((r6 < 0 → (inI 0) ∧ 
        (((0 : Int) ≠ 0 → Xs 110 (144, [some (some (vR x0)), some (some (vI x1)), some (some (vL x2)), some none, some (some (vI x4)), some (some (vI x5)), some (some (vI x6)), some (some (vI (x7 + 1))), some (some (vI 0))], [], (M4, W5)) (QV Q)) ∧
        (¬ (0 : Int) ≠ 0 → (okO 86 9 x0 = true) ∧ CallI 111 [vR x0, vI x7, vI x1] (M4, W5) (fun r9 M7 W8 => (inI r9) ∧ 
          ((r9 = 0 → Xs 110 (144, [some (some (vR x0)), some (some (vI x1)), some (some (vL x2)), some none, some (some (vI x4)), some (some (vI x5)), some (some (vI x6)), some (some (vI (x7 + 1))), some (some (vI 0))], [], (M7, W8)) (QV Q)) ∧
          (¬ r9 = 0 → Xs 110 (144, [some (some (vR x0)), some (some (vI x1)), some (some (vL x2)), some none, some (some (vI x4)), some (some (vI 1)), some (some (vI x6)), some (some (vI (x7 + 1))), some (some (vI 0))], [], (M7, W8)) (QV Q))))))) ∧
      (¬ r6 < 0 → (inI 1) ∧ 
        (((1 : Int) ≠ 0 → Xs 110 (144, [some (some (vR x0)), some (some (vI x1)), some (some (vL x2)), some none, some (some (vI x4)), some (some (vI x5)), some (some (vI x6)), some (some (vI (x7 + 1))), some (some (vI 1))], [], (M4, W5)) (QV Q)) ∧
        (¬ (1 : Int) ≠ 0 → (okO 86 9 x0 = true) ∧ CallI 111 [vR x0, vI x7, vI x1] (M4, W5) (fun r12 M10 W11 => (inI r12) ∧ 
          ((r12 = 0 → Xs 110 (144, [some (some (vR x0)), some (some (vI x1)), some (some (vL x2)), some none, some (some (vI x4)), some (some (vI x5)), some (some (vI x6)), some (some (vI (x7 + 1))), some (some (vI 1))], [], (M10, W11)) (QV Q)) ∧
          (¬ r12 = 0 → Xs 110 (144, [some (some (vR x0)), some (some (vI x1)), some (some (vL x2)), some none, some (some (vI x4)), some (some (vI 1)), some (some (vI x6)), some (some (vI (x7 + 1))), some (some (vI 1))], [], (M10, W11)) (QV Q)))))))))))))) : Xs 110 (144, [some (some (vR x0)), some (some (vI x1)), some (some (vL x2)), some none, some (some (vI x4)), some (some (vI x5)), some (some (vI x6)), some (some (vI x7)), d8], [], (M, W)) (QV Q) :=
  wpN_X (cut := fun p => Nat.beq p 9 || Nat.beq p 121 || Nat.beq p 144) 87 _ _ h
set_option maxRecDepth 20000 in
theorem e_X9_improve (x0 : Int) (x1 : Int) (x2 : Int) (M : aM) (W : aW) (Q : Int → aM → aW → Prop) (h :
  (∀ v1 : Int, v1 = x2 * 10 → Xs 111 (17, [some (some (vR x0)), some (some (vI x1)), some (some (vI x2)), some (some (vI v1)), some (some (vL 1152921504606846976)), some none, some (some (vI (-2))), some (some (vI 0)), none, none, none], [], (M, W)) (QI Q))) : CallI 111 [vR x0, vI x1, vI x2] (M, W) Q :=
  wpN_X (cut := fun p => Nat.beq p 17 || Nat.beq p 108) 13 _ _ h
set_option maxRecDepth 20000 in
theorem k_X9_improve_17 (x0 : Int) (x1 : Int) (x2 : Int) (x3 : Int) (x4 : Int) (x6 : Int) (x7 : Int) (d8 : aL) (d9 : aL) (d10 : aL) (M : aM) (W : aW) (Q : Int → aM → aW → Prop) (h :
  (okO 86 9 x0 = true) ∧ (okO 86 3 (M x0 4) = true) ∧ (inI x7 ∧ inI (M (M x0 4) 0)) ∧ 
  ((x7 ≥ (M (M x0 4) 0) → Xs 111 (108, [some (some (vR x0)), some (some (vI x1)), some (some (vI x2)), some (some (vI x3)), some (some (vL x4)), some none, some (some (vI x6)), some (some (vI 0)), d8, d9, d10], [], (M, W)) (QI Q)) ∧
  (¬ x7 ≥ (M (M x0 4) 0) → (okO 86 9 x0 = true) ∧ (okO 86 20 (x0 + 3) = true ∧ 0 ≤ ((x1 * 10) + x7) ∧ ((x1 * 10) + x7) < ln_ (x0 + 3)) ∧ (∀ v1 : Int, v1 = M (x0 + 3) ((x1 * 10) + x7) → (inI v1) ∧ 
    ((v1 ≤ 0 → Xs 111 (17, [some (some (vR x0)), some (some (vI x1)), some (some (vI x2)), some (some (vI x3)), some (some (vL x4)), some none, some (some (vI x6)), some (some (vI (x7 + 1))), some (some (vI v1)), d9, d10], [], (M, W)) (QI Q)) ∧
    (¬ v1 ≤ 0 → (okO 86 9 x0 = true) ∧ (okO 86 21 (x0 + 1) = true ∧ 0 ≤ (x3 + x7) ∧ (x3 + x7) < ln_ (x0 + 1)) ∧ (inL (M (x0 + 1) (x3 + x7)) ∧ inL 1152921504606846976) ∧
      (((M (x0 + 1) (x3 + x7)) ≥ 1152921504606846976 → Xs 111 (17, [some (some (vR x0)), some (some (vI x1)), some (some (vI x2)), some (some (vI x3)), some (some (vL x4)), some none, some (some (vI x6)), some (some (vI (x7 + 1))), some (some (vI v1)), d9, d10], [], (M, W)) (QI Q)) ∧
      (¬ (M (x0 + 1) (x3 + x7)) ≥ 1152921504606846976 → (okO 86 9 x0 = true) ∧ (okO 86 21 (x0 + 1) = true ∧ 0 ≤ (x3 + x7) ∧ (x3 + x7) < ln_ (x0 + 1)) ∧ (okO 86 9 x0 = true) ∧ CallL 112 [vR x0, vI v1, vI x2] (M, W) (fun r4 M2 W3 => (∀ v5 : Int, v5 = (M (x0 + 1) (x3 + x7)) + r4 → (inL v5 ∧ inL x4) ∧
        ((v5 ≥ x4 → Xs 111 (17, [some (some (vR x0)), some (some (vI x1)), some (some (vI x2)), some (some (vI x3)), some (some (vL x4)), some none, some (some (vI x6)), some (some (vI (x7 + 1))), some (some (vI v1)), some (some (vL v5)), some none], [], (M2, W3)) (QI Q)) ∧
        (¬ v5 ≥ x4 → Xs 111 (17, [some (some (vR x0)), some (some (vI x1)), some (some (vI x2)), some (some (vI x3)), some (some (vL v5)), some none, some (some (vI x7)), some (some (vI (x7 + 1))), some (some (vI v1)), some (some (vL v5)), some none], [], (M2, W3)) (QI Q))))))))))))) : Xs 111 (17, [some (some (vR x0)), some (some (vI x1)), some (some (vI x2)), some (some (vI x3)), some (some (vL x4)), some none, some (some (vI x6)), some (some (vI x7)), d8, d9, d10], [], (M, W)) (QI Q) :=
  wpN_X (cut := fun p => Nat.beq p 17 || Nat.beq p 108) 60 _ _ h
set_option maxRecDepth 20000 in
theorem k_X9_improve_108 (x0 : Int) (x1 : Int) (x2 : Int) (x3 : Int) (x4 : Int) (x6 : Int) (x7 : Int) (d8 : aL) (d9 : aL) (d10 : aL) (M : aM) (W : aW) (Q : Int → aM → aW → Prop) (h :
  (okO 86 9 x0 = true) ∧ (okO 86 3 (M x0 4) = true) ∧ (inI x7 ∧ inI (M (M x0 4) 5)) ∧ 
  ((x7 ≥ (M (M x0 4) 5) → (okO 86 9 x0 = true) ∧ (okO 86 21 (x0 + 1) = true ∧ 0 ≤ (x3 + x1) ∧ (x3 + x1) < ln_ (x0 + 1)) ∧ (inL x4 ∧ inL (M (x0 + 1) (x3 + x1))) ∧
    ((x4 ≥ (M (x0 + 1) (x3 + x1)) → (okO 86 9 x0 = true) ∧ (okO 86 21 (x0 + 1) = true ∧ 0 ≤ (x3 + x1) ∧ (x3 + x1) < ln_ (x0 + 1)) ∧ (okO 86 9 x0 = true) ∧ (okO 86 20 (x0 + 2) = true ∧ 0 ≤ (x3 + x1) ∧ (x3 + x1) < ln_ (x0 + 2)) ∧ ((0 : Int) = 0 ∨ (0 : Int) = 1) ∧ Q 0 (up_ (up_ M (x0 + 1) (x3 + x1) x4) (x0 + 2) (x3 + x1) x6) W) ∧
    (¬ x4 ≥ (M (x0 + 1) (x3 + x1)) → (okO 86 9 x0 = true) ∧ (okO 86 21 (x0 + 1) = true ∧ 0 ≤ (x3 + x1) ∧ (x3 + x1) < ln_ (x0 + 1)) ∧ (okO 86 9 x0 = true) ∧ (okO 86 20 (x0 + 2) = true ∧ 0 ≤ (x3 + x1) ∧ (x3 + x1) < ln_ (x0 + 2)) ∧ ((1 : Int) = 0 ∨ (1 : Int) = 1) ∧ Q 1 (up_ (up_ M (x0 + 1) (x3 + x1) x4) (x0 + 2) (x3 + x1) x6) W))) ∧
  (¬ x7 ≥ (M (M x0 4) 5) → (okO 86 9 x0 = true) ∧ (okO 86 3 (M x0 4) = true) ∧ (okO 86 20 ((M x0 4) + 7) = true ∧ 0 ≤ x7 ∧ x7 < ln_ ((M x0 4) + 7)) ∧ (∀ v1 : Int, v1 = M ((M x0 4) + 7) x7 → (okO 86 9 x0 = true) ∧ (okO 86 3 (M x0 4) = true) ∧ (okO 86 20 ((M x0 4) + 6) = true ∧ 0 ≤ x7 ∧ x7 < ln_ ((M x0 4) + 6)) ∧ (inI (M ((M x0 4) + 6) x7) ∧ inI x1) ∧ 
    (((M ((M x0 4) + 6) x7) ≠ x1 → Xs 111 (108, [some (some (vR x0)), some (some (vI x1)), some (some (vI x2)), some (some (vI x3)), some (some (vL x4)), some none, some (some (vI x6)), some (some (vI (x7 + 1))), some (some (vI v1)), d9, d10], [], (M, W)) (QI Q)) ∧
    (¬ (M ((M x0 4) + 6) x7) ≠ x1 → (okO 86 9 x0 = true) ∧ CallI 22 [vR 27, vI x2, vI v1] (M, W) (fun r4 M2 W3 => (inI r4) ∧ 
      ((r4 ≠ 0 → Xs 111 (108, [some (some (vR x0)), some (some (vI x1)), some (some (vI x2)), some (some (vI x3)), some (some (vL x4)), some none, some (some (vI x6)), some (some (vI (x7 + 1))), some (some (vI v1)), d9, d10], [], (M2, W3)) (QI Q)) ∧
      (¬ r4 ≠ 0 → (okO 86 9 x0 = true) ∧ CallL 113 [vR x0, vI x1, vI x2, vI v1] (M2, W3) (fun r7 M5 W6 => (inL r7 ∧ inL 1152921504606846976) ∧
        ((r7 ≥ 1152921504606846976 → Xs 111 (108, [some (some (vR x0)), some (some (vI x1)), some (some (vI x2)), some (some (vI x3)), some (some (vL x4)), some none, some (some (vI x6)), some (some (vI (x7 + 1))), some (some (vI v1)), some (some (vL r7)), some none], [], (M5, W6)) (QI Q)) ∧
        (¬ r7 ≥ 1152921504606846976 → (okO 86 9 x0 = true) ∧ (okO 86 3 (M5 x0 4) = true) ∧ (okO 86 20 ((M5 x0 4) + 8) = true ∧ 0 ≤ x7 ∧ x7 < ln_ ((M5 x0 4) + 8)) ∧ (okO 86 9 x0 = true) ∧ CallL 112 [vR x0, vI (M5 ((M5 x0 4) + 8) x7), vI x2] (M5, W6) (fun r10 M8 W9 => (inL (r7 + r10) ∧ inL x4) ∧
          (((r7 + r10) ≥ x4 → Xs 111 (108, [some (some (vR x0)), some (some (vI x1)), some (some (vI x2)), some (some (vI x3)), some (some (vL x4)), some none, some (some (vI x6)), some (some (vI (x7 + 1))), some (some (vI v1)), some (some (vL r7)), some none], [], (M8, W9)) (QI Q)) ∧
          (¬ (r7 + r10) ≥ x4 → (okO 86 9 x0 = true) ∧ (okO 86 3 (M8 x0 4) = true) ∧ (okO 86 20 ((M8 x0 4) + 8) = true ∧ 0 ≤ x7 ∧ x7 < ln_ ((M8 x0 4) + 8)) ∧ (okO 86 9 x0 = true) ∧ CallL 112 [vR x0, vI (M8 ((M8 x0 4) + 8) x7), vI x2] (M8, W9) (fun r13 M11 W12 => (∀ v14 : Int, v14 = r7 + r13 → (∀ v15 : Int, v15 = 100 + x7 → Xs 111 (108, [some (some (vR x0)), some (some (vI x1)), some (some (vI x2)), some (some (vI x3)), some (some (vL v14)), some none, some (some (vI v15)), some (some (vI (x7 + 1))), some (some (vI v1)), some (some (vL r7)), some none], [], (M11, W12)) (QI Q))))))))))))))))))) : Xs 111 (108, [some (some (vR x0)), some (some (vI x1)), some (some (vI x2)), some (some (vI x3)), some (some (vL x4)), some none, some (some (vI x6)), some (some (vI x7)), d8, d9, d10], [], (M, W)) (QI Q) :=
  wpN_X (cut := fun p => Nat.beq p 17 || Nat.beq p 108) 122 _ _ h
set_option maxRecDepth 20000 in
theorem e_X9_cost (x0 : Int) (x1 : Int) (x2 : Int) (M : aM) (W : aW) (Q : Int → aM → aW → Prop) (h :
  (okO 86 9 x0 = true) ∧ (inI (M x0 6)) ∧ 
  (((M x0 6) = 0 → (inI x1) ∧ Q x1 M W) ∧
  (¬ (M x0 6) = 0 → (inI x1) ∧ (okO 86 9 x0 = true) ∧ (okO 86 21 (M x0 5) = true ∧ 0 ≤ x2 ∧ x2 < ln_ (M x0 5)) ∧ Q (x1 * (M (M x0 5) x2)) M W))) : CallL 112 [vR x0, vI x1, vI x2] (M, W) Q :=
  wpN_X (cut := fun p => false) 17 _ _ h
set_option maxRecDepth 20000 in
theorem e_X9_learnt (x0 : Int) (x1 : Int) (x2 : Int) (x3 : Int) (M : aM) (W : aW) (Q : Int → aM → aW → Prop) (h :
  (0 ≤ x3 ∧ x3 < 7) ∧ (∀ v1 : Int, v1 = x2 + (thr_ x3) → (0 ≤ x3 ∧ x3 < 7) ∧ (∀ v2 : Int, v2 = v1 + (thr_ x3) → (okO 86 9 x0 = true) ∧ (okO 86 21 (x0 + 1) = true ∧ 0 ≤ ((v1 * 10) + x1) ∧ ((v1 * 10) + x1) < ln_ (x0 + 1)) ∧ (∀ v3 : Int, v3 = M (x0 + 1) ((v1 * 10) + x1) → (okO 86 9 x0 = true) ∧ (okO 86 21 (x0 + 1) = true ∧ 0 ≤ ((v2 * 10) + x1) ∧ ((v2 * 10) + x1) < ln_ (x0 + 1)) ∧ (∀ v4 : Int, v4 = M (x0 + 1) ((v2 * 10) + x1) → (okO 86 9 x0 = true) ∧ (okO 86 21 (M x0 5) = true ∧ 0 ≤ v1 ∧ v1 < ln_ (M x0 5)) ∧ (inL (M (M x0 5) v1) ∧ inL 0) ∧
  (((M (M x0 5) v1) ≤ 0 → (okO 86 9 x0 = true) ∧ (okO 86 21 (M x0 5) = true ∧ 0 ≤ v1 ∧ v1 < ln_ (M x0 5)) ∧ (inL (M (M x0 5) v1) ∧ inL 0) ∧
    (((M (M x0 5) v1) > 0 → Q v3 M W) ∧
    (¬ (M (M x0 5) v1) > 0 → Q v4 M W))) ∧
  (¬ (M (M x0 5) v1) ≤ 0 → (okO 86 9 x0 = true) ∧ (okO 86 21 (M x0 5) = true ∧ 0 ≤ v2 ∧ v2 < ln_ (M x0 5)) ∧ (inL (M (M x0 5) v2) ∧ inL 0) ∧
    (((M (M x0 5) v2) > 0 → (inL v3 ∧ inL 1152921504606846976) ∧
      ((v3 ≥ 1152921504606846976 → Q 1152921504606846976 M W) ∧
      (¬ v3 ≥ 1152921504606846976 → (inL v4 ∧ inL 1152921504606846976) ∧
        ((v4 < 1152921504606846976 → (okO 86 9 x0 = true) ∧ (inI (M x0 6)) ∧ 
          (((M x0 6) = 0 → (inL v3 ∧ inL v4) ∧ Q (max_ v3 v4) M W) ∧
          (¬ (M x0 6) = 0 → Q (v3 + v4) M W))) ∧
        (¬ v4 < 1152921504606846976 → Q 1152921504606846976 M W))))) ∧
    (¬ (M (M x0 5) v2) > 0 → (okO 86 9 x0 = true) ∧ (okO 86 21 (M x0 5) = true ∧ 0 ≤ v1 ∧ v1 < ln_ (M x0 5)) ∧ (inL (M (M x0 5) v1) ∧ inL 0) ∧
      (((M (M x0 5) v1) > 0 → Q v3 M W) ∧
      (¬ (M (M x0 5) v1) > 0 → Q v4 M W))))))))))) : CallL 113 [vR x0, vI x1, vI x2, vI x3] (M, W) Q :=
  wpN_X (cut := fun p => false) 88 _ _ h
set_option maxRecDepth 20000 in
theorem e_X11_init  (M : aM) (F : aM) (dl : Int → Int) (sz ns : Int) (Q : aM → aW → Prop) (h :
  ((0 : Int) ≤ 0) ∧ (0 ≤ sz ∧ sz < 126 ∧ knd sz = 22 ∧ ln_ sz = 600) ∧ (okD ((ce_ M sz (fun _ => 0)), (F, dl, sz + 1, ns + 600)) 11 0 = true) ∧ (okD ((ce_ M sz (fun _ => 0)), ((up_ F 0 0 (sz)), dl, sz + 1, ns + 600)) 11 0 = true) ∧ (0 ≤ sz + 1 ∧ sz + 1 < 126 ∧ knd (sz + 1) = 3) ∧ (okD ((ce_ (up_ (ce_ M sz (fun _ => 0)) 0 3 (-1)) (sz + 1) (dfl_ 3)), (ce_ (up_ F 0 0 (sz)) (sz + 1) (fun _ => -1), dl, sz + 1 + 1, ns + 600 + 16)) 3 (sz + 1) = true) ∧ CallV 26 [vR (sz + 1)] ((ce_ (up_ (ce_ M sz (fun _ => 0)) 0 3 (-1)) (sz + 1) (dfl_ 3)), (ce_ (up_ F 0 0 (sz)) (sz + 1) (fun _ => -1), dl, sz + 1 + 1, ns + 600 + 16)) (fun M1 W2 => (okD (M1, W2) 11 0 = true) ∧ (0 ≤ W2.2.2.1 ∧ W2.2.2.1 < 126 ∧ knd W2.2.2.1 = 3) ∧ (okD ((ce_ (up_ M1 0 4 (sz + 1)) W2.2.2.1 (dfl_ 3)), (ce_ W2.1 W2.2.2.1 (fun _ => -1), W2.2.1, W2.2.2.1 + 1, W2.2.2.2 + 16)) 3 (W2.2.2.1) = true) ∧ CallV 26 [vR (W2.2.2.1)] ((ce_ (up_ M1 0 4 (sz + 1)) W2.2.2.1 (dfl_ 3)), (ce_ W2.1 W2.2.2.1 (fun _ => -1), W2.2.1, W2.2.2.1 + 1, W2.2.2.2 + 16)) (fun M3 W4 => (okD (M3, W4) 11 0 = true) ∧ (0 ≤ W4.2.2.1 ∧ W4.2.2.1 < 126 ∧ knd W4.2.2.1 = 8) ∧ (okD ((ce_ (up_ M3 0 5 (W2.2.2.1)) W4.2.2.1 (dfl_ 8)), (ce_ W4.1 W4.2.2.1 (fun _ => -1), W4.2.1, W4.2.2.1 + 1, W4.2.2.2 + 13)) 11 0 = true) ∧ (okD ((ce_ (up_ M3 0 5 (W2.2.2.1)) W4.2.2.1 (dfl_ 8)), (ce_ W4.1 W4.2.2.1 (fun _ => -1), W4.2.1, W4.2.2.1 + 1, W4.2.2.2 + 13)) 8 (W4.2.2.1) = true) ∧ CallV 82 [vR (W4.2.2.1), vR ((ce_ (up_ M3 0 5 (W2.2.2.1)) W4.2.2.1 (dfl_ 8)) 0 5)] ((ce_ (up_ M3 0 5 (W2.2.2.1)) W4.2.2.1 (dfl_ 8)), (ce_ W4.1 W4.2.2.1 (fun _ => -1), W4.2.1, W4.2.2.1 + 1, W4.2.2.2 + 13)) (fun M5 W6 => (okD (M5, W6) 11 0 = true) ∧ (0 ≤ W6.2.2.1 ∧ W6.2.2.1 < 126 ∧ knd W6.2.2.1 = 2) ∧ (okD ((ce_ M5 W6.2.2.1 (dfl_ 2)), (ce_ (up_ W6.1 0 6 (W4.2.2.1)) W6.2.2.1 (fun _ => -1), W6.2.1, W6.2.2.1 + 1, W6.2.2.2 + 3)) 2 (W6.2.2.1) = true) ∧ CallV 21 [vR (W6.2.2.1)] ((ce_ M5 W6.2.2.1 (dfl_ 2)), (ce_ (up_ W6.1 0 6 (W4.2.2.1)) W6.2.2.1 (fun _ => -1), W6.2.1, W6.2.2.1 + 1, W6.2.2.2 + 3)) (fun M7 W8 => (okD (M7, W8) 11 0 = true) ∧ (0 ≤ W8.2.2.1 ∧ W8.2.2.1 < 126 ∧ knd W8.2.2.1 = 4) ∧ (okD ((ce_ M7 W8.2.2.1 (dfl_ 4)), (ce_ (up_ W8.1 0 7 (W6.2.2.1)) W8.2.2.1 (fun _ => -1), W8.2.1, W8.2.2.1 + 1, W8.2.2.2 + 5)) 4 (W8.2.2.1) = true) ∧ CallV 43 [vR (W8.2.2.1)] ((ce_ M7 W8.2.2.1 (dfl_ 4)), (ce_ (up_ W8.1 0 7 (W6.2.2.1)) W8.2.2.1 (fun _ => -1), W8.2.1, W8.2.2.1 + 1, W8.2.2.2 + 5)) (fun M9 W10 => (okD (M9, W10) 11 0 = true) ∧ (0 ≤ W10.2.2.1 ∧ W10.2.2.1 < 126 ∧ knd W10.2.2.1 = 7) ∧ (okD ((ce_ M9 W10.2.2.1 (dfl_ 7)), (ce_ (up_ W10.1 0 8 (W8.2.2.1)) W10.2.2.1 (fun _ => -1), W10.2.1, W10.2.2.1 + 1, W10.2.2.2 + 17)) 11 0 = true) ∧ (okD ((ce_ M9 W10.2.2.1 (dfl_ 7)), (ce_ (up_ W10.1 0 8 (W8.2.2.1)) W10.2.2.1 (fun _ => -1), W10.2.1, W10.2.2.1 + 1, W10.2.2.2 + 17)) 11 0 = true) ∧ (okD ((ce_ M9 W10.2.2.1 (dfl_ 7)), (ce_ (up_ W10.1 0 8 (W8.2.2.1)) W10.2.2.1 (fun _ => -1), W10.2.1, W10.2.2.1 + 1, W10.2.2.2 + 17)) 11 0 = true) ∧ (okD ((ce_ M9 W10.2.2.1 (dfl_ 7)), (ce_ (up_ W10.1 0 8 (W8.2.2.1)) W10.2.2.1 (fun _ => -1), W10.2.1, W10.2.2.1 + 1, W10.2.2.2 + 17)) 7 (W10.2.2.1) = true) ∧ CallV 64 [vR (W10.2.2.1), vR (ce_ (up_ W10.1 0 8 (W8.2.2.1)) W10.2.2.1 (fun _ => -1) 0 7), vR (ce_ (up_ W10.1 0 8 (W8.2.2.1)) W10.2.2.1 (fun _ => -1) 0 8), vR ((ce_ M9 W10.2.2.1 (dfl_ 7)) 0 4)] ((ce_ M9 W10.2.2.1 (dfl_ 7)), (ce_ (up_ W10.1 0 8 (W8.2.2.1)) W10.2.2.1 (fun _ => -1), W10.2.1, W10.2.2.1 + 1, W10.2.2.2 + 17)) (fun M11 W12 => (okD (M11, W12) 11 0 = true) ∧ (0 ≤ W12.2.2.1 ∧ W12.2.2.1 < 126 ∧ knd W12.2.2.1 = 0) ∧ (okD ((ce_ M11 W12.2.2.1 (dfl_ 0)), (ce_ (up_ W12.1 0 9 (W10.2.2.1)) W12.2.2.1 (fun _ => -1), W12.2.1, W12.2.2.1 + 1, W12.2.2.2 + 11)) 11 0 = true) ∧ (okD ((ce_ M11 W12.2.2.1 (dfl_ 0)), (ce_ (up_ W12.1 0 9 (W10.2.2.1)) W12.2.2.1 (fun _ => -1), W12.2.1, W12.2.2.1 + 1, W12.2.2.2 + 11)) 11 0 = true) ∧ (okD ((ce_ M11 W12.2.2.1 (dfl_ 0)), (ce_ (up_ W12.1 0 9 (W10.2.2.1)) W12.2.2.1 (fun _ => -1), W12.2.1, W12.2.2.1 + 1, W12.2.2.2 + 11)) 11 0 = true) ∧ (okD ((ce_ M11 W12.2.2.1 (dfl_ 0)), (ce_ (up_ W12.1 0 9 (W10.2.2.1)) W12.2.2.1 (fun _ => -1), W12.2.1, W12.2.2.1 + 1, W12.2.2.2 + 11)) 0 (W12.2.2.1) = true) ∧ CallV 0 [vR (W12.2.2.1), vR (ce_ (up_ W12.1 0 9 (W10.2.2.1)) W12.2.2.1 (fun _ => -1) 0 7), vR (ce_ (up_ W12.1 0 9 (W10.2.2.1)) W12.2.2.1 (fun _ => -1) 0 9), vR ((ce_ M11 W12.2.2.1 (dfl_ 0)) 0 4)] ((ce_ M11 W12.2.2.1 (dfl_ 0)), (ce_ (up_ W12.1 0 9 (W10.2.2.1)) W12.2.2.1 (fun _ => -1), W12.2.1, W12.2.2.1 + 1, W12.2.2.2 + 11)) (fun M13 W14 => (okD (M13, W14) 11 0 = true) ∧ (0 ≤ W14.2.2.1 ∧ W14.2.2.1 < 126 ∧ knd W14.2.2.1 = 1) ∧ (okD ((ce_ M13 W14.2.2.1 (dfl_ 1)), (ce_ (up_ W14.1 0 10 (W12.2.2.1)) W14.2.2.1 (fun _ => -1), W14.2.1, W14.2.2.1 + 1, W14.2.2.2 + 6)) 11 0 = true) ∧ (okD ((ce_ M13 W14.2.2.1 (dfl_ 1)), (ce_ (up_ W14.1 0 10 (W12.2.2.1)) W14.2.2.1 (fun _ => -1), W14.2.1, W14.2.2.1 + 1, W14.2.2.2 + 6)) 11 0 = true) ∧ (okD ((ce_ M13 W14.2.2.1 (dfl_ 1)), (ce_ (up_ W14.1 0 10 (W12.2.2.1)) W14.2.2.1 (fun _ => -1), W14.2.1, W14.2.2.1 + 1, W14.2.2.2 + 6)) 1 (W14.2.2.1) = true) ∧ CallV 12 [vR (W14.2.2.1), vR (ce_ (up_ W14.1 0 10 (W12.2.2.1)) W14.2.2.1 (fun _ => -1) 0 7), vR ((ce_ M13 W14.2.2.1 (dfl_ 1)) 0 4)] ((ce_ M13 W14.2.2.1 (dfl_ 1)), (ce_ (up_ W14.1 0 10 (W12.2.2.1)) W14.2.2.1 (fun _ => -1), W14.2.1, W14.2.2.1 + 1, W14.2.2.2 + 6)) (fun M15 W16 => (okD (M15, W16) 11 0 = true) ∧ (0 ≤ W16.2.2.1 ∧ W16.2.2.1 < 126 ∧ knd W16.2.2.1 = 5) ∧ (okD ((ce_ M15 W16.2.2.1 (dfl_ 5)), (ce_ (up_ W16.1 0 11 (W14.2.2.1)) W16.2.2.1 (fun _ => -1), W16.2.1, W16.2.2.1 + 1, W16.2.2.2 + 7)) 11 0 = true) ∧ (okD ((ce_ M15 W16.2.2.1 (dfl_ 5)), (ce_ (up_ W16.1 0 11 (W14.2.2.1)) W16.2.2.1 (fun _ => -1), W16.2.1, W16.2.2.1 + 1, W16.2.2.2 + 7)) 5 (W16.2.2.1) = true) ∧ CallV 46 [vR (W16.2.2.1), vR (ce_ (up_ W16.1 0 11 (W14.2.2.1)) W16.2.2.1 (fun _ => -1) 0 7)] ((ce_ M15 W16.2.2.1 (dfl_ 5)), (ce_ (up_ W16.1 0 11 (W14.2.2.1)) W16.2.2.1 (fun _ => -1), W16.2.1, W16.2.2.1 + 1, W16.2.2.2 + 7)) (fun M17 W18 => (okD (M17, W18) 11 0 = true) ∧ (okD (M17, ((up_ W18.1 0 12 (W16.2.2.1)), W18.2.1, W18.2.2.1, W18.2.2.2)) 11 0 = true ∧ bld_ 86 (M17, ((up_ W18.1 0 12 (W16.2.2.1)), W18.2.1, W18.2.2.1, W18.2.2.2))) ∧ CallV 149 [vR 0] (M17, ((up_ W18.1 0 12 (W16.2.2.1)), W18.2.1, W18.2.2.1, W18.2.2.2)) (fun M19 W20 => Q M19 W20))))))))))) : CallV 118 [vR 0] (M, (F, dl, sz, ns)) Q :=
  wpN_X (cut := fun p => false) 79 _ _ h
set_option maxRecDepth 20000 in
theorem e_X11_feed (x1 : Int) (x2 : Int) (x3 : Int) (x4 : Int) (x5 : Int) (M : aM) (W : aW) (Q : Int → aM → aW → Prop) (h :
  (inI ((M 0 1) + 20)) ∧ 
  ((((M 0 1) + 20) ≤ 600 → CallV 148 [vR 0, vI x1] (M, W) (fun M1 W2 => CallV 148 [vR 0, vI x2] (M1, W2) (fun M3 W4 => CallV 148 [vR 0, vI x3] (M3, W4) (fun M5 W6 => CallV 148 [vR 0, vI x4] (M5, W6) (fun M7 W8 => CallV 148 [vR 0, vI x5] (M7, W8) (fun M9 W10 => Q (M9 0 1) M9 W10)))))) ∧
  (¬ ((M 0 1) + 20) ≤ 600 → Q (-1) M W))) : CallI 119 [vR 0, vI x1, vI x2, vI x3, vI x4, vI x5] (M, W) Q :=
  wpN_X (cut := fun p => false) 28 _ _ h
set_option maxRecDepth 20000 in
theorem e_X11_land (x1 : Int) (M : aM) (W : aW) (Q : Int → aM → aW → Prop) (h :
  (inI x1) ∧ 
  ((x1 < 0 → Q (-2) M W) ∧
  (¬ x1 < 0 → (inI x1 ∧ inI (M 0 1)) ∧ 
    ((x1 ≤ (M 0 1) → CallI 83 [vR 20, vR 1, vI x1, vR ((up_ M 0 1 0) 0 5)] ((up_ M 0 1 0), W) (fun r3 M1 W2 => (inI r3) ∧ 
      ((r3 ≥ 0 → CallV 149 [vR 0] ((up_ (up_ (up_ (up_ M1 0 2 (M1 20 11)) 0 3 ((up_ M1 0 2 (M1 20 11)) 20 12)) 0 4 ((up_ (up_ M1 0 2 (M1 20 11)) 0 3 ((up_ M1 0 2 (M1 20 11)) 20 12)) 0 5)) 0 5 ((up_ (up_ M1 0 2 (M1 20 11)) 0 3 ((up_ M1 0 2 (M1 20 11)) 20 12)) 0 4)), W2) (fun M4 W5 => Q r3 M4 W5)) ∧
      (¬ r3 ≥ 0 → Q (-1) (up_ (up_ M1 0 2 (M1 20 11)) 0 3 ((up_ M1 0 2 (M1 20 11)) 20 12)) W2)))) ∧
    (¬ x1 ≤ (M 0 1) → Q (-2) M W))))) : CallI 120 [vR 0, vI x1] (M, W) Q :=
  wpN_X (cut := fun p => false) 52 _ _ h
set_option maxRecDepth 20000 in
theorem e_X11_fault (x1 : Int) (M : aM) (W : aW) (Q : Int → aM → aW → Prop) (h :
  (inI x1) ∧ 
  ((x1 = 0 → Q (M 0 2) M W) ∧ (x1 ≠ 0 → 
  ((x1 = 1 → Q (M 0 3) M W) ∧ (x1 ≠ 1 → Q (-1) M W))))) : CallI 121 [vR 0, vI x1] (M, W) Q :=
  wpN_X (cut := fun p => false) 12 _ _ h
set_option maxRecDepth 20000 in
theorem e_X11_weight (x1 : Int) (M : aM) (W : aW) (Q : Int → aM → aW → Prop) (h :
  (okO 86 3 (M 0 4) = true) ∧ CallI 30 [vR (M 0 4), vI x1] (M, W) (fun r3 M1 W2 => (inI r3) ∧ 
  ((r3 = 0 → Q (-1) M1 W2) ∧
  (¬ r3 = 0 → (0 ≤ x1 ∧ x1 < 64) ∧ Q (M1 38 x1) M1 W2)))) : CallL 122 [vR 0, vI x1] (M, W) Q :=
  wpN_X (cut := fun p => false) 17 _ _ h
set_option maxRecDepth 20000 in
theorem e_X11_likely (x1 : Int) (M : aM) (W : aW) (Q : Int → aM → aW → Prop) (h :
  (okO 86 3 (M 0 4) = true) ∧ CallI 31 [vR (M 0 4), vI x1] (M, W) (fun r3 M1 W2 => (inI r3) ∧ 
  ((r3 = 0 → Q (-1) M1 W2) ∧
  (¬ r3 = 0 → (0 ≤ x1 ∧ x1 < 729) ∧ Q (M1 39 x1) M1 W2)))) : CallL 123 [vR 0, vI x1] (M, W) Q :=
  wpN_X (cut := fun p => false) 17 _ _ h
set_option maxRecDepth 20000 in
theorem e_X11_shut (x1 : Int) (x2 : Int) (M : aM) (W : aW) (Q : Int → aM → aW → Prop) (h :
  (okO 86 3 (M 0 4) = true) ∧ CallI 31 [vR (M 0 4), vI x1] (M, W) (fun r3 M1 W2 => (inI r3) ∧ 
  ((r3 = 0 → Q (-1) M1 W2) ∧
  (¬ r3 = 0 → (okO 86 3 (M1 0 4) = true) ∧ CallI 29 [vR (M1 0 4), vI x2] (M1, W2) (fun r6 M4 W5 => (inI r6) ∧ 
    ((r6 ≠ 0 → CallI 22 [vR 27, vI x1, vI x2] (M4, W5) (fun r9 M7 W8 => (inI r9) ∧ 
      ((r9 = 0 → (0 ≤ x2 ∧ x2 < 7) ∧ (0 ≤ (x1 + (2 * (thr_ x2))) ∧ (x1 + (2 * (thr_ x2))) < 729) ∧ Q (M7 39 (x1 + (2 * (thr_ x2)))) M7 W8) ∧ (r9 ≠ 0 → 
      ((r9 = 1 → Q 0 M7 W8) ∧ (r9 ≠ 1 → (0 ≤ x1 ∧ x1 < 729) ∧ Q (M7 39 x1) M7 W8)))))) ∧
    (¬ r6 ≠ 0 → Q (-1) M4 W5))))))) : CallL 124 [vR 0, vI x1, vI x2] (M, W) Q :=
  wpN_X (cut := fun p => false) 44 _ _ h
set_option maxRecDepth 20000 in
theorem e_X11_knowing (x1 : Int) (M : aM) (W : aW) (Q : Int → aM → aW → Prop) (h :
  (okO 86 3 (M 0 4) = true) ∧ CallI 30 [vR (M 0 4), vI x1] (M, W) (fun r3 M1 W2 => (inI r3) ∧ 
  ((r3 = 0 → Q (-1) M1 W2) ∧
  (¬ r3 = 0 → (okO 86 3 (M1 0 4) = true) ∧ CallI 32 [vR (M1 0 4)] (M1, W2) (fun r6 M4 W5 => (inI r6) ∧ 
    ((r6 ≠ 0 → CallI 68 [vR 36, vI x1] (M4, W5) (fun r9 M7 W8 => Q r9 M7 W8)) ∧
    (¬ r6 ≠ 0 → Q (-1) M4 W5))))))) : CallI 125 [vR 0, vI x1] (M, W) Q :=
  wpN_X (cut := fun p => false) 20 _ _ h
set_option maxRecDepth 20000 in
theorem e_X11_mean (x1 : Int) (M : aM) (W : aW) (Q : Int → aM → aW → Prop) (h :
  CallI 150 [vR 0, vI x1] (M, W) (fun r3 M1 W2 => (inI r3) ∧ 
  ((r3 = 0 → CallV 69 [vR 36, vI x1] (M1, W2) (fun M4 W5 => CallL 76 [vR 36, vI x1] (M4, W5) (fun r8 M6 W7 => Q r8 M6 W7))) ∧
  (¬ r3 = 0 → Q (-1) M1 W2)))) : CallL 126 [vR 0, vI x1] (M, W) Q :=
  wpN_X (cut := fun p => false) 17 _ _ h
set_option maxRecDepth 20000 in
theorem e_X11_worst (x1 : Int) (M : aM) (W : aW) (Q : Int → aM → aW → Prop) (h :
  CallI 150 [vR 0, vI x1] (M, W) (fun r3 M1 W2 => (inI r3) ∧ 
  ((r3 = 0 → CallV 69 [vR 36, vI x1] (M1, W2) (fun M4 W5 => CallI 77 [vR 36, vI x1] (M4, W5) (fun r8 M6 W7 => Q r8 M6 W7))) ∧
  (¬ r3 = 0 → Q (-1) M1 W2)))) : CallI 127 [vR 0, vI x1] (M, W) Q :=
  wpN_X (cut := fun p => false) 17 _ _ h
set_option maxRecDepth 20000 in
theorem e_X11_hours (x1 : Int) (x2 : Int) (M : aM) (W : aW) (Q : Int → aM → aW → Prop) (h :
  CallI 150 [vR 0, vI x1] (M, W) (fun r3 M1 W2 => (inI r3) ∧ 
  ((r3 ≠ 0 → Q (-1) M1 W2) ∧
  (¬ r3 ≠ 0 → (okO 86 3 (M1 0 4) = true) ∧ CallI 30 [vR (M1 0 4), vI x2] (M1, W2) (fun r6 M4 W5 => (inI r6) ∧ 
    ((r6 = 0 → Q (-1) M4 W5) ∧
    (¬ r6 = 0 → (0 ≤ x2 ∧ x2 < 64) ∧ (inL (M4 38 x2) ∧ inL 0) ∧
      (((M4 38 x2) > 0 → CallV 69 [vR 36, vI x1] (M4, W5) (fun M7 W8 => CallI 75 [vR 36, vI x1, vI x2] (M7, W8) (fun r11 M9 W10 => Q r11 M9 W10))) ∧
      (¬ (M4 38 x2) > 0 → Q (-1) M4 W5))))))))) : CallI 128 [vR 0, vI x1, vI x2] (M, W) Q :=
  wpN_X (cut := fun p => false) 35 _ _ h
set_option maxRecDepth 20000 in
theorem e_X11_times (x1 : Int) (x2 : Int) (M : aM) (W : aW) (Q : Int → aM → aW → Prop) (h :
  CallI 150 [vR 0, vI x1] (M, W) (fun r3 M1 W2 => (inI r3) ∧ 
  ((r3 ≠ 0 → Q (-1) M1 W2) ∧
  (¬ r3 ≠ 0 → (inI x2) ∧ 
    ((x2 < 0 → Q (-1) M1 W2) ∧
    (¬ x2 < 0 → (inI x2) ∧ 
      ((x2 ≤ 1 → CallV 69 [vR 36, vI x1] (M1, W2) (fun M4 W5 => CallI 78 [vR 36, vI x1] (M4, W5) (fun r8 M6 W7 => (inI r8) ∧ 
        ((r8 ≠ 0 → (inI x2) ∧ 
          ((x2 ≠ 0 → Q (M6 36 16) M6 W7) ∧
          (¬ x2 ≠ 0 → Q (M6 36 15) M6 W7))) ∧
        (¬ r8 ≠ 0 → Q (-2) M6 W7))))) ∧
      (¬ x2 ≤ 1 → Q (-1) M1 W2)))))))) : CallI 129 [vR 0, vI x1, vI x2] (M, W) Q :=
  wpN_X (cut := fun p => false) 39 _ _ h
set_option maxRecDepth 20000 in
theorem e_X11_next (x1 : Int) (x2 : Int) (x3 : Int) (M : aM) (W : aW) (Q : Int → aM → aW → Prop) (h :
  CallI 150 [vR 0, vI x1] (M, W) (fun r3 M1 W2 => (inI r3) ∧ 
  ((r3 ≠ 0 → Q (-1) M1 W2) ∧
  (¬ r3 ≠ 0 → (okO 86 3 (M1 0 4) = true) ∧ CallI 28 [vR (M1 0 4), vI x2] (M1, W2) (fun r6 M4 W5 => (inI r6) ∧ 
    ((r6 = 0 → Q (-1) M4 W5) ∧
    (¬ r6 = 0 → CallI 151 [vR 0, vI x3] (M4, W5) (fun r9 M7 W8 => (inI r9) ∧ 
      ((r9 ≠ 0 → (okO 86 3 (M7 0 4) = true) ∧ (okO 86 20 ((M7 0 4) + 5) = true ∧ 0 ≤ x2 ∧ x2 < ln_ ((M7 0 4) + 5)) ∧ CallI 25 [vR 27, vI x3, vI (M7 ((M7 0 4) + 5) x2)] (M7, W8) (fun r12 M10 W11 => (inI r12) ∧ 
        ((r12 < 0 → CallV 69 [vR 36, vI x1] (M10, W11) (fun M13 W14 => CallI 73 [vR 36, vI x1, vI x2, vI x3] (M13, W14) (fun r17 M15 W16 => Q r17 M15 W16))) ∧
        (¬ r12 < 0 → Q (-1) M10 W11)))) ∧
      (¬ r9 ≠ 0 → Q (-1) M7 W8)))))))))) : CallI 130 [vR 0, vI x1, vI x2, vI x3] (M, W) Q :=
  wpN_X (cut := fun p => false) 44 _ _ h
set_option maxRecDepth 20000 in
theorem e_X11_from (x1 : Int) (x2 : Int) (M : aM) (W : aW) (Q : Int → aM → aW → Prop) (h :
  (okO 86 3 (M 0 4) = true) ∧ CallI 28 [vR (M 0 4), vI x1] (M, W) (fun r3 M1 W2 => (inI r3) ∧ 
  ((r3 = 0 → Q (-1) M1 W2) ∧
  (¬ r3 = 0 → CallI 151 [vR 0, vI x2] (M1, W2) (fun r6 M4 W5 => (inI r6) ∧ 
    ((r6 = 0 → Q (-1) M4 W5) ∧
    (¬ r6 = 0 → (okO 86 3 (M4 0 4) = true) ∧ (inI (M4 (M4 0 4) 7)) ∧ 
      (((M4 (M4 0 4) 7) ≥ 0 → CallV 69 [vR 36, vI 0] (M4, W5) (fun M7 W8 => CallL 107 [vR 50, vI x1, vI x2] (M7, W8) (fun r11 M9 W10 => Q r11 M9 W10))) ∧
      (¬ (M4 (M4 0 4) 7) ≥ 0 → Q (-1) M4 W5))))))))) : CallL 131 [vR 0, vI x1, vI x2] (M, W) Q :=
  wpN_X (cut := fun p => false) 32 _ _ h
set_option maxRecDepth 20000 in
theorem e_X11_row (x1 : Int) (M : aM) (W : aW) (Q : Int → aM → aW → Prop) (h :
  (okO 86 3 (M 0 4) = true) ∧ CallI 29 [vR (M 0 4), vI x1] (M, W) (fun r3 M1 W2 => (inI r3) ∧ 
  ((r3 = 0 → Q (-1) M1 W2) ∧
  (¬ r3 = 0 → CallI 66 [vR 36, vI x1] (M1, W2) (fun r6 M4 W5 => (inI r6) ∧ 
    ((r6 = 0 → CallI 67 [vR 36, vI x1] (M4, W5) (fun r9 M7 W8 => Q r9 M7 W8)) ∧
    (¬ r6 = 0 → Q (-1) M4 W5))))))) : CallI 132 [vR 0, vI x1] (M, W) Q :=
  wpN_X (cut := fun p => false) 21 _ _ h
set_option maxRecDepth 20000 in
theorem e_X11_clear  (M : aM) (W : aW) (Q : Int → aM → aW → Prop) (h :
  (∀ v1 : Int, v1 = M 36 11 → Q v1 (up_ M 36 11 0) W)) : CallI 133 [vR 0] (M, W) Q :=
  wpN_X (cut := fun p => false) 12 _ _ h
set_option maxRecDepth 20000 in
theorem e_X11_rows (x1 : Int) (M : aM) (W : aW) (Q : Int → aM → aW → Prop) (h :
  (inI x1) ∧ 
  ((x1 < 0 → Q (-1) M W) ∧
  (¬ x1 < 0 → (inI x1) ∧ 
    ((x1 > 6 → Q (-1) M W) ∧
    (¬ x1 > 6 → (okO 86 3 (M 0 4) = true) ∧ CallI 32 [vR (M 0 4)] (M, W) (fun r3 M1 W2 => (inI r3) ∧ 
      ((r3 ≠ 0 → (okO 86 3 (M1 0 4) = true) ∧ (inI x1 ∧ inI (M1 (M1 0 4) 3)) ∧ 
        ((x1 ≤ (M1 (M1 0 4) 3) → CallV 9 [vR 65] (M1, W2) (fun M4 W5 => (inI x1) ∧ 
          ((x1 ≠ 0 → (0 ≤ (x1 - 1) ∧ (x1 - 1) < 6) ∧ (inI (M4 72 (x1 - 1))) ∧ Q (M4 72 (x1 - 1)) M4 W5) ∧
          (¬ x1 ≠ 0 → Q (M4 65 9) M4 W5)))) ∧
        (¬ x1 ≤ (M1 (M1 0 4) 3) → Q (-1) M1 W2))) ∧
      (¬ r3 ≠ 0 → Q (-1) M1 W2)))))))) : CallL 134 [vR 0, vI x1] (M, W) Q :=
  wpN_X (cut := fun p => false) 43 _ _ h
set_option maxRecDepth 20000 in
theorem e_X11_rule (x1 : Int) (x2 : Int) (x3 : Int) (x4 : Int) (M : aM) (W : aW) (Q : Int → aM → aW → Prop) (h :
  (okO 86 3 (M 0 4) = true) ∧ CallI 28 [vR (M 0 4), vI x1] (M, W) (fun r3 M1 W2 => (inI r3) ∧ 
  ((r3 = 0 → Q (-1) M1 W2) ∧
  (¬ r3 = 0 → (okO 86 3 (M1 0 4) = true) ∧ CallI 28 [vR (M1 0 4), vI x4] (M1, W2) (fun r6 M4 W5 => (inI r6) ∧ 
    ((r6 ≠ 0 → (inI x2) ∧ 
      ((x2 = (-1) → CallI 44 [vR 31, vI x1, vI x2, vI x3, vI x4] (M4, W5) (fun r9 M7 W8 => Q r9 M7 W8)) ∧
      (¬ x2 = (-1) → (okO 86 3 (M4 0 4) = true) ∧ CallI 29 [vR (M4 0 4), vI x2] (M4, W5) (fun r12 M10 W11 => (inI r12) ∧ 
        ((r12 = 0 → Q (-1) M10 W11) ∧
        (¬ r12 = 0 → (inI x3) ∧ 
          ((x3 < 0 → Q (-1) M10 W11) ∧
          (¬ x3 < 0 → (inI x3) ∧ 
            ((x3 ≤ 2 → CallI 44 [vR 31, vI x1, vI x2, vI x3, vI x4] (M10, W11) (fun r15 M13 W14 => Q r15 M13 W14)) ∧
            (¬ x3 ≤ 2 → Q (-1) M10 W11)))))))))) ∧
    (¬ r6 ≠ 0 → Q (-1) M4 W5))))))) : CallI 135 [vR 0, vI x1, vI x2, vI x3, vI x4] (M, W) Q :=
  wpN_X (cut := fun p => false) 51 _ _ h
set_option maxRecDepth 20000 in
theorem e_X11_ring (x1 : Int) (M : aM) (W : aW) (Q : Int → aM → aW → Prop) (h :
  (inI x1) ∧ 
  ((x1 < 0 → Q (-1) M W) ∧
  (¬ x1 < 0 → (okO 86 3 (M 0 4) = true) ∧ CallI 32 [vR (M 0 4)] (M, W) (fun r3 M1 W2 => (inI r3) ∧ 
    ((r3 ≠ 0 → CallI 79 [vR 36, vI x1] (M1, W2) (fun r6 M4 W5 => Q r6 M4 W5)) ∧
    (¬ r3 ≠ 0 → Q (-1) M1 W2)))))) : CallI 136 [vR 0, vI x1] (M, W) Q :=
  wpN_X (cut := fun p => false) 17 _ _ h
set_option maxRecDepth 20000 in
theorem e_X11_bell (x1 : Int) (M : aM) (W : aW) (Q : Int → aM → aW → Prop) (h :
  (inI x1) ∧ 
  ((x1 < 0 → Q (-1) M W) ∧
  (¬ x1 < 0 → (inI x1) ∧ 
    ((x1 > 48 → Q (-1) M W) ∧
    (¬ x1 > 48 → (okO 86 3 (M 0 4) = true) ∧ CallI 32 [vR (M 0 4)] (M, W) (fun r3 M1 W2 => (inI r3) ∧ 
      ((r3 ≠ 0 → CallL 13 [vR 78, vI x1, vR (M1 0 4), vR 39] (M1, W2) (fun r6 M4 W5 => Q r6 M4 W5)) ∧
      (¬ r3 ≠ 0 → Q (-1) M1 W2)))))))) : CallL 137 [vR 0, vI x1] (M, W) Q :=
  wpN_X (cut := fun p => false) 28 _ _ h
set_option maxRecDepth 20000 in
theorem e_X11_worth (x1 : Int) (M : aM) (W : aW) (Q : Int → aM → aW → Prop) (h :
  (okO 86 3 (M 0 4) = true) ∧ CallI 29 [vR (M 0 4), vI x1] (M, W) (fun r3 M1 W2 => (inI r3) ∧ 
  ((r3 = 0 → Q (-1) M1 W2) ∧
  (¬ r3 = 0 → (okO 86 3 (M1 0 4) = true) ∧ CallI 32 [vR (M1 0 4)] (M1, W2) (fun r6 M4 W5 => (inI r6) ∧ 
    ((r6 ≠ 0 → CallV 69 [vR 36, vI 0] (M4, W5) (fun M7 W8 => CallL 3 [vR 65, vI x1] (M7, W8) (fun r11 M9 W10 => Q r11 M9 W10))) ∧
    (¬ r6 ≠ 0 → Q (-1) M4 W5))))))) : CallL 138 [vR 0, vI x1] (M, W) Q :=
  wpN_X (cut := fun p => false) 24 _ _ h
set_option maxRecDepth 20000 in
theorem e_X11_scout (x1 : Int) (x2 : Int) (M : aM) (W : aW) (Q : Int → aM → aW → Prop) (h :
  (inI x1) ∧ 
  ((x1 < 0 → Q (-1) M W) ∧
  (¬ x1 < 0 → (inI x1) ∧ 
    ((x1 > 99 → Q (-1) M W) ∧
    (¬ x1 > 99 → (inI x2) ∧ 
      ((x2 < 0 → Q (-1) M W) ∧
      (¬ x2 < 0 → (inI x2) ∧ 
        ((x2 > 1 → Q (-1) M W) ∧
        (¬ x2 > 1 → (okO 86 3 (M 0 4) = true) ∧ CallI 32 [vR (M 0 4)] (M, W) (fun r3 M1 W2 => (inI r3) ∧ 
          ((r3 ≠ 0 → CallV 69 [vR 36, vI 0] (M1, W2) (fun M4 W5 => CallL 4 [vR 65, vI x1, vI x2] (M4, W5) (fun r8 M6 W7 => Q r8 M6 W7))) ∧
          (¬ r3 ≠ 0 → Q (-1) M1 W2)))))))))))) : CallL 139 [vR 0, vI x1, vI x2] (M, W) Q :=
  wpN_X (cut := fun p => false) 36 _ _ h
set_option maxRecDepth 20000 in
theorem e_X11_keep (x1 : Int) (M : aM) (W : aW) (Q : Int → aM → aW → Prop) (h :
  (okO 86 3 (M 0 4) = true) ∧ CallI 29 [vR (M 0 4), vI x1] (M, W) (fun r3 M1 W2 => (inI r3) ∧ 
  ((r3 = 0 → Q (-1) M1 W2) ∧
  (¬ r3 = 0 → (okO 86 3 (M1 0 4) = true) ∧ CallI 32 [vR (M1 0 4)] (M1, W2) (fun r6 M4 W5 => (inI r6) ∧ 
    ((r6 ≠ 0 → CallL 5 [vR 65, vI x1] (M4, W5) (fun r9 M7 W8 => Q r9 M7 W8)) ∧
    (¬ r6 ≠ 0 → Q (-1) M4 W5))))))) : CallL 140 [vR 0, vI x1] (M, W) Q :=
  wpN_X (cut := fun p => false) 20 _ _ h
set_option maxRecDepth 20000 in
theorem e_X11_edge (x1 : Int) (M : aM) (W : aW) (Q : Int → aM → aW → Prop) (h :
  (okO 86 3 (M 0 4) = true) ∧ CallI 29 [vR (M 0 4), vI x1] (M, W) (fun r3 M1 W2 => (inI r3) ∧ 
  ((r3 = 0 → Q (-1) M1 W2) ∧
  (¬ r3 = 0 → (okO 86 3 (M1 0 4) = true) ∧ CallI 36 [vR (M1 0 4), vI x1] (M1, W2) (fun r6 M4 W5 => (inI r6) ∧ 
    ((r6 = 0 → Q (-1) M4 W5) ∧
    (¬ r6 = 0 → (okO 86 3 (M4 0 4) = true) ∧ CallI 32 [vR (M4 0 4)] (M4, W5) (fun r9 M7 W8 => (inI r9) ∧ 
      ((r9 ≠ 0 → CallV 69 [vR 36, vI 0] (M7, W8) (fun M10 W11 => CallI 6 [vR 65, vI x1] (M10, W11) (fun r14 M12 W13 => Q r14 M12 W13))) ∧
      (¬ r9 ≠ 0 → Q (-1) M7 W8)))))))))) : CallI 141 [vR 0, vI x1] (M, W) Q :=
  wpN_X (cut := fun p => false) 31 _ _ h
set_option maxRecDepth 20000 in
theorem e_X11_begin (x1 : Int) (M : aM) (W : aW) (Q : Int → aM → aW → Prop) (h :
  (inI x1) ∧ 
  ((x1 < 0 → Q 0 M W) ∧
  (¬ x1 < 0 → (okO 86 3 (M 0 4) = true) ∧ CallI 32 [vR (M 0 4)] (M, W) (fun r3 M1 W2 => (inI r3) ∧ 
    ((r3 ≠ 0 → CallV 47 [vR 82, vR (M1 0 4), vI x1] (M1, W2) (fun M4 W5 => Q 1 M4 W5)) ∧
    (¬ r3 ≠ 0 → Q 0 M1 W2)))))) : CallI 142 [vR 0, vI x1] (M, W) Q :=
  wpN_X (cut := fun p => false) 20 _ _ h
set_option maxRecDepth 20000 in
theorem e_X11_go (x1 : Int) (M : aM) (W : aW) (Q : Int → aM → aW → Prop) (h :
  (okO 86 3 (M 0 4) = true) ∧ CallI 28 [vR (M 0 4), vI x1] (M, W) (fun r3 M1 W2 => (inI r3) ∧ 
  ((r3 = 0 → Q (-1) M1 W2) ∧
  (¬ r3 = 0 → CallI 53 [vR 82, vR (M1 0 4), vI x1] (M1, W2) (fun r6 M4 W5 => Q r6 M4 W5))))) : CallI 143 [vR 0, vI x1] (M, W) Q :=
  wpN_X (cut := fun p => false) 17 _ _ h
set_option maxRecDepth 20000 in
theorem e_X11_buy (x1 : Int) (M : aM) (W : aW) (Q : Int → aM → aW → Prop) (h :
  (inI x1) ∧ 
  ((x1 < 0 → Q (-1) M W) ∧
  (¬ x1 < 0 → (okO 86 3 (M 0 4) = true) ∧ (inI x1 ∧ inI (M (M 0 4) 5)) ∧ 
    ((x1 ≥ (M (M 0 4) 5) → Q (-1) M W) ∧
    (¬ x1 ≥ (M (M 0 4) 5) → CallI 54 [vR 82, vR (M 0 4), vI x1] (M, W) (fun r3 M1 W2 => Q r3 M1 W2)))))) : CallI 144 [vR 0, vI x1] (M, W) Q :=
  wpN_X (cut := fun p => false) 21 _ _ h
set_option maxRecDepth 20000 in
theorem e_X11_back  (M : aM) (W : aW) (Q : Int → aM → aW → Prop) (h :
  CallI 56 [vR 82] (M, W) (fun r3 M1 W2 => Q r3 M1 W2)) : CallI 145 [vR 0] (M, W) Q :=
  wpN_X (cut := fun p => false) 6 _ _ h
set_option maxRecDepth 20000 in
theorem e_X11_walk (x1 : Int) (M : aM) (W : aW) (Q : Int → aM → aW → Prop) (h :
  CallI 57 [vR 82, vR (M 0 4), vI x1] (M, W) (fun r3 M1 W2 => Q r3 M1 W2)) : CallI 146 [vR 0, vI x1] (M, W) Q :=
  wpN_X (cut := fun p => false) 9 _ _ h
set_option maxRecDepth 20000 in
theorem e_X11_count (x1 : Int) (M : aM) (W : aW) (Q : Int → aM → aW → Prop) (h :
  (inI x1) ∧ 
  ((x1 = 0 → (okO 86 3 (M 0 4) = true) ∧ Q (M (M 0 4) 0) M W) ∧ (x1 ≠ 0 → 
  ((x1 = 1 → (okO 86 3 (M 0 4) = true) ∧ Q (M (M 0 4) 2) M W) ∧ (x1 ≠ 1 → 
  ((x1 = 2 → (okO 86 3 (M 0 4) = true) ∧ Q (M (M 0 4) 3) M W) ∧ (x1 ≠ 2 → 
  ((x1 = 3 → (okO 86 3 (M 0 4) = true) ∧ Q (M (M 0 4) 1) M W) ∧ (x1 ≠ 3 → 
  ((x1 = 4 → (okO 86 3 (M 0 4) = true) ∧ Q (M (M 0 4) 5) M W) ∧ (x1 ≠ 4 → 
  ((x1 = 5 → (okO 86 3 (M 0 4) = true) ∧ Q (M (M 0 4) 6) M W) ∧ (x1 ≠ 5 → 
  ((x1 = 6 → (okO 86 3 (M 0 4) = true) ∧ Q (M (M 0 4) 7) M W) ∧ (x1 ≠ 6 → 
  ((x1 = 7 → Q (M 31 0) M W) ∧ (x1 ≠ 7 → 
  ((x1 = 8 → Q (M 36 11) M W) ∧ (x1 ≠ 8 → Q (-1) M W))))))))))))))))))) : CallI 147 [vR 0, vI x1] (M, W) Q :=
  wpN_X (cut := fun p => false) 42 _ _ h
set_option maxRecDepth 20000 in
theorem e_X11_tapeNumber (x1 : Int) (M : aM) (W : aW) (Q : aM → aW → Prop) (h :
  Xs 148 (3, [some (some (vR 0)), some (some (vI x1)), some (some (vI 24))], [], (M, W)) (QV Q)) : CallV 148 [vR 0, vI x1] (M, W) Q :=
  wpN_X (cut := fun p => Nat.beq p 3) 5 _ _ h
set_option maxRecDepth 20000 in
theorem k_X11_tapeNumber_3 (x1 : Int) (x2 : Int) (M : aM) (W : aW) (Q : aM → aW → Prop) (h :
  (inI x2) ∧ 
  ((x2 < 0 → Q M W) ∧
  (¬ x2 < 0 → (inI (M 0 1)) ∧ 
    (((M 0 1) ≥ 600 → Q M W) ∧
    (¬ (M 0 1) ≥ 600 → ((0 ≤ (M 0 1) ∧ (M 0 1) < 600) ∧ ((-128) : Int) ≤ (b8_ (ushr_ x1 x2)) ∧ (b8_ (ushr_ x1 x2)) ≤ 127) ∧ Xs 148 (3, [some (some (vR 0)), some (some (vI x1)), some (some (vI (x2 + (-8))))], [], ((up_ (up_ M 1 (M 0 1) (b8_ (ushr_ x1 x2))) 0 1 (((up_ M 1 (M 0 1) (b8_ (ushr_ x1 x2))) 0 1) + 1)), W)) (QV Q)))))) : Xs 148 (3, [some (some (vR 0)), some (some (vI x1)), some (some (vI x2))], [], (M, W)) (QV Q) :=
  wpN_X (cut := fun p => Nat.beq p 3) 28 _ _ h
set_option maxRecDepth 20000 in
theorem e_X11_settle  (M : aM) (W : aW) (Q : aM → aW → Prop) (h :
  CallV 65 [vR 36, vR ((up_ (up_ (up_ M 31 0 0) 82 0 0) 78 0 0) 0 4)] ((up_ (up_ (up_ M 31 0 0) 82 0 0) 78 0 0), W) (fun M1 W2 => CallV 1 [vR 65, vR (M1 0 4)] (M1, W2) (fun M3 W4 => Q M3 W4))) : CallV 149 [vR 0] (M, W) Q :=
  wpN_X (cut := fun p => false) 25 _ _ h
set_option maxRecDepth 20000 in
theorem e_X11_lacksPlan (x1 : Int) (M : aM) (W : aW) (Q : Int → aM → aW → Prop) (h :
  (inI x1) ∧ 
  ((x1 < 0 → ((1 : Int) = 0 ∨ (1 : Int) = 1) ∧ Q 1 M W) ∧
  (¬ x1 < 0 → (inI x1) ∧ 
    ((x1 > 6 → ((1 : Int) = 0 ∨ (1 : Int) = 1) ∧ Q 1 M W) ∧
    (¬ x1 > 6 → (okO 86 3 (M 0 4) = true) ∧ CallI 32 [vR (M 0 4)] (M, W) (fun r3 M1 W2 => (inI r3) ∧ 
      ((r3 ≠ 0 → ((0 : Int) = 0 ∨ (0 : Int) = 1) ∧ Q 0 M1 W2) ∧
      (¬ r3 ≠ 0 → ((1 : Int) = 0 ∨ (1 : Int) = 1) ∧ Q 1 M1 W2)))))))) : CallI 150 [vR 0, vI x1] (M, W) Q :=
  wpN_X (cut := fun p => false) 22 _ _ h
set_option maxRecDepth 20000 in
theorem e_X11_isLikely (x1 : Int) (M : aM) (W : aW) (Q : Int → aM → aW → Prop) (h :
  (okO 86 3 (M 0 4) = true) ∧ CallI 31 [vR (M 0 4), vI x1] (M, W) (fun r3 M1 W2 => (inI r3) ∧ 
  ((r3 = 0 → ((0 : Int) = 0 ∨ (0 : Int) = 1) ∧ Q 0 M1 W2) ∧
  (¬ r3 = 0 → (0 ≤ x1 ∧ x1 < 729) ∧ (inL (M1 39 x1) ∧ inL 0) ∧
    (((M1 39 x1) ≤ 0 → ((0 : Int) = 0 ∨ (0 : Int) = 1) ∧ Q 0 M1 W2) ∧
    (¬ (M1 39 x1) ≤ 0 → ((1 : Int) = 0 ∨ (1 : Int) = 1) ∧ Q 1 M1 W2)))))) : CallI 151 [vR 0, vI x1] (M, W) Q :=
  wpN_X (cut := fun p => false) 22 _ _ h
set_option maxRecDepth 20000 in
theorem e_J6_bitCount_0f7a4 (x0 : Int) (M : aM) (W : aW) (Q : Int → aM → aW → Prop) (h :
  (∀ v1 : Int, v1 = x0 - (and_ (ushr_ x0 1) 1431655765) → (∀ v2 : Int, v2 = (and_ v1 858993459) + (and_ (ushr_ v1 2) 858993459) → (∀ v3 : Int, v3 = and_ (v2 + (ushr_ v2 4)) 252645135 → (∀ v4 : Int, v4 = v3 + (ushr_ v3 8) → (∀ v5 : Int, v5 = v4 + (ushr_ v4 16) → Q (and_ v5 63) M W)))))) : CallI 265 [vI x0] (M, W) Q :=
  wpN_X (cut := fun p => false) 44 _ _ h
