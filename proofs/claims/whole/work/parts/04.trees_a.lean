set_option maxRecDepth 20000 in
theorem e_X2_init  (M : aM) (F : aM) (dl : Int → Int) (sz ns : Int) (Q : aM → aW → Prop) (h :
  ((0 : Int) ≤ 27) ∧ (0 ≤ sz ∧ sz < 126 ∧ knd sz = 20 ∧ ln_ sz = 729) ∧ (okD ((ce_ M sz (fun _ => 0)), (F, dl, sz + 1, ns + 729)) 2 27 = true) ∧ (0 ≤ sz + 1 ∧ sz + 1 < 126 ∧ knd (sz + 1) = 20 ∧ ln_ (sz + 1) = 729) ∧ (okD ((ce_ (ce_ M sz (fun _ => 0)) (sz + 1) (fun _ => 0)), ((up_ F 27 0 (sz)), dl, sz + 1 + 1, ns + 729 + 729)) 2 27 = true) ∧ (0 ≤ sz + 1 + 1 ∧ sz + 1 + 1 < 126 ∧ knd (sz + 1 + 1) = 20 ∧ ln_ (sz + 1 + 1) = 64) ∧ (okD ((ce_ (ce_ (ce_ M sz (fun _ => 0)) (sz + 1) (fun _ => 0)) (sz + 1 + 1) (fun _ => 0)), ((up_ (up_ F 27 0 (sz)) 27 1 (sz + 1)), dl, sz + 1 + 1 + 1, ns + 729 + 729 + 64)) 2 27 = true) ∧ Xs 21 (32, [some (some (vR 27)), some (some (vI 0)), none, none], [], ((ce_ (ce_ (ce_ M sz (fun _ => 0)) (sz + 1) (fun _ => 0)) (sz + 1 + 1) (fun _ => 0)), ((up_ (up_ (up_ F 27 0 (sz)) 27 1 (sz + 1)) 27 2 (sz + 1 + 1)), dl, sz + 1 + 1 + 1, ns + 729 + 729 + 64))) (QV Q)) : CallV 21 [vR 27] (M, (F, dl, sz, ns)) Q :=
  wpN_X (cut := fun p => Nat.beq p 32 || Nat.beq p 43 || Nat.beq p 113 || Nat.beq p 121) 19 _ _ h
set_option maxRecDepth 20000 in
theorem k_X2_init_32 (x1 : Int) (d2 : aL) (d3 : aL) (M : aM) (F : aM) (dl : Int → Int) (sz ns : Int) (Q : aM → aW → Prop) (h :
  (inI x1) ∧ 
  ((x1 ≥ 729 → Xs 21 (113, [some (some (vR 27)), some (some (vI 0)), d2, d3], [], (M, (F, dl, sz, ns))) (QV Q)) ∧
  (¬ x1 ≥ 729 → Xs 21 (43, [some (some (vR 27)), some (some (vI x1)), some (some (vI x1)), some (some (vI 0))], [], (M, (F, dl, sz, ns))) (QV Q)))) : Xs 21 (32, [some (some (vR 27)), some (some (vI x1)), d2, d3], [], (M, (F, dl, sz, ns))) (QV Q) :=
  wpN_X (cut := fun p => Nat.beq p 32 || Nat.beq p 43 || Nat.beq p 113 || Nat.beq p 121) 13 _ _ h
set_option maxRecDepth 20000 in
theorem k_X2_init_43 (x1 : Int) (x2 : Int) (x3 : Int) (M : aM) (F : aM) (dl : Int → Int) (sz ns : Int) (Q : aM → aW → Prop) (h :
  (inI x3) ∧ 
  ((x3 ≥ 6 → Xs 21 (32, [some (some (vR 27)), some (some (vI (x1 + 1))), some (some (vI x2)), some (some (vI x3))], [], (M, (F, dl, sz, ns))) (QV Q)) ∧
  (¬ x3 ≥ 6 → (okD (M, (F, dl, sz, ns)) 2 27 = true) ∧ (okD (M, (F, dl, sz, ns)) 20 (F 27 0) = true ∧ 0 ≤ x1 ∧ x1 < lD_ dl (F 27 0)) ∧ (inI x2 ∧ inI 3 ∧ (3 : Int) ≠ 0) ∧ (inI (Int.tmod x2 3)) ∧ 
    (((Int.tmod x2 3) ≠ 1 → (okD (M, (F, dl, sz, ns)) 20 (F 27 0) = true ∧ 0 ≤ x1 ∧ x1 < lD_ dl (F 27 0)) ∧ (okD ((up_ M (F 27 0) x1 (or_ (M (F 27 0) x1) 0)), (F, dl, sz, ns)) 2 27 = true) ∧ (okD ((up_ M (F 27 0) x1 (or_ (M (F 27 0) x1) 0)), (F, dl, sz, ns)) 20 (F 27 1) = true ∧ 0 ≤ x1 ∧ x1 < lD_ dl (F 27 1)) ∧ (inI x2 ∧ inI 3 ∧ (3 : Int) ≠ 0) ∧ (inI (Int.tmod x2 3)) ∧ 
      (((Int.tmod x2 3) ≠ 2 → (okD ((up_ M (F 27 0) x1 (or_ (M (F 27 0) x1) 0)), (F, dl, sz, ns)) 20 (F 27 1) = true ∧ 0 ≤ x1 ∧ x1 < lD_ dl (F 27 1)) ∧ (inI x2 ∧ inI 3 ∧ (3 : Int) ≠ 0) ∧ (∀ v1 : Int, v1 = Int.tdiv x2 3 → Xs 21 (43, [some (some (vR 27)), some (some (vI x1)), some (some (vI v1)), some (some (vI (x3 + 1)))], [], ((up_ (up_ M (F 27 0) x1 (or_ (M (F 27 0) x1) 0)) (F 27 1) x1 (or_ ((up_ M (F 27 0) x1 (or_ (M (F 27 0) x1) 0)) (F 27 1) x1) 0)), (F, dl, sz, ns))) (QV Q))) ∧
      (¬ (Int.tmod x2 3) ≠ 2 → (okD ((up_ M (F 27 0) x1 (or_ (M (F 27 0) x1) 0)), (F, dl, sz, ns)) 20 (F 27 1) = true ∧ 0 ≤ x1 ∧ x1 < lD_ dl (F 27 1)) ∧ (inI x2 ∧ inI 3 ∧ (3 : Int) ≠ 0) ∧ (∀ v2 : Int, v2 = Int.tdiv x2 3 → Xs 21 (43, [some (some (vR 27)), some (some (vI x1)), some (some (vI v2)), some (some (vI (x3 + 1)))], [], ((up_ (up_ M (F 27 0) x1 (or_ (M (F 27 0) x1) 0)) (F 27 1) x1 (or_ ((up_ M (F 27 0) x1 (or_ (M (F 27 0) x1) 0)) (F 27 1) x1) (shl_ 1 x3))), (F, dl, sz, ns))) (QV Q))))) ∧
    (¬ (Int.tmod x2 3) ≠ 1 → (okD (M, (F, dl, sz, ns)) 20 (F 27 0) = true ∧ 0 ≤ x1 ∧ x1 < lD_ dl (F 27 0)) ∧ (okD ((up_ M (F 27 0) x1 (or_ (M (F 27 0) x1) (shl_ 1 x3))), (F, dl, sz, ns)) 2 27 = true) ∧ (okD ((up_ M (F 27 0) x1 (or_ (M (F 27 0) x1) (shl_ 1 x3))), (F, dl, sz, ns)) 20 (F 27 1) = true ∧ 0 ≤ x1 ∧ x1 < lD_ dl (F 27 1)) ∧ (inI x2 ∧ inI 3 ∧ (3 : Int) ≠ 0) ∧ (inI (Int.tmod x2 3)) ∧ 
      (((Int.tmod x2 3) ≠ 2 → (okD ((up_ M (F 27 0) x1 (or_ (M (F 27 0) x1) (shl_ 1 x3))), (F, dl, sz, ns)) 20 (F 27 1) = true ∧ 0 ≤ x1 ∧ x1 < lD_ dl (F 27 1)) ∧ (inI x2 ∧ inI 3 ∧ (3 : Int) ≠ 0) ∧ (∀ v3 : Int, v3 = Int.tdiv x2 3 → Xs 21 (43, [some (some (vR 27)), some (some (vI x1)), some (some (vI v3)), some (some (vI (x3 + 1)))], [], ((up_ (up_ M (F 27 0) x1 (or_ (M (F 27 0) x1) (shl_ 1 x3))) (F 27 1) x1 (or_ ((up_ M (F 27 0) x1 (or_ (M (F 27 0) x1) (shl_ 1 x3))) (F 27 1) x1) 0)), (F, dl, sz, ns))) (QV Q))) ∧
      (¬ (Int.tmod x2 3) ≠ 2 → (okD ((up_ M (F 27 0) x1 (or_ (M (F 27 0) x1) (shl_ 1 x3))), (F, dl, sz, ns)) 20 (F 27 1) = true ∧ 0 ≤ x1 ∧ x1 < lD_ dl (F 27 1)) ∧ (inI x2 ∧ inI 3 ∧ (3 : Int) ≠ 0) ∧ (∀ v4 : Int, v4 = Int.tdiv x2 3 → Xs 21 (43, [some (some (vR 27)), some (some (vI x1)), some (some (vI v4)), some (some (vI (x3 + 1)))], [], ((up_ (up_ M (F 27 0) x1 (or_ (M (F 27 0) x1) (shl_ 1 x3))) (F 27 1) x1 (or_ ((up_ M (F 27 0) x1 (or_ (M (F 27 0) x1) (shl_ 1 x3))) (F 27 1) x1) (shl_ 1 x3))), (F, dl, sz, ns))) (QV Q))))))))) : Xs 21 (43, [some (some (vR 27)), some (some (vI x1)), some (some (vI x2)), some (some (vI x3))], [], (M, (F, dl, sz, ns))) (QV Q) :=
  wpN_X (cut := fun p => Nat.beq p 32 || Nat.beq p 43 || Nat.beq p 113 || Nat.beq p 121) 93 _ _ h
set_option maxRecDepth 20000 in
theorem k_X2_init_113 (x1 : Int) (d2 : aL) (d3 : aL) (M : aM) (F : aM) (dl : Int → Int) (sz ns : Int) (Q : aM → aW → Prop) (h :
  (inI x1) ∧ 
  ((x1 ≥ 64 → Q M (F, dl, sz, ns)) ∧
  (¬ x1 ≥ 64 → Xs 21 (121, [some (some (vR 27)), some (some (vI x1)), some (some (vI 0)), d3], [], (M, (F, dl, sz, ns))) (QV Q)))) : Xs 21 (113, [some (some (vR 27)), some (some (vI x1)), d2, d3], [], (M, (F, dl, sz, ns))) (QV Q) :=
  wpN_X (cut := fun p => Nat.beq p 32 || Nat.beq p 43 || Nat.beq p 113 || Nat.beq p 121) 9 _ _ h
set_option maxRecDepth 20000 in
theorem k_X2_init_121 (x1 : Int) (x2 : Int) (d3 : aL) (M : aM) (F : aM) (dl : Int → Int) (sz ns : Int) (Q : aM → aW → Prop) (h :
  (inI x2) ∧ 
  ((x2 ≥ 6 → Xs 21 (113, [some (some (vR 27)), some (some (vI (x1 + 1))), some (some (vI x2)), d3], [], (M, (F, dl, sz, ns))) (QV Q)) ∧
  (¬ x2 ≥ 6 → (okD (M, (F, dl, sz, ns)) 2 27 = true) ∧ (okD (M, (F, dl, sz, ns)) 20 (F 27 2) = true ∧ 0 ≤ x1 ∧ x1 < lD_ dl (F 27 2)) ∧ (0 ≤ x2 ∧ x2 < 7) ∧ (okD (M, (F, dl, sz, ns)) 20 (F 27 2) = true ∧ 0 ≤ x1 ∧ x1 < lD_ dl (F 27 2)) ∧ Xs 21 (121, [some (some (vR 27)), some (some (vI x1)), some (some (vI (x2 + 1))), d3], [], ((up_ M (F 27 2) x1 ((M (F 27 2) x1) + ((and_ (shr_ x1 x2) 1) * (thr_ x2)))), (F, dl, sz, ns))) (QV Q)))) : Xs 21 (121, [some (some (vR 27)), some (some (vI x1)), some (some (vI x2)), d3], [], (M, (F, dl, sz, ns))) (QV Q) :=
  wpN_X (cut := fun p => Nat.beq p 32 || Nat.beq p 43 || Nat.beq p 113 || Nat.beq p 121) 27 _ _ h
set_option maxRecDepth 20000 in
theorem e_X2_digit (x1 : Int) (x2 : Int) (M : aM) (W : aW) (Q : Int → aM → aW → Prop) (h :
  (0 ≤ x1 ∧ x1 < 729) ∧ (0 ≤ x1 ∧ x1 < 729) ∧ Q ((and_ (shr_ (M 28 x1) x2) 1) + (2 * (and_ (shr_ (M 29 x1) x2) 1))) M W) : CallI 22 [vR 27, vI x1, vI x2] (M, W) Q :=
  wpN_X (cut := fun p => false) 22 _ _ h
set_option maxRecDepth 20000 in
theorem e_X2_told (x1 : Int) (x2 : Int) (M : aM) (W : aW) (Q : Int → aM → aW → Prop) (h :
  (0 ≤ (and_ x1 (xor_ x2 (-1))) ∧ (and_ x1 (xor_ x2 (-1))) < 64) ∧ (0 ≤ (and_ x1 x2) ∧ (and_ x1 x2) < 64) ∧ Q ((M 30 (and_ x1 (xor_ x2 (-1)))) + (2 * (M 30 (and_ x1 x2)))) M W) : CallI 23 [vR 27, vI x1, vI x2] (M, W) Q :=
  wpN_X (cut := fun p => false) 20 _ _ h
set_option maxRecDepth 20000 in
theorem e_X2_seeing (x1 : Int) (x2 : Int) (x3 : Int) (M : aM) (W : aW) (Q : Int → aM → aW → Prop) (h :
  (0 ≤ x1 ∧ x1 < 729) ∧ (0 ≤ x1 ∧ x1 < 729) ∧ CallI 23 [vR 27, vI (and_ x2 (xor_ (or_ (M 28 x1) (M 29 x1)) (-1))), vI x3] (M, W) (fun r3 M1 W2 => Q (x1 + r3) M1 W2)) : CallI 24 [vR 27, vI x1, vI x2, vI x3] (M, W) Q :=
  wpN_X (cut := fun p => false) 21 _ _ h
set_option maxRecDepth 20000 in
theorem e_X2_firstMissing (x1 : Int) (x2 : Int) (M : aM) (W : aW) (Q : Int → aM → aW → Prop) (h :
  (0 ≤ x1 ∧ x1 < 729) ∧ (0 ≤ x1 ∧ x1 < 729) ∧ (∀ v1 : Int, v1 = and_ x2 (xor_ (or_ (M 28 x1) (M 29 x1)) (-1)) → Xs 25 (21, [some (some (vR 27)), some (some (vI x1)), some (some (vI x2)), some (some (vI v1)), some (some (vI 0))], [], (M, W)) (QI Q))) : CallI 25 [vR 27, vI x1, vI x2] (M, W) Q :=
  wpN_X (cut := fun p => Nat.beq p 21) 19 _ _ h
set_option maxRecDepth 20000 in
theorem k_X2_firstMissing_21 (x1 : Int) (x2 : Int) (x3 : Int) (x4 : Int) (M : aM) (W : aW) (Q : Int → aM → aW → Prop) (h :
  (inI x4) ∧ 
  ((x4 ≥ 6 → Q (-1) M W) ∧
  (¬ x4 ≥ 6 → (inI (and_ (shr_ x3 x4) 1)) ∧ 
    (((and_ (shr_ x3 x4) 1) = 0 → Xs 25 (21, [some (some (vR 27)), some (some (vI x1)), some (some (vI x2)), some (some (vI x3)), some (some (vI (x4 + 1)))], [], (M, W)) (QI Q)) ∧
    (¬ (and_ (shr_ x3 x4) 1) = 0 → Q x4 M W))))) : Xs 25 (21, [some (some (vR 27)), some (some (vI x1)), some (some (vI x2)), some (some (vI x3)), some (some (vI x4))], [], (M, W)) (QI Q) :=
  wpN_X (cut := fun p => Nat.beq p 21) 18 _ _ h
set_option maxRecDepth 20000 in
theorem e_X3_init (x0 : Int) (M : aM) (F : aM) (dl : Int → Int) (sz ns : Int) (Q : aM → aW → Prop) (h :
  ((0 : Int) ≤ x0) ∧ (0 ≤ sz ∧ sz < 126 ∧ knd sz = 20 ∧ ln_ sz = 2) ∧ (okD ((ce_ M sz (fun _ => 0)), (F, dl, sz + 1, ns + 2)) 3 x0 = true) ∧ (0 ≤ sz + 1 ∧ sz + 1 < 126 ∧ knd (sz + 1) = 20 ∧ ln_ (sz + 1) = 168) ∧ (okD ((ce_ (ce_ M sz (fun _ => 0)) (sz + 1) (fun _ => 0)), ((up_ F x0 8 (sz)), dl, sz + 1 + 1, ns + 2 + 168)) 3 x0 = true) ∧ (0 ≤ sz + 1 + 1 ∧ sz + 1 + 1 < 126 ∧ knd (sz + 1 + 1) = 20 ∧ ln_ (sz + 1 + 1) = 6) ∧ (okD ((ce_ (ce_ (ce_ M sz (fun _ => 0)) (sz + 1) (fun _ => 0)) (sz + 1 + 1) (fun _ => 0)), ((up_ (up_ F x0 8 (sz)) x0 9 (sz + 1)), dl, sz + 1 + 1 + 1, ns + 2 + 168 + 6)) 3 x0 = true) ∧ (0 ≤ sz + 1 + 1 + 1 ∧ sz + 1 + 1 + 1 < 126 ∧ knd (sz + 1 + 1 + 1) = 20 ∧ ln_ (sz + 1 + 1 + 1) = 100) ∧ (okD ((ce_ (ce_ (ce_ (ce_ M sz (fun _ => 0)) (sz + 1) (fun _ => 0)) (sz + 1 + 1) (fun _ => 0)) (sz + 1 + 1 + 1) (fun _ => 0)), ((up_ (up_ (up_ F x0 8 (sz)) x0 9 (sz + 1)) x0 10 (sz + 1 + 1)), dl, sz + 1 + 1 + 1 + 1, ns + 2 + 168 + 6 + 100)) 3 x0 = true) ∧ (0 ≤ sz + 1 + 1 + 1 + 1 ∧ sz + 1 + 1 + 1 + 1 < 126 ∧ knd (sz + 1 + 1 + 1 + 1) = 20 ∧ ln_ (sz + 1 + 1 + 1 + 1) = 10) ∧ (okD ((ce_ (ce_ (ce_ (ce_ (ce_ M sz (fun _ => 0)) (sz + 1) (fun _ => 0)) (sz + 1 + 1) (fun _ => 0)) (sz + 1 + 1 + 1) (fun _ => 0)) (sz + 1 + 1 + 1 + 1) (fun _ => 0)), ((up_ (up_ (up_ (up_ F x0 8 (sz)) x0 9 (sz + 1)) x0 10 (sz + 1 + 1)) x0 11 (sz + 1 + 1 + 1)), dl, sz + 1 + 1 + 1 + 1 + 1, ns + 2 + 168 + 6 + 100 + 10)) 3 x0 = true) ∧ (0 ≤ sz + 1 + 1 + 1 + 1 + 1 ∧ sz + 1 + 1 + 1 + 1 + 1 < 126 ∧ knd (sz + 1 + 1 + 1 + 1 + 1) = 20 ∧ ln_ (sz + 1 + 1 + 1 + 1 + 1) = 6) ∧ (okD ((ce_ (ce_ (ce_ (ce_ (ce_ (ce_ M sz (fun _ => 0)) (sz + 1) (fun _ => 0)) (sz + 1 + 1) (fun _ => 0)) (sz + 1 + 1 + 1) (fun _ => 0)) (sz + 1 + 1 + 1 + 1) (fun _ => 0)) (sz + 1 + 1 + 1 + 1 + 1) (fun _ => 0)), ((up_ (up_ (up_ (up_ (up_ F x0 8 (sz)) x0 9 (sz + 1)) x0 10 (sz + 1 + 1)) x0 11 (sz + 1 + 1 + 1)) x0 12 (sz + 1 + 1 + 1 + 1)), dl, sz + 1 + 1 + 1 + 1 + 1 + 1, ns + 2 + 168 + 6 + 100 + 10 + 6)) 3 x0 = true) ∧ (0 ≤ sz + 1 + 1 + 1 + 1 + 1 + 1 ∧ sz + 1 + 1 + 1 + 1 + 1 + 1 < 126 ∧ knd (sz + 1 + 1 + 1 + 1 + 1 + 1) = 20 ∧ ln_ (sz + 1 + 1 + 1 + 1 + 1 + 1) = 6) ∧ (okD ((ce_ (ce_ (ce_ (ce_ (ce_ (ce_ (ce_ M sz (fun _ => 0)) (sz + 1) (fun _ => 0)) (sz + 1 + 1) (fun _ => 0)) (sz + 1 + 1 + 1) (fun _ => 0)) (sz + 1 + 1 + 1 + 1) (fun _ => 0)) (sz + 1 + 1 + 1 + 1 + 1) (fun _ => 0)) (sz + 1 + 1 + 1 + 1 + 1 + 1) (fun _ => 0)), ((up_ (up_ (up_ (up_ (up_ (up_ F x0 8 (sz)) x0 9 (sz + 1)) x0 10 (sz + 1 + 1)) x0 11 (sz + 1 + 1 + 1)) x0 12 (sz + 1 + 1 + 1 + 1)) x0 13 (sz + 1 + 1 + 1 + 1 + 1)), dl, sz + 1 + 1 + 1 + 1 + 1 + 1 + 1, ns + 2 + 168 + 6 + 100 + 10 + 6 + 6)) 3 x0 = true) ∧ (0 ≤ sz + 1 + 1 + 1 + 1 + 1 + 1 + 1 ∧ sz + 1 + 1 + 1 + 1 + 1 + 1 + 1 < 126 ∧ knd (sz + 1 + 1 + 1 + 1 + 1 + 1 + 1) = 20 ∧ ln_ (sz + 1 + 1 + 1 + 1 + 1 + 1 + 1) = 6) ∧ (okD ((ce_ (ce_ (ce_ (ce_ (ce_ (ce_ (ce_ (ce_ M sz (fun _ => 0)) (sz + 1) (fun _ => 0)) (sz + 1 + 1) (fun _ => 0)) (sz + 1 + 1 + 1) (fun _ => 0)) (sz + 1 + 1 + 1 + 1) (fun _ => 0)) (sz + 1 + 1 + 1 + 1 + 1) (fun _ => 0)) (sz + 1 + 1 + 1 + 1 + 1 + 1) (fun _ => 0)) (sz + 1 + 1 + 1 + 1 + 1 + 1 + 1) (fun _ => 0)), ((up_ (up_ (up_ (up_ (up_ (up_ (up_ F x0 8 (sz)) x0 9 (sz + 1)) x0 10 (sz + 1 + 1)) x0 11 (sz + 1 + 1 + 1)) x0 12 (sz + 1 + 1 + 1 + 1)) x0 13 (sz + 1 + 1 + 1 + 1 + 1)) x0 14 (sz + 1 + 1 + 1 + 1 + 1 + 1)), dl, sz + 1 + 1 + 1 + 1 + 1 + 1 + 1 + 1, ns + 2 + 168 + 6 + 100 + 10 + 6 + 6 + 6)) 3 x0 = true) ∧ (okD ((ce_ (ce_ (ce_ (ce_ (ce_ (ce_ (ce_ (ce_ M sz (fun _ => 0)) (sz + 1) (fun _ => 0)) (sz + 1 + 1) (fun _ => 0)) (sz + 1 + 1 + 1) (fun _ => 0)) (sz + 1 + 1 + 1 + 1) (fun _ => 0)) (sz + 1 + 1 + 1 + 1 + 1) (fun _ => 0)) (sz + 1 + 1 + 1 + 1 + 1 + 1) (fun _ => 0)) (sz + 1 + 1 + 1 + 1 + 1 + 1 + 1) (fun _ => 0)), ((up_ (up_ (up_ (up_ (up_ (up_ (up_ (up_ F x0 8 (sz)) x0 9 (sz + 1)) x0 10 (sz + 1 + 1)) x0 11 (sz + 1 + 1 + 1)) x0 12 (sz + 1 + 1 + 1 + 1)) x0 13 (sz + 1 + 1 + 1 + 1 + 1)) x0 14 (sz + 1 + 1 + 1 + 1 + 1 + 1)) x0 15 (sz + 1 + 1 + 1 + 1 + 1 + 1 + 1)), dl, sz + 1 + 1 + 1 + 1 + 1 + 1 + 1 + 1, ns + 2 + 168 + 6 + 100 + 10 + 6 + 6 + 6)) 3 x0 = true) ∧ CallV 266 [vR x0] ((ce_ (ce_ (ce_ (ce_ (ce_ (ce_ (ce_ (ce_ M sz (fun _ => 0)) (sz + 1) (fun _ => 0)) (sz + 1 + 1) (fun _ => 0)) (sz + 1 + 1 + 1) (fun _ => 0)) (sz + 1 + 1 + 1 + 1) (fun _ => 0)) (sz + 1 + 1 + 1 + 1 + 1) (fun _ => 0)) (sz + 1 + 1 + 1 + 1 + 1 + 1) (fun _ => 0)) (sz + 1 + 1 + 1 + 1 + 1 + 1 + 1) (fun _ => 0)), ((up_ (up_ (up_ (up_ (up_ (up_ (up_ (up_ F x0 8 (sz)) x0 9 (sz + 1)) x0 10 (sz + 1 + 1)) x0 11 (sz + 1 + 1 + 1)) x0 12 (sz + 1 + 1 + 1 + 1)) x0 13 (sz + 1 + 1 + 1 + 1 + 1)) x0 14 (sz + 1 + 1 + 1 + 1 + 1 + 1)) x0 15 (sz + 1 + 1 + 1 + 1 + 1 + 1 + 1)), dl, sz + 1 + 1 + 1 + 1 + 1 + 1 + 1 + 1, ns + 2 + 168 + 6 + 100 + 10 + 6 + 6 + 6)) (fun M1 W2 => Q M1 W2)) : CallV 26 [vR x0] (M, (F, dl, sz, ns)) Q :=
  wpN_X (cut := fun p => false) 39 _ _ h
set_option maxRecDepth 20000 in
theorem e_X3_empty (x0 : Int) (M : aM) (W : aW) (Q : aM → aW → Prop) (h :
  (okO 86 3 x0 = true) ∧ (okO 86 3 x0 = true) ∧ (okO 86 3 x0 = true) ∧ (okO 86 3 x0 = true) ∧ (okO 86 3 x0 = true) ∧ (okO 86 3 x0 = true) ∧ (okO 86 3 x0 = true) ∧ (okO 86 3 x0 = true) ∧ Xs 27 (42, [some (some (vR x0)), some (some (vI 0))], [], ((up_ (up_ (up_ (up_ (up_ (up_ (up_ (up_ M x0 0 0) x0 1 0) x0 2 0) x0 3 0) x0 4 0) x0 5 0) x0 6 (-1)) x0 7 (-1)), W)) (QV Q)) : CallV 27 [vR x0] (M, W) Q :=
  wpN_X (cut := fun p => Nat.beq p 42 || Nat.beq p 66) 29 _ _ h
set_option maxRecDepth 20000 in
theorem k_X3_empty_42 (x0 : Int) (x1 : Int) (M : aM) (W : aW) (Q : aM → aW → Prop) (h :
  (okO 86 3 x0 = true) ∧ (okO 86 20 (x0 + 4) = true) ∧ (inI x1 ∧ inI (ln_ (x0 + 4))) ∧ 
  ((x1 ≥ (ln_ (x0 + 4)) → Xs 27 (66, [some (some (vR x0)), some (some (vI 0))], [], (M, W)) (QV Q)) ∧
  (¬ x1 ≥ (ln_ (x0 + 4)) → (okO 86 3 x0 = true) ∧ (okO 86 20 (x0 + 4) = true ∧ 0 ≤ x1 ∧ x1 < ln_ (x0 + 4)) ∧ Xs 27 (42, [some (some (vR x0)), some (some (vI (x1 + 1)))], [], ((up_ M (x0 + 4) x1 (-1)), W)) (QV Q)))) : Xs 27 (42, [some (some (vR x0)), some (some (vI x1))], [], (M, W)) (QV Q) :=
  wpN_X (cut := fun p => Nat.beq p 42 || Nat.beq p 66) 18 _ _ h
set_option maxRecDepth 20000 in
theorem k_X3_empty_66 (x0 : Int) (x1 : Int) (M : aM) (W : aW) (Q : aM → aW → Prop) (h :
  (okO 86 3 x0 = true) ∧ (okO 86 20 (x0 + 5) = true) ∧ (inI x1 ∧ inI (ln_ (x0 + 5))) ∧ 
  ((x1 ≥ (ln_ (x0 + 5)) → Q M W) ∧
  (¬ x1 ≥ (ln_ (x0 + 5)) → (okO 86 3 x0 = true) ∧ (okO 86 20 (x0 + 5) = true ∧ 0 ≤ x1 ∧ x1 < ln_ (x0 + 5)) ∧ Xs 27 (66, [some (some (vR x0)), some (some (vI (x1 + 1)))], [], ((up_ M (x0 + 5) x1 0), W)) (QV Q)))) : Xs 27 (66, [some (some (vR x0)), some (some (vI x1))], [], (M, W)) (QV Q) :=
  wpN_X (cut := fun p => Nat.beq p 42 || Nat.beq p 66) 16 _ _ h
set_option maxRecDepth 20000 in
theorem e_X3_hasPlace (x0 : Int) (x1 : Int) (M : aM) (W : aW) (Q : Int → aM → aW → Prop) (h :
  (inI x1) ∧ 
  ((x1 < 0 → ((0 : Int) = 0 ∨ (0 : Int) = 1) ∧ Q 0 M W) ∧
  (¬ x1 < 0 → (okO 86 3 x0 = true) ∧ (inI x1 ∧ inI (M x0 0)) ∧ 
    ((x1 ≥ (M x0 0) → ((0 : Int) = 0 ∨ (0 : Int) = 1) ∧ Q 0 M W) ∧
    (¬ x1 ≥ (M x0 0) → ((1 : Int) = 0 ∨ (1 : Int) = 1) ∧ Q 1 M W))))) : CallI 28 [vR x0, vI x1] (M, W) Q :=
  wpN_X (cut := fun p => false) 15 _ _ h
set_option maxRecDepth 20000 in
theorem e_X3_hasDoubtful (x0 : Int) (x1 : Int) (M : aM) (W : aW) (Q : Int → aM → aW → Prop) (h :
  (inI x1) ∧ 
  ((x1 < 0 → ((0 : Int) = 0 ∨ (0 : Int) = 1) ∧ Q 0 M W) ∧
  (¬ x1 < 0 → (okO 86 3 x0 = true) ∧ (inI x1 ∧ inI (M x0 3)) ∧ 
    ((x1 ≥ (M x0 3) → ((0 : Int) = 0 ∨ (0 : Int) = 1) ∧ Q 0 M W) ∧
    (¬ x1 ≥ (M x0 3) → ((1 : Int) = 0 ∨ (1 : Int) = 1) ∧ Q 1 M W))))) : CallI 29 [vR x0, vI x1] (M, W) Q :=
  wpN_X (cut := fun p => false) 15 _ _ h
set_option maxRecDepth 20000 in
theorem e_X3_hasWorld (x0 : Int) (x1 : Int) (M : aM) (W : aW) (Q : Int → aM → aW → Prop) (h :
  (inI x1) ∧ 
  ((x1 < 0 → ((0 : Int) = 0 ∨ (0 : Int) = 1) ∧ Q 0 M W) ∧
  (¬ x1 < 0 → (okO 86 3 x0 = true) ∧ CallI 33 [vR x0] (M, W) (fun r3 M1 W2 => (inI x1 ∧ inI r3) ∧ 
    ((x1 ≥ r3 → ((0 : Int) = 0 ∨ (0 : Int) = 1) ∧ Q 0 M1 W2) ∧
    (¬ x1 ≥ r3 → ((1 : Int) = 0 ∨ (1 : Int) = 1) ∧ Q 1 M1 W2)))))) : CallI 30 [vR x0, vI x1] (M, W) Q :=
  wpN_X (cut := fun p => false) 15 _ _ h
set_option maxRecDepth 20000 in
theorem e_X3_hasKnown (x0 : Int) (x1 : Int) (M : aM) (W : aW) (Q : Int → aM → aW → Prop) (h :
  (inI x1) ∧ 
  ((x1 < 0 → ((0 : Int) = 0 ∨ (0 : Int) = 1) ∧ Q 0 M W) ∧
  (¬ x1 < 0 → (okO 86 3 x0 = true) ∧ CallI 34 [vR x0] (M, W) (fun r3 M1 W2 => (inI x1 ∧ inI r3) ∧ 
    ((x1 ≥ r3 → ((0 : Int) = 0 ∨ (0 : Int) = 1) ∧ Q 0 M1 W2) ∧
    (¬ x1 ≥ r3 → ((1 : Int) = 0 ∨ (1 : Int) = 1) ∧ Q 1 M1 W2)))))) : CallI 31 [vR x0, vI x1] (M, W) Q :=
  wpN_X (cut := fun p => false) 15 _ _ h
set_option maxRecDepth 20000 in
theorem e_X3_hasEnds (x0 : Int) (M : aM) (W : aW) (Q : Int → aM → aW → Prop) (h :
  (okO 86 3 x0 = true) ∧ (inI (M x0 6)) ∧ 
  (((M x0 6) < 0 → ((0 : Int) = 0 ∨ (0 : Int) = 1) ∧ Q 0 M W) ∧
  (¬ (M x0 6) < 0 → (okO 86 3 x0 = true) ∧ (inI (M x0 7)) ∧ 
    (((M x0 7) < 0 → ((0 : Int) = 0 ∨ (0 : Int) = 1) ∧ Q 0 M W) ∧
    (¬ (M x0 7) < 0 → ((1 : Int) = 0 ∨ (1 : Int) = 1) ∧ Q 1 M W))))) : CallI 32 [vR x0] (M, W) Q :=
  wpN_X (cut := fun p => false) 15 _ _ h
set_option maxRecDepth 20000 in
theorem e_X3_worlds (x0 : Int) (M : aM) (W : aW) (Q : Int → aM → aW → Prop) (h :
  (okO 86 3 x0 = true) ∧ Q (shl_ 1 (M x0 3)) M W) : CallI 33 [vR x0] (M, W) Q :=
  wpN_X (cut := fun p => false) 7 _ _ h
set_option maxRecDepth 20000 in
theorem e_X3_knowns (x0 : Int) (M : aM) (W : aW) (Q : Int → aM → aW → Prop) (h :
  (okO 86 3 x0 = true) ∧ (0 ≤ (M x0 3) ∧ (M x0 3) < 7) ∧ Q (thr_ (M x0 3)) M W) : CallI 34 [vR x0] (M, W) Q :=
  wpN_X (cut := fun p => false) 7 _ _ h
set_option maxRecDepth 20000 in
theorem e_X3_roadFact (x0 : Int) (x1 : Int) (x2 : Int) (M : aM) (W : aW) (Q : Int → aM → aW → Prop) (h :
  (okO 86 3 x0 = true) ∧ (okO 86 20 (x0 + 2) = true ∧ 0 ≤ ((x1 * 7) + x2) ∧ ((x1 * 7) + x2) < ln_ (x0 + 2)) ∧ Q (M (x0 + 2) ((x1 * 7) + x2)) M W) : CallI 35 [vR x0, vI x1, vI x2] (M, W) Q :=
  wpN_X (cut := fun p => false) 11 _ _ h
set_option maxRecDepth 20000 in
theorem e_X3_doubtOf (x0 : Int) (x1 : Int) (M : aM) (W : aW) (Q : Int → aM → aW → Prop) (h :
  (okO 86 3 x0 = true) ∧ (okO 86 20 (x0 + 3) = true ∧ 0 ≤ x1 ∧ x1 < ln_ (x0 + 3)) ∧ (okO 86 3 x0 = true) ∧ CallI 35 [vR x0, vI (M (x0 + 3) x1), vI 3] (M, W) (fun r3 M1 W2 => Q r3 M1 W2)) : CallI 36 [vR x0, vI x1] (M, W) Q :=
  wpN_X (cut := fun p => false) 10 _ _ h
set_option maxRecDepth 20000 in
theorem e_X3_causeOf (x0 : Int) (x1 : Int) (M : aM) (W : aW) (Q : Int → aM → aW → Prop) (h :
  (okO 86 3 x0 = true) ∧ (okO 86 20 (x0 + 3) = true ∧ 0 ≤ x1 ∧ x1 < ln_ (x0 + 3)) ∧ (okO 86 3 x0 = true) ∧ CallI 35 [vR x0, vI (M (x0 + 3) x1), vI 4] (M, W) (fun r3 M1 W2 => Q r3 M1 W2)) : CallI 37 [vR x0, vI x1] (M, W) Q :=
  wpN_X (cut := fun p => false) 10 _ _ h
set_option maxRecDepth 20000 in
theorem e_X3_passBetween (x0 : Int) (x1 : Int) (x2 : Int) (x3 : Int) (x4 : Int) (M : aM) (W : aW) (Q : Int → aM → aW → Prop) (h :
  (okO 86 3 x0 = true) ∧ (okO 86 20 (x0 + 4) = true ∧ 0 ≤ ((x1 * 10) + x2) ∧ ((x1 * 10) + x2) < ln_ (x0 + 4)) ∧ (∀ v1 : Int, v1 = M (x0 + 4) ((x1 * 10) + x2) → (inI v1) ∧ 
  ((v1 ≥ 0 → (okO 86 3 x0 = true) ∧ (okO 86 20 (x0 + 2) = true ∧ 0 ≤ ((v1 * 7) + 6) ∧ ((v1 * 7) + 6) < ln_ (x0 + 2)) ∧ (∀ v2 : Int, v2 = M (x0 + 2) ((v1 * 7) + 6) → (okO 86 3 x0 = true) ∧ (okO 86 20 (x0 + 2) = true ∧ 0 ≤ ((v1 * 7) + 2) ∧ ((v1 * 7) + 2) < ln_ (x0 + 2)) ∧ (∀ v3 : Int, v3 = M (x0 + 2) ((v1 * 7) + 2) → (inI v2) ∧ 
    ((v2 < 0 → Q v3 M W) ∧
    (¬ v2 < 0 → (inI (and_ (shr_ x3 v2) 1)) ∧ 
      (((and_ (shr_ x3 v2) 1) = 0 → (okO 86 3 x0 = true) ∧ (okO 86 20 (x0 + 2) = true ∧ 0 ≤ ((v1 * 7) + 5) ∧ ((v1 * 7) + 5) < ln_ (x0 + 2)) ∧ (∀ v4 : Int, v4 = M (x0 + 2) ((v1 * 7) + 5) → (inI (and_ (shr_ x4 v2) 1)) ∧ 
        (((and_ (shr_ x4 v2) 1) = 0 → Q 0 M W) ∧
        (¬ (and_ (shr_ x4 v2) 1) = 0 → (inI v4) ∧ 
          ((v4 ≤ 0 → Q 0 M W) ∧
          (¬ v4 ≤ 0 → Q (v3 + v4) M W)))))) ∧
      (¬ (and_ (shr_ x3 v2) 1) = 0 → Q v3 M W))))))) ∧
  (¬ v1 ≥ 0 → Q 0 M W)))) : CallI 38 [vR x0, vI x1, vI x2, vI x3, vI x4] (M, W) Q :=
  wpN_X (cut := fun p => false) 71 _ _ h
set_option maxRecDepth 20000 in
theorem e_X3_fillPasses (x0 : Int) (x1 : Int) (x2 : Int) (x3 : Int) (M : aM) (W : aW) (Q : aM → aW → Prop) (h :
  Xs 39 (3, [some (some (vR x0)), some (some (vR x1)), some (some (vI x2)), some (some (vI x3)), some (some (vI 0)), none, none, none], [], (M, W)) (QV Q)) : CallV 39 [vR x0, vR x1, vI x2, vI x3] (M, W) Q :=
  wpN_X (cut := fun p => Nat.beq p 3 || Nat.beq p 24) 5 _ _ h
set_option maxRecDepth 20000 in
theorem k_X3_fillPasses_3 (x0 : Int) (x1 : Int) (x2 : Int) (x3 : Int) (x4 : Int) (d5 : aL) (d6 : aL) (d7 : aL) (M : aM) (W : aW) (Q : aM → aW → Prop) (h :
  (okO 86 20 x1 = true) ∧ (inI x4 ∧ inI (ln_ x1)) ∧ 
  ((x4 ≥ (ln_ x1) → Xs 39 (24, [some (some (vR x0)), some (some (vR x1)), some (some (vI x2)), some (some (vI x3)), some (some (vI 0)), d5, d6, d7], [], (M, W)) (QV Q)) ∧
  (¬ x4 ≥ (ln_ x1) → (okO 86 20 x1 = true ∧ 0 ≤ x4 ∧ x4 < ln_ x1) ∧ Xs 39 (3, [some (some (vR x0)), some (some (vR x1)), some (some (vI x2)), some (some (vI x3)), some (some (vI (x4 + 1))), d5, d6, d7], [], ((up_ M x1 x4 0), W)) (QV Q)))) : Xs 39 (3, [some (some (vR x0)), some (some (vR x1)), some (some (vI x2)), some (some (vI x3)), some (some (vI x4)), d5, d6, d7], [], (M, W)) (QV Q) :=
  wpN_X (cut := fun p => Nat.beq p 3 || Nat.beq p 24) 16 _ _ h
set_option maxRecDepth 20000 in
theorem k_X3_fillPasses_24 (x0 : Int) (x1 : Int) (x2 : Int) (x3 : Int) (x4 : Int) (d5 : aL) (d6 : aL) (d7 : aL) (M : aM) (W : aW) (Q : aM → aW → Prop) (h :
  (okO 86 3 x0 = true) ∧ (inI x4 ∧ inI (M x0 2)) ∧ 
  ((x4 ≥ (M x0 2) → Q M W) ∧
  (¬ x4 ≥ (M x0 2) → (okO 86 3 x0 = true) ∧ CallI 35 [vR x0, vI x4, vI 0] (M, W) (fun r3 M1 W2 => (okO 86 3 x0 = true) ∧ CallI 35 [vR x0, vI x4, vI 1] (M1, W2) (fun r6 M4 W5 => (okO 86 3 x0 = true) ∧ CallI 38 [vR x0, vI r3, vI r6, vI x2, vI x3] (M4, W5) (fun r9 M7 W8 => (okO 86 20 x1 = true ∧ 0 ≤ ((r3 * 10) + r6) ∧ ((r3 * 10) + r6) < ln_ x1) ∧ (okO 86 20 x1 = true ∧ 0 ≤ ((r6 * 10) + r3) ∧ ((r6 * 10) + r3) < ln_ x1) ∧ Xs 39 (24, [some (some (vR x0)), some (some (vR x1)), some (some (vI x2)), some (some (vI x3)), some (some (vI (x4 + 1))), some (some (vI r3)), some (some (vI r6)), some (some (vI r9))], [], ((up_ (up_ M7 x1 ((r3 * 10) + r6) r9) x1 ((r6 * 10) + r3) r9), W8)) (QV Q))))))) : Xs 39 (24, [some (some (vR x0)), some (some (vR x1)), some (some (vI x2)), some (some (vI x3)), some (some (vI x4)), d5, d6, d7], [], (M, W)) (QV Q) :=
  wpN_X (cut := fun p => Nat.beq p 3 || Nat.beq p 24) 43 _ _ h
set_option maxRecDepth 20000 in
theorem e_X3_addRoad (x0 : Int) (x1 : Int) (x2 : Int) (x3 : Int) (x4 : Int) (x5 : Int) (x6 : Int) (M : aM) (W : aW) (Q : aM → aW → Prop) (h :
  (inI x4) ∧ 
  ((x4 > 0 → (okO 86 3 x0 = true) ∧ (∀ v1 : Int, v1 = M x0 3 → (okO 86 3 x0 = true) ∧ (okO 86 3 x0 = true) ∧ (okO 86 20 (x0 + 3) = true ∧ 0 ≤ v1 ∧ v1 < ln_ (x0 + 3)) ∧ (okO 86 3 x0 = true) ∧ (okO 86 20 (x0 + 5) = true ∧ 0 ≤ x1 ∧ x1 < ln_ (x0 + 5)) ∧ (okO 86 20 (x0 + 5) = true ∧ 0 ≤ x1 ∧ x1 < ln_ (x0 + 5)) ∧ (okO 86 3 x0 = true) ∧ (okO 86 20 (x0 + 5) = true ∧ 0 ≤ x2 ∧ x2 < ln_ (x0 + 5)) ∧ (okO 86 20 (x0 + 5) = true ∧ 0 ≤ x2 ∧ x2 < ln_ (x0 + 5)) ∧ (okO 86 3 x0 = true) ∧ (okO 86 3 x0 = true) ∧ Xs 40 (66, [some (some (vR x0)), some (some (vI x1)), some (some (vI x2)), some (some (vI x3)), some (some (vI x4)), some (some (vI x5)), some (some (vI x6)), some (some (vI v1)), none], [], ((up_ (up_ (up_ (up_ M (x0 + 3) v1 (M x0 2)) (x0 + 5) x1 (or_ ((up_ M (x0 + 3) v1 (M x0 2)) (x0 + 5) x1) (shl_ 1 v1))) (x0 + 5) x2 (or_ ((up_ (up_ M (x0 + 3) v1 (M x0 2)) (x0 + 5) x1 (or_ ((up_ M (x0 + 3) v1 (M x0 2)) (x0 + 5) x1) (shl_ 1 v1))) (x0 + 5) x2) (shl_ 1 v1))) x0 3 (((up_ (up_ (up_ M (x0 + 3) v1 (M x0 2)) (x0 + 5) x1 (or_ ((up_ M (x0 + 3) v1 (M x0 2)) (x0 + 5) x1) (shl_ 1 v1))) (x0 + 5) x2 (or_ ((up_ (up_ M (x0 + 3) v1 (M x0 2)) (x0 + 5) x1 (or_ ((up_ M (x0 + 3) v1 (M x0 2)) (x0 + 5) x1) (shl_ 1 v1))) (x0 + 5) x2) (shl_ 1 v1))) x0 3) + 1)), W)) (QV Q))) ∧
  (¬ x4 > 0 → (inI x5) ∧ 
    ((x5 < 0 → Xs 40 (66, [some (some (vR x0)), some (some (vI x1)), some (some (vI x2)), some (some (vI x3)), some (some (vI x4)), some (some (vI x5)), some (some (vI x6)), some (some (vI (-1))), none], [], (M, W)) (QV Q)) ∧
    (¬ x5 < 0 → (okO 86 3 x0 = true) ∧ (∀ v2 : Int, v2 = M x0 3 → (okO 86 3 x0 = true) ∧ (okO 86 3 x0 = true) ∧ (okO 86 20 (x0 + 3) = true ∧ 0 ≤ v2 ∧ v2 < ln_ (x0 + 3)) ∧ (okO 86 3 x0 = true) ∧ (okO 86 20 (x0 + 5) = true ∧ 0 ≤ x1 ∧ x1 < ln_ (x0 + 5)) ∧ (okO 86 20 (x0 + 5) = true ∧ 0 ≤ x1 ∧ x1 < ln_ (x0 + 5)) ∧ (okO 86 3 x0 = true) ∧ (okO 86 20 (x0 + 5) = true ∧ 0 ≤ x2 ∧ x2 < ln_ (x0 + 5)) ∧ (okO 86 20 (x0 + 5) = true ∧ 0 ≤ x2 ∧ x2 < ln_ (x0 + 5)) ∧ (okO 86 3 x0 = true) ∧ (okO 86 3 x0 = true) ∧ Xs 40 (66, [some (some (vR x0)), some (some (vI x1)), some (some (vI x2)), some (some (vI x3)), some (some (vI x4)), some (some (vI x5)), some (some (vI x6)), some (some (vI v2)), none], [], ((up_ (up_ (up_ (up_ M (x0 + 3) v2 (M x0 2)) (x0 + 5) x1 (or_ ((up_ M (x0 + 3) v2 (M x0 2)) (x0 + 5) x1) (shl_ 1 v2))) (x0 + 5) x2 (or_ ((up_ (up_ M (x0 + 3) v2 (M x0 2)) (x0 + 5) x1 (or_ ((up_ M (x0 + 3) v2 (M x0 2)) (x0 + 5) x1) (shl_ 1 v2))) (x0 + 5) x2) (shl_ 1 v2))) x0 3 (((up_ (up_ (up_ M (x0 + 3) v2 (M x0 2)) (x0 + 5) x1 (or_ ((up_ M (x0 + 3) v2 (M x0 2)) (x0 + 5) x1) (shl_ 1 v2))) (x0 + 5) x2 (or_ ((up_ (up_ M (x0 + 3) v2 (M x0 2)) (x0 + 5) x1 (or_ ((up_ M (x0 + 3) v2 (M x0 2)) (x0 + 5) x1) (shl_ 1 v2))) (x0 + 5) x2) (shl_ 1 v2))) x0 3) + 1)), W)) (QV Q))))))) : CallV 40 [vR x0, vI x1, vI x2, vI x3, vI x4, vI x5, vI x6] (M, W) Q :=
  wpN_X (cut := fun p => Nat.beq p 66) 81 _ _ h
set_option maxRecDepth 20000 in
theorem k_X3_addRoad_66 (x0 : Int) (x1 : Int) (x2 : Int) (x3 : Int) (x4 : Int) (x5 : Int) (x6 : Int) (x7 : Int) (d8 : aL) (M : aM) (W : aW) (Q : aM → aW → Prop) (h :
  (okO 86 3 x0 = true) ∧ (∀ v1 : Int, v1 = (M x0 2) * 7 → (okO 86 3 x0 = true) ∧ (okO 86 20 (x0 + 2) = true ∧ 0 ≤ (v1 + 0) ∧ (v1 + 0) < ln_ (x0 + 2)) ∧ (okO 86 3 x0 = true) ∧ (okO 86 20 (x0 + 2) = true ∧ 0 ≤ (v1 + 1) ∧ (v1 + 1) < ln_ (x0 + 2)) ∧ (okO 86 3 x0 = true) ∧ (okO 86 20 (x0 + 2) = true ∧ 0 ≤ (v1 + 2) ∧ (v1 + 2) < ln_ (x0 + 2)) ∧ (okO 86 3 x0 = true) ∧ (okO 86 20 (x0 + 2) = true ∧ 0 ≤ (v1 + 3) ∧ (v1 + 3) < ln_ (x0 + 2)) ∧ (okO 86 3 x0 = true) ∧ (okO 86 20 (x0 + 2) = true ∧ 0 ≤ (v1 + 4) ∧ (v1 + 4) < ln_ (x0 + 2)) ∧ (okO 86 3 x0 = true) ∧ (okO 86 20 (x0 + 2) = true ∧ 0 ≤ (v1 + 5) ∧ (v1 + 5) < ln_ (x0 + 2)) ∧ (okO 86 3 x0 = true) ∧ (okO 86 20 (x0 + 2) = true ∧ 0 ≤ (v1 + 6) ∧ (v1 + 6) < ln_ (x0 + 2)) ∧ (okO 86 3 x0 = true) ∧ (okO 86 3 x0 = true) ∧ (okO 86 20 (x0 + 4) = true ∧ 0 ≤ ((x1 * 10) + x2) ∧ ((x1 * 10) + x2) < ln_ (x0 + 4)) ∧ (okO 86 3 x0 = true) ∧ (okO 86 3 x0 = true) ∧ (okO 86 20 (x0 + 4) = true ∧ 0 ≤ ((x2 * 10) + x1) ∧ ((x2 * 10) + x1) < ln_ (x0 + 4)) ∧ (okO 86 3 x0 = true) ∧ (okO 86 3 x0 = true) ∧ Q (up_ (up_ (up_ (up_ (up_ (up_ (up_ (up_ (up_ (up_ M (x0 + 2) (v1 + 0) x1) (x0 + 2) (v1 + 1) x2) (x0 + 2) (v1 + 2) x3) (x0 + 2) (v1 + 3) x4) (x0 + 2) (v1 + 4) x5) (x0 + 2) (v1 + 5) x6) (x0 + 2) (v1 + 6) x7) (x0 + 4) ((x1 * 10) + x2) ((up_ (up_ (up_ (up_ (up_ (up_ (up_ M (x0 + 2) (v1 + 0) x1) (x0 + 2) (v1 + 1) x2) (x0 + 2) (v1 + 2) x3) (x0 + 2) (v1 + 3) x4) (x0 + 2) (v1 + 4) x5) (x0 + 2) (v1 + 5) x6) (x0 + 2) (v1 + 6) x7) x0 2)) (x0 + 4) ((x2 * 10) + x1) ((up_ (up_ (up_ (up_ (up_ (up_ (up_ (up_ M (x0 + 2) (v1 + 0) x1) (x0 + 2) (v1 + 1) x2) (x0 + 2) (v1 + 2) x3) (x0 + 2) (v1 + 3) x4) (x0 + 2) (v1 + 4) x5) (x0 + 2) (v1 + 5) x6) (x0 + 2) (v1 + 6) x7) (x0 + 4) ((x1 * 10) + x2) ((up_ (up_ (up_ (up_ (up_ (up_ (up_ M (x0 + 2) (v1 + 0) x1) (x0 + 2) (v1 + 1) x2) (x0 + 2) (v1 + 2) x3) (x0 + 2) (v1 + 3) x4) (x0 + 2) (v1 + 4) x5) (x0 + 2) (v1 + 5) x6) (x0 + 2) (v1 + 6) x7) x0 2)) x0 2)) x0 2 (((up_ (up_ (up_ (up_ (up_ (up_ (up_ (up_ (up_ M (x0 + 2) (v1 + 0) x1) (x0 + 2) (v1 + 1) x2) (x0 + 2) (v1 + 2) x3) (x0 + 2) (v1 + 3) x4) (x0 + 2) (v1 + 4) x5) (x0 + 2) (v1 + 5) x6) (x0 + 2) (v1 + 6) x7) (x0 + 4) ((x1 * 10) + x2) ((up_ (up_ (up_ (up_ (up_ (up_ (up_ M (x0 + 2) (v1 + 0) x1) (x0 + 2) (v1 + 1) x2) (x0 + 2) (v1 + 2) x3) (x0 + 2) (v1 + 3) x4) (x0 + 2) (v1 + 4) x5) (x0 + 2) (v1 + 5) x6) (x0 + 2) (v1 + 6) x7) x0 2)) (x0 + 4) ((x2 * 10) + x1) ((up_ (up_ (up_ (up_ (up_ (up_ (up_ (up_ M (x0 + 2) (v1 + 0) x1) (x0 + 2) (v1 + 1) x2) (x0 + 2) (v1 + 2) x3) (x0 + 2) (v1 + 3) x4) (x0 + 2) (v1 + 4) x5) (x0 + 2) (v1 + 5) x6) (x0 + 2) (v1 + 6) x7) (x0 + 4) ((x1 * 10) + x2) ((up_ (up_ (up_ (up_ (up_ (up_ (up_ M (x0 + 2) (v1 + 0) x1) (x0 + 2) (v1 + 1) x2) (x0 + 2) (v1 + 2) x3) (x0 + 2) (v1 + 3) x4) (x0 + 2) (v1 + 4) x5) (x0 + 2) (v1 + 5) x6) (x0 + 2) (v1 + 6) x7) x0 2)) x0 2)) x0 2) + 1)) W)) : Xs 40 (66, [some (some (vR x0)), some (some (vI x1)), some (some (vI x2)), some (some (vI x3)), some (some (vI x4)), some (some (vI x5)), some (some (vI x6)), some (some (vI x7)), d8], [], (M, W)) (QV Q) :=
  wpN_X (cut := fun p => Nat.beq p 66) 83 _ _ h
set_option maxRecDepth 20000 in
theorem e_X3_addWord (x0 : Int) (x1 : Int) (x2 : Int) (x3 : Int) (M : aM) (W : aW) (Q : aM → aW → Prop) (h :
  (okO 86 3 x0 = true) ∧ (okO 86 3 x0 = true) ∧ (okO 86 20 (x0 + 6) = true ∧ 0 ≤ (M x0 5) ∧ (M x0 5) < ln_ (x0 + 6)) ∧ (okO 86 3 x0 = true) ∧ (okO 86 3 x0 = true) ∧ (okO 86 20 (x0 + 7) = true ∧ 0 ≤ ((up_ M (x0 + 6) (M x0 5) x1) x0 5) ∧ ((up_ M (x0 + 6) (M x0 5) x1) x0 5) < ln_ (x0 + 7)) ∧ (okO 86 3 x0 = true) ∧ (okO 86 3 x0 = true) ∧ (okO 86 20 (x0 + 8) = true ∧ 0 ≤ ((up_ (up_ M (x0 + 6) (M x0 5) x1) (x0 + 7) ((up_ M (x0 + 6) (M x0 5) x1) x0 5) x2) x0 5) ∧ ((up_ (up_ M (x0 + 6) (M x0 5) x1) (x0 + 7) ((up_ M (x0 + 6) (M x0 5) x1) x0 5) x2) x0 5) < ln_ (x0 + 8)) ∧ (okO 86 3 x0 = true) ∧ (okO 86 3 x0 = true) ∧ Q (up_ (up_ (up_ (up_ M (x0 + 6) (M x0 5) x1) (x0 + 7) ((up_ M (x0 + 6) (M x0 5) x1) x0 5) x2) (x0 + 8) ((up_ (up_ M (x0 + 6) (M x0 5) x1) (x0 + 7) ((up_ M (x0 + 6) (M x0 5) x1) x0 5) x2) x0 5) x3) x0 5 (((up_ (up_ (up_ M (x0 + 6) (M x0 5) x1) (x0 + 7) ((up_ M (x0 + 6) (M x0 5) x1) x0 5) x2) (x0 + 8) ((up_ (up_ M (x0 + 6) (M x0 5) x1) (x0 + 7) ((up_ M (x0 + 6) (M x0 5) x1) x0 5) x2) x0 5) x3) x0 5) + 1)) W) : CallV 41 [vR x0, vI x1, vI x2, vI x3] (M, W) Q :=
  wpN_X (cut := fun p => false) 27 _ _ h
set_option maxRecDepth 20000 in
theorem e_X3_doubtfulBetween (x0 : Int) (x1 : Int) (x2 : Int) (M : aM) (W : aW) (Q : Int → aM → aW → Prop) (h :
  (okO 86 3 x0 = true) ∧ (okO 86 20 (x0 + 4) = true ∧ 0 ≤ ((x1 * 10) + x2) ∧ ((x1 * 10) + x2) < ln_ (x0 + 4)) ∧ (∀ v1 : Int, v1 = M (x0 + 4) ((x1 * 10) + x2) → (inI v1) ∧ 
  ((v1 ≥ 0 → (okO 86 3 x0 = true) ∧ CallI 35 [vR x0, vI v1, vI 6] (M, W) (fun r4 M2 W3 => Q r4 M2 W3)) ∧
  (¬ v1 ≥ 0 → Q (-1) M W)))) : CallI 42 [vR x0, vI x1, vI x2] (M, W) Q :=
  wpN_X (cut := fun p => false) 21 _ _ h
set_option maxRecDepth 20000 in
theorem e_X4_init  (M : aM) (F : aM) (dl : Int → Int) (sz ns : Int) (Q : aM → aW → Prop) (h :
  ((0 : Int) ≤ 31) ∧ (0 ≤ sz ∧ sz < 126 ∧ knd sz = 20 ∧ ln_ sz = 30) ∧ (okD ((ce_ M sz (fun _ => 0)), (F, dl, sz + 1, ns + 30)) 4 31 = true) ∧ (0 ≤ sz + 1 ∧ sz + 1 < 126 ∧ knd (sz + 1) = 20 ∧ ln_ (sz + 1) = 30) ∧ (okD ((ce_ (ce_ M sz (fun _ => 0)) (sz + 1) (fun _ => 0)), ((up_ F 31 1 (sz)), dl, sz + 1 + 1, ns + 30 + 30)) 4 31 = true) ∧ (0 ≤ sz + 1 + 1 ∧ sz + 1 + 1 < 126 ∧ knd (sz + 1 + 1) = 20 ∧ ln_ (sz + 1 + 1) = 30) ∧ (okD ((ce_ (ce_ (ce_ M sz (fun _ => 0)) (sz + 1) (fun _ => 0)) (sz + 1 + 1) (fun _ => 0)), ((up_ (up_ F 31 1 (sz)) 31 2 (sz + 1)), dl, sz + 1 + 1 + 1, ns + 30 + 30 + 30)) 4 31 = true) ∧ (0 ≤ sz + 1 + 1 + 1 ∧ sz + 1 + 1 + 1 < 126 ∧ knd (sz + 1 + 1 + 1) = 20 ∧ ln_ (sz + 1 + 1 + 1) = 30) ∧ (okD ((ce_ (ce_ (ce_ (ce_ M sz (fun _ => 0)) (sz + 1) (fun _ => 0)) (sz + 1 + 1) (fun _ => 0)) (sz + 1 + 1 + 1) (fun _ => 0)), ((up_ (up_ (up_ F 31 1 (sz)) 31 2 (sz + 1)) 31 3 (sz + 1 + 1)), dl, sz + 1 + 1 + 1 + 1, ns + 30 + 30 + 30 + 30)) 4 31 = true) ∧ Q (ce_ (ce_ (ce_ (ce_ M sz (fun _ => 0)) (sz + 1) (fun _ => 0)) (sz + 1 + 1) (fun _ => 0)) (sz + 1 + 1 + 1) (fun _ => 0)) ((up_ (up_ (up_ (up_ F 31 1 (sz)) 31 2 (sz + 1)) 31 3 (sz + 1 + 1)) 31 4 (sz + 1 + 1 + 1)), dl, sz + 1 + 1 + 1 + 1, ns + 30 + 30 + 30 + 30)) : CallV 43 [vR 31] (M, (F, dl, sz, ns)) Q :=
  wpN_X (cut := fun p => false) 21 _ _ h
set_option maxRecDepth 20000 in
theorem e_X4_add (x1 : Int) (x2 : Int) (x3 : Int) (x4 : Int) (M : aM) (W : aW) (Q : Int → aM → aW → Prop) (h :
  (inI (M 31 0)) ∧ 
  (((M 31 0) < 30 → (0 ≤ (M 31 0) ∧ (M 31 0) < 30) ∧ (0 ≤ ((up_ M 32 (M 31 0) x1) 31 0) ∧ ((up_ M 32 (M 31 0) x1) 31 0) < 30) ∧ (0 ≤ ((up_ (up_ M 32 (M 31 0) x1) 33 ((up_ M 32 (M 31 0) x1) 31 0) x2) 31 0) ∧ ((up_ (up_ M 32 (M 31 0) x1) 33 ((up_ M 32 (M 31 0) x1) 31 0) x2) 31 0) < 30) ∧ (0 ≤ ((up_ (up_ (up_ M 32 (M 31 0) x1) 33 ((up_ M 32 (M 31 0) x1) 31 0) x2) 34 ((up_ (up_ M 32 (M 31 0) x1) 33 ((up_ M 32 (M 31 0) x1) 31 0) x2) 31 0) x3) 31 0) ∧ ((up_ (up_ (up_ M 32 (M 31 0) x1) 33 ((up_ M 32 (M 31 0) x1) 31 0) x2) 34 ((up_ (up_ M 32 (M 31 0) x1) 33 ((up_ M 32 (M 31 0) x1) 31 0) x2) 31 0) x3) 31 0) < 30) ∧ Q (((up_ (up_ (up_ (up_ (up_ M 32 (M 31 0) x1) 33 ((up_ M 32 (M 31 0) x1) 31 0) x2) 34 ((up_ (up_ M 32 (M 31 0) x1) 33 ((up_ M 32 (M 31 0) x1) 31 0) x2) 31 0) x3) 35 ((up_ (up_ (up_ M 32 (M 31 0) x1) 33 ((up_ M 32 (M 31 0) x1) 31 0) x2) 34 ((up_ (up_ M 32 (M 31 0) x1) 33 ((up_ M 32 (M 31 0) x1) 31 0) x2) 31 0) x3) 31 0) x4) 31 0 (((up_ (up_ (up_ (up_ M 32 (M 31 0) x1) 33 ((up_ M 32 (M 31 0) x1) 31 0) x2) 34 ((up_ (up_ M 32 (M 31 0) x1) 33 ((up_ M 32 (M 31 0) x1) 31 0) x2) 31 0) x3) 35 ((up_ (up_ (up_ M 32 (M 31 0) x1) 33 ((up_ M 32 (M 31 0) x1) 31 0) x2) 34 ((up_ (up_ M 32 (M 31 0) x1) 33 ((up_ M 32 (M 31 0) x1) 31 0) x2) 31 0) x3) 31 0) x4) 31 0) + 1)) 31 0) - 1) (up_ (up_ (up_ (up_ (up_ M 32 (M 31 0) x1) 33 ((up_ M 32 (M 31 0) x1) 31 0) x2) 34 ((up_ (up_ M 32 (M 31 0) x1) 33 ((up_ M 32 (M 31 0) x1) 31 0) x2) 31 0) x3) 35 ((up_ (up_ (up_ M 32 (M 31 0) x1) 33 ((up_ M 32 (M 31 0) x1) 31 0) x2) 34 ((up_ (up_ M 32 (M 31 0) x1) 33 ((up_ M 32 (M 31 0) x1) 31 0) x2) 31 0) x3) 31 0) x4) 31 0 (((up_ (up_ (up_ (up_ M 32 (M 31 0) x1) 33 ((up_ M 32 (M 31 0) x1) 31 0) x2) 34 ((up_ (up_ M 32 (M 31 0) x1) 33 ((up_ M 32 (M 31 0) x1) 31 0) x2) 31 0) x3) 35 ((up_ (up_ (up_ M 32 (M 31 0) x1) 33 ((up_ M 32 (M 31 0) x1) 31 0) x2) 34 ((up_ (up_ M 32 (M 31 0) x1) 33 ((up_ M 32 (M 31 0) x1) 31 0) x2) 31 0) x3) 31 0) x4) 31 0) + 1)) W) ∧
  (¬ (M 31 0) < 30 → Q (-1) M W))) : CallI 44 [vR 31, vI x1, vI x2, vI x3, vI x4] (M, W) Q :=
  wpN_X (cut := fun p => false) 43 _ _ h
set_option maxRecDepth 20000 in
theorem e_X4_pick (x1 : Int) (x3 : Int) (x4 : Int) (M : aM) (W : aW) (Q : Int → aM → aW → Prop) (h :
  Xs 45 (3, [some (some (vR 31)), some (some (vR x1)), some (some (vR 27)), some (some (vI x3)), some (some (vI x4)), some (some (vI 0)), none], [], (M, W)) (QI Q)) : CallI 45 [vR 31, vR x1, vR 27, vI x3, vI x4] (M, W) Q :=
  wpN_X (cut := fun p => Nat.beq p 3) 5 _ _ h
set_option maxRecDepth 20000 in
theorem k_X4_pick_3 (x1 : Int) (x3 : Int) (x4 : Int) (x5 : Int) (d6 : aL) (M : aM) (W : aW) (Q : Int → aM → aW → Prop) (h :
  (inI x5 ∧ inI (M 31 0)) ∧ 
  ((x5 ≥ (M 31 0) → Q (-2) M W) ∧
  (¬ x5 ≥ (M 31 0) → (0 ≤ x5 ∧ x5 < 30) ∧ (inI (M 32 x5) ∧ inI x3) ∧ 
    (((M 32 x5) ≠ x3 → (inI 0) ∧ 
      (((0 : Int) = 0 → Xs 45 (3, [some (some (vR 31)), some (some (vR x1)), some (some (vR 27)), some (some (vI x3)), some (some (vI x4)), some (some (vI (x5 + 1))), some (some (vI 0))], [], (M, W)) (QI Q)) ∧
      (¬ (0 : Int) = 0 → (0 ≤ x5 ∧ x5 < 30) ∧ (0 ≤ x4 ∧ x4 < 729) ∧ (0 ≤ x4 ∧ x4 < 729) ∧ (okO 86 3 x1 = true) ∧ CallI 38 [vR x1, vI x3, vI (M 35 x5), vI (M 28 x4), vI (M 29 x4)] (M, W) (fun r3 M1 W2 => (inI r3) ∧ 
        ((r3 ≤ 0 → Xs 45 (3, [some (some (vR 31)), some (some (vR x1)), some (some (vR 27)), some (some (vI x3)), some (some (vI x4)), some (some (vI (x5 + 1))), some (some (vI 0))], [], (M1, W2)) (QI Q)) ∧
        (¬ r3 ≤ 0 → (0 ≤ x5 ∧ x5 < 30) ∧ Q (M1 35 x5) M1 W2)))))) ∧
    (¬ (M 32 x5) ≠ x3 → (0 ≤ x5 ∧ x5 < 30) ∧ (inI (M 33 x5)) ∧ 
      (((M 33 x5) < 0 → (inI 1) ∧ 
        (((1 : Int) = 0 → Xs 45 (3, [some (some (vR 31)), some (some (vR x1)), some (some (vR 27)), some (some (vI x3)), some (some (vI x4)), some (some (vI (x5 + 1))), some (some (vI 1))], [], (M, W)) (QI Q)) ∧
        (¬ (1 : Int) = 0 → (0 ≤ x5 ∧ x5 < 30) ∧ (0 ≤ x4 ∧ x4 < 729) ∧ (0 ≤ x4 ∧ x4 < 729) ∧ (okO 86 3 x1 = true) ∧ CallI 38 [vR x1, vI x3, vI (M 35 x5), vI (M 28 x4), vI (M 29 x4)] (M, W) (fun r6 M4 W5 => (inI r6) ∧ 
          ((r6 ≤ 0 → Xs 45 (3, [some (some (vR 31)), some (some (vR x1)), some (some (vR 27)), some (some (vI x3)), some (some (vI x4)), some (some (vI (x5 + 1))), some (some (vI 1))], [], (M4, W5)) (QI Q)) ∧
          (¬ r6 ≤ 0 → (0 ≤ x5 ∧ x5 < 30) ∧ Q (M4 35 x5) M4 W5)))))) ∧
      (¬ (M 33 x5) < 0 → (0 ≤ x5 ∧ x5 < 30) ∧ CallI 22 [vR 27, vI x4, vI (M 33 x5)] (M, W) (fun r9 M7 W8 => (0 ≤ x5 ∧ x5 < 30) ∧ (inI r9 ∧ inI (M7 34 x5)) ∧ 
        ((r9 ≠ (M7 34 x5) → (inI 0) ∧ 
          (((0 : Int) = 0 → Xs 45 (3, [some (some (vR 31)), some (some (vR x1)), some (some (vR 27)), some (some (vI x3)), some (some (vI x4)), some (some (vI (x5 + 1))), some (some (vI 0))], [], (M7, W8)) (QI Q)) ∧
          (¬ (0 : Int) = 0 → (0 ≤ x5 ∧ x5 < 30) ∧ (0 ≤ x4 ∧ x4 < 729) ∧ (0 ≤ x4 ∧ x4 < 729) ∧ (okO 86 3 x1 = true) ∧ CallI 38 [vR x1, vI x3, vI (M7 35 x5), vI (M7 28 x4), vI (M7 29 x4)] (M7, W8) (fun r12 M10 W11 => (inI r12) ∧ 
            ((r12 ≤ 0 → Xs 45 (3, [some (some (vR 31)), some (some (vR x1)), some (some (vR 27)), some (some (vI x3)), some (some (vI x4)), some (some (vI (x5 + 1))), some (some (vI 0))], [], (M10, W11)) (QI Q)) ∧
            (¬ r12 ≤ 0 → (0 ≤ x5 ∧ x5 < 30) ∧ Q (M10 35 x5) M10 W11)))))) ∧
        (¬ r9 ≠ (M7 34 x5) → (inI 1) ∧ 
          (((1 : Int) = 0 → Xs 45 (3, [some (some (vR 31)), some (some (vR x1)), some (some (vR 27)), some (some (vI x3)), some (some (vI x4)), some (some (vI (x5 + 1))), some (some (vI 1))], [], (M7, W8)) (QI Q)) ∧
          (¬ (1 : Int) = 0 → (0 ≤ x5 ∧ x5 < 30) ∧ (0 ≤ x4 ∧ x4 < 729) ∧ (0 ≤ x4 ∧ x4 < 729) ∧ (okO 86 3 x1 = true) ∧ CallI 38 [vR x1, vI x3, vI (M7 35 x5), vI (M7 28 x4), vI (M7 29 x4)] (M7, W8) (fun r15 M13 W14 => (inI r15) ∧ 
            ((r15 ≤ 0 → Xs 45 (3, [some (some (vR 31)), some (some (vR x1)), some (some (vR 27)), some (some (vI x3)), some (some (vI x4)), some (some (vI (x5 + 1))), some (some (vI 1))], [], (M13, W14)) (QI Q)) ∧
            (¬ r15 ≤ 0 → (0 ≤ x5 ∧ x5 < 30) ∧ Q (M13 35 x5) M13 W14))))))))))))))) : Xs 45 (3, [some (some (vR 31)), some (some (vR x1)), some (some (vR 27)), some (some (vI x3)), some (some (vI x4)), some (some (vI x5)), d6], [], (M, W)) (QI Q) :=
  wpN_X (cut := fun p => Nat.beq p 3) 157 _ _ h
set_option maxRecDepth 20000 in
theorem e_X5_init (x1 : Int) (M : aM) (F : aM) (dl : Int → Int) (sz ns : Int) (Q : aM → aW → Prop) (h :
  ((0 : Int) ≤ 82) ∧ (0 ≤ sz ∧ sz < 126 ∧ knd sz = 20 ∧ ln_ sz = 101) ∧ (okD ((ce_ M sz (fun _ => 0)), (F, dl, sz + 1, ns + 101)) 5 82 = true) ∧ (0 ≤ sz + 1 ∧ sz + 1 < 126 ∧ knd (sz + 1) = 20 ∧ ln_ (sz + 1) = 101) ∧ (okD ((ce_ (ce_ M sz (fun _ => 0)) (sz + 1) (fun _ => 0)), ((up_ F 82 4 (sz)), dl, sz + 1 + 1, ns + 101 + 101)) 5 82 = true) ∧ (0 ≤ sz + 1 + 1 ∧ sz + 1 + 1 < 126 ∧ knd (sz + 1 + 1) = 20 ∧ ln_ (sz + 1 + 1) = 101) ∧ (okD ((ce_ (ce_ (ce_ M sz (fun _ => 0)) (sz + 1) (fun _ => 0)) (sz + 1 + 1) (fun _ => 0)), ((up_ (up_ F 82 4 (sz)) 82 5 (sz + 1)), dl, sz + 1 + 1 + 1, ns + 101 + 101 + 101)) 5 82 = true) ∧ (okD ((ce_ (ce_ (ce_ M sz (fun _ => 0)) (sz + 1) (fun _ => 0)) (sz + 1 + 1) (fun _ => 0)), ((up_ (up_ (up_ F 82 4 (sz)) 82 5 (sz + 1)) 82 6 (sz + 1 + 1)), dl, sz + 1 + 1 + 1, ns + 101 + 101 + 101)) 5 82 = true) ∧ Q (ce_ (ce_ (ce_ M sz (fun _ => 0)) (sz + 1) (fun _ => 0)) (sz + 1 + 1) (fun _ => 0)) ((up_ (up_ (up_ (up_ F 82 4 (sz)) 82 5 (sz + 1)) 82 6 (sz + 1 + 1)) 82 1 x1), dl, sz + 1 + 1 + 1, ns + 101 + 101 + 101)) : CallV 46 [vR 82, vR x1] (M, (F, dl, sz, ns)) Q :=
  wpN_X (cut := fun p => false) 20 _ _ h
set_option maxRecDepth 20000 in
theorem e_X5_setOut (x1 : Int) (x2 : Int) (M : aM) (W : aW) (Q : aM → aW → Prop) (h :
  CallI 48 [vR 82, vR x1, vI x2] ((up_ (up_ M 82 0 1) 82 3 0), W) (fun r3 M1 W2 => (okO 86 3 x1 = true) ∧ (okO 86 3 x1 = true) ∧ (okO 86 3 x1 = true) ∧ (okO 86 20 (x1 + 5) = true ∧ 0 ≤ ((up_ (up_ (up_ M1 82 2 r3) 83 0 ((up_ M1 82 2 r3) x1 6)) 84 0 0) x1 6) ∧ ((up_ (up_ (up_ M1 82 2 r3) 83 0 ((up_ M1 82 2 r3) x1 6)) 84 0 0) x1 6) < ln_ (x1 + 5)) ∧ CallI 24 [vR 27, vI 0, vI ((up_ (up_ (up_ M1 82 2 r3) 83 0 ((up_ M1 82 2 r3) x1 6)) 84 0 0) (x1 + 5) ((up_ (up_ (up_ M1 82 2 r3) 83 0 ((up_ M1 82 2 r3) x1 6)) 84 0 0) x1 6)), vI ((up_ (up_ (up_ M1 82 2 r3) 83 0 ((up_ M1 82 2 r3) x1 6)) 84 0 0) 82 2)] ((up_ (up_ (up_ M1 82 2 r3) 83 0 ((up_ M1 82 2 r3) x1 6)) 84 0 0), W2) (fun r6 M4 W5 => Q (up_ M4 85 0 r6) W5))) : CallV 47 [vR 82, vR x1, vI x2] (M, W) Q :=
  wpN_X (cut := fun p => false) 41 _ _ h
set_option maxRecDepth 20000 in
theorem e_X5_draw (x1 : Int) (x2 : Int) (M : aM) (W : aW) (Q : Int → aM → aW → Prop) (h :
  (inI x2) ∧ (∀ v1 : Int, v1 = x2 → Xs 48 (9, [some (some (vR 82)), some (some (vR x1)), some (some (vI x2)), some (some (vL v1)), some none, some (some (vI 0)), some (some (vI 0))], [], (M, W)) (QI Q))) : CallI 48 [vR 82, vR x1, vI x2] (M, W) Q :=
  wpN_X (cut := fun p => Nat.beq p 9 || Nat.beq p 69) 10 _ _ h
set_option maxRecDepth 20000 in
theorem k_X5_draw_9 (x1 : Int) (x2 : Int) (x3 : Int) (x5 : Int) (x6 : Int) (M : aM) (W : aW) (Q : Int → aM → aW → Prop) (h :
  (okO 86 3 x1 = true) ∧ (inI x6 ∧ inI (M x1 3)) ∧ 
  ((x6 ≥ (M x1 3) → Xs 48 (69, [some (some (vR 82)), some (some (vR x1)), some (some (vI x2)), some (some (vL x3)), some none, some (some (vI x5)), some (some (vI 0))], [], (M, W)) (QI Q)) ∧
  (¬ x6 ≥ (M x1 3) → (okO 86 3 x1 = true) ∧ CallI 36 [vR x1, vI x6] (M, W) (fun r3 M1 W2 => (inI r3) ∧ 
    ((r3 ≤ 0 → Xs 48 (9, [some (some (vR 82)), some (some (vR x1)), some (some (vI x2)), some (some (vL x3)), some none, some (some (vI x5)), some (some (vI (x6 + 1)))], [], (M1, W2)) (QI Q)) ∧
    (¬ r3 ≤ 0 → CallL 49 [vR 82, vL x3] (M1, W2) (fun r6 M4 W5 => (okO 86 3 x1 = true) ∧ CallI 36 [vR x1, vI x6] (M4, W5) (fun r9 M7 W8 => CallI 50 [vR 82, vL r6, vI r9] (M7, W8) (fun r12 M10 W11 => (inI r12) ∧ 
      ((r12 = 0 → (∀ v13 : Int, v13 = or_ x5 0 → Xs 48 (9, [some (some (vR 82)), some (some (vR x1)), some (some (vI x2)), some (some (vL r6)), some none, some (some (vI v13)), some (some (vI (x6 + 1)))], [], (M10, W11)) (QI Q))) ∧
      (¬ r12 = 0 → (∀ v14 : Int, v14 = or_ x5 (shl_ 1 x6) → Xs 48 (9, [some (some (vR 82)), some (some (vR x1)), some (some (vI x2)), some (some (vL r6)), some none, some (some (vI v14)), some (some (vI (x6 + 1)))], [], (M10, W11)) (QI Q))))))))))))) : Xs 48 (9, [some (some (vR 82)), some (some (vR x1)), some (some (vI x2)), some (some (vL x3)), some none, some (some (vI x5)), some (some (vI x6))], [], (M, W)) (QI Q) :=
  wpN_X (cut := fun p => Nat.beq p 9 || Nat.beq p 69) 43 _ _ h
set_option maxRecDepth 20000 in
theorem k_X5_draw_69 (x1 : Int) (x2 : Int) (x3 : Int) (x5 : Int) (x6 : Int) (M : aM) (W : aW) (Q : Int → aM → aW → Prop) (h :
  (okO 86 3 x1 = true) ∧ (inI x6 ∧ inI (M x1 1)) ∧ 
  ((x6 ≥ (M x1 1) → Q x5 M W) ∧
  (¬ x6 ≥ (M x1 1) → CallL 49 [vR 82, vL x3] (M, W) (fun r3 M1 W2 => (okO 86 3 x1 = true) ∧ (okO 86 20 (x1 + 1) = true ∧ 0 ≤ x6 ∧ x6 < ln_ (x1 + 1)) ∧ CallI 50 [vR 82, vL r3, vI (M1 (x1 + 1) x6)] (M1, W2) (fun r6 M4 W5 => (inI r6) ∧ 
    ((r6 = 0 → Xs 48 (69, [some (some (vR 82)), some (some (vR x1)), some (some (vI x2)), some (some (vL r3)), some none, some (some (vI x5)), some (some (vI (x6 + 1)))], [], (M4, W5)) (QI Q)) ∧
    (¬ r6 = 0 → CallI 51 [vR 82, vR x1, vI x6] (M4, W5) (fun r9 M7 W8 => (∀ v10 : Int, v10 = or_ x5 r9 → Xs 48 (69, [some (some (vR 82)), some (some (vR x1)), some (some (vI x2)), some (some (vL r3)), some none, some (some (vI v10)), some (some (vI (x6 + 1)))], [], (M7, W8)) (QI Q)))))))))) : Xs 48 (69, [some (some (vR 82)), some (some (vR x1)), some (some (vI x2)), some (some (vL x3)), some none, some (some (vI x5)), some (some (vI x6))], [], (M, W)) (QI Q) :=
  wpN_X (cut := fun p => Nat.beq p 9 || Nat.beq p 69) 33 _ _ h
set_option maxRecDepth 20000 in
theorem e_X5_follow (x1 : Int) (M : aM) (W : aW) (Q : Int → aM → aW → Prop) (h :
  Q (land_ ((x1 * 1103515245) + 12345) 2147483647) M W) : CallL 49 [vR 82, vL x1] (M, W) Q :=
  wpN_X (cut := fun p => false) 10 _ _ h
set_option maxRecDepth 20000 in
theorem e_X5_comes (x1 : Int) (x3 : Int) (M : aM) (W : aW) (Q : Int → aM → aW → Prop) (h :
  (inL x1 ∧ inL 65536 ∧ (65536 : Int) ≠ 0) ∧ (inL (Int.tdiv x1 65536) ∧ inL 10 ∧ (10 : Int) ≠ 0) ∧ (inI x3) ∧ (inL (Int.tmod (Int.tdiv x1 65536) 10) ∧ inL x3) ∧
  (((Int.tmod (Int.tdiv x1 65536) 10) ≥ x3 → ((0 : Int) = 0 ∨ (0 : Int) = 1) ∧ Q 0 M W) ∧
  (¬ (Int.tmod (Int.tdiv x1 65536) 10) ≥ x3 → ((1 : Int) = 0 ∨ (1 : Int) = 1) ∧ Q 1 M W))) : CallI 50 [vR 82, vL x1, vI x3] (M, W) Q :=
  wpN_X (cut := fun p => false) 15 _ _ h
set_option maxRecDepth 20000 in
theorem e_X5_shutBy (x1 : Int) (x2 : Int) (M : aM) (W : aW) (Q : Int → aM → aW → Prop) (h :
  Xs 51 (5, [some (some (vR 82)), some (some (vR x1)), some (some (vI x2)), some (some (vI 0)), some (some (vI 0))], [], (M, W)) (QI Q)) : CallI 51 [vR 82, vR x1, vI x2] (M, W) Q :=
  wpN_X (cut := fun p => Nat.beq p 5) 7 _ _ h
set_option maxRecDepth 20000 in
theorem k_X5_shutBy_5 (x1 : Int) (x2 : Int) (x3 : Int) (x4 : Int) (M : aM) (W : aW) (Q : Int → aM → aW → Prop) (h :
  (okO 86 3 x1 = true) ∧ (inI x4 ∧ inI (M x1 3)) ∧ 
  ((x4 ≥ (M x1 3) → Q x3 M W) ∧
  (¬ x4 ≥ (M x1 3) → (okO 86 3 x1 = true) ∧ CallI 37 [vR x1, vI x4] (M, W) (fun r3 M1 W2 => (inI r3 ∧ inI x2) ∧ 
    ((r3 ≠ x2 → (∀ v4 : Int, v4 = or_ x3 0 → Xs 51 (5, [some (some (vR 82)), some (some (vR x1)), some (some (vI x2)), some (some (vI v4)), some (some (vI (x4 + 1)))], [], (M1, W2)) (QI Q))) ∧
    (¬ r3 ≠ x2 → (∀ v5 : Int, v5 = or_ x3 (shl_ 1 x4) → Xs 51 (5, [some (some (vR 82)), some (some (vR x1)), some (some (vI x2)), some (some (vI v5)), some (some (vI (x4 + 1)))], [], (M1, W2)) (QI Q)))))))) : Xs 51 (5, [some (some (vR 82)), some (some (vR x1)), some (some (vI x2)), some (some (vI x3)), some (some (vI x4))], [], (M, W)) (QI Q) :=
  wpN_X (cut := fun p => Nat.beq p 5) 29 _ _ h
set_option maxRecDepth 20000 in
theorem e_X5_rests (x1 : Int) (M : aM) (W : aW) (Q : Int → aM → aW → Prop) (h :
  (inI (M 82 0)) ∧ 
  (((M 82 0) = 0 → ((1 : Int) = 0 ∨ (1 : Int) = 1) ∧ Q 1 M W) ∧
  (¬ (M 82 0) = 0 → (inI (M 82 3)) ∧ 
    (((M 82 3) ≥ 100 → ((1 : Int) = 0 ∨ (1 : Int) = 1) ∧ Q 1 M W) ∧
    (¬ (M 82 3) ≥ 100 → (0 ≤ (M 82 3) ∧ (M 82 3) < 101) ∧ (okO 86 3 x1 = true) ∧ (inI (M 83 (M 82 3)) ∧ inI (M x1 7)) ∧ 
      (((M 83 (M 82 3)) ≠ (M x1 7) → ((0 : Int) = 0 ∨ (0 : Int) = 1) ∧ Q 0 M W) ∧
      (¬ (M 83 (M 82 3)) ≠ (M x1 7) → ((1 : Int) = 0 ∨ (1 : Int) = 1) ∧ Q 1 M W))))))) : CallI 52 [vR 82, vR x1] (M, W) Q :=
  wpN_X (cut := fun p => false) 28 _ _ h
set_option maxRecDepth 20000 in
theorem e_X5_travel (x1 : Int) (x2 : Int) (M : aM) (W : aW) (Q : Int → aM → aW → Prop) (h :
  CallI 52 [vR 82, vR x1] (M, W) (fun r3 M1 W2 => (inI r3) ∧ 
  ((r3 = 0 → (0 ≤ (M1 82 3) ∧ (M1 82 3) < 101) ∧ (∀ v4 : Int, v4 = M1 85 (M1 82 3) → (0 ≤ (M1 82 3) ∧ (M1 82 3) < 101) ∧ (0 ≤ v4 ∧ v4 < 729) ∧ (0 ≤ v4 ∧ v4 < 729) ∧ (okO 86 3 x1 = true) ∧ CallI 38 [vR x1, vI (M1 83 (M1 82 3)), vI x2, vI (M1 28 v4), vI (M1 29 v4)] (M1, W2) (fun r7 M5 W6 => (inI r7) ∧ 
    ((r7 > 0 → (okO 86 3 x1 = true) ∧ (okO 86 20 (x1 + 5) = true ∧ 0 ≤ x2 ∧ x2 < ln_ (x1 + 5)) ∧ CallI 24 [vR 27, vI v4, vI (M5 (x1 + 5) x2), vI (M5 82 2)] (M5, W6) (fun r10 M8 W9 => CallV 55 [vR 82, vI x2, vI r7, vI r10] (M8, W9) (fun M11 W12 => (0 ≤ (M11 82 3) ∧ (M11 82 3) < 101) ∧ Q (M11 84 (M11 82 3)) M11 W12))) ∧
    (¬ r7 > 0 → Q (-1) M5 W6))))) ∧
  (¬ r3 = 0 → Q (-1) M1 W2)))) : CallI 53 [vR 82, vR x1, vI x2] (M, W) Q :=
  wpN_X (cut := fun p => false) 57 _ _ h
set_option maxRecDepth 20000 in
theorem e_X5_hear (x1 : Int) (x2 : Int) (M : aM) (W : aW) (Q : Int → aM → aW → Prop) (h :
  CallI 52 [vR 82, vR x1] (M, W) (fun r3 M1 W2 => (inI r3) ∧ 
  ((r3 ≠ 0 → Q (-1) M1 W2) ∧
  (¬ r3 ≠ 0 → (okO 86 3 x1 = true) ∧ (okO 86 20 (x1 + 6) = true ∧ 0 ≤ x2 ∧ x2 < ln_ (x1 + 6)) ∧ (0 ≤ (M1 82 3) ∧ (M1 82 3) < 101) ∧ (inI (M1 (x1 + 6) x2) ∧ inI (M1 83 (M1 82 3))) ∧ 
    (((M1 (x1 + 6) x2) = (M1 83 (M1 82 3)) → (0 ≤ (M1 82 3) ∧ (M1 82 3) < 101) ∧ (∀ v4 : Int, v4 = M1 85 (M1 82 3) → (okO 86 3 x1 = true) ∧ (okO 86 20 (x1 + 7) = true ∧ 0 ≤ x2 ∧ x2 < ln_ (x1 + 7)) ∧ (∀ v5 : Int, v5 = M1 (x1 + 7) x2 → CallI 22 [vR 27, vI v4, vI v5] (M1, W2) (fun r8 M6 W7 => (inI r8) ∧ 
      ((r8 = 0 → (0 ≤ (M6 82 3) ∧ (M6 82 3) < 101) ∧ (okO 86 3 x1 = true) ∧ (okO 86 20 (x1 + 8) = true ∧ 0 ≤ x2 ∧ x2 < ln_ (x1 + 8)) ∧ CallI 24 [vR 27, vI v4, vI (shl_ 1 v5), vI (M6 82 2)] (M6, W7) (fun r11 M9 W10 => CallV 55 [vR 82, vI (M6 83 (M6 82 3)), vI (M6 (x1 + 8) x2), vI r11] (M9, W10) (fun M12 W13 => (0 ≤ (M12 82 3) ∧ (M12 82 3) < 101) ∧ CallI 22 [vR 27, vI (M12 85 (M12 82 3)), vI v5] (M12, W13) (fun r16 M14 W15 => Q r16 M14 W15)))) ∧
      (¬ r8 = 0 → Q (-1) M6 W7)))))) ∧
    (¬ (M1 (x1 + 6) x2) = (M1 83 (M1 82 3)) → Q (-1) M1 W2)))))) : CallI 54 [vR 82, vR x1, vI x2] (M, W) Q :=
  wpN_X (cut := fun p => false) 69 _ _ h
set_option maxRecDepth 20000 in
theorem e_X5_take (x1 : Int) (x2 : Int) (x3 : Int) (M : aM) (W : aW) (Q : aM → aW → Prop) (h :
  (0 ≤ ((M 82 3) + 1) ∧ ((M 82 3) + 1) < 101) ∧ (0 ≤ ((up_ M 83 ((M 82 3) + 1) x1) 82 3) ∧ ((up_ M 83 ((M 82 3) + 1) x1) 82 3) < 101) ∧ (0 ≤ (((up_ M 83 ((M 82 3) + 1) x1) 82 3) + 1) ∧ (((up_ M 83 ((M 82 3) + 1) x1) 82 3) + 1) < 101) ∧ (0 ≤ (((up_ (up_ M 83 ((M 82 3) + 1) x1) 84 (((up_ M 83 ((M 82 3) + 1) x1) 82 3) + 1) (((up_ M 83 ((M 82 3) + 1) x1) 84 ((up_ M 83 ((M 82 3) + 1) x1) 82 3)) + x2)) 82 3) + 1) ∧ (((up_ (up_ M 83 ((M 82 3) + 1) x1) 84 (((up_ M 83 ((M 82 3) + 1) x1) 82 3) + 1) (((up_ M 83 ((M 82 3) + 1) x1) 84 ((up_ M 83 ((M 82 3) + 1) x1) 82 3)) + x2)) 82 3) + 1) < 101) ∧ Q (up_ (up_ (up_ (up_ M 83 ((M 82 3) + 1) x1) 84 (((up_ M 83 ((M 82 3) + 1) x1) 82 3) + 1) (((up_ M 83 ((M 82 3) + 1) x1) 84 ((up_ M 83 ((M 82 3) + 1) x1) 82 3)) + x2)) 85 (((up_ (up_ M 83 ((M 82 3) + 1) x1) 84 (((up_ M 83 ((M 82 3) + 1) x1) 82 3) + 1) (((up_ M 83 ((M 82 3) + 1) x1) 84 ((up_ M 83 ((M 82 3) + 1) x1) 82 3)) + x2)) 82 3) + 1) x3) 82 3 (((up_ (up_ (up_ M 83 ((M 82 3) + 1) x1) 84 (((up_ M 83 ((M 82 3) + 1) x1) 82 3) + 1) (((up_ M 83 ((M 82 3) + 1) x1) 84 ((up_ M 83 ((M 82 3) + 1) x1) 82 3)) + x2)) 85 (((up_ (up_ M 83 ((M 82 3) + 1) x1) 84 (((up_ M 83 ((M 82 3) + 1) x1) 82 3) + 1) (((up_ M 83 ((M 82 3) + 1) x1) 84 ((up_ M 83 ((M 82 3) + 1) x1) 82 3)) + x2)) 82 3) + 1) x3) 82 3) + 1)) W) : CallV 55 [vR 82, vI x1, vI x2, vI x3] (M, W) Q :=
  wpN_X (cut := fun p => false) 39 _ _ h
set_option maxRecDepth 20000 in
theorem e_X5_undo  (M : aM) (W : aW) (Q : Int → aM → aW → Prop) (h :
  (inI (M 82 0)) ∧ 
  (((M 82 0) = 0 → Q (-1) M W) ∧
  (¬ (M 82 0) = 0 → (inI (M 82 3)) ∧ 
    (((M 82 3) ≠ 0 → Q ((up_ M 82 3 ((M 82 3) - 1)) 82 3) (up_ M 82 3 ((M 82 3) - 1)) W) ∧
    (¬ (M 82 3) ≠ 0 → Q (-1) M W))))) : CallI 56 [vR 82] (M, W) Q :=
  wpN_X (cut := fun p => false) 21 _ _ h
set_option maxRecDepth 20000 in
theorem e_X5_tell (x1 : Int) (x2 : Int) (M : aM) (W : aW) (Q : Int → aM → aW → Prop) (h :
  (inI (M 82 0)) ∧ 
  (((M 82 0) ≠ 0 → (inI x2) ∧ 
    ((x2 = 0 → (0 ≤ (M 82 3) ∧ (M 82 3) < 101) ∧ Q (M 83 (M 82 3)) M W) ∧ (x2 ≠ 0 → 
    ((x2 = 1 → (0 ≤ (M 82 3) ∧ (M 82 3) < 101) ∧ Q (M 84 (M 82 3)) M W) ∧ (x2 ≠ 1 → 
    ((x2 = 2 → (0 ≤ (M 82 3) ∧ (M 82 3) < 101) ∧ Q (M 85 (M 82 3)) M W) ∧ (x2 ≠ 2 → 
    ((x2 = 3 → Q (M 82 3) M W) ∧ (x2 ≠ 3 → 
    ((x2 = 4 → Q (M 82 2) M W) ∧ (x2 ≠ 4 → 
    ((x2 = 5 → (0 ≤ (M 82 3) ∧ (M 82 3) < 101) ∧ (okO 86 3 x1 = true) ∧ (inI (M 83 (M 82 3)) ∧ inI (M x1 7)) ∧ 
      (((M 83 (M 82 3)) ≠ (M x1 7) → Q 0 M W) ∧
      (¬ (M 83 (M 82 3)) ≠ (M x1 7) → Q 1 M W))) ∧ (x2 ≠ 5 → Q (-1) M W))))))))))))) ∧
  (¬ (M 82 0) ≠ 0 → Q (-1) M W))) : CallI 57 [vR 82, vR x1, vI x2] (M, W) Q :=
  wpN_X (cut := fun p => false) 48 _ _ h
set_option maxRecDepth 20000 in
theorem e_X6_init (x0 : Int) (M : aM) (F : aM) (dl : Int → Int) (sz ns : Int) (Q : aM → aW → Prop) (h :
  ((0 : Int) ≤ x0) ∧ (0 ≤ sz ∧ sz < 126 ∧ knd sz = 21 ∧ ln_ sz = 64) ∧ (okD ((ce_ M sz (fun _ => 0)), (F, dl, sz + 1, ns + 64)) 6 x0 = true) ∧ (0 ≤ sz + 1 ∧ sz + 1 < 126 ∧ knd (sz + 1) = 21 ∧ ln_ (sz + 1) = 729) ∧ (okD ((ce_ (ce_ M sz (fun _ => 0)) (sz + 1) (fun _ => 0)), ((up_ F x0 0 (sz)), dl, sz + 1 + 1, ns + 64 + 729)) 6 x0 = true) ∧ Q (ce_ (ce_ M sz (fun _ => 0)) (sz + 1) (fun _ => 0)) ((up_ (up_ F x0 0 (sz)) x0 1 (sz + 1)), dl, sz + 1 + 1, ns + 64 + 729)) : CallV 58 [vR x0] (M, (F, dl, sz, ns)) Q :=
  wpN_X (cut := fun p => false) 13 _ _ h
set_option maxRecDepth 20000 in
theorem e_X6_weigh (x0 : Int) (x1 : Int) (x2 : Int) (x3 : Int) (M : aM) (W : aW) (Q : aM → aW → Prop) (h :
  Xs 59 (3, [some (some (vR x0)), some (some (vR x1)), some (some (vI x2)), some (some (vI x3)), some (some (vI 0)), none, none, none, none, none, none, none], [], (M, W)) (QV Q)) : CallV 59 [vR x0, vR x1, vI x2, vI x3] (M, W) Q :=
  wpN_X (cut := fun p => Nat.beq p 3 || Nat.beq p 23 || Nat.beq p 46 || Nat.beq p 100) 5 _ _ h
set_option maxRecDepth 20000 in
theorem k_X6_weigh_3 (x0 : Int) (x1 : Int) (x2 : Int) (x3 : Int) (x4 : Int) (d5 : aL) (d6 : aL) (d7 : aL) (d8 : aL) (d9 : aL) (d10 : aL) (d11 : aL) (M : aM) (W : aW) (Q : aM → aW → Prop) (h :
  (okO 86 3 x1 = true) ∧ CallI 33 [vR x1] (M, W) (fun r3 M1 W2 => (inI x4 ∧ inI r3) ∧ 
  ((x4 ≥ r3 → Q M1 W2) ∧
  (¬ x4 ≥ r3 → (okO 86 6 x0 = true) ∧ (okO 86 21 (x0 + 1) = true ∧ 0 ≤ x4 ∧ x4 < ln_ (x0 + 1)) ∧ Xs 59 (23, [some (some (vR x0)), some (some (vR x1)), some (some (vI x2)), some (some (vI x3)), some (some (vI x4)), some (some (vI 0)), d6, d7, d8, d9, d10, d11], [], ((up_ M1 (x0 + 1) x4 0), W2)) (QV Q))))) : Xs 59 (3, [some (some (vR x0)), some (some (vR x1)), some (some (vI x2)), some (some (vI x3)), some (some (vI x4)), d5, d6, d7, d8, d9, d10, d11], [], (M, W)) (QV Q) :=
  wpN_X (cut := fun p => Nat.beq p 3 || Nat.beq p 23 || Nat.beq p 46 || Nat.beq p 100) 15 _ _ h
set_option maxRecDepth 20000 in
theorem k_X6_weigh_23 (x0 : Int) (x1 : Int) (x2 : Int) (x3 : Int) (x4 : Int) (x5 : Int) (d6 : aL) (d7 : aL) (d8 : aL) (d9 : aL) (d10 : aL) (d11 : aL) (M : aM) (W : aW) (Q : aM → aW → Prop) (h :
  (okO 86 3 x1 = true) ∧ (inI x5 ∧ inI (shl_ 1 (M x1 1))) ∧ 
  ((x5 ≥ (shl_ 1 (M x1 1)) → Xs 59 (3, [some (some (vR x0)), some (some (vR x1)), some (some (vI x2)), some (some (vI x3)), some (some (vI (x4 + 1))), some (some (vI x5)), d6, d7, d8, d9, d10, d11], [], (M, W)) (QV Q)) ∧
  (¬ x5 ≥ (shl_ 1 (M x1 1)) → (okO 86 6 x0 = true) ∧ CallL 60 [vR x0, vR x1, vI x5] (M, W) (fun r3 M1 W2 => Xs 59 (46, [some (some (vR x0)), some (some (vR x1)), some (some (vI x2)), some (some (vI x3)), some (some (vI x4)), some (some (vI x5)), some (some (vL r3)), some none, some (some (vI 0)), d9, d10, d11], [], (M1, W2)) (QV Q))))) : Xs 59 (23, [some (some (vR x0)), some (some (vR x1)), some (some (vI x2)), some (some (vI x3)), some (some (vI x4)), some (some (vI x5)), d6, d7, d8, d9, d10, d11], [], (M, W)) (QV Q) :=
  wpN_X (cut := fun p => Nat.beq p 3 || Nat.beq p 23 || Nat.beq p 46 || Nat.beq p 100) 19 _ _ h
set_option maxRecDepth 20000 in
theorem k_X6_weigh_46 (x0 : Int) (x1 : Int) (x2 : Int) (x3 : Int) (x4 : Int) (x5 : Int) (x6 : Int) (x8 : Int) (d9 : aL) (d10 : aL) (d11 : aL) (M : aM) (W : aW) (Q : aM → aW → Prop) (h :
  (okO 86 3 x1 = true) ∧ (inI x8 ∧ inI (M x1 3)) ∧ 
  ((x8 ≥ (M x1 3) → (okO 86 6 x0 = true) ∧ (okO 86 21 (x0 + 1) = true ∧ 0 ≤ x4 ∧ x4 < ln_ (x0 + 1)) ∧ (okO 86 21 (x0 + 1) = true ∧ 0 ≤ x4 ∧ x4 < ln_ (x0 + 1)) ∧ Xs 59 (23, [some (some (vR x0)), some (some (vR x1)), some (some (vI x2)), some (some (vI x3)), some (some (vI x4)), some (some (vI (x5 + 1))), some (some (vL x6)), some none, some (some (vI x8)), d9, d10, d11], [], ((up_ M (x0 + 1) x4 ((M (x0 + 1) x4) + x6)), W)) (QV Q)) ∧
  (¬ x8 ≥ (M x1 3) → (inI x8 ∧ inI x2) ∧ 
    ((x8 ≠ x2 → (okO 86 3 x1 = true) ∧ CallI 36 [vR x1, vI x8] (M, W) (fun r3 M1 W2 => (okO 86 3 x1 = true) ∧ CallI 37 [vR x1, vI x8] (M1, W2) (fun r6 M4 W5 => (inI r6) ∧ 
      ((r6 < 0 → Xs 59 (100, [some (some (vR x0)), some (some (vR x1)), some (some (vI x2)), some (some (vI x3)), some (some (vI x4)), some (some (vI x5)), some (some (vL x6)), some none, some (some (vI x8)), some (some (vI r3)), some (some (vI r6)), d11], [], (M4, W5)) (QV Q)) ∧
      (¬ r6 < 0 → (inI (and_ (shr_ x5 r6) 1)) ∧ 
        (((and_ (shr_ x5 r6) 1) = 0 → Xs 59 (100, [some (some (vR x0)), some (some (vR x1)), some (some (vI x2)), some (some (vI x3)), some (some (vI x4)), some (some (vI x5)), some (some (vL x6)), some none, some (some (vI x8)), some (some (vI r3)), some (some (vI r6)), d11], [], (M4, W5)) (QV Q)) ∧
        (¬ (and_ (shr_ x5 r6) 1) = 0 → (inI (and_ (shr_ x4 x8) 1)) ∧ 
          (((and_ (shr_ x4 x8) 1) = 0 → (okO 86 6 x0 = true) ∧ CallI 61 [vR x0, vI r3, vI 1, vI 0] (M4, W5) (fun r9 M7 W8 => (inI r9) ∧ (∀ v10 : Int, v10 = x6 * r9 → Xs 59 (46, [some (some (vR x0)), some (some (vR x1)), some (some (vI x2)), some (some (vI x3)), some (some (vI x4)), some (some (vI x5)), some (some (vL v10)), some none, some (some (vI (x8 + 1))), some (some (vI r3)), some (some (vI r6)), some (some (vI 1))], [], (M7, W8)) (QV Q)))) ∧
          (¬ (and_ (shr_ x4 x8) 1) = 0 → (okO 86 6 x0 = true) ∧ CallI 61 [vR x0, vI r3, vI 1, vI 1] (M4, W5) (fun r13 M11 W12 => (inI r13) ∧ (∀ v14 : Int, v14 = x6 * r13 → Xs 59 (46, [some (some (vR x0)), some (some (vR x1)), some (some (vI x2)), some (some (vI x3)), some (some (vI x4)), some (some (vI x5)), some (some (vL v14)), some none, some (some (vI (x8 + 1))), some (some (vI r3)), some (some (vI r6)), some (some (vI 1))], [], (M11, W12)) (QV Q)))))))))))) ∧
    (¬ x8 ≠ x2 → (okO 86 3 x1 = true) ∧ CallI 37 [vR x1, vI x8] (M, W) (fun r17 M15 W16 => (inI r17) ∧ 
      ((r17 < 0 → Xs 59 (100, [some (some (vR x0)), some (some (vR x1)), some (some (vI x2)), some (some (vI x3)), some (some (vI x4)), some (some (vI x5)), some (some (vL x6)), some none, some (some (vI x8)), some (some (vI x3)), some (some (vI r17)), d11], [], (M15, W16)) (QV Q)) ∧
      (¬ r17 < 0 → (inI (and_ (shr_ x5 r17) 1)) ∧ 
        (((and_ (shr_ x5 r17) 1) = 0 → Xs 59 (100, [some (some (vR x0)), some (some (vR x1)), some (some (vI x2)), some (some (vI x3)), some (some (vI x4)), some (some (vI x5)), some (some (vL x6)), some none, some (some (vI x8)), some (some (vI x3)), some (some (vI r17)), d11], [], (M15, W16)) (QV Q)) ∧
        (¬ (and_ (shr_ x5 r17) 1) = 0 → (inI (and_ (shr_ x4 x8) 1)) ∧ 
          (((and_ (shr_ x4 x8) 1) = 0 → (okO 86 6 x0 = true) ∧ CallI 61 [vR x0, vI x3, vI 1, vI 0] (M15, W16) (fun r20 M18 W19 => (inI r20) ∧ (∀ v21 : Int, v21 = x6 * r20 → Xs 59 (46, [some (some (vR x0)), some (some (vR x1)), some (some (vI x2)), some (some (vI x3)), some (some (vI x4)), some (some (vI x5)), some (some (vL v21)), some none, some (some (vI (x8 + 1))), some (some (vI x3)), some (some (vI r17)), some (some (vI 1))], [], (M18, W19)) (QV Q)))) ∧
          (¬ (and_ (shr_ x4 x8) 1) = 0 → (okO 86 6 x0 = true) ∧ CallI 61 [vR x0, vI x3, vI 1, vI 1] (M15, W16) (fun r24 M22 W23 => (inI r24) ∧ (∀ v25 : Int, v25 = x6 * r24 → Xs 59 (46, [some (some (vR x0)), some (some (vR x1)), some (some (vI x2)), some (some (vI x3)), some (some (vI x4)), some (some (vI x5)), some (some (vL v25)), some none, some (some (vI (x8 + 1))), some (some (vI x3)), some (some (vI r17)), some (some (vI 1))], [], (M22, W23)) (QV Q))))))))))))))) : Xs 59 (46, [some (some (vR x0)), some (some (vR x1)), some (some (vI x2)), some (some (vI x3)), some (some (vI x4)), some (some (vI x5)), some (some (vL x6)), some none, some (some (vI x8)), d9, d10, d11], [], (M, W)) (QV Q) :=
  wpN_X (cut := fun p => Nat.beq p 3 || Nat.beq p 23 || Nat.beq p 46 || Nat.beq p 100) 115 _ _ h
set_option maxRecDepth 20000 in
theorem k_X6_weigh_100 (x0 : Int) (x1 : Int) (x2 : Int) (x3 : Int) (x4 : Int) (x5 : Int) (x6 : Int) (x8 : Int) (x9 : Int) (x10 : Int) (d11 : aL) (M : aM) (W : aW) (Q : aM → aW → Prop) (h :
  (inI (and_ (shr_ x4 x8) 1)) ∧ 
  (((and_ (shr_ x4 x8) 1) = 0 → (okO 86 6 x0 = true) ∧ CallI 61 [vR x0, vI x9, vI 0, vI 0] (M, W) (fun r3 M1 W2 => (inI r3) ∧ (∀ v4 : Int, v4 = x6 * r3 → Xs 59 (46, [some (some (vR x0)), some (some (vR x1)), some (some (vI x2)), some (some (vI x3)), some (some (vI x4)), some (some (vI x5)), some (some (vL v4)), some none, some (some (vI (x8 + 1))), some (some (vI x9)), some (some (vI x10)), some (some (vI 0))], [], (M1, W2)) (QV Q)))) ∧
  (¬ (and_ (shr_ x4 x8) 1) = 0 → (okO 86 6 x0 = true) ∧ CallI 61 [vR x0, vI x9, vI 0, vI 1] (M, W) (fun r7 M5 W6 => (inI r7) ∧ (∀ v8 : Int, v8 = x6 * r7 → Xs 59 (46, [some (some (vR x0)), some (some (vR x1)), some (some (vI x2)), some (some (vI x3)), some (some (vI x4)), some (some (vI x5)), some (some (vL v8)), some none, some (some (vI (x8 + 1))), some (some (vI x9)), some (some (vI x10)), some (some (vI 0))], [], (M5, W6)) (QV Q)))))) : Xs 59 (100, [some (some (vR x0)), some (some (vR x1)), some (some (vI x2)), some (some (vI x3)), some (some (vI x4)), some (some (vI x5)), some (some (vL x6)), some none, some (some (vI x8)), some (some (vI x9)), some (some (vI x10)), d11], [], (M, W)) (QV Q) :=
  wpN_X (cut := fun p => Nat.beq p 3 || Nat.beq p 23 || Nat.beq p 46 || Nat.beq p 100) 31 _ _ h
set_option maxRecDepth 20000 in
theorem e_X6_causeRows (x0 : Int) (x1 : Int) (x2 : Int) (M : aM) (W : aW) (Q : Int → aM → aW → Prop) (h :
  Xs 60 (5, [some (some (vR x0)), some (some (vR x1)), some (some (vI x2)), some (some (vL 1)), some none, some (some (vI 0)), none], [], (M, W)) (QL Q)) : CallL 60 [vR x0, vR x1, vI x2] (M, W) Q :=
  wpN_X (cut := fun p => Nat.beq p 5) 7 _ _ h
set_option maxRecDepth 20000 in
theorem k_X6_causeRows_5 (x0 : Int) (x1 : Int) (x2 : Int) (x3 : Int) (x5 : Int) (d6 : aL) (M : aM) (W : aW) (Q : Int → aM → aW → Prop) (h :
  (okO 86 3 x1 = true) ∧ (inI x5 ∧ inI (M x1 1)) ∧ 
  ((x5 ≥ (M x1 1) → Q x3 M W) ∧
  (¬ x5 ≥ (M x1 1) → (okO 86 3 x1 = true) ∧ (okO 86 20 (x1 + 1) = true ∧ 0 ≤ x5 ∧ x5 < ln_ (x1 + 1)) ∧ (∀ v1 : Int, v1 = M (x1 + 1) x5 → (inI (and_ (shr_ x2 x5) 1)) ∧ 
    (((and_ (shr_ x2 x5) 1) = 0 → (inI (10 - v1)) ∧ (∀ v2 : Int, v2 = x3 * (10 - v1) → Xs 60 (5, [some (some (vR x0)), some (some (vR x1)), some (some (vI x2)), some (some (vL v2)), some none, some (some (vI (x5 + 1))), some (some (vI v1))], [], (M, W)) (QL Q))) ∧
    (¬ (and_ (shr_ x2 x5) 1) = 0 → (inI v1) ∧ (∀ v3 : Int, v3 = x3 * v1 → Xs 60 (5, [some (some (vR x0)), some (some (vR x1)), some (some (vI x2)), some (some (vL v3)), some none, some (some (vI (x5 + 1))), some (some (vI v1))], [], (M, W)) (QL Q)))))))) : Xs 60 (5, [some (some (vR x0)), some (some (vR x1)), some (some (vI x2)), some (some (vL x3)), some none, some (some (vI x5)), d6], [], (M, W)) (QL Q) :=
  wpN_X (cut := fun p => Nat.beq p 5) 37 _ _ h
set_option maxRecDepth 20000 in
theorem e_X6_roadRows (x0 : Int) (x1 : Int) (x2 : Int) (x3 : Int) (M : aM) (W : aW) (Q : Int → aM → aW → Prop) (h :
  (inI x2) ∧ 
  ((x2 = 0 → (inI x2) ∧ 
    ((x2 = 0 → (inI x1) ∧ 
      ((x1 ≠ 0 → (inI x3) ∧ 
        ((x3 = 0 → Q (10 - x1) M W) ∧
        (¬ x3 = 0 → Q x1 M W))) ∧
      (¬ x1 ≠ 0 → (inI x3) ∧ 
        ((x3 = 0 → Q 1 M W) ∧
        (¬ x3 = 0 → Q 0 M W))))) ∧
    (¬ x2 = 0 → Q 0 M W))) ∧
  (¬ x2 = 0 → (inI x3) ∧ 
    ((x3 = 0 → (inI x2) ∧ 
      ((x2 = 0 → (inI x1) ∧ 
        ((x1 ≠ 0 → (inI x3) ∧ 
          ((x3 = 0 → Q (10 - x1) M W) ∧
          (¬ x3 = 0 → Q x1 M W))) ∧
        (¬ x1 ≠ 0 → (inI x3) ∧ 
          ((x3 = 0 → Q 1 M W) ∧
          (¬ x3 = 0 → Q 0 M W))))) ∧
      (¬ x2 = 0 → Q 0 M W))) ∧
    (¬ x3 = 0 → (inI x1) ∧ 
      ((x1 ≤ 0 → Q 1 M W) ∧
      (¬ x1 ≤ 0 → Q 10 M W))))))) : CallI 61 [vR x0, vI x1, vI x2, vI x3] (M, W) Q :=
  wpN_X (cut := fun p => false) 57 _ _ h
set_option maxRecDepth 20000 in
theorem e_X6_keepOpen (x0 : Int) (x1 : Int) (x2 : Int) (M : aM) (W : aW) (Q : aM → aW → Prop) (h :
  (∀ v1 : Int, v1 = shl_ 1 x2 → Xs 62 (7, [some (some (vR x0)), some (some (vR x1)), some (some (vI x2)), some (some (vI v1)), some (some (vI 0))], [], (M, W)) (QV Q))) : CallV 62 [vR x0, vR x1, vI x2] (M, W) Q :=
  wpN_X (cut := fun p => Nat.beq p 7) 9 _ _ h
set_option maxRecDepth 20000 in
theorem k_X6_keepOpen_7 (x0 : Int) (x1 : Int) (x2 : Int) (x3 : Int) (x4 : Int) (M : aM) (W : aW) (Q : aM → aW → Prop) (h :
  (okO 86 3 x1 = true) ∧ CallI 33 [vR x1] (M, W) (fun r3 M1 W2 => (inI x4 ∧ inI r3) ∧ 
  ((x4 ≥ r3 → Q M1 W2) ∧
  (¬ x4 ≥ r3 → (inI (and_ x4 x3)) ∧ 
    (((and_ x4 x3) = 0 → Xs 62 (7, [some (some (vR x0)), some (some (vR x1)), some (some (vI x2)), some (some (vI x3)), some (some (vI (x4 + 1)))], [], (M1, W2)) (QV Q)) ∧
    (¬ (and_ x4 x3) = 0 → (okO 86 6 x0 = true) ∧ (okO 86 21 (x0 + 1) = true ∧ 0 ≤ (and_ x4 (xor_ x3 (-1))) ∧ (and_ x4 (xor_ x3 (-1))) < ln_ (x0 + 1)) ∧ (okO 86 6 x0 = true) ∧ (okO 86 21 (x0 + 1) = true ∧ 0 ≤ x4 ∧ x4 < ln_ (x0 + 1)) ∧ (okO 86 21 (x0 + 1) = true ∧ 0 ≤ (and_ x4 (xor_ x3 (-1))) ∧ (and_ x4 (xor_ x3 (-1))) < ln_ (x0 + 1)) ∧ (okO 86 6 x0 = true) ∧ (okO 86 21 (x0 + 1) = true ∧ 0 ≤ x4 ∧ x4 < ln_ (x0 + 1)) ∧ Xs 62 (7, [some (some (vR x0)), some (some (vR x1)), some (some (vI x2)), some (some (vI x3)), some (some (vI (x4 + 1)))], [], ((up_ (up_ M1 (x0 + 1) (and_ x4 (xor_ x3 (-1))) ((M1 (x0 + 1) (and_ x4 (xor_ x3 (-1)))) + (M1 (x0 + 1) x4))) (x0 + 1) x4 0), W2)) (QV Q))))))) : Xs 62 (7, [some (some (vR x0)), some (some (vR x1)), some (some (vI x2)), some (some (vI x3)), some (some (vI x4))], [], (M, W)) (QV Q) :=
  wpN_X (cut := fun p => Nat.beq p 7) 37 _ _ h
set_option maxRecDepth 20000 in
theorem e_X6_sumUp (x0 : Int) (x1 : Int) (M : aM) (W : aW) (Q : aM → aW → Prop) (h :
  (okO 86 3 x1 = true) ∧ CallI 33 [vR x1] (M, W) (fun r3 M1 W2 => (∀ v4 : Int, v4 = r3 - 1 → (okO 86 3 x1 = true) ∧ CallI 34 [vR x1] (M1, W2) (fun r7 M5 W6 => (∀ v8 : Int, v8 = r7 - 1 → Xs 63 (15, [some (some (vR x0)), some (some (vR x1)), some (some (vR 27)), some (some (vI v4)), some (some (vI v8)), none, none], [], (M5, W6)) (QV Q)))))) : CallV 63 [vR x0, vR x1, vR 27] (M, W) Q :=
  wpN_X (cut := fun p => Nat.beq p 15) 13 _ _ h
set_option maxRecDepth 20000 in
theorem k_X6_sumUp_15 (x0 : Int) (x1 : Int) (x3 : Int) (x4 : Int) (d5 : aL) (d6 : aL) (M : aM) (W : aW) (Q : aM → aW → Prop) (h :
  (inI x4) ∧ 
  ((x4 < 0 → Q M W) ∧
  (¬ x4 < 0 → CallI 25 [vR 27, vI x4, vI x3] (M, W) (fun r3 M1 W2 => (inI r3) ∧ 
    ((r3 ≥ 0 → (0 ≤ r3 ∧ r3 < 7) ∧ (∀ v4 : Int, v4 = x4 + (thr_ r3) → (okO 86 6 x0 = true) ∧ (okO 86 6 x0 = true) ∧ (okO 86 21 (x0 + 2) = true ∧ 0 ≤ v4 ∧ v4 < ln_ (x0 + 2)) ∧ (okO 86 6 x0 = true) ∧ (0 ≤ r3 ∧ r3 < 7) ∧ (okO 86 21 (x0 + 2) = true ∧ 0 ≤ (v4 + (thr_ r3)) ∧ (v4 + (thr_ r3)) < ln_ (x0 + 2)) ∧ (okO 86 21 (x0 + 2) = true ∧ 0 ≤ x4 ∧ x4 < ln_ (x0 + 2)) ∧ Xs 63 (15, [some (some (vR x0)), some (some (vR x1)), some (some (vR 27)), some (some (vI x3)), some (some (vI (x4 + (-1)))), some (some (vI r3)), some (some (vI v4))], [], ((up_ M1 (x0 + 2) x4 ((M1 (x0 + 2) v4) + (M1 (x0 + 2) (v4 + (thr_ r3))))), W2)) (QV Q))) ∧
    (¬ r3 ≥ 0 → (okO 86 6 x0 = true) ∧ (okO 86 6 x0 = true) ∧ (0 ≤ x4 ∧ x4 < 729) ∧ (okO 86 21 (x0 + 1) = true ∧ 0 ≤ (M1 29 x4) ∧ (M1 29 x4) < ln_ (x0 + 1)) ∧ (okO 86 21 (x0 + 2) = true ∧ 0 ≤ x4 ∧ x4 < ln_ (x0 + 2)) ∧ Xs 63 (15, [some (some (vR x0)), some (some (vR x1)), some (some (vR 27)), some (some (vI x3)), some (some (vI (x4 + (-1)))), some (some (vI r3)), d6], [], ((up_ M1 (x0 + 2) x4 (M1 (x0 + 1) (M1 29 x4))), W2)) (QV Q))))))) : Xs 63 (15, [some (some (vR x0)), some (some (vR x1)), some (some (vR 27)), some (some (vI x3)), some (some (vI x4)), d5, d6], [], (M, W)) (QV Q) :=
  wpN_X (cut := fun p => Nat.beq p 15) 53 _ _ h
set_option maxRecDepth 20000 in
theorem e_X8_init (x1 : Int) (M : aM) (F : aM) (dl : Int → Int) (sz ns : Int) (Q : aM → aW → Prop) (h :
  ((0 : Int) ≤ 20) ∧ (0 ≤ sz ∧ sz < 126 ∧ knd sz = 20 ∧ ln_ sz = 10) ∧ (okD ((ce_ M sz (fun _ => 0)), (F, dl, sz + 1, ns + 10)) 8 20 = true) ∧ (0 ≤ sz + 1 ∧ sz + 1 < 126 ∧ knd (sz + 1) = 20 ∧ ln_ (sz + 1) = 601) ∧ (okD ((ce_ (ce_ M sz (fun _ => 0)) (sz + 1) (fun _ => 0)), ((up_ F 20 0 (sz)), dl, sz + 1 + 1, ns + 10 + 601)) 8 20 = true) ∧ (0 ≤ sz + 1 + 1 ∧ sz + 1 + 1 < 126 ∧ knd (sz + 1 + 1) = 20 ∧ ln_ (sz + 1 + 1) = 601) ∧ (okD ((ce_ (ce_ (ce_ M sz (fun _ => 0)) (sz + 1) (fun _ => 0)) (sz + 1 + 1) (fun _ => 0)), ((up_ (up_ F 20 0 (sz)) 20 1 (sz + 1)), dl, sz + 1 + 1 + 1, ns + 10 + 601 + 601)) 8 20 = true) ∧ (0 ≤ sz + 1 + 1 + 1 ∧ sz + 1 + 1 + 1 < 126 ∧ knd (sz + 1 + 1 + 1) = 20 ∧ ln_ (sz + 1 + 1 + 1) = 601) ∧ (okD ((ce_ (ce_ (ce_ (ce_ M sz (fun _ => 0)) (sz + 1) (fun _ => 0)) (sz + 1 + 1) (fun _ => 0)) (sz + 1 + 1 + 1) (fun _ => 0)), ((up_ (up_ (up_ F 20 0 (sz)) 20 1 (sz + 1)) 20 2 (sz + 1 + 1)), dl, sz + 1 + 1 + 1 + 1, ns + 10 + 601 + 601 + 601)) 8 20 = true) ∧ (0 ≤ sz + 1 + 1 + 1 + 1 ∧ sz + 1 + 1 + 1 + 1 < 126 ∧ knd (sz + 1 + 1 + 1 + 1) = 20 ∧ ln_ (sz + 1 + 1 + 1 + 1) = 10) ∧ (okD ((ce_ (ce_ (ce_ (ce_ (ce_ M sz (fun _ => 0)) (sz + 1) (fun _ => 0)) (sz + 1 + 1) (fun _ => 0)) (sz + 1 + 1 + 1) (fun _ => 0)) (sz + 1 + 1 + 1 + 1) (fun _ => 0)), ((up_ (up_ (up_ (up_ F 20 0 (sz)) 20 1 (sz + 1)) 20 2 (sz + 1 + 1)) 20 3 (sz + 1 + 1 + 1)), dl, sz + 1 + 1 + 1 + 1 + 1, ns + 10 + 601 + 601 + 601 + 10)) 8 20 = true) ∧ (0 ≤ sz + 1 + 1 + 1 + 1 + 1 ∧ sz + 1 + 1 + 1 + 1 + 1 < 126 ∧ knd (sz + 1 + 1 + 1 + 1 + 1) = 20 ∧ ln_ (sz + 1 + 1 + 1 + 1 + 1) = 2) ∧ (okD ((ce_ (ce_ (ce_ (ce_ (ce_ (ce_ M sz (fun _ => 0)) (sz + 1) (fun _ => 0)) (sz + 1 + 1) (fun _ => 0)) (sz + 1 + 1 + 1) (fun _ => 0)) (sz + 1 + 1 + 1 + 1) (fun _ => 0)) (sz + 1 + 1 + 1 + 1 + 1) (fun _ => 0)), ((up_ (up_ (up_ (up_ (up_ F 20 0 (sz)) 20 1 (sz + 1)) 20 2 (sz + 1 + 1)) 20 3 (sz + 1 + 1 + 1)) 20 5 (sz + 1 + 1 + 1 + 1)), dl, sz + 1 + 1 + 1 + 1 + 1 + 1, ns + 10 + 601 + 601 + 601 + 10 + 2)) 8 20 = true) ∧ (okD ((ce_ (ce_ (ce_ (ce_ (ce_ (ce_ M sz (fun _ => 0)) (sz + 1) (fun _ => 0)) (sz + 1 + 1) (fun _ => 0)) (sz + 1 + 1 + 1) (fun _ => 0)) (sz + 1 + 1 + 1 + 1) (fun _ => 0)) (sz + 1 + 1 + 1 + 1 + 1) (fun _ => 0)), ((up_ (up_ (up_ (up_ (up_ (up_ F 20 0 (sz)) 20 1 (sz + 1)) 20 2 (sz + 1 + 1)) 20 3 (sz + 1 + 1 + 1)) 20 5 (sz + 1 + 1 + 1 + 1)) 20 6 (sz + 1 + 1 + 1 + 1 + 1)), dl, sz + 1 + 1 + 1 + 1 + 1 + 1, ns + 10 + 601 + 601 + 601 + 10 + 2)) 8 20 = true) ∧ (okD ((up_ (ce_ (ce_ (ce_ (ce_ (ce_ (ce_ M sz (fun _ => 0)) (sz + 1) (fun _ => 0)) (sz + 1 + 1) (fun _ => 0)) (sz + 1 + 1 + 1) (fun _ => 0)) (sz + 1 + 1 + 1 + 1) (fun _ => 0)) (sz + 1 + 1 + 1 + 1 + 1) (fun _ => 0)) 20 12 (-1)), ((up_ (up_ (up_ (up_ (up_ (up_ F 20 0 (sz)) 20 1 (sz + 1)) 20 2 (sz + 1 + 1)) 20 3 (sz + 1 + 1 + 1)) 20 5 (sz + 1 + 1 + 1 + 1)) 20 6 (sz + 1 + 1 + 1 + 1 + 1)), dl, sz + 1 + 1 + 1 + 1 + 1 + 1, ns + 10 + 601 + 601 + 601 + 10 + 2)) 8 20 = true) ∧ Xs 82 (71, [some (some (vR 20)), some (some (vR x1)), some (some (vI 0)), some (some (vI 0)), some (some (vI 0)), none], [], ((up_ (up_ (ce_ (ce_ (ce_ (ce_ (ce_ (ce_ M sz (fun _ => 0)) (sz + 1) (fun _ => 0)) (sz + 1 + 1) (fun _ => 0)) (sz + 1 + 1 + 1) (fun _ => 0)) (sz + 1 + 1 + 1 + 1) (fun _ => 0)) (sz + 1 + 1 + 1 + 1 + 1) (fun _ => 0)) 20 12 (-1)) 20 7 x1), ((up_ (up_ (up_ (up_ (up_ (up_ F 20 0 (sz)) 20 1 (sz + 1)) 20 2 (sz + 1 + 1)) 20 3 (sz + 1 + 1 + 1)) 20 5 (sz + 1 + 1 + 1 + 1)) 20 6 (sz + 1 + 1 + 1 + 1 + 1)), dl, sz + 1 + 1 + 1 + 1 + 1 + 1, ns + 10 + 601 + 601 + 601 + 10 + 2))) (QV Q)) : CallV 82 [vR 20, vR x1] (M, (F, dl, sz, ns)) Q :=
  wpN_X (cut := fun p => Nat.beq p 71) 41 _ _ h
set_option maxRecDepth 20000 in
theorem k_X8_init_71 (x1 : Int) (x2 : Int) (x3 : Int) (x4 : Int) (d5 : aL) (M : aM) (F : aM) (dl : Int → Int) (sz ns : Int) (Q : aM → aW → Prop) (h :
  (inI x4 ∧ inI 48) ∧ 
  ((x4 ≥ 48 → Q M (F, dl, sz, ns)) ∧
  (¬ x4 ≥ 48 → (okD (M, (F, dl, sz, ns)) 8 20 = true) ∧ (okD (M, (F, dl, sz, ns)) 20 (F 20 0) = true) ∧ (inI x2 ∧ inI (lD_ dl (F 20 0))) ∧ 
    ((x2 ≥ (lD_ dl (F 20 0)) → Q M (F, dl, sz, ns)) ∧
    (¬ x2 ≥ (lD_ dl (F 20 0)) → (0 ≤ x4 ∧ x4 < 48) ∧ (inI (lng_ x4)) ∧ 
      (((lng_ x4) ≠ 32 → (∀ v1 : Int, v1 = (((x3 * 27) + (lng_ x4)) - 97) + 1 → Xs 82 (71, [some (some (vR 20)), some (some (vR x1)), some (some (vI x2)), some (some (vI v1)), some (some (vI (x4 + 1))), some (some (vI (lng_ x4)))], [], (M, (F, dl, sz, ns))) (QV Q))) ∧
      (¬ (lng_ x4) ≠ 32 → (okD (M, (F, dl, sz, ns)) 8 20 = true) ∧ (okD (M, (F, dl, sz, ns)) 20 (F 20 0) = true ∧ 0 ≤ x2 ∧ x2 < lD_ dl (F 20 0)) ∧ Xs 82 (71, [some (some (vR 20)), some (some (vR x1)), some (some (vI (x2 + 1))), some (some (vI 0)), some (some (vI (x4 + 1))), some (some (vI (lng_ x4)))], [], ((up_ M (F 20 0) x2 x3), (F, dl, sz, ns))) (QV Q)))))))) : Xs 82 (71, [some (some (vR 20)), some (some (vR x1)), some (some (vI x2)), some (some (vI x3)), some (some (vI x4)), d5], [], (M, (F, dl, sz, ns))) (QV Q) :=
  wpN_X (cut := fun p => Nat.beq p 71) 45 _ _ h
set_option maxRecDepth 20000 in
theorem e_X8_read (x2 : Int) (x3 : Int) (M : aM) (W : aW) (Q : Int → aM → aW → Prop) (h :
  CallV 84 [vR 20, vR 1, vI x2] (M, W) (fun M1 W2 => (okO 86 3 ((up_ M1 20 7 x3) 20 7) = true) ∧ CallV 27 [vR ((up_ M1 20 7 x3) 20 7)] ((up_ M1 20 7 x3), W2) (fun M3 W4 => CallV 88 [vR 20, vI 0] ((up_ (up_ M3 20 11 0) 20 12 (-1)), W4) (fun M5 W6 => Xs 83 (39, [some (some (vR 20)), some (some (vR 1)), some (some (vI x2)), some (some (vR x3)), some (some (vI 0)), some (some (vI 0)), none], [], (M5, W6)) (QI Q))))) : CallI 83 [vR 20, vR 1, vI x2, vR x3] (M, W) Q :=
  wpN_X (cut := fun p => Nat.beq p 39 || Nat.beq p 182) 26 _ _ h
set_option maxRecDepth 20000 in
theorem k_X8_read_39 (x2 : Int) (x3 : Int) (x4 : Int) (x5 : Int) (d6 : aL) (M : aM) (W : aW) (Q : Int → aM → aW → Prop) (h :
  (inI x5 ∧ inI x2) ∧ 
  ((x5 > x2 → Q x4 M W) ∧
  (¬ x5 > x2 → (inI (M 20 9)) ∧ 
    (((M 20 9) = 13 → Q x4 M W) ∧
    (¬ (M 20 9) = 13 → (inI (M 20 9)) ∧ 
      (((M 20 9) = 0 → CallI 90 [vR 20] (M, W) (fun r3 M1 W2 => Xs 83 (182, [some (some (vR 20)), some (some (vR 1)), some (some (vI x2)), some (some (vR x3)), some (some (vI x4)), some (some (vI x5)), some (some (vI r3))], [], (M1, W2)) (QI Q))) ∧ ((M 20 9) ≠ 0 → 
      (((M 20 9) = 1 → CallI 91 [vR 20] (M, W) (fun r6 M4 W5 => Xs 83 (182, [some (some (vR 20)), some (some (vR 1)), some (some (vI x2)), some (some (vR x3)), some (some (vI x4)), some (some (vI x5)), some (some (vI r6))], [], (M4, W5)) (QI Q))) ∧ ((M 20 9) ≠ 1 → 
      (((M 20 9) = 2 → CallI 92 [vR 20] (M, W) (fun r9 M7 W8 => Xs 83 (182, [some (some (vR 20)), some (some (vR 1)), some (some (vI x2)), some (some (vR x3)), some (some (vI x4)), some (some (vI x5)), some (some (vI r9))], [], (M7, W8)) (QI Q))) ∧ ((M 20 9) ≠ 2 → 
      (((M 20 9) = 3 → CallI 89 [vR 20, vI 1] (M, W) (fun r12 M10 W11 => Xs 83 (182, [some (some (vR 20)), some (some (vR 1)), some (some (vI x2)), some (some (vR x3)), some (some (vI x4)), some (some (vI x5)), some (some (vI r12))], [], (M10, W11)) (QI Q))) ∧ ((M 20 9) ≠ 3 → 
      (((M 20 9) = 4 → CallI 89 [vR 20, vI 1] (M, W) (fun r15 M13 W14 => Xs 83 (182, [some (some (vR 20)), some (some (vR 1)), some (some (vI x2)), some (some (vR x3)), some (some (vI x4)), some (some (vI x5)), some (some (vI r15))], [], (M13, W14)) (QI Q))) ∧ ((M 20 9) ≠ 4 → 
      (((M 20 9) = 5 → CallI 89 [vR 20, vI 1] (M, W) (fun r18 M16 W17 => Xs 83 (182, [some (some (vR 20)), some (some (vR 1)), some (some (vI x2)), some (some (vR x3)), some (some (vI x4)), some (some (vI x5)), some (some (vI r18))], [], (M16, W17)) (QI Q))) ∧ ((M 20 9) ≠ 5 → 
      (((M 20 9) = 6 → CallI 94 [vR 20] (M, W) (fun r21 M19 W20 => Xs 83 (182, [some (some (vR 20)), some (some (vR 1)), some (some (vI x2)), some (some (vR x3)), some (some (vI x4)), some (some (vI x5)), some (some (vI r21))], [], (M19, W20)) (QI Q))) ∧ ((M 20 9) ≠ 6 → 
      (((M 20 9) = 7 → CallI 95 [vR 20] (M, W) (fun r24 M22 W23 => Xs 83 (182, [some (some (vR 20)), some (some (vR 1)), some (some (vI x2)), some (some (vR x3)), some (some (vI x4)), some (some (vI x5)), some (some (vI r24))], [], (M22, W23)) (QI Q))) ∧ ((M 20 9) ≠ 7 → 
      (((M 20 9) = 8 → CallI 96 [vR 20] (M, W) (fun r27 M25 W26 => Xs 83 (182, [some (some (vR 20)), some (some (vR 1)), some (some (vI x2)), some (some (vR x3)), some (some (vI x4)), some (some (vI x5)), some (some (vI r27))], [], (M25, W26)) (QI Q))) ∧ ((M 20 9) ≠ 8 → 
      (((M 20 9) = 9 → CallI 97 [vR 20] (M, W) (fun r30 M28 W29 => Xs 83 (182, [some (some (vR 20)), some (some (vR 1)), some (some (vI x2)), some (some (vR x3)), some (some (vI x4)), some (some (vI x5)), some (some (vI r30))], [], (M28, W29)) (QI Q))) ∧ ((M 20 9) ≠ 9 → CallI 89 [vR 20, vI 1] (M, W) (fun r33 M31 W32 => Xs 83 (182, [some (some (vR 20)), some (some (vR 1)), some (some (vI x2)), some (some (vR x3)), some (some (vI x4)), some (some (vI x5)), some (some (vI r33))], [], (M31, W32)) (QI Q))))))))))))))))))))))))))) : Xs 83 (39, [some (some (vR 20)), some (some (vR 1)), some (some (vI x2)), some (some (vR x3)), some (some (vI x4)), some (some (vI x5)), d6], [], (M, W)) (QI Q) :=
  wpN_X (cut := fun p => Nat.beq p 39 || Nat.beq p 182) 71 _ _ h
set_option maxRecDepth 20000 in
theorem k_X8_read_182 (x2 : Int) (x3 : Int) (x4 : Int) (x5 : Int) (x6 : Int) (M : aM) (W : aW) (Q : Int → aM → aW → Prop) (h :
  (inI x6) ∧ 
  ((x6 = 0 → (inI x6) ∧ 
    ((x6 ≠ 0 → CallV 88 [vR 20, vI ((M 20 8) + 1)] (M, W) (fun M1 W2 => Xs 83 (39, [some (some (vR 20)), some (some (vR 1)), some (some (vI x2)), some (some (vR x3)), some (some (vI (x4 + 1))), some (some (vI (x5 + 1))), some (some (vI x6))], [], (M1, W2)) (QI Q))) ∧
    (¬ x6 ≠ 0 → Q (-1) M W))) ∧
  (¬ x6 = 0 → (inI (M 20 9)) ∧ 
    (((M 20 9) = 12 → (inI x6) ∧ 
      ((x6 ≠ 0 → CallV 88 [vR 20, vI ((M 20 8) + 1)] (M, W) (fun M3 W4 => Xs 83 (39, [some (some (vR 20)), some (some (vR 1)), some (some (vI x2)), some (some (vR x3)), some (some (vI (x4 + 1))), some (some (vI (x5 + 1))), some (some (vI x6))], [], (M3, W4)) (QI Q))) ∧
      (¬ x6 ≠ 0 → Q (-1) M W))) ∧
    (¬ (M 20 9) = 12 → CallI 89 [vR 20, vI 1] (M, W) (fun r7 M5 W6 => (inI r7) ∧ 
      ((r7 ≠ 0 → CallV 88 [vR 20, vI ((M5 20 8) + 1)] (M5, W6) (fun M8 W9 => Xs 83 (39, [some (some (vR 20)), some (some (vR 1)), some (some (vI x2)), some (some (vR x3)), some (some (vI (x4 + 1))), some (some (vI (x5 + 1))), some (some (vI r7))], [], (M8, W9)) (QI Q))) ∧
      (¬ r7 ≠ 0 → Q (-1) M5 W6)))))))) : Xs 83 (182, [some (some (vR 20)), some (some (vR 1)), some (some (vI x2)), some (some (vR x3)), some (some (vI x4)), some (some (vI x5)), some (some (vI x6))], [], (M, W)) (QI Q) :=
  wpN_X (cut := fun p => Nat.beq p 39 || Nat.beq p 182) 54 _ _ h
set_option maxRecDepth 20000 in
theorem e_X8_cut (x2 : Int) (M : aM) (W : aW) (Q : aM → aW → Prop) (h :
  Xs 84 (10, [some (some (vR 20)), some (some (vR 1)), some (some (vI x2)), some (some (vI 0)), some (some (vI 0)), none], [], ((up_ M 20 4 0), W)) (QV Q)) : CallV 84 [vR 20, vR 1, vI x2] (M, W) Q :=
  wpN_X (cut := fun p => Nat.beq p 10) 10 _ _ h
set_option maxRecDepth 20000 in
theorem k_X8_cut_10 (x2 : Int) (x3 : Int) (x4 : Int) (d5 : aL) (M : aM) (W : aW) (Q : aM → aW → Prop) (h :
  (inI x4 ∧ inI x2) ∧ 
  ((x4 ≥ x2 → CallV 87 [vR 20, vI 13, vI x2, vI 0] (M, W) (fun M1 W2 => Q M1 W2)) ∧
  (¬ x4 ≥ x2 → (inI x3 ∧ inI x2) ∧ 
    ((x3 ≥ x2 → CallV 87 [vR 20, vI 13, vI x2, vI 0] (M, W) (fun M3 W4 => Q M3 W4)) ∧
    (¬ x3 ≥ x2 → (0 ≤ x3 ∧ x3 < 600) ∧ (∀ v5 : Int, v5 = M 1 x3 → (inI v5) ∧ 
      ((v5 = 10 → Xs 84 (10, [some (some (vR 20)), some (some (vR 1)), some (some (vI x2)), some (some (vI (x3 + 1))), some (some (vI (x4 + 1))), some (some (vI v5))], [], (M, W)) (QV Q)) ∧
      (¬ v5 = 10 → (inI v5) ∧ 
        ((v5 ≠ 32 → (inI v5) ∧ 
          ((v5 < 97 → (inI v5) ∧ 
            ((v5 < 48 → (inI v5) ∧ 
              ((v5 ≠ 59 → CallV 87 [vR 20, vI 14, vI x3, vI 0] (M, W) (fun M6 W7 => Xs 84 (10, [some (some (vR 20)), some (some (vR 1)), some (some (vI x2)), some (some (vI (x3 + 1))), some (some (vI (x4 + 1))), some (some (vI v5))], [], (M6, W7)) (QV Q))) ∧
              (¬ v5 ≠ 59 → CallV 87 [vR 20, vI 12, vI x3, vI 0] (M, W) (fun M8 W9 => Xs 84 (10, [some (some (vR 20)), some (some (vR 1)), some (some (vI x2)), some (some (vI (x3 + 1))), some (some (vI (x4 + 1))), some (some (vI v5))], [], (M8, W9)) (QV Q))))) ∧
            (¬ v5 < 48 → (inI v5) ∧ 
              ((v5 > 57 → (inI v5) ∧ 
                ((v5 ≠ 59 → CallV 87 [vR 20, vI 14, vI x3, vI 0] (M, W) (fun M10 W11 => Xs 84 (10, [some (some (vR 20)), some (some (vR 1)), some (some (vI x2)), some (some (vI (x3 + 1))), some (some (vI (x4 + 1))), some (some (vI v5))], [], (M10, W11)) (QV Q))) ∧
                (¬ v5 ≠ 59 → CallV 87 [vR 20, vI 12, vI x3, vI 0] (M, W) (fun M12 W13 => Xs 84 (10, [some (some (vR 20)), some (some (vR 1)), some (some (vI x2)), some (some (vI (x3 + 1))), some (some (vI (x4 + 1))), some (some (vI v5))], [], (M12, W13)) (QV Q))))) ∧
              (¬ v5 > 57 → CallI 86 [vR 20, vR 1, vI x2, vI x3] (M, W) (fun r16 M14 W15 => Xs 84 (10, [some (some (vR 20)), some (some (vR 1)), some (some (vI x2)), some (some (vI r16)), some (some (vI (x4 + 1))), some (some (vI v5))], [], (M14, W15)) (QV Q))))))) ∧
          (¬ v5 < 97 → (inI v5) ∧ 
            ((v5 > 122 → (inI v5) ∧ 
              ((v5 < 48 → (inI v5) ∧ 
                ((v5 ≠ 59 → CallV 87 [vR 20, vI 14, vI x3, vI 0] (M, W) (fun M17 W18 => Xs 84 (10, [some (some (vR 20)), some (some (vR 1)), some (some (vI x2)), some (some (vI (x3 + 1))), some (some (vI (x4 + 1))), some (some (vI v5))], [], (M17, W18)) (QV Q))) ∧
                (¬ v5 ≠ 59 → CallV 87 [vR 20, vI 12, vI x3, vI 0] (M, W) (fun M19 W20 => Xs 84 (10, [some (some (vR 20)), some (some (vR 1)), some (some (vI x2)), some (some (vI (x3 + 1))), some (some (vI (x4 + 1))), some (some (vI v5))], [], (M19, W20)) (QV Q))))) ∧
              (¬ v5 < 48 → (inI v5) ∧ 
                ((v5 > 57 → (inI v5) ∧ 
                  ((v5 ≠ 59 → CallV 87 [vR 20, vI 14, vI x3, vI 0] (M, W) (fun M21 W22 => Xs 84 (10, [some (some (vR 20)), some (some (vR 1)), some (some (vI x2)), some (some (vI (x3 + 1))), some (some (vI (x4 + 1))), some (some (vI v5))], [], (M21, W22)) (QV Q))) ∧
                  (¬ v5 ≠ 59 → CallV 87 [vR 20, vI 12, vI x3, vI 0] (M, W) (fun M23 W24 => Xs 84 (10, [some (some (vR 20)), some (some (vR 1)), some (some (vI x2)), some (some (vI (x3 + 1))), some (some (vI (x4 + 1))), some (some (vI v5))], [], (M23, W24)) (QV Q))))) ∧
                (¬ v5 > 57 → CallI 86 [vR 20, vR 1, vI x2, vI x3] (M, W) (fun r27 M25 W26 => Xs 84 (10, [some (some (vR 20)), some (some (vR 1)), some (some (vI x2)), some (some (vI r27)), some (some (vI (x4 + 1))), some (some (vI v5))], [], (M25, W26)) (QV Q))))))) ∧
            (¬ v5 > 122 → CallI 85 [vR 20, vR 1, vI x2, vI x3] (M, W) (fun r30 M28 W29 => Xs 84 (10, [some (some (vR 20)), some (some (vR 1)), some (some (vI x2)), some (some (vI r30)), some (some (vI (x4 + 1))), some (some (vI v5))], [], (M28, W29)) (QV Q))))))) ∧
        (¬ v5 ≠ 32 → Xs 84 (10, [some (some (vR 20)), some (some (vR 1)), some (some (vI x2)), some (some (vI (x3 + 1))), some (some (vI (x4 + 1))), some (some (vI v5))], [], (M, W)) (QV Q))))))))))) : Xs 84 (10, [some (some (vR 20)), some (some (vR 1)), some (some (vI x2)), some (some (vI x3)), some (some (vI x4)), d5], [], (M, W)) (QV Q) :=
  wpN_X (cut := fun p => Nat.beq p 10) 172 _ _ h
set_option maxRecDepth 20000 in
theorem e_X8_cutWord (x2 : Int) (x3 : Int) (M : aM) (W : aW) (Q : Int → aM → aW → Prop) (h :
  Xs 85 (6, [some (some (vR 20)), some (some (vR 1)), some (some (vI x2)), some (some (vI x3)), some (some (vI 0)), some (some (vI x3)), none, none], [], (M, W)) (QI Q)) : CallI 85 [vR 20, vR 1, vI x2, vI x3] (M, W) Q :=
  wpN_X (cut := fun p => Nat.beq p 6 || Nat.beq p 83) 7 _ _ h
set_option maxRecDepth 20000 in
theorem k_X8_cutWord_6 (x2 : Int) (x3 : Int) (x4 : Int) (x5 : Int) (d6 : aL) (d7 : aL) (M : aM) (W : aW) (Q : Int → aM → aW → Prop) (h :
  (inI x5 ∧ inI x2) ∧ 
  ((x5 ≥ x2 → (inI (x5 - x3)) ∧ 
    (((x5 - x3) ≤ 6 → Xs 85 (83, [some (some (vR 20)), some (some (vR 1)), some (some (vI x2)), some (some (vI x3)), some (some (vI x4)), some (some (vI x5)), some (some (vI 10)), some (some (vI 0))], [], (M, W)) (QI Q)) ∧
    (¬ (x5 - x3) ≤ 6 → Xs 85 (83, [some (some (vR 20)), some (some (vR 1)), some (some (vI x2)), some (some (vI x3)), some (some (vI x4)), some (some (vI x5)), some (some (vI 14)), some (some (vI 0))], [], (M, W)) (QI Q)))) ∧
  (¬ x5 ≥ x2 → (0 ≤ x5 ∧ x5 < 600) ∧ (inI (M 1 x5)) ∧ 
    (((M 1 x5) < 97 → (inI (x5 - x3)) ∧ 
      (((x5 - x3) ≤ 6 → Xs 85 (83, [some (some (vR 20)), some (some (vR 1)), some (some (vI x2)), some (some (vI x3)), some (some (vI x4)), some (some (vI x5)), some (some (vI 10)), some (some (vI 0))], [], (M, W)) (QI Q)) ∧
      (¬ (x5 - x3) ≤ 6 → Xs 85 (83, [some (some (vR 20)), some (some (vR 1)), some (some (vI x2)), some (some (vI x3)), some (some (vI x4)), some (some (vI x5)), some (some (vI 14)), some (some (vI 0))], [], (M, W)) (QI Q)))) ∧
    (¬ (M 1 x5) < 97 → (0 ≤ x5 ∧ x5 < 600) ∧ (inI (M 1 x5)) ∧ 
      (((M 1 x5) > 122 → (inI (x5 - x3)) ∧ 
        (((x5 - x3) ≤ 6 → Xs 85 (83, [some (some (vR 20)), some (some (vR 1)), some (some (vI x2)), some (some (vI x3)), some (some (vI x4)), some (some (vI x5)), some (some (vI 10)), some (some (vI 0))], [], (M, W)) (QI Q)) ∧
        (¬ (x5 - x3) ≤ 6 → Xs 85 (83, [some (some (vR 20)), some (some (vR 1)), some (some (vI x2)), some (some (vI x3)), some (some (vI x4)), some (some (vI x5)), some (some (vI 14)), some (some (vI 0))], [], (M, W)) (QI Q)))) ∧
      (¬ (M 1 x5) > 122 → (inI (x5 - x3)) ∧ 
        (((x5 - x3) ≥ 6 → Xs 85 (6, [some (some (vR 20)), some (some (vR 1)), some (some (vI x2)), some (some (vI x3)), some (some (vI x4)), some (some (vI (x5 + 1))), d6, d7], [], (M, W)) (QI Q)) ∧
        (¬ (x5 - x3) ≥ 6 → (0 ≤ x5 ∧ x5 < 600) ∧ (∀ v1 : Int, v1 = (((x4 * 27) + (M 1 x5)) - 97) + 1 → Xs 85 (6, [some (some (vR 20)), some (some (vR 1)), some (some (vI x2)), some (some (vI x3)), some (some (vI v1)), some (some (vI (x5 + 1))), d6, d7], [], (M, W)) (QI Q))))))))))) : Xs 85 (6, [some (some (vR 20)), some (some (vR 1)), some (some (vI x2)), some (some (vI x3)), some (some (vI x4)), some (some (vI x5)), d6, d7], [], (M, W)) (QI Q) :=
  wpN_X (cut := fun p => Nat.beq p 6 || Nat.beq p 83) 86 _ _ h
set_option maxRecDepth 20000 in
theorem k_X8_cutWord_83 (x2 : Int) (x3 : Int) (x4 : Int) (x5 : Int) (x6 : Int) (x7 : Int) (M : aM) (W : aW) (Q : Int → aM → aW → Prop) (h :
  (inI x7 ∧ inI 10) ∧ 
  ((x7 ≥ 10 → CallV 87 [vR 20, vI x6, vI x3, vI x4] (M, W) (fun M1 W2 => Q x5 M1 W2)) ∧
  (¬ x7 ≥ 10 → (inI x6) ∧ 
    ((x6 ≠ 10 → CallV 87 [vR 20, vI x6, vI x3, vI x4] (M, W) (fun M3 W4 => Q x5 M3 W4)) ∧
    (¬ x6 ≠ 10 → (0 ≤ x7 ∧ x7 < 10) ∧ (inI (M 21 x7) ∧ inI x4) ∧ 
      (((M 21 x7) ≠ x4 → Xs 85 (83, [some (some (vR 20)), some (some (vR 1)), some (some (vI x2)), some (some (vI x3)), some (some (vI x4)), some (some (vI x5)), some (some (vI x6)), some (some (vI (x7 + 1)))], [], (M, W)) (QI Q)) ∧
      (¬ (M 21 x7) ≠ x4 → Xs 85 (83, [some (some (vR 20)), some (some (vR 1)), some (some (vI x2)), some (some (vI x3)), some (some (vI x4)), some (some (vI x5)), some (some (vI x7)), some (some (vI (x7 + 1)))], [], (M, W)) (QI Q)))))))) : Xs 85 (83, [some (some (vR 20)), some (some (vR 1)), some (some (vI x2)), some (some (vI x3)), some (some (vI x4)), some (some (vI x5)), some (some (vI x6)), some (some (vI x7))], [], (M, W)) (QI Q) :=
  wpN_X (cut := fun p => Nat.beq p 6 || Nat.beq p 83) 38 _ _ h
set_option maxRecDepth 20000 in
theorem e_X8_cutNumber (x2 : Int) (x3 : Int) (M : aM) (W : aW) (Q : Int → aM → aW → Prop) (h :
  Xs 86 (6, [some (some (vR 20)), some (some (vR 1)), some (some (vI x2)), some (some (vI x3)), some (some (vI 0)), some (some (vI x3))], [], (M, W)) (QI Q)) : CallI 86 [vR 20, vR 1, vI x2, vI x3] (M, W) Q :=
  wpN_X (cut := fun p => Nat.beq p 6) 7 _ _ h
set_option maxRecDepth 20000 in
theorem k_X8_cutNumber_6 (x2 : Int) (x3 : Int) (x4 : Int) (x5 : Int) (M : aM) (W : aW) (Q : Int → aM → aW → Prop) (h :
  (inI x5 ∧ inI x2) ∧ 
  ((x5 ≥ x2 → CallV 87 [vR 20, vI 11, vI x3, vI x4] (M, W) (fun M1 W2 => Q x5 M1 W2)) ∧
  (¬ x5 ≥ x2 → (0 ≤ x5 ∧ x5 < 600) ∧ (inI (M 1 x5)) ∧ 
    (((M 1 x5) < 48 → CallV 87 [vR 20, vI 11, vI x3, vI x4] (M, W) (fun M3 W4 => Q x5 M3 W4)) ∧
    (¬ (M 1 x5) < 48 → (0 ≤ x5 ∧ x5 < 600) ∧ (inI (M 1 x5)) ∧ 
      (((M 1 x5) > 57 → CallV 87 [vR 20, vI 11, vI x3, vI x4] (M, W) (fun M5 W6 => Q x5 M5 W6)) ∧
      (¬ (M 1 x5) > 57 → (inI x4) ∧ 
        ((x4 ≥ 1000 → Xs 86 (6, [some (some (vR 20)), some (some (vR 1)), some (some (vI x2)), some (some (vI x3)), some (some (vI x4)), some (some (vI (x5 + 1)))], [], (M, W)) (QI Q)) ∧
        (¬ x4 ≥ 1000 → (0 ≤ x5 ∧ x5 < 600) ∧ (∀ v7 : Int, v7 = ((x4 * 10) + (M 1 x5)) - 48 → Xs 86 (6, [some (some (vR 20)), some (some (vR 1)), some (some (vI x2)), some (some (vI x3)), some (some (vI v7)), some (some (vI (x5 + 1)))], [], (M, W)) (QI Q))))))))))) : Xs 86 (6, [some (some (vR 20)), some (some (vR 1)), some (some (vI x2)), some (some (vI x3)), some (some (vI x4)), some (some (vI x5))], [], (M, W)) (QI Q) :=
  wpN_X (cut := fun p => Nat.beq p 6) 55 _ _ h
set_option maxRecDepth 20000 in
theorem e_X8_put (x1 : Int) (x2 : Int) (x3 : Int) (M : aM) (W : aW) (Q : aM → aW → Prop) (h :
  (inI (M 20 4) ∧ inI 601) ∧ 
  (((M 20 4) ≥ 601 → Q M W) ∧
  (¬ (M 20 4) ≥ 601 → (0 ≤ (M 20 4) ∧ (M 20 4) < 601) ∧ (0 ≤ ((up_ M 22 (M 20 4) x1) 20 4) ∧ ((up_ M 22 (M 20 4) x1) 20 4) < 601) ∧ (0 ≤ ((up_ (up_ M 22 (M 20 4) x1) 23 ((up_ M 22 (M 20 4) x1) 20 4) x2) 20 4) ∧ ((up_ (up_ M 22 (M 20 4) x1) 23 ((up_ M 22 (M 20 4) x1) 20 4) x2) 20 4) < 601) ∧ Q (up_ (up_ (up_ (up_ M 22 (M 20 4) x1) 23 ((up_ M 22 (M 20 4) x1) 20 4) x2) 24 ((up_ (up_ M 22 (M 20 4) x1) 23 ((up_ M 22 (M 20 4) x1) 20 4) x2) 20 4) x3) 20 4 (((up_ (up_ (up_ M 22 (M 20 4) x1) 23 ((up_ M 22 (M 20 4) x1) 20 4) x2) 24 ((up_ (up_ M 22 (M 20 4) x1) 23 ((up_ M 22 (M 20 4) x1) 20 4) x2) 20 4) x3) 20 4) + 1)) W))) : CallV 87 [vR 20, vI x1, vI x2, vI x3] (M, W) Q :=
  wpN_X (cut := fun p => false) 34 _ _ h
set_option maxRecDepth 20000 in
theorem e_X8_moveTo (x1 : Int) (M : aM) (W : aW) (Q : aM → aW → Prop) (h :
  (inI x1) ∧ 
  ((x1 < 0 → Q M W) ∧
  (¬ x1 < 0 → (inI x1 ∧ inI 601) ∧ 
    ((x1 ≥ 601 → Q M W) ∧
    (¬ x1 ≥ 601 → (0 ≤ ((up_ M 20 8 x1) 20 8) ∧ ((up_ M 20 8 x1) 20 8) < 601) ∧ (0 ≤ ((up_ (up_ M 20 8 x1) 20 9 ((up_ M 20 8 x1) 22 ((up_ M 20 8 x1) 20 8))) 20 8) ∧ ((up_ (up_ M 20 8 x1) 20 9 ((up_ M 20 8 x1) 22 ((up_ M 20 8 x1) 20 8))) 20 8) < 601) ∧ Q (up_ (up_ (up_ M 20 8 x1) 20 9 ((up_ M 20 8 x1) 22 ((up_ M 20 8 x1) 20 8))) 20 10 ((up_ (up_ M 20 8 x1) 20 9 ((up_ M 20 8 x1) 22 ((up_ M 20 8 x1) 20 8))) 24 ((up_ (up_ M 20 8 x1) 20 9 ((up_ M 20 8 x1) 22 ((up_ M 20 8 x1) 20 8))) 20 8))) W))))) : CallV 88 [vR 20, vI x1] (M, W) Q :=
  wpN_X (cut := fun p => false) 29 _ _ h
set_option maxRecDepth 20000 in
theorem e_X8_fail (x1 : Int) (M : aM) (W : aW) (Q : Int → aM → aW → Prop) (h :
  (0 ≤ ((up_ M 20 11 x1) 20 8) ∧ ((up_ M 20 11 x1) 20 8) < 601) ∧ Q 0 (up_ (up_ M 20 11 x1) 20 12 ((up_ M 20 11 x1) 23 ((up_ M 20 11 x1) 20 8))) W) : CallI 89 [vR 20, vI x1] (M, W) Q :=
  wpN_X (cut := fun p => false) 14 _ _ h
set_option maxRecDepth 20000 in
theorem e_X8_readPlaces  (M : aM) (W : aW) (Q : Int → aM → aW → Prop) (h :
  CallV 88 [vR 20, vI ((M 20 8) + 1)] (M, W) (fun M1 W2 => (inI (M1 20 9)) ∧ 
  (((M1 20 9) = 10 → Xs 90 (27, [some (some (vR 20)), some (some (vI 0))], [], (M1, W2)) (QI Q)) ∧
  (¬ (M1 20 9) = 10 → CallI 89 [vR 20, vI 1] (M1, W2) (fun r5 M3 W4 => ((r5 : Int) = 0 ∨ (r5 : Int) = 1) ∧ Q r5 M3 W4))))) : CallI 90 [vR 20] (M, W) Q :=
  wpN_X (cut := fun p => Nat.beq p 27) 19 _ _ h
set_option maxRecDepth 20000 in
theorem k_X8_readPlaces_27 (x1 : Int) (M : aM) (W : aW) (Q : Int → aM → aW → Prop) (h :
  (inI x1) ∧ 
  ((x1 > 10 → Q 1 M W) ∧
  (¬ x1 > 10 → (inI (M 20 9)) ∧ 
    (((M 20 9) ≠ 10 → Q 1 M W) ∧
    (¬ (M 20 9) ≠ 10 → (okO 86 3 (M 20 7) = true) ∧ (inI (M (M 20 7) 0)) ∧ 
      (((M (M 20 7) 0) < 10 → (okO 86 3 (M 20 7) = true) ∧ CallI 103 [vR 20, vR 25, vI (M (M 20 7) 0)] (M, W) (fun r3 M1 W2 => (inI r3) ∧ 
        ((r3 < 0 → (okO 86 3 (M1 20 7) = true) ∧ (0 ≤ (M1 (M1 20 7) 0) ∧ (M1 (M1 20 7) 0) < 10) ∧ (okO 86 3 ((up_ M1 25 (M1 (M1 20 7) 0) (M1 20 10)) 20 7) = true) ∧ (okO 86 3 ((up_ M1 25 (M1 (M1 20 7) 0) (M1 20 10)) 20 7) = true) ∧ CallV 88 [vR 20, vI (((up_ (up_ M1 25 (M1 (M1 20 7) 0) (M1 20 10)) ((up_ M1 25 (M1 (M1 20 7) 0) (M1 20 10)) 20 7) 0 (((up_ M1 25 (M1 (M1 20 7) 0) (M1 20 10)) ((up_ M1 25 (M1 (M1 20 7) 0) (M1 20 10)) 20 7) 0) + 1)) 20 8) + 1)] ((up_ (up_ M1 25 (M1 (M1 20 7) 0) (M1 20 10)) ((up_ M1 25 (M1 (M1 20 7) 0) (M1 20 10)) 20 7) 0 (((up_ M1 25 (M1 (M1 20 7) 0) (M1 20 10)) ((up_ M1 25 (M1 (M1 20 7) 0) (M1 20 10)) 20 7) 0) + 1)), W2) (fun M4 W5 => Xs 90 (27, [some (some (vR 20)), some (some (vI (x1 + 1)))], [], (M4, W5)) (QI Q))) ∧
        (¬ r3 < 0 → CallI 89 [vR 20, vI 3] (M1, W2) (fun r8 M6 W7 => ((r8 : Int) = 0 ∨ (r8 : Int) = 1) ∧ Q r8 M6 W7))))) ∧
      (¬ (M (M 20 7) 0) < 10 → CallI 89 [vR 20, vI 2] (M, W) (fun r11 M9 W10 => ((r11 : Int) = 0 ∨ (r11 : Int) = 1) ∧ Q r11 M9 W10)))))))) : Xs 90 (27, [some (some (vR 20)), some (some (vI x1))], [], (M, W)) (QI Q) :=
  wpN_X (cut := fun p => Nat.beq p 27) 58 _ _ h
set_option maxRecDepth 20000 in
theorem e_X8_readCause  (M : aM) (W : aW) (Q : Int → aM → aW → Prop) (h :
  (okO 86 3 (M 20 7) = true) ∧ (inI (M (M 20 7) 1)) ∧ 
  (((M (M 20 7) 1) < 2 → CallV 88 [vR 20, vI ((M 20 8) + 1)] (M, W) (fun M1 W2 => (inI (M1 20 9)) ∧ 
    (((M1 20 9) = 10 → (okO 86 3 (M1 20 7) = true) ∧ CallI 103 [vR 20, vR 26, vI (M1 (M1 20 7) 1)] (M1, W2) (fun r5 M3 W4 => (inI r5) ∧ 
      ((r5 < 0 → (okO 86 3 (M3 20 7) = true) ∧ (0 ≤ (M3 (M3 20 7) 1) ∧ (M3 (M3 20 7) 1) < 2) ∧ CallV 88 [vR 20, vI (((up_ M3 26 (M3 (M3 20 7) 1) (M3 20 10)) 20 8) + 1)] ((up_ M3 26 (M3 (M3 20 7) 1) (M3 20 10)), W4) (fun M6 W7 => CallI 102 [vR 20, vI 9] (M6, W7) (fun r10 M8 W9 => (okO 86 3 (M8 20 7) = true) ∧ (okO 86 3 (M8 20 7) = true) ∧ (okO 86 20 ((M8 20 7) + 1) = true ∧ 0 ≤ (M8 (M8 20 7) 1) ∧ (M8 (M8 20 7) 1) < ln_ ((M8 20 7) + 1)) ∧ (okO 86 3 ((up_ M8 ((M8 20 7) + 1) (M8 (M8 20 7) 1) r10) 20 7) = true) ∧ (okO 86 3 ((up_ M8 ((M8 20 7) + 1) (M8 (M8 20 7) 1) r10) 20 7) = true) ∧ (inI r10) ∧ 
        ((r10 ≤ 0 → ((0 : Int) = 0 ∨ (0 : Int) = 1) ∧ Q 0 (up_ (up_ M8 ((M8 20 7) + 1) (M8 (M8 20 7) 1) r10) ((up_ M8 ((M8 20 7) + 1) (M8 (M8 20 7) 1) r10) 20 7) 1 (((up_ M8 ((M8 20 7) + 1) (M8 (M8 20 7) 1) r10) ((up_ M8 ((M8 20 7) + 1) (M8 (M8 20 7) 1) r10) 20 7) 1) + 1)) W9) ∧
        (¬ r10 ≤ 0 → ((1 : Int) = 0 ∨ (1 : Int) = 1) ∧ Q 1 (up_ (up_ M8 ((M8 20 7) + 1) (M8 (M8 20 7) 1) r10) ((up_ M8 ((M8 20 7) + 1) (M8 (M8 20 7) 1) r10) 20 7) 1 (((up_ M8 ((M8 20 7) + 1) (M8 (M8 20 7) 1) r10) ((up_ M8 ((M8 20 7) + 1) (M8 (M8 20 7) 1) r10) 20 7) 1) + 1)) W9))))) ∧
      (¬ r5 < 0 → CallI 89 [vR 20, vI 3] (M3, W4) (fun r13 M11 W12 => ((r13 : Int) = 0 ∨ (r13 : Int) = 1) ∧ Q r13 M11 W12))))) ∧
    (¬ (M1 20 9) = 10 → CallI 89 [vR 20, vI 1] (M1, W2) (fun r16 M14 W15 => ((r16 : Int) = 0 ∨ (r16 : Int) = 1) ∧ Q r16 M14 W15))))) ∧
  (¬ (M (M 20 7) 1) < 2 → CallI 89 [vR 20, vI 2] (M, W) (fun r19 M17 W18 => ((r19 : Int) = 0 ∨ (r19 : Int) = 1) ∧ Q r19 M17 W18)))) : CallI 91 [vR 20] (M, W) Q :=
  wpN_X (cut := fun p => false) 77 _ _ h
set_option maxRecDepth 20000 in
theorem e_X8_readRoad  (M : aM) (W : aW) (Q : Int → aM → aW → Prop) (h :
  (okO 86 3 (M 20 7) = true) ∧ (inI (M (M 20 7) 2)) ∧ 
  (((M (M 20 7) 2) < 24 → CallV 88 [vR 20, vI ((M 20 8) + 1)] (M, W) (fun M1 W2 => CallI 99 [vR 20] (M1, W2) (fun r5 M3 W4 => (inI r5) ∧ 
    ((r5 ≥ 0 → CallI 98 [vR 20] (M3, W4) (fun r8 M6 W7 => (inI r8) ∧ 
      ((r8 ≥ 0 → (inI r5 ∧ inI r8) ∧ 
        ((r5 = r8 → CallI 89 [vR 20, vI 3] (M6, W7) (fun r11 M9 W10 => ((r11 : Int) = 0 ∨ (r11 : Int) = 1) ∧ Q r11 M9 W10)) ∧
        (¬ r5 = r8 → (okO 86 3 (M6 20 7) = true) ∧ (okO 86 20 ((M6 20 7) + 4) = true ∧ 0 ≤ ((r5 * 10) + r8) ∧ ((r5 * 10) + r8) < ln_ ((M6 20 7) + 4)) ∧ (inI (M6 ((M6 20 7) + 4) ((r5 * 10) + r8))) ∧ 
          (((M6 ((M6 20 7) + 4) ((r5 * 10) + r8)) < 0 → CallV 88 [vR 20, vI ((M6 20 8) + 1)] (M6, W7) (fun M12 W13 => CallI 102 [vR 20, vI 99] (M12, W13) (fun r16 M14 W15 => (inI r16) ∧ 
            ((r16 ≤ 0 → ((0 : Int) = 0 ∨ (0 : Int) = 1) ∧ Q 0 M14 W15) ∧
            (¬ r16 ≤ 0 → CallI 93 [vR 20, vI r5, vI r8, vI r16] (M14, W15) (fun r19 M17 W18 => (inI r19) ∧ 
              ((r19 = 0 → ((0 : Int) = 0 ∨ (0 : Int) = 1) ∧ Q 0 M17 W18) ∧
              (¬ r19 = 0 → ((1 : Int) = 0 ∨ (1 : Int) = 1) ∧ Q 1 M17 W18)))))))) ∧
          (¬ (M6 ((M6 20 7) + 4) ((r5 * 10) + r8)) < 0 → CallI 89 [vR 20, vI 3] (M6, W7) (fun r22 M20 W21 => ((r22 : Int) = 0 ∨ (r22 : Int) = 1) ∧ Q r22 M20 W21)))))) ∧
      (¬ r8 ≥ 0 → Q 0 M6 W7)))) ∧
    (¬ r5 ≥ 0 → Q 0 M3 W4))))) ∧
  (¬ (M (M 20 7) 2) < 24 → CallI 89 [vR 20, vI 2] (M, W) (fun r25 M23 W24 => ((r25 : Int) = 0 ∨ (r25 : Int) = 1) ∧ Q r25 M23 W24)))) : CallI 92 [vR 20] (M, W) Q :=
  wpN_X (cut := fun p => false) 77 _ _ h
set_option maxRecDepth 20000 in
theorem e_X8_readDoubts (x1 : Int) (x2 : Int) (x3 : Int) (M : aM) (W : aW) (Q : Int → aM → aW → Prop) (h :
  (inI (M 20 9)) ∧ 
  (((M 20 9) = 3 → (okO 86 3 (M 20 7) = true) ∧ (inI (M (M 20 7) 3)) ∧ 
    (((M (M 20 7) 3) < 6 → Xs 93 (43, [some (some (vR 20)), some (some (vI x1)), some (some (vI x2)), some (some (vI x3)), some (some (vI 0)), some (some (vI (-1))), some (some (vI 0))], [], (M, W)) (QI Q)) ∧
    (¬ (M (M 20 7) 3) < 6 → CallI 89 [vR 20, vI 2] (M, W) (fun r3 M1 W2 => ((r3 : Int) = 0 ∨ (r3 : Int) = 1) ∧ Q r3 M1 W2)))) ∧
  (¬ (M 20 9) = 3 → (inI (M 20 9)) ∧ 
    (((M 20 9) ≠ 4 → Xs 93 (43, [some (some (vR 20)), some (some (vI x1)), some (some (vI x2)), some (some (vI x3)), some (some (vI 0)), some (some (vI (-1))), some (some (vI 0))], [], (M, W)) (QI Q)) ∧
    (¬ (M 20 9) ≠ 4 → (okO 86 3 (M 20 7) = true) ∧ (inI (M (M 20 7) 3)) ∧ 
      (((M (M 20 7) 3) < 6 → Xs 93 (43, [some (some (vR 20)), some (some (vI x1)), some (some (vI x2)), some (some (vI x3)), some (some (vI 0)), some (some (vI (-1))), some (some (vI 0))], [], (M, W)) (QI Q)) ∧
      (¬ (M (M 20 7) 3) < 6 → CallI 89 [vR 20, vI 2] (M, W) (fun r6 M4 W5 => ((r6 : Int) = 0 ∨ (r6 : Int) = 1) ∧ Q r6 M4 W5)))))))) : CallI 93 [vR 20, vI x1, vI x2, vI x3] (M, W) Q :=
  wpN_X (cut := fun p => Nat.beq p 43 || Nat.beq p 76 || Nat.beq p 107 || Nat.beq p 150) 37 _ _ h
set_option maxRecDepth 20000 in
theorem k_X8_readDoubts_43 (x1 : Int) (x2 : Int) (x3 : Int) (x4 : Int) (x5 : Int) (x6 : Int) (M : aM) (W : aW) (Q : Int → aM → aW → Prop) (h :
  (inI (M 20 9)) ∧ 
  (((M 20 9) ≠ 3 → Xs 93 (76, [some (some (vR 20)), some (some (vI x1)), some (some (vI x2)), some (some (vI x3)), some (some (vI x4)), some (some (vI x5)), some (some (vI x6))], [], (M, W)) (QI Q)) ∧
  (¬ (M 20 9) ≠ 3 → CallV 88 [vR 20, vI ((M 20 8) + 1)] (M, W) (fun M1 W2 => CallI 102 [vR 20, vI 9] (M1, W2) (fun r5 M3 W4 => (inI r5) ∧ 
    ((r5 ≥ 0 → Xs 93 (76, [some (some (vR 20)), some (some (vI x1)), some (some (vI x2)), some (some (vI x3)), some (some (vI r5)), some (some (vI x5)), some (some (vI x6))], [], (M3, W4)) (QI Q)) ∧
    (¬ r5 ≥ 0 → Q 0 M3 W4))))))) : Xs 93 (43, [some (some (vR 20)), some (some (vI x1)), some (some (vI x2)), some (some (vI x3)), some (some (vI x4)), some (some (vI x5)), some (some (vI x6))], [], (M, W)) (QI Q) :=
  wpN_X (cut := fun p => Nat.beq p 43 || Nat.beq p 76 || Nat.beq p 107 || Nat.beq p 150) 22 _ _ h
set_option maxRecDepth 20000 in
theorem k_X8_readDoubts_76 (x1 : Int) (x2 : Int) (x3 : Int) (x4 : Int) (x5 : Int) (x6 : Int) (M : aM) (W : aW) (Q : Int → aM → aW → Prop) (h :
  (inI (M 20 9)) ∧ 
  (((M 20 9) ≠ 4 → Xs 93 (107, [some (some (vR 20)), some (some (vI x1)), some (some (vI x2)), some (some (vI x3)), some (some (vI x4)), some (some (vI x5)), some (some (vI x6))], [], (M, W)) (QI Q)) ∧
  (¬ (M 20 9) ≠ 4 → CallV 88 [vR 20, vI ((M 20 8) + 1)] (M, W) (fun M1 W2 => CallI 100 [vR 20] (M1, W2) (fun r5 M3 W4 => (inI r5) ∧ 
    ((r5 ≥ 0 → Xs 93 (107, [some (some (vR 20)), some (some (vI x1)), some (some (vI x2)), some (some (vI x3)), some (some (vI x4)), some (some (vI r5)), some (some (vI x6))], [], (M3, W4)) (QI Q)) ∧
    (¬ r5 ≥ 0 → Q 0 M3 W4))))))) : Xs 93 (76, [some (some (vR 20)), some (some (vI x1)), some (some (vI x2)), some (some (vI x3)), some (some (vI x4)), some (some (vI x5)), some (some (vI x6))], [], (M, W)) (QI Q) :=
  wpN_X (cut := fun p => Nat.beq p 43 || Nat.beq p 76 || Nat.beq p 107 || Nat.beq p 150) 21 _ _ h
set_option maxRecDepth 20000 in
theorem k_X8_readDoubts_107 (x1 : Int) (x2 : Int) (x3 : Int) (x4 : Int) (x5 : Int) (x6 : Int) (M : aM) (W : aW) (Q : Int → aM → aW → Prop) (h :
  (inI (M 20 9)) ∧ 
  (((M 20 9) ≠ 5 → Xs 93 (150, [some (some (vR 20)), some (some (vI x1)), some (some (vI x2)), some (some (vI x3)), some (some (vI x4)), some (some (vI x5)), some (some (vI x6))], [], (M, W)) (QI Q)) ∧
  (¬ (M 20 9) ≠ 5 → (inI x4) ∧ 
    ((x4 > 0 → CallV 88 [vR 20, vI ((M 20 8) + 1)] (M, W) (fun M1 W2 => CallI 102 [vR 20, vI 99] (M1, W2) (fun r5 M3 W4 => (inI r5) ∧ 
      ((r5 ≥ 0 → Xs 93 (150, [some (some (vR 20)), some (some (vI x1)), some (some (vI x2)), some (some (vI x3)), some (some (vI x4)), some (some (vI x5)), some (some (vI r5))], [], (M3, W4)) (QI Q)) ∧
      (¬ r5 ≥ 0 → Q 0 M3 W4))))) ∧
    (¬ x4 > 0 → (inI x5) ∧ 
      ((x5 < 0 → Xs 93 (150, [some (some (vR 20)), some (some (vI x1)), some (some (vI x2)), some (some (vI x3)), some (some (vI x4)), some (some (vI x5)), some (some (vI x6))], [], (M, W)) (QI Q)) ∧
      (¬ x5 < 0 → CallV 88 [vR 20, vI ((M 20 8) + 1)] (M, W) (fun M6 W7 => CallI 102 [vR 20, vI 99] (M6, W7) (fun r10 M8 W9 => (inI r10) ∧ 
        ((r10 ≥ 0 → Xs 93 (150, [some (some (vR 20)), some (some (vI x1)), some (some (vI x2)), some (some (vI x3)), some (some (vI x4)), some (some (vI x5)), some (some (vI r10))], [], (M8, W9)) (QI Q)) ∧
        (¬ r10 ≥ 0 → Q 0 M8 W9))))))))))) : Xs 93 (107, [some (some (vR 20)), some (some (vI x1)), some (some (vI x2)), some (some (vI x3)), some (some (vI x4)), some (some (vI x5)), some (some (vI x6))], [], (M, W)) (QI Q) :=
  wpN_X (cut := fun p => Nat.beq p 43 || Nat.beq p 76 || Nat.beq p 107 || Nat.beq p 150) 42 _ _ h
set_option maxRecDepth 20000 in
theorem k_X8_readDoubts_150 (x1 : Int) (x2 : Int) (x3 : Int) (x4 : Int) (x5 : Int) (x6 : Int) (M : aM) (W : aW) (Q : Int → aM → aW → Prop) (h :
  (okO 86 3 (M 20 7) = true) ∧ CallV 40 [vR (M 20 7), vI x1, vI x2, vI x3, vI x4, vI x5, vI x6] (M, W) (fun M1 W2 => Q 1 M1 W2)) : Xs 93 (150, [some (some (vR 20)), some (some (vI x1)), some (some (vI x2)), some (some (vI x3)), some (some (vI x4)), some (some (vI x5)), some (some (vI x6))], [], (M, W)) (QI Q) :=
  wpN_X (cut := fun p => Nat.beq p 43 || Nat.beq p 76 || Nat.beq p 107 || Nat.beq p 150) 13 _ _ h
set_option maxRecDepth 20000 in
theorem e_X8_readSight  (M : aM) (W : aW) (Q : Int → aM → aW → Prop) (h :
  (okO 86 3 (M 20 7) = true) ∧ (inI (M (M 20 7) 4)) ∧ 
  (((M (M 20 7) 4) < 8 → CallV 88 [vR 20, vI ((M 20 8) + 1)] (M, W) (fun M1 W2 => CallI 99 [vR 20] (M1, W2) (fun r5 M3 W4 => (inI r5) ∧ 
    ((r5 ≥ 0 → CallI 101 [vR 20] (M3, W4) (fun r8 M6 W7 => (inI r8) ∧ 
      ((r8 ≥ 0 → (okO 86 3 (M6 20 7) = true) ∧ (okO 86 20 ((M6 20 7) + 5) = true ∧ 0 ≤ r5 ∧ r5 < ln_ ((M6 20 7) + 5)) ∧ (okO 86 20 ((M6 20 7) + 5) = true ∧ 0 ≤ r5 ∧ r5 < ln_ ((M6 20 7) + 5)) ∧ (okO 86 3 ((up_ M6 ((M6 20 7) + 5) r5 (or_ (M6 ((M6 20 7) + 5) r5) (shl_ 1 r8))) 20 7) = true) ∧ (okO 86 3 ((up_ M6 ((M6 20 7) + 5) r5 (or_ (M6 ((M6 20 7) + 5) r5) (shl_ 1 r8))) 20 7) = true) ∧ Q 1 (up_ (up_ M6 ((M6 20 7) + 5) r5 (or_ (M6 ((M6 20 7) + 5) r5) (shl_ 1 r8))) ((up_ M6 ((M6 20 7) + 5) r5 (or_ (M6 ((M6 20 7) + 5) r5) (shl_ 1 r8))) 20 7) 4 (((up_ M6 ((M6 20 7) + 5) r5 (or_ (M6 ((M6 20 7) + 5) r5) (shl_ 1 r8))) ((up_ M6 ((M6 20 7) + 5) r5 (or_ (M6 ((M6 20 7) + 5) r5) (shl_ 1 r8))) 20 7) 4) + 1)) W7) ∧
      (¬ r8 ≥ 0 → Q 0 M6 W7)))) ∧
    (¬ r5 ≥ 0 → Q 0 M3 W4))))) ∧
  (¬ (M (M 20 7) 4) < 8 → CallI 89 [vR 20, vI 2] (M, W) (fun r11 M9 W10 => ((r11 : Int) = 0 ∨ (r11 : Int) = 1) ∧ Q r11 M9 W10)))) : CallI 94 [vR 20] (M, W) Q :=
  wpN_X (cut := fun p => false) 51 _ _ h
set_option maxRecDepth 20000 in
theorem e_X8_readInn  (M : aM) (W : aW) (Q : Int → aM → aW → Prop) (h :
  (okO 86 3 (M 20 7) = true) ∧ (inI (M (M 20 7) 5)) ∧ 
  (((M (M 20 7) 5) < 6 → CallV 88 [vR 20, vI ((M 20 8) + 1)] (M, W) (fun M1 W2 => CallI 99 [vR 20] (M1, W2) (fun r5 M3 W4 => (inI r5) ∧ 
    ((r5 ≥ 0 → CallI 101 [vR 20] (M3, W4) (fun r8 M6 W7 => (inI r8) ∧ 
      ((r8 ≥ 0 → CallI 102 [vR 20, vI 99] (M6, W7) (fun r11 M9 W10 => (inI r11) ∧ 
        ((r11 ≥ 0 → (okO 86 3 (M9 20 7) = true) ∧ CallV 41 [vR (M9 20 7), vI r5, vI r8, vI r11] (M9, W10) (fun M12 W13 => Q 1 M12 W13)) ∧
        (¬ r11 ≥ 0 → Q 0 M9 W10)))) ∧
      (¬ r8 ≥ 0 → Q 0 M6 W7)))) ∧
    (¬ r5 ≥ 0 → Q 0 M3 W4))))) ∧
  (¬ (M (M 20 7) 5) < 6 → CallI 89 [vR 20, vI 2] (M, W) (fun r16 M14 W15 => ((r16 : Int) = 0 ∨ (r16 : Int) = 1) ∧ Q r16 M14 W15)))) : CallI 95 [vR 20] (M, W) Q :=
  wpN_X (cut := fun p => false) 47 _ _ h
set_option maxRecDepth 20000 in
theorem e_X8_readStart  (M : aM) (W : aW) (Q : Int → aM → aW → Prop) (h :
  (okO 86 3 (M 20 7) = true) ∧ (inI (M (M 20 7) 6)) ∧ 
  (((M (M 20 7) 6) < 0 → CallV 88 [vR 20, vI ((M 20 8) + 1)] (M, W) (fun M1 W2 => CallI 99 [vR 20] (M1, W2) (fun r5 M3 W4 => (okO 86 3 (M1 20 7) = true) ∧ (okO 86 3 ((up_ M3 (M1 20 7) 6 r5) 20 7) = true) ∧ (inI ((up_ M3 (M1 20 7) 6 r5) ((up_ M3 (M1 20 7) 6 r5) 20 7) 6)) ∧ 
    ((((up_ M3 (M1 20 7) 6 r5) ((up_ M3 (M1 20 7) 6 r5) 20 7) 6) < 0 → ((0 : Int) = 0 ∨ (0 : Int) = 1) ∧ Q 0 (up_ M3 (M1 20 7) 6 r5) W4) ∧
    (¬ ((up_ M3 (M1 20 7) 6 r5) ((up_ M3 (M1 20 7) 6 r5) 20 7) 6) < 0 → ((1 : Int) = 0 ∨ (1 : Int) = 1) ∧ Q 1 (up_ M3 (M1 20 7) 6 r5) W4))))) ∧
  (¬ (M (M 20 7) 6) < 0 → CallI 89 [vR 20, vI 3] (M, W) (fun r8 M6 W7 => ((r8 : Int) = 0 ∨ (r8 : Int) = 1) ∧ Q r8 M6 W7)))) : CallI 96 [vR 20] (M, W) Q :=
  wpN_X (cut := fun p => false) 30 _ _ h
set_option maxRecDepth 20000 in
theorem e_X8_readGoal  (M : aM) (W : aW) (Q : Int → aM → aW → Prop) (h :
  (okO 86 3 (M 20 7) = true) ∧ (inI (M (M 20 7) 7)) ∧ 
  (((M (M 20 7) 7) < 0 → CallV 88 [vR 20, vI ((M 20 8) + 1)] (M, W) (fun M1 W2 => CallI 99 [vR 20] (M1, W2) (fun r5 M3 W4 => (okO 86 3 (M1 20 7) = true) ∧ (okO 86 3 ((up_ M3 (M1 20 7) 7 r5) 20 7) = true) ∧ (inI ((up_ M3 (M1 20 7) 7 r5) ((up_ M3 (M1 20 7) 7 r5) 20 7) 7)) ∧ 
    ((((up_ M3 (M1 20 7) 7 r5) ((up_ M3 (M1 20 7) 7 r5) 20 7) 7) < 0 → ((0 : Int) = 0 ∨ (0 : Int) = 1) ∧ Q 0 (up_ M3 (M1 20 7) 7 r5) W4) ∧
    (¬ ((up_ M3 (M1 20 7) 7 r5) ((up_ M3 (M1 20 7) 7 r5) 20 7) 7) < 0 → ((1 : Int) = 0 ∨ (1 : Int) = 1) ∧ Q 1 (up_ M3 (M1 20 7) 7 r5) W4))))) ∧
  (¬ (M (M 20 7) 7) < 0 → CallI 89 [vR 20, vI 3] (M, W) (fun r8 M6 W7 => ((r8 : Int) = 0 ∨ (r8 : Int) = 1) ∧ Q r8 M6 W7)))) : CallI 97 [vR 20] (M, W) Q :=
  wpN_X (cut := fun p => false) 30 _ _ h
set_option maxRecDepth 20000 in
theorem e_X8_placeHere  (M : aM) (W : aW) (Q : Int → aM → aW → Prop) (h :
  (inI (M 20 9)) ∧ 
  (((M 20 9) ≠ 10 → (inI (-1)) ∧ 
    ((((-1) : Int) ≥ 0 → Q (-1) M W) ∧
    (¬ ((-1) : Int) ≥ 0 → (inI (M 20 9)) ∧ 
      (((M 20 9) ≠ 10 → CallI 89 [vR 20, vI 1] (M, W) (fun r3 M1 W2 => Q (-1) M1 W2)) ∧
      (¬ (M 20 9) ≠ 10 → CallI 89 [vR 20, vI 4] (M, W) (fun r6 M4 W5 => Q (-1) M4 W5)))))) ∧
  (¬ (M 20 9) ≠ 10 → (okO 86 3 (M 20 7) = true) ∧ CallI 103 [vR 20, vR 25, vI (M (M 20 7) 0)] (M, W) (fun r9 M7 W8 => (inI r9) ∧ 
    ((r9 ≥ 0 → Q r9 M7 W8) ∧
    (¬ r9 ≥ 0 → (inI (M7 20 9)) ∧ 
      (((M7 20 9) ≠ 10 → CallI 89 [vR 20, vI 1] (M7, W8) (fun r12 M10 W11 => Q r9 M10 W11)) ∧
      (¬ (M7 20 9) ≠ 10 → CallI 89 [vR 20, vI 4] (M7, W8) (fun r15 M13 W14 => Q r9 M13 W14))))))))) : CallI 98 [vR 20] (M, W) Q :=
  wpN_X (cut := fun p => false) 57 _ _ h
set_option maxRecDepth 20000 in
theorem e_X8_takePlace  (M : aM) (W : aW) (Q : Int → aM → aW → Prop) (h :
  CallI 98 [vR 20] (M, W) (fun r3 M1 W2 => (inI r3) ∧ 
  ((r3 < 0 → Q r3 M1 W2) ∧
  (¬ r3 < 0 → CallV 88 [vR 20, vI ((M1 20 8) + 1)] (M1, W2) (fun M4 W5 => Q r3 M4 W5))))) : CallI 99 [vR 20] (M, W) Q :=
  wpN_X (cut := fun p => false) 17 _ _ h
set_option maxRecDepth 20000 in
theorem e_X8_takeCause  (M : aM) (W : aW) (Q : Int → aM → aW → Prop) (h :
  (inI (M 20 9)) ∧ 
  (((M 20 9) ≠ 10 → (inI (-1)) ∧ 
    ((((-1) : Int) ≥ 0 → CallV 88 [vR 20, vI ((M 20 8) + 1)] (M, W) (fun M1 W2 => Q (-1) M1 W2)) ∧
    (¬ ((-1) : Int) ≥ 0 → (inI (M 20 9)) ∧ 
      (((M 20 9) ≠ 10 → CallI 89 [vR 20, vI 1] (M, W) (fun r5 M3 W4 => Q (-1) M3 W4)) ∧
      (¬ (M 20 9) ≠ 10 → CallI 89 [vR 20, vI 4] (M, W) (fun r8 M6 W7 => Q (-1) M6 W7)))))) ∧
  (¬ (M 20 9) ≠ 10 → (okO 86 3 (M 20 7) = true) ∧ CallI 103 [vR 20, vR 26, vI (M (M 20 7) 1)] (M, W) (fun r11 M9 W10 => (inI r11) ∧ 
    ((r11 ≥ 0 → CallV 88 [vR 20, vI ((M9 20 8) + 1)] (M9, W10) (fun M12 W13 => Q r11 M12 W13)) ∧
    (¬ r11 ≥ 0 → (inI (M9 20 9)) ∧ 
      (((M9 20 9) ≠ 10 → CallI 89 [vR 20, vI 1] (M9, W10) (fun r16 M14 W15 => Q (-1) M14 W15)) ∧
      (¬ (M9 20 9) ≠ 10 → CallI 89 [vR 20, vI 4] (M9, W10) (fun r19 M17 W18 => Q (-1) M17 W18))))))))) : CallI 100 [vR 20] (M, W) Q :=
  wpN_X (cut := fun p => false) 69 _ _ h
set_option maxRecDepth 20000 in
theorem e_X8_takeDoubtful  (M : aM) (W : aW) (Q : Int → aM → aW → Prop) (h :
  CallI 99 [vR 20] (M, W) (fun r3 M1 W2 => (inI r3) ∧ 
  ((r3 ≥ 0 → CallI 98 [vR 20] (M1, W2) (fun r6 M4 W5 => (inI r6) ∧ 
    ((r6 ≥ 0 → (okO 86 3 (M4 20 7) = true) ∧ CallI 42 [vR (M4 20 7), vI r3, vI r6] (M4, W5) (fun r9 M7 W8 => (inI r9) ∧ 
      ((r9 ≥ 0 → CallV 88 [vR 20, vI ((M7 20 8) + 1)] (M7, W8) (fun M10 W11 => Q r9 M10 W11)) ∧
      (¬ r9 ≥ 0 → CallI 89 [vR 20, vI 4] (M7, W8) (fun r14 M12 W13 => Q (-1) M12 W13))))) ∧
    (¬ r6 ≥ 0 → Q (-1) M4 W5)))) ∧
  (¬ r3 ≥ 0 → Q (-1) M1 W2)))) : CallI 101 [vR 20] (M, W) Q :=
  wpN_X (cut := fun p => false) 38 _ _ h
set_option maxRecDepth 20000 in
theorem e_X8_takeNumber (x1 : Int) (M : aM) (W : aW) (Q : Int → aM → aW → Prop) (h :
  (inI (M 20 9)) ∧ 
  (((M 20 9) = 11 → (inI (M 20 10)) ∧ 
    (((M 20 10) < 1 → CallI 89 [vR 20, vI 2] (M, W) (fun r3 M1 W2 => Q (-1) M1 W2)) ∧
    (¬ (M 20 10) < 1 → (inI (M 20 10) ∧ inI x1) ∧ 
      (((M 20 10) ≤ x1 → (∀ v4 : Int, v4 = M 20 10 → CallV 88 [vR 20, vI ((M 20 8) + 1)] (M, W) (fun M5 W6 => Q v4 M5 W6))) ∧
      (¬ (M 20 10) ≤ x1 → CallI 89 [vR 20, vI 2] (M, W) (fun r9 M7 W8 => Q (-1) M7 W8)))))) ∧
  (¬ (M 20 9) = 11 → CallI 89 [vR 20, vI 1] (M, W) (fun r12 M10 W11 => Q (-1) M10 W11)))) : CallI 102 [vR 20, vI x1] (M, W) Q :=
  wpN_X (cut := fun p => false) 43 _ _ h
set_option maxRecDepth 20000 in
theorem e_X8_numberOf (x1 : Int) (x2 : Int) (M : aM) (W : aW) (Q : Int → aM → aW → Prop) (h :
  Xs 103 (2, [some (some (vR 20)), some (some (vR x1)), some (some (vI x2)), some (some (vI 0))], [], (M, W)) (QI Q)) : CallI 103 [vR 20, vR x1, vI x2] (M, W) Q :=
  wpN_X (cut := fun p => Nat.beq p 2) 5 _ _ h
set_option maxRecDepth 20000 in
theorem k_X8_numberOf_2 (x1 : Int) (x2 : Int) (x3 : Int) (M : aM) (W : aW) (Q : Int → aM → aW → Prop) (h :
  (inI x3 ∧ inI x2) ∧ 
  ((x3 ≥ x2 → Q (-1) M W) ∧
  (¬ x3 ≥ x2 → (okO 86 20 x1 = true) ∧ (inI x3 ∧ inI (ln_ x1)) ∧ 
    ((x3 ≥ (ln_ x1) → Q (-1) M W) ∧
    (¬ x3 ≥ (ln_ x1) → (okO 86 20 x1 = true ∧ 0 ≤ x3 ∧ x3 < ln_ x1) ∧ (inI (M x1 x3) ∧ inI (M 20 10)) ∧ 
      (((M x1 x3) ≠ (M 20 10) → Xs 103 (2, [some (some (vR 20)), some (some (vR x1)), some (some (vI x2)), some (some (vI (x3 + 1)))], [], (M, W)) (QI Q)) ∧
      (¬ (M x1 x3) ≠ (M 20 10) → Q x3 M W))))))) : Xs 103 (2, [some (some (vR 20)), some (some (vR x1)), some (some (vI x2)), some (some (vI x3))], [], (M, W)) (QI Q) :=
  wpN_X (cut := fun p => Nat.beq p 2) 24 _ _ h
set_option maxRecDepth 20000 in
theorem e_X10_init  (M : aM) (F : aM) (dl : Int → Int) (sz ns : Int) (Q : aM → aW → Prop) (h :
  ((0 : Int) ≤ 40) ∧ (0 ≤ sz ∧ sz < 126 ∧ knd sz = 20 ∧ ln_ sz = 640) ∧ (okD ((ce_ M sz (fun _ => 0)), (F, dl, sz + 1, ns + 640)) 10 40 = true) ∧ (0 ≤ sz + 1 ∧ sz + 1 < 126 ∧ knd (sz + 1) = 20 ∧ ln_ (sz + 1) = 640) ∧ (okD ((ce_ (ce_ M sz (fun _ => 0)) (sz + 1) (fun _ => 0)), ((up_ F 40 0 (sz)), dl, sz + 1 + 1, ns + 640 + 640)) 10 40 = true) ∧ (0 ≤ sz + 1 + 1 ∧ sz + 1 + 1 < 126 ∧ knd (sz + 1 + 1) = 20 ∧ ln_ (sz + 1 + 1) = 100) ∧ (okD ((ce_ (ce_ (ce_ M sz (fun _ => 0)) (sz + 1) (fun _ => 0)) (sz + 1 + 1) (fun _ => 0)), ((up_ (up_ F 40 0 (sz)) 40 1 (sz + 1)), dl, sz + 1 + 1 + 1, ns + 640 + 640 + 100)) 10 40 = true) ∧ Q (ce_ (ce_ (ce_ M sz (fun _ => 0)) (sz + 1) (fun _ => 0)) (sz + 1 + 1) (fun _ => 0)) ((up_ (up_ (up_ F 40 0 (sz)) 40 1 (sz + 1)) 40 2 (sz + 1 + 1)), dl, sz + 1 + 1 + 1, ns + 640 + 640 + 100)) : CallV 114 [vR 40] (M, (F, dl, sz, ns)) Q :=
  wpN_X (cut := fun p => false) 17 _ _ h
set_option maxRecDepth 20000 in
theorem e_X10_fill (x1 : Int) (M : aM) (W : aW) (Q : aM → aW → Prop) (h :
  (okO 86 3 x1 = true) ∧ CallI 33 [vR x1] (M, W) (fun r3 M1 W2 => (∀ v4 : Int, v4 = r3 - 1 → Xs 115 (9, [some (some (vR 40)), some (some (vR x1)), some (some (vI v4)), some (some (vI 0))], [], (M1, W2)) (QV Q)))) : CallV 115 [vR 40, vR x1] (M, W) Q :=
  wpN_X (cut := fun p => Nat.beq p 9) 10 _ _ h
set_option maxRecDepth 20000 in
theorem k_X10_fill_9 (x1 : Int) (x2 : Int) (x3 : Int) (M : aM) (W : aW) (Q : aM → aW → Prop) (h :
  (inI x3 ∧ inI x2) ∧ 
  ((x3 > x2 → Q M W) ∧
  (¬ x3 > x2 → (okO 86 3 x1 = true) ∧ CallV 39 [vR x1, vR 43, vI (and_ x2 (xor_ x3 (-1))), vI x3] (M, W) (fun M1 W2 => CallV 116 [vR 40, vR x1, vI (x3 * 10)] (M1, W2) (fun M3 W4 => Xs 115 (9, [some (some (vR 40)), some (some (vR x1)), some (some (vI x2)), some (some (vI (x3 + 1)))], [], (M3, W4)) (QV Q)))))) : Xs 115 (9, [some (some (vR 40)), some (some (vR x1)), some (some (vI x2)), some (some (vI x3))], [], (M, W)) (QV Q) :=
  wpN_X (cut := fun p => Nat.beq p 9) 25 _ _ h
set_option maxRecDepth 20000 in
theorem e_X10_fillWorld (x1 : Int) (x2 : Int) (M : aM) (W : aW) (Q : aM → aW → Prop) (h :
  Xs 116 (2, [some (some (vR 40)), some (some (vR x1)), some (some (vI x2)), some (some (vI 0)), none, none], [], (M, W)) (QV Q)) : CallV 116 [vR 40, vR x1, vI x2] (M, W) Q :=
  wpN_X (cut := fun p => Nat.beq p 2 || Nat.beq p 53 || Nat.beq p 71) 5 _ _ h
set_option maxRecDepth 20000 in
theorem k_X10_fillWorld_2 (x1 : Int) (x2 : Int) (x3 : Int) (d4 : aL) (d5 : aL) (M : aM) (W : aW) (Q : aM → aW → Prop) (h :
  (okO 86 3 x1 = true) ∧ (inI x3 ∧ inI (M x1 0)) ∧ 
  ((x3 ≥ (M x1 0) → Xs 116 (53, [some (some (vR 40)), some (some (vR x1)), some (some (vI x2)), some (some (vI 1)), some (some (vI 0)), d5], [], (M, W)) (QV Q)) ∧
  (¬ x3 ≥ (M x1 0) → (okO 86 3 x1 = true) ∧ (inI x3 ∧ inI (M x1 7)) ∧ 
    ((x3 ≠ (M x1 7) → (0 ≤ (x2 + x3) ∧ (x2 + x3) < 640) ∧ (0 ≤ (x2 + x3) ∧ (x2 + x3) < 640) ∧ Xs 116 (2, [some (some (vR 40)), some (some (vR x1)), some (some (vI x2)), some (some (vI (x3 + 1))), d4, d5], [], ((up_ (up_ M 41 (x2 + x3) 1000000) 42 (x2 + x3) (-2)), W)) (QV Q)) ∧
    (¬ x3 ≠ (M x1 7) → (0 ≤ (x2 + x3) ∧ (x2 + x3) < 640) ∧ (0 ≤ (x2 + x3) ∧ (x2 + x3) < 640) ∧ Xs 116 (2, [some (some (vR 40)), some (some (vR x1)), some (some (vI x2)), some (some (vI (x3 + 1))), d4, d5], [], ((up_ (up_ M 41 (x2 + x3) 0) 42 (x2 + x3) (-2)), W)) (QV Q)))))) : Xs 116 (2, [some (some (vR 40)), some (some (vR x1)), some (some (vI x2)), some (some (vI x3)), d4, d5], [], (M, W)) (QV Q) :=
  wpN_X (cut := fun p => Nat.beq p 2 || Nat.beq p 53 || Nat.beq p 71) 45 _ _ h
set_option maxRecDepth 20000 in
theorem k_X10_fillWorld_53 (x1 : Int) (x2 : Int) (x3 : Int) (x4 : Int) (d5 : aL) (M : aM) (W : aW) (Q : aM → aW → Prop) (h :
  (okO 86 3 x1 = true) ∧ (inI x4 ∧ inI (M x1 0)) ∧ 
  ((x4 > (M x1 0) → Q M W) ∧
  (¬ x4 > (M x1 0) → (inI x3) ∧ 
    ((x3 = 0 → Q M W) ∧
    (¬ x3 = 0 → Xs 116 (71, [some (some (vR 40)), some (some (vR x1)), some (some (vI x2)), some (some (vI 0)), some (some (vI x4)), some (some (vI 0))], [], (M, W)) (QV Q)))))) : Xs 116 (53, [some (some (vR 40)), some (some (vR x1)), some (some (vI x2)), some (some (vI x3)), some (some (vI x4)), d5], [], (M, W)) (QV Q) :=
  wpN_X (cut := fun p => Nat.beq p 2 || Nat.beq p 53 || Nat.beq p 71) 15 _ _ h
set_option maxRecDepth 20000 in
theorem k_X10_fillWorld_71 (x1 : Int) (x2 : Int) (x3 : Int) (x4 : Int) (x5 : Int) (M : aM) (W : aW) (Q : aM → aW → Prop) (h :
  (okO 86 3 x1 = true) ∧ (inI x5 ∧ inI (M x1 0)) ∧ 
  ((x5 ≥ (M x1 0) → Xs 116 (53, [some (some (vR 40)), some (some (vR x1)), some (some (vI x2)), some (some (vI x3)), some (some (vI (x4 + 1))), some (some (vI x5))], [], (M, W)) (QV Q)) ∧
  (¬ x5 ≥ (M x1 0) → (okO 86 3 x1 = true) ∧ (inI x5 ∧ inI (M x1 7)) ∧ 
    ((x5 = (M x1 7) → Xs 116 (71, [some (some (vR 40)), some (some (vR x1)), some (some (vI x2)), some (some (vI x3)), some (some (vI x4)), some (some (vI (x5 + 1)))], [], (M, W)) (QV Q)) ∧
    (¬ x5 = (M x1 7) → CallI 117 [vR 40, vR x1, vI x2, vI x5] (M, W) (fun r3 M1 W2 => (inI r3) ∧ 
      ((r3 = 0 → Xs 116 (71, [some (some (vR 40)), some (some (vR x1)), some (some (vI x2)), some (some (vI x3)), some (some (vI x4)), some (some (vI (x5 + 1)))], [], (M1, W2)) (QV Q)) ∧
      (¬ r3 = 0 → Xs 116 (71, [some (some (vR 40)), some (some (vR x1)), some (some (vI x2)), some (some (vI 1)), some (some (vI x4)), some (some (vI (x5 + 1)))], [], (M1, W2)) (QV Q))))))))) : Xs 116 (71, [some (some (vR 40)), some (some (vR x1)), some (some (vI x2)), some (some (vI x3)), some (some (vI x4)), some (some (vI x5))], [], (M, W)) (QV Q) :=
  wpN_X (cut := fun p => Nat.beq p 2 || Nat.beq p 53 || Nat.beq p 71) 30 _ _ h
set_option maxRecDepth 20000 in
theorem e_X10_shorten (x1 : Int) (x2 : Int) (x3 : Int) (M : aM) (W : aW) (Q : Int → aM → aW → Prop) (h :
  Xs 117 (7, [some (some (vR 40)), some (some (vR x1)), some (some (vI x2)), some (some (vI x3)), some (some (vI 1000000)), some (some (vI 0)), none], [], (M, W)) (QI Q)) : CallI 117 [vR 40, vR x1, vI x2, vI x3] (M, W) Q :=
  wpN_X (cut := fun p => Nat.beq p 7) 7 _ _ h
set_option maxRecDepth 20000 in
theorem k_X10_shorten_7 (x1 : Int) (x2 : Int) (x3 : Int) (x4 : Int) (x5 : Int) (d6 : aL) (M : aM) (W : aW) (Q : Int → aM → aW → Prop) (h :
  (okO 86 3 x1 = true) ∧ (inI x5 ∧ inI (M x1 0)) ∧ 
  ((x5 ≥ (M x1 0) → (0 ≤ (x2 + x3) ∧ (x2 + x3) < 640) ∧ (inI x4 ∧ inI (M 41 (x2 + x3))) ∧ 
    ((x4 ≥ (M 41 (x2 + x3)) → (0 ≤ (x2 + x3) ∧ (x2 + x3) < 640) ∧ ((0 : Int) = 0 ∨ (0 : Int) = 1) ∧ Q 0 (up_ M 41 (x2 + x3) x4) W) ∧
    (¬ x4 ≥ (M 41 (x2 + x3)) → (0 ≤ (x2 + x3) ∧ (x2 + x3) < 640) ∧ ((1 : Int) = 0 ∨ (1 : Int) = 1) ∧ Q 1 (up_ M 41 (x2 + x3) x4) W))) ∧
  (¬ x5 ≥ (M x1 0) → (0 ≤ ((x3 * 10) + x5) ∧ ((x3 * 10) + x5) < 100) ∧ (∀ v1 : Int, v1 = M 43 ((x3 * 10) + x5) → (inI v1) ∧ 
    ((v1 ≤ 0 → Xs 117 (7, [some (some (vR 40)), some (some (vR x1)), some (some (vI x2)), some (some (vI x3)), some (some (vI x4)), some (some (vI (x5 + 1))), some (some (vI v1))], [], (M, W)) (QI Q)) ∧
    (¬ v1 ≤ 0 → (0 ≤ (x2 + x5) ∧ (x2 + x5) < 640) ∧ (inI ((M 41 (x2 + x5)) + v1) ∧ inI x4) ∧ 
      ((((M 41 (x2 + x5)) + v1) ≥ x4 → Xs 117 (7, [some (some (vR 40)), some (some (vR x1)), some (some (vI x2)), some (some (vI x3)), some (some (vI x4)), some (some (vI (x5 + 1))), some (some (vI v1))], [], (M, W)) (QI Q)) ∧
      (¬ ((M 41 (x2 + x5)) + v1) ≥ x4 → (0 ≤ (x2 + x5) ∧ (x2 + x5) < 640) ∧ (∀ v2 : Int, v2 = (M 41 (x2 + x5)) + v1 → (0 ≤ (x2 + x3) ∧ (x2 + x3) < 640) ∧ Xs 117 (7, [some (some (vR 40)), some (some (vR x1)), some (some (vI x2)), some (some (vI x3)), some (some (vI v2)), some (some (vI (x5 + 1))), some (some (vI v1))], [], ((up_ M 42 (x2 + x3) x5), W)) (QI Q)))))))))) : Xs 117 (7, [some (some (vR 40)), some (some (vR x1)), some (some (vI x2)), some (some (vI x3)), some (some (vI x4)), some (some (vI x5)), d6], [], (M, W)) (QI Q) :=
  wpN_X (cut := fun p => Nat.beq p 7) 83 _ _ h
set_option maxRecDepth 20000 in
theorem e_X3_empty_c (x0 : Int) (M : aM) (F : aM) (dl : Int → Int) (sz ns : Int) (Q : aM → aW → Prop) (h :
  (okD (M, (F, dl, sz, ns)) 3 x0 = true) ∧ (okD ((up_ M x0 0 0), (F, dl, sz, ns)) 3 x0 = true) ∧ (okD ((up_ (up_ M x0 0 0) x0 1 0), (F, dl, sz, ns)) 3 x0 = true) ∧ (okD ((up_ (up_ (up_ M x0 0 0) x0 1 0) x0 2 0), (F, dl, sz, ns)) 3 x0 = true) ∧ (okD ((up_ (up_ (up_ (up_ M x0 0 0) x0 1 0) x0 2 0) x0 3 0), (F, dl, sz, ns)) 3 x0 = true) ∧ (okD ((up_ (up_ (up_ (up_ (up_ M x0 0 0) x0 1 0) x0 2 0) x0 3 0) x0 4 0), (F, dl, sz, ns)) 3 x0 = true) ∧ (okD ((up_ (up_ (up_ (up_ (up_ (up_ M x0 0 0) x0 1 0) x0 2 0) x0 3 0) x0 4 0) x0 5 0), (F, dl, sz, ns)) 3 x0 = true) ∧ (okD ((up_ (up_ (up_ (up_ (up_ (up_ (up_ M x0 0 0) x0 1 0) x0 2 0) x0 3 0) x0 4 0) x0 5 0) x0 6 (-1)), (F, dl, sz, ns)) 3 x0 = true) ∧ Xs 266 (42, [some (some (vR x0)), some (some (vI 0))], [], ((up_ (up_ (up_ (up_ (up_ (up_ (up_ (up_ M x0 0 0) x0 1 0) x0 2 0) x0 3 0) x0 4 0) x0 5 0) x0 6 (-1)) x0 7 (-1)), (F, dl, sz, ns))) (QV Q)) : CallV 266 [vR x0] (M, (F, dl, sz, ns)) Q :=
  wpN_X (cut := fun p => Nat.beq p 42 || Nat.beq p 66) 29 _ _ h
set_option maxRecDepth 20000 in
theorem k_X3_empty_c_42 (x0 : Int) (x1 : Int) (M : aM) (F : aM) (dl : Int → Int) (sz ns : Int) (Q : aM → aW → Prop) (h :
  (okD (M, (F, dl, sz, ns)) 3 x0 = true) ∧ (okD (M, (F, dl, sz, ns)) 20 (F x0 11) = true) ∧ (inI x1 ∧ inI (lD_ dl (F x0 11))) ∧ 
  ((x1 ≥ (lD_ dl (F x0 11)) → Xs 266 (66, [some (some (vR x0)), some (some (vI 0))], [], (M, (F, dl, sz, ns))) (QV Q)) ∧
  (¬ x1 ≥ (lD_ dl (F x0 11)) → (okD (M, (F, dl, sz, ns)) 3 x0 = true) ∧ (okD (M, (F, dl, sz, ns)) 20 (F x0 11) = true ∧ 0 ≤ x1 ∧ x1 < lD_ dl (F x0 11)) ∧ Xs 266 (42, [some (some (vR x0)), some (some (vI (x1 + 1)))], [], ((up_ M (F x0 11) x1 (-1)), (F, dl, sz, ns))) (QV Q)))) : Xs 266 (42, [some (some (vR x0)), some (some (vI x1))], [], (M, (F, dl, sz, ns))) (QV Q) :=
  wpN_X (cut := fun p => Nat.beq p 42 || Nat.beq p 66) 18 _ _ h
set_option maxRecDepth 20000 in
theorem k_X3_empty_c_66 (x0 : Int) (x1 : Int) (M : aM) (F : aM) (dl : Int → Int) (sz ns : Int) (Q : aM → aW → Prop) (h :
  (okD (M, (F, dl, sz, ns)) 3 x0 = true) ∧ (okD (M, (F, dl, sz, ns)) 20 (F x0 12) = true) ∧ (inI x1 ∧ inI (lD_ dl (F x0 12))) ∧ 
  ((x1 ≥ (lD_ dl (F x0 12)) → Q M (F, dl, sz, ns)) ∧
  (¬ x1 ≥ (lD_ dl (F x0 12)) → (okD (M, (F, dl, sz, ns)) 3 x0 = true) ∧ (okD (M, (F, dl, sz, ns)) 20 (F x0 12) = true ∧ 0 ≤ x1 ∧ x1 < lD_ dl (F x0 12)) ∧ Xs 266 (66, [some (some (vR x0)), some (some (vI (x1 + 1)))], [], ((up_ M (F x0 12) x1 0), (F, dl, sz, ns))) (QV Q)))) : Xs 266 (66, [some (some (vR x0)), some (some (vI x1))], [], (M, (F, dl, sz, ns))) (QV Q) :=
  wpN_X (cut := fun p => Nat.beq p 42 || Nat.beq p 66) 16 _ _ h
