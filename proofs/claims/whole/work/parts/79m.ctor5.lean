/-! CONSTRUCTORS: ShutPassesModel -/
def wrd (M : aM) (i : Int) (N : aM) : Prop := (∀ b j, b ≠ 88 → N b j = M b j) ∧ ∀ j, 0 ≤ j → j < i → N 88 j = lng_ j
theorem wrd_st {M N N' : aM} {i k v : Int} (h : wrd M i N) (e : N' = up_ N 88 i v) (hv : lng_ i = v) (hk : k = i + 1) : wrd M k N' := by
  refine ⟨fun b j hb => ?_, fun j j0 j1 => ?_⟩
  · rw [e, up_b _ _ _ _ hb]; exact h.1 b j hb
  · rw [e]
    by_cases x : j = i
    · rw [x, up_s]; exact hv.symm
    · rw [up_j _ _ _ x]; exact h.2 j j0 (by omega)
theorem x12_words {M F : aM} {dl : Int → Int} {ns : Int} {Q : aM → aW → Prop} (h : ∀ N, (∀ b j, b ≠ 88 → N b j = M b j) → rwM N → Xs 152 (300, [some (some (vR 86))], [vR 88, vR 86], (N, (F, dl, 89, ns + 48))) (QV Q)) : Xs 152 (13, [some (some (vR 86))], [], (M, (F, dl, 88, ns))) (QV Q) := by
  have l88 : lD_ dl 88 = 48 := rfl
  have w0 : wrd M 0 (ce_ M 88 (fun _ => 0)) := ⟨fun b j hb => by unfold ce_; rw [if_neg hb], fun j j0 j1 => by omega⟩
  refine k_X12_init_13 _ _ _ _ _ _ ?_
  rw [l88]
  repeat' (first | apply And.intro | decide | exact rfl)
  intro N0 e0
  have w1 := wrd_st w0 e0 (by decide) (show (1 : Int) = 0 + 1 by decide)
  repeat' (first | apply And.intro | decide | exact rfl)
  intro N1 e1
  have w2 := wrd_st w1 e1 (by decide) (show (2 : Int) = 1 + 1 by decide)
  repeat' (first | apply And.intro | decide | exact rfl)
  intro N2 e2
  have w3 := wrd_st w2 e2 (by decide) (show (3 : Int) = 2 + 1 by decide)
  repeat' (first | apply And.intro | decide | exact rfl)
  intro N3 e3
  have w4 := wrd_st w3 e3 (by decide) (show (4 : Int) = 3 + 1 by decide)
  repeat' (first | apply And.intro | decide | exact rfl)
  intro N4 e4
  have w5 := wrd_st w4 e4 (by decide) (show (5 : Int) = 4 + 1 by decide)
  repeat' (first | apply And.intro | decide | exact rfl)
  intro N5 e5
  have w6 := wrd_st w5 e5 (by decide) (show (6 : Int) = 5 + 1 by decide)
  refine k_X12_init_48 _ _ _ _ _ _ _ ?_
  rw [l88]
  repeat' (first | apply And.intro | decide | exact rfl)
  intro N6 e6
  have w7 := wrd_st w6 e6 (by decide) (show (7 : Int) = 6 + 1 by decide)
  repeat' (first | apply And.intro | decide | exact rfl)
  intro N7 e7
  have w8 := wrd_st w7 e7 (by decide) (show (8 : Int) = 7 + 1 by decide)
  repeat' (first | apply And.intro | decide | exact rfl)
  intro N8 e8
  have w9 := wrd_st w8 e8 (by decide) (show (9 : Int) = 8 + 1 by decide)
  repeat' (first | apply And.intro | decide | exact rfl)
  intro N9 e9
  have w10 := wrd_st w9 e9 (by decide) (show (10 : Int) = 9 + 1 by decide)
  repeat' (first | apply And.intro | decide | exact rfl)
  intro N10 e10
  have w11 := wrd_st w10 e10 (by decide) (show (11 : Int) = 10 + 1 by decide)
  repeat' (first | apply And.intro | decide | exact rfl)
  intro N11 e11
  have w12 := wrd_st w11 e11 (by decide) (show (12 : Int) = 11 + 1 by decide)
  refine k_X12_init_84 _ _ _ _ _ _ _ ?_
  rw [l88]
  repeat' (first | apply And.intro | decide | exact rfl)
  intro N12 e12
  have w13 := wrd_st w12 e12 (by decide) (show (13 : Int) = 12 + 1 by decide)
  repeat' (first | apply And.intro | decide | exact rfl)
  intro N13 e13
  have w14 := wrd_st w13 e13 (by decide) (show (14 : Int) = 13 + 1 by decide)
  repeat' (first | apply And.intro | decide | exact rfl)
  intro N14 e14
  have w15 := wrd_st w14 e14 (by decide) (show (15 : Int) = 14 + 1 by decide)
  repeat' (first | apply And.intro | decide | exact rfl)
  intro N15 e15
  have w16 := wrd_st w15 e15 (by decide) (show (16 : Int) = 15 + 1 by decide)
  repeat' (first | apply And.intro | decide | exact rfl)
  intro N16 e16
  have w17 := wrd_st w16 e16 (by decide) (show (17 : Int) = 16 + 1 by decide)
  repeat' (first | apply And.intro | decide | exact rfl)
  intro N17 e17
  have w18 := wrd_st w17 e17 (by decide) (show (18 : Int) = 17 + 1 by decide)
  refine k_X12_init_120 _ _ _ _ _ _ _ ?_
  rw [l88]
  repeat' (first | apply And.intro | decide | exact rfl)
  intro N18 e18
  have w19 := wrd_st w18 e18 (by decide) (show (19 : Int) = 18 + 1 by decide)
  repeat' (first | apply And.intro | decide | exact rfl)
  intro N19 e19
  have w20 := wrd_st w19 e19 (by decide) (show (20 : Int) = 19 + 1 by decide)
  repeat' (first | apply And.intro | decide | exact rfl)
  intro N20 e20
  have w21 := wrd_st w20 e20 (by decide) (show (21 : Int) = 20 + 1 by decide)
  repeat' (first | apply And.intro | decide | exact rfl)
  intro N21 e21
  have w22 := wrd_st w21 e21 (by decide) (show (22 : Int) = 21 + 1 by decide)
  repeat' (first | apply And.intro | decide | exact rfl)
  intro N22 e22
  have w23 := wrd_st w22 e22 (by decide) (show (23 : Int) = 22 + 1 by decide)
  repeat' (first | apply And.intro | decide | exact rfl)
  intro N23 e23
  have w24 := wrd_st w23 e23 (by decide) (show (24 : Int) = 23 + 1 by decide)
  refine k_X12_init_156 _ _ _ _ _ _ _ ?_
  rw [l88]
  repeat' (first | apply And.intro | decide | exact rfl)
  intro N24 e24
  have w25 := wrd_st w24 e24 (by decide) (show (25 : Int) = 24 + 1 by decide)
  repeat' (first | apply And.intro | decide | exact rfl)
  intro N25 e25
  have w26 := wrd_st w25 e25 (by decide) (show (26 : Int) = 25 + 1 by decide)
  repeat' (first | apply And.intro | decide | exact rfl)
  intro N26 e26
  have w27 := wrd_st w26 e26 (by decide) (show (27 : Int) = 26 + 1 by decide)
  repeat' (first | apply And.intro | decide | exact rfl)
  intro N27 e27
  have w28 := wrd_st w27 e27 (by decide) (show (28 : Int) = 27 + 1 by decide)
  repeat' (first | apply And.intro | decide | exact rfl)
  intro N28 e28
  have w29 := wrd_st w28 e28 (by decide) (show (29 : Int) = 28 + 1 by decide)
  repeat' (first | apply And.intro | decide | exact rfl)
  intro N29 e29
  have w30 := wrd_st w29 e29 (by decide) (show (30 : Int) = 29 + 1 by decide)
  refine k_X12_init_192 _ _ _ _ _ _ _ ?_
  rw [l88]
  repeat' (first | apply And.intro | decide | exact rfl)
  intro N30 e30
  have w31 := wrd_st w30 e30 (by decide) (show (31 : Int) = 30 + 1 by decide)
  repeat' (first | apply And.intro | decide | exact rfl)
  intro N31 e31
  have w32 := wrd_st w31 e31 (by decide) (show (32 : Int) = 31 + 1 by decide)
  repeat' (first | apply And.intro | decide | exact rfl)
  intro N32 e32
  have w33 := wrd_st w32 e32 (by decide) (show (33 : Int) = 32 + 1 by decide)
  repeat' (first | apply And.intro | decide | exact rfl)
  intro N33 e33
  have w34 := wrd_st w33 e33 (by decide) (show (34 : Int) = 33 + 1 by decide)
  repeat' (first | apply And.intro | decide | exact rfl)
  intro N34 e34
  have w35 := wrd_st w34 e34 (by decide) (show (35 : Int) = 34 + 1 by decide)
  repeat' (first | apply And.intro | decide | exact rfl)
  intro N35 e35
  have w36 := wrd_st w35 e35 (by decide) (show (36 : Int) = 35 + 1 by decide)
  refine k_X12_init_228 _ _ _ _ _ _ _ ?_
  rw [l88]
  repeat' (first | apply And.intro | decide | exact rfl)
  intro N36 e36
  have w37 := wrd_st w36 e36 (by decide) (show (37 : Int) = 36 + 1 by decide)
  repeat' (first | apply And.intro | decide | exact rfl)
  intro N37 e37
  have w38 := wrd_st w37 e37 (by decide) (show (38 : Int) = 37 + 1 by decide)
  repeat' (first | apply And.intro | decide | exact rfl)
  intro N38 e38
  have w39 := wrd_st w38 e38 (by decide) (show (39 : Int) = 38 + 1 by decide)
  repeat' (first | apply And.intro | decide | exact rfl)
  intro N39 e39
  have w40 := wrd_st w39 e39 (by decide) (show (40 : Int) = 39 + 1 by decide)
  repeat' (first | apply And.intro | decide | exact rfl)
  intro N40 e40
  have w41 := wrd_st w40 e40 (by decide) (show (41 : Int) = 40 + 1 by decide)
  repeat' (first | apply And.intro | decide | exact rfl)
  intro N41 e41
  have w42 := wrd_st w41 e41 (by decide) (show (42 : Int) = 41 + 1 by decide)
  refine k_X12_init_264 _ _ _ _ _ _ _ ?_
  rw [l88]
  repeat' (first | apply And.intro | decide | exact rfl)
  intro N42 e42
  have w43 := wrd_st w42 e42 (by decide) (show (43 : Int) = 42 + 1 by decide)
  repeat' (first | apply And.intro | decide | exact rfl)
  intro N43 e43
  have w44 := wrd_st w43 e43 (by decide) (show (44 : Int) = 43 + 1 by decide)
  repeat' (first | apply And.intro | decide | exact rfl)
  intro N44 e44
  have w45 := wrd_st w44 e44 (by decide) (show (45 : Int) = 44 + 1 by decide)
  repeat' (first | apply And.intro | decide | exact rfl)
  intro N45 e45
  have w46 := wrd_st w45 e45 (by decide) (show (46 : Int) = 45 + 1 by decide)
  repeat' (first | apply And.intro | decide | exact rfl)
  intro N46 e46
  have w47 := wrd_st w46 e46 (by decide) (show (47 : Int) = 46 + 1 by decide)
  repeat' (first | apply And.intro | decide | exact rfl)
  intro N47 e47
  have w48 := wrd_st w47 e47 (by decide) (show (48 : Int) = 47 + 1 by decide)
  exact h N47 w48.1 w48.2
