/-! CONSTRUCTORS: ShutPassesModel -/
theorem bld_ag {L : Int} {M N : aM} {W : aW} (h : bld_ L (M, W)) : bld_ L (N, W) := h
def x12K (F : aM) : aM := up_ (up_ (up_ (up_ (up_ (up_ (up_ (up_ (up_ (up_ (up_ (up_ (up_ (up_ (up_ (up_ (up_ (up_ (up_ (up_ (up_ (up_ (up_ (up_ (up_ (up_ (up_ (up_ (up_ (up_ (up_ (up_ (up_ (up_ (up_ (up_ (up_ (up_ F 86 0 87) 86 3 88) 86 11 89) 86 12 90) 86 13 91) 86 14 92) 86 15 93) 86 16 94) 86 17 95) 86 18 96) 86 20 97) 86 21 98) 86 24 99) 86 25 100) 86 26 101) 86 27 102) 86 28 103) 86 29 104) 86 30 105) 86 31 106) 86 32 107) 86 33 108) 86 34 109) 86 35 110) 86 36 111) 86 37 112) 86 40 113) 86 42 114) 86 44 115) 86 48 116) 86 49 117) 86 50 118) 86 51 119) 86 52 120) 86 53 121) 86 57 122) 86 58 123) 86 59 124
theorem x12K_fi {F : aM} (hA : fiL finA F) : fiL finL (x12K F) := by
  rw [finAB]
  refine fiL_app (fiL_ag (lo := 86) (hi := 86) hA ?_ (fun q hq => Or.inl (finA_86 q hq))) ?_
  · unfold x12K
    repeat' (first | exact ag_refl _ _ _ | refine ag_u3 ?_ (by decide))
  · exact ⟨rfl, rfl, rfl, rfl, rfl, rfl, rfl, rfl, rfl, rfl, rfl, rfl, rfl, rfl, rfl, rfl, rfl, rfl, rfl, rfl, rfl, rfl, rfl, rfl, rfl, rfl, rfl, rfl, rfl, rfl, rfl, rfl, rfl, rfl, rfl, rfl, rfl, rfl, trivial⟩
theorem x12K_ag (F : aM) : ag 86 86 F (x12K F) := by
  unfold x12K
  repeat' (first | exact ag_refl _ _ _ | refine ag_u3 ?_ (by decide))
def x12M (N : aM) : aM := ce_ (ce_ (ce_ (ce_ (ce_ (ce_ (ce_ (ce_ (ce_ (ce_ (ce_ (ce_ (ce_ (ce_ (ce_ (ce_ (ce_ (ce_ (ce_ (ce_ (ce_ (ce_ (ce_ (ce_ (ce_ (ce_ (ce_ (ce_ (ce_ (ce_ (ce_ (ce_ (ce_ (ce_ (ce_ (ce_ (up_ N 86 5 (-1)) 89 (fun _ => 0)) 90 (fun _ => 0)) 91 (fun _ => 0)) 92 (fun _ => 0)) 93 (fun _ => 0)) 94 (fun _ => 0)) 95 (fun _ => 0)) 96 (fun _ => 0)) 97 (fun _ => 0)) 98 (fun _ => 0)) 99 (fun _ => 0)) 100 (fun _ => 0)) 101 (fun _ => 0)) 102 (fun _ => 0)) 103 (fun _ => 0)) 104 (fun _ => 0)) 105 (fun _ => 0)) 106 (fun _ => 0)) 107 (fun _ => 0)) 108 (fun _ => 0)) 109 (fun _ => 0)) 110 (fun _ => 0)) 111 (fun _ => 0)) 112 (fun _ => 0)) 113 (fun _ => 0)) 114 (fun _ => 0)) 115 (fun _ => 0)) 116 (fun _ => 0)) 117 (fun _ => 0)) 118 (fun _ => 0)) 119 (fun _ => 0)) 120 (fun _ => 0)) 121 (fun _ => 0)) 122 (fun _ => 0)) 123 (fun _ => 0)) 124 (fun _ => 0)
theorem x12M_ag (N : aM) : ∀ b j, (b < 86 ∨ 125 ≤ b ∨ b = 88 ∨ (b = 86 ∧ j ≠ 5)) → x12M N b j = N b j := fun b j hb => by
  unfold x12M
  simp only [ce_]
  rw [if_neg (by omega), if_neg (by omega), if_neg (by omega), if_neg (by omega), if_neg (by omega), if_neg (by omega), if_neg (by omega), if_neg (by omega), if_neg (by omega), if_neg (by omega), if_neg (by omega), if_neg (by omega), if_neg (by omega), if_neg (by omega), if_neg (by omega), if_neg (by omega), if_neg (by omega), if_neg (by omega), if_neg (by omega), if_neg (by omega), if_neg (by omega), if_neg (by omega), if_neg (by omega), if_neg (by omega), if_neg (by omega), if_neg (by omega), if_neg (by omega), if_neg (by omega), if_neg (by omega), if_neg (by omega), if_neg (by omega), if_neg (by omega), if_neg (by omega), if_neg (by omega), if_neg (by omega), if_neg (by omega)]
  unfold up_
  rw [if_neg (by omega)]
theorem x12_rows {F : aM} {dl : Int → Int} {ns : Int} {Q : aM → aW → Prop} {N : aM} (h : ∀ m, m = ns + 477590 → Xs 152 (599, [some (some (vR 86))], [], (x12M N, (x12K F, dl, 125, m))) (QV Q)) : Xs 152 (300, [some (some (vR 86))], [vR 88, vR 86], (N, (up_ F 86 0 87, dl, 89, ns))) (QV Q) := by
  refine k_X12_init_300 _ _ _ _ _ _ _ ?_
  repeat' (first | apply And.intro | decide | exact rfl)
  refine k_X12_init_303 _ _ _ _ _ _ ?_
  repeat' (first | apply And.intro | decide | exact rfl)
  refine k_X12_init_308 _ _ _ _ _ _ ?_
  repeat' (first | apply And.intro | decide | exact rfl)
  refine k_X12_init_316 _ _ _ _ _ _ ?_
  repeat' (first | apply And.intro | decide | exact rfl)
  refine k_X12_init_324 _ _ _ _ _ _ ?_
  repeat' (first | apply And.intro | decide | exact rfl)
  refine k_X12_init_331 _ _ _ _ _ _ ?_
  repeat' (first | apply And.intro | decide | exact rfl)
  refine k_X12_init_338 _ _ _ _ _ _ ?_
  repeat' (first | apply And.intro | decide | exact rfl)
  refine k_X12_init_347 _ _ _ _ _ _ ?_
  repeat' (first | apply And.intro | decide | exact rfl)
  refine k_X12_init_355 _ _ _ _ _ _ ?_
  repeat' (first | apply And.intro | decide | exact rfl)
  refine k_X12_init_363 _ _ _ _ _ _ ?_
  repeat' (first | apply And.intro | decide | exact rfl)
  refine k_X12_init_371 _ _ _ _ _ _ ?_
  repeat' (first | apply And.intro | decide | exact rfl)
  refine k_X12_init_379 _ _ _ _ _ _ ?_
  repeat' (first | apply And.intro | decide | exact rfl)
  refine k_X12_init_387 _ _ _ _ _ _ ?_
  repeat' (first | apply And.intro | decide | exact rfl)
  refine k_X12_init_395 _ _ _ _ _ _ ?_
  repeat' (first | apply And.intro | decide | exact rfl)
  refine k_X12_init_404 _ _ _ _ _ _ ?_
  repeat' (first | apply And.intro | decide | exact rfl)
  refine k_X12_init_412 _ _ _ _ _ _ ?_
  repeat' (first | apply And.intro | decide | exact rfl)
  refine k_X12_init_420 _ _ _ _ _ _ ?_
  repeat' (first | apply And.intro | decide | exact rfl)
  refine k_X12_init_429 _ _ _ _ _ _ ?_
  repeat' (first | apply And.intro | decide | exact rfl)
  refine k_X12_init_437 _ _ _ _ _ _ ?_
  repeat' (first | apply And.intro | decide | exact rfl)
  refine k_X12_init_446 _ _ _ _ _ _ ?_
  repeat' (first | apply And.intro | decide | exact rfl)
  refine k_X12_init_455 _ _ _ _ _ _ ?_
  repeat' (first | apply And.intro | decide | exact rfl)
  refine k_X12_init_462 _ _ _ _ _ _ ?_
  repeat' (first | apply And.intro | decide | exact rfl)
  refine k_X12_init_470 _ _ _ _ _ _ ?_
  repeat' (first | apply And.intro | decide | exact rfl)
  refine k_X12_init_479 _ _ _ _ _ _ ?_
  repeat' (first | apply And.intro | decide | exact rfl)
  refine k_X12_init_487 _ _ _ _ _ _ ?_
  repeat' (first | apply And.intro | decide | exact rfl)
  refine k_X12_init_495 _ _ _ _ _ _ ?_
  repeat' (first | apply And.intro | decide | exact rfl)
  refine k_X12_init_503 _ _ _ _ _ _ ?_
  repeat' (first | apply And.intro | decide | exact rfl)
  refine k_X12_init_511 _ _ _ _ _ _ ?_
  repeat' (first | apply And.intro | decide | exact rfl)
  refine k_X12_init_519 _ _ _ _ _ _ ?_
  repeat' (first | apply And.intro | decide | exact rfl)
  refine k_X12_init_527 _ _ _ _ _ _ ?_
  repeat' (first | apply And.intro | decide | exact rfl)
  refine k_X12_init_535 _ _ _ _ _ _ ?_
  repeat' (first | apply And.intro | decide | exact rfl)
  refine k_X12_init_543 _ _ _ _ _ _ ?_
  repeat' (first | apply And.intro | decide | exact rfl)
  refine k_X12_init_551 _ _ _ _ _ _ ?_
  repeat' (first | apply And.intro | decide | exact rfl)
  refine k_X12_init_559 _ _ _ _ _ _ ?_
  repeat' (first | apply And.intro | decide | exact rfl)
  refine k_X12_init_567 _ _ _ _ _ _ ?_
  repeat' (first | apply And.intro | decide | exact rfl)
  refine k_X12_init_575 _ _ _ _ _ _ ?_
  repeat' (first | apply And.intro | decide | exact rfl)
  refine k_X12_init_583 _ _ _ _ _ _ ?_
  repeat' (first | apply And.intro | decide | exact rfl)
  refine k_X12_init_591 _ _ _ _ _ _ ?_
  repeat' (first | apply And.intro | decide | exact rfl)
  exact h _ (by omega)
theorem i_X12 {M F : aM} {dl : Int → Int} {ns : Int} {G : Lnd} {Q : aM → aW → Prop} (hA : fiL finA F) (hp : pW G) (hz : emZ G) (z1 : M 86 1 = 0) (z4 : M 86 4 = 0) (h : ∀ N m, frK M N → fiL finL (x12K F) → m = ns + 478238 → rfS G (dNew G) 0 0 0 (fun _ => 0) (fun _ => 0) (fun _ => 0) 0 (fun _ => 0) 0 (-1) N → Q N (x12K F, dl, 125, m)) : CallV 152 [vR 86] (M, (F, dl, 87, ns)) Q := by
  refine e_X12_init _ _ _ _ _ _ ?_
  repeat' (first | apply And.intro | decide | exact rfl)
  refine x12_words (fun N hN hW => x12_rows (fun m hm => ?_))
  have hB : ∀ N : aM, bld_ 125 (N, (x12K F, dl, 125, m)) := fun N => ⟨(by decide : (125 : Int) ≤ 125), fun q hq _ => fiL_mem (x12K_fi hA) q hq⟩
  refine k_X12_init_599 _ _ _ _ _ _ ?_
  refine ⟨⟨rfl, hB _⟩, u_plain (fun K hK k0 k4 k5 => ⟨⟨rfl, hB _⟩, u_keep (G := G) ?_ hp (snI_0 hp hz) (fun J hJ gG gW gI gB gU gF gp gj => h J m (fun b j hb => ?_) (x12K_fi hA) (by omega) ⟨gG, gW, gI, ⟨gB, gU, gF⟩, gp, gj, ⟨by omega, ?_, fun i i0 i1 => by omega⟩, ⟨?_, ?_⟩, fun j j0 j1 => ?_⟩)⟩)⟩
  · obtain ⟨y, y6, y7⟩ := hz
    have a0 := y 0 (by decide) (by decide); have a1 := y 1 (by decide) (by decide); have a2 := y 2 (by decide) (by decide); have a3 := y 3 (by decide) (by decide); have a4 := y 4 (by decide) (by decide); have a5 := y 5 (by decide) (by decide)
    refine ⟨fun j j0 j1 => ?_, fun i i0 i1 => by omega, fun i i0 i1 => by omega, fun r f r0 r1 => by omega, fun d d0 d1 => by omega, fun s s0 s1 => by omega, fun w w0 w1 => by omega⟩
    by_cases c : j < 6
    · rw [k0 _ (by omega) (by omega)]; exact (y j j0 c).symm
    · rcases (show j = 6 ∨ j = 7 by omega) with rfl | rfl
      · rw [y6]; exact k4
      · rw [y7]; exact k5
  · rw [hJ b j (by omega) (by omega) (by omega) (by omega), hK b j (by omega), x12M_ag _ _ _ (by omega), hN b j (by omega)]; unfold ce_; rw [if_neg (by omega)]
  · rw [hJ _ _ (by decide) (by decide) (by decide) (by decide), hK _ _ (by decide), x12M_ag _ _ _ (by decide), hN _ _ (by decide)]; exact z1
  · rw [hJ _ _ (by decide) (by decide) (by decide) (by decide), hK _ _ (by decide), x12M_ag _ _ _ (by decide), hN _ _ (by decide)]; exact z4
  · rw [hJ _ _ (by decide) (by decide) (by decide) (by decide), hK _ _ (by decide)]; rfl
  · rw [hJ _ _ (by decide) (by decide) (by decide) (by omega), hK _ _ (by omega), x12M_ag _ _ _ (by omega)]; exact hW j j0 j1
