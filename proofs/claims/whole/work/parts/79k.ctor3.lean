/-! CONSTRUCTORS: Reader, Plans, Advice -/
def lgC : Nat → Int → Int → Int → Bool
  | 0, _, w, _ => decide (w = 10)
  | n + 1, i, w, a => if lng_ i ≠ 32 then lgC n (i + 1) w (a * 27 + lng_ i - 97 + 1) else decide (a = langL w) && lgC n (i + 1) (w + 1) 0
theorem lgC_ok : lgC 48 0 0 0 = true := by decide +kernel
theorem lgC_S (n : Nat) (i w a : Int) : lgC (n + 1) i w a = if lng_ i ≠ 32 then lgC n (i + 1) w (a * 27 + lng_ i - 97 + 1) else decide (a = langL w) && lgC n (i + 1) (w + 1) 0 := rfl
theorem lng_48 : ∀ i < 48, -2147483648 ≤ lng_ (Int.ofNat i) ∧ lng_ (Int.ofNat i) < 2147483648 := by decide +kernel
theorem lng_in {i : Int} (i0 : 0 ≤ i) (i1 : i < 48) : inI (lng_ i) := by
  obtain ⟨n, rfl, hn⟩ := nat_of i0 i1; exact lng_48 n hn
theorem x8_71 {F : aM} {dl : Int → Int} {m x : Int} {Q : aM → aW → Prop} {M : aM} (f0 : F 20 0 = 21) (h : ∀ N, ag 21 21 M N → lgM N → Q N (F, dl, 27, m)) : ∀ (n : Nat) (w a i : Int) (N : aM) (d5 : aL), 0 ≤ i → i + n = 48 → 0 ≤ w → w ≤ i → ag 21 21 M N → (∀ v, 0 ≤ v → v < w → N 21 v = langL v) → lgC n i w a = true →
    Xs 82 (71, [some (some (vR 20)), some (some (vR x)), some (some (vI w)), some (some (vI a)), some (some (vI i)), d5], [], (N, (F, dl, 27, m))) (QV Q) := by
  intro n
  induction n with
  | zero =>
    intro w a i N d5 i0 i6 w0 w1 ha hl hc
    have hw : w = 10 := of_decide_eq_true hc
    refine k_X8_init_71 _ _ _ _ _ _ _ _ _ _ _ ?_
    exact ⟨by omega, fun _ => h N ha (fun v v0 v1 => hl v v0 (by omega)), fun q => by omega⟩
  | succ n ih =>
    intro w a i N d5 i0 i6 w0 w1 ha hl hc
    refine k_X8_init_71 _ _ _ _ _ _ _ _ _ _ _ ?_
    rw [lgC_S] at hc
    have l8 : lD_ dl 21 = 10 := rfl
    rw [f0, l8]
    refine ⟨by omega, fun q => by omega, fun _ => ⟨rfl, rfl, by omega, fun q => h N ha (fun v v0 v1 => hl v v0 (by omega)), fun q => ⟨⟨i0, by omega⟩, lng_in i0 (by omega), fun g => ?_, fun g => ?_⟩⟩⟩
    · rw [if_pos g] at hc
      intro v1 hv
      refine ih w v1 (i + 1) N _ (by omega) (by omega) w0 (by omega) ha hl ?_
      rw [hv]; exact hc
    · rw [if_neg g] at hc
      obtain ⟨c1, c2⟩ := (Bool.and_eq_true _ _).mp hc
      have c1 : a = langL w := of_decide_eq_true c1
      refine ⟨rfl, ⟨rfl, w0, by omega⟩, ih (w + 1) 0 (i + 1) _ _ (by omega) (by omega) (by omega) (by omega) (ag_u2 ha (by decide) (by decide)) (fun v v0 v1 => ?_) c2⟩
      by_cases e : v = w
      · rw [e, up_s]; exact c1
      · rw [up_j _ _ _ e]; exact hl v v0 (by omega)
theorem i_X8 {M F : aM} {dl : Int → Int} {ns x : Int} {Q : aM → aW → Prop} (h : ∀ N K m, ag 20 26 M N → ag 20 26 F K → m = ns + 1825 → fiL [(20, 0, 21), (20, 1, 22), (20, 2, 23), (20, 3, 24), (20, 5, 25), (20, 6, 26)] K → lgM N → Q N (K, dl, 27, m)) : CallV 82 [vR 20, vR x] (M, (F, dl, 21, ns)) Q := by
  refine e_X8_init _ _ _ _ _ _ _ ?_
  repeat' (first | apply And.intro | decide | exact rfl)
  refine x8_71 (M := up_ (up_ (ce_ (ce_ (ce_ (ce_ (ce_ (ce_ M 21 (fun _ => 0)) (21 + 1) (fun _ => 0)) (21 + 1 + 1) (fun _ => 0)) (21 + 1 + 1 + 1) (fun _ => 0)) (21 + 1 + 1 + 1 + 1) (fun _ => 0)) (21 + 1 + 1 + 1 + 1 + 1) (fun _ => 0)) 20 12 (-1)) 20 7 x) rfl (fun N ha hl => h N _ _ (ag_in ?_ ha (by decide) (by decide)) ?_ ?_ ⟨rfl, rfl, rfl, rfl, rfl, rfl, trivial⟩ hl) 48 0 0 0 _ _ (by decide) (by decide) (by decide) (by decide) (ag_refl _ _ _) (fun v v0 v1 => by omega) lgC_ok
  · repeat' (first | exact ag_refl _ _ _ | refine ag_c3 ?_ (by decide) | refine ag_u3 ?_ (by decide))
  · repeat' (first | exact ag_refl _ _ _ | refine ag_c3 ?_ (by decide) | refine ag_u3 ?_ (by decide))
  · omega
def fi7 : List (Int × Int × Int) := [(36, 0, 27), (36, 1, 31), (36, 3, 37), (36, 4, 40), (36, 5, 50), (36, 6, 55), (36, 7, 60), (36, 8, 44), (36, 9, 45), (36, 10, 46), (36, 12, 47), (36, 13, 48), (36, 14, 49)]
def fi7b : List (Int × Int × Int) := [(37, 0, 38), (37, 1, 39), (40, 0, 41), (40, 1, 42), (40, 2, 43), (50, 0, 27), (50, 1, 51), (50, 2, 52), (50, 3, 53), (55, 0, 27), (55, 1, 56), (55, 2, 57), (55, 3, 58), (60, 0, 27), (60, 1, 61), (60, 2, 62), (60, 3, 63)]
theorem i_X7 {M F : aM} {dl : Int → Int} {ns x y z : Int} {Q : aM → aW → Prop} (hx : x = 27) (hy : y = 31) (h : ∀ N K m, ag 36 64 M N → ag 36 64 F K → m = ns + 47183 → fiL (fi7 ++ fi7b) K → Q N (K, dl, 65, m)) : CallV 64 [vR 36, vR x, vR y, vR z] (M, (F, dl, 37, ns)) Q := by
  refine e_X7_init _ _ _ _ _ _ _ _ _ ?_
  repeat' (first | apply And.intro | decide | exact rfl)
  refine i_X6 (Or.inl rfl) (fun N1 K1 m1 a1 b1 c1 d1 => ?_)
  dsimp only
  repeat' (first | apply And.intro | decide | exact rfl)
  refine i_X10 (fun N2 K2 m2 a2 b2 c2 d2 => ?_)
  dsimp only
  repeat' (first | apply And.intro | decide | exact rfl)
  refine i_X9 (Or.inl rfl) hx (fun N3 K3 m3 a3 b3 c3 d3 => ?_)
  dsimp only
  repeat' (first | apply And.intro | decide | exact rfl)
  refine i_X9 (Or.inr (Or.inl rfl)) hx (fun N4 K4 m4 a4 b4 c4 d4 => ?_)
  dsimp only
  repeat' (first | apply And.intro | decide | exact rfl)
  refine i_X9 (Or.inr (Or.inr (Or.inl rfl))) hx (fun N5 K5 m5 a5 b5 c5 d5 => ?_)
  dsimp only
  repeat' (first | apply And.intro | decide | exact rfl)
  have a1 : ag 37 39 (ce_ M 37 (dfl_ 6)) N1 := a1
  have b1 : ag 37 39 (ce_ F 37 (fun _ => -1)) K1 := b1
  have a2 : ag 40 43 (ce_ N1 40 (dfl_ 10)) N2 := a2
  have b2 : ag 40 43 (ce_ (up_ K1 36 3 37) 40 (fun _ => -1)) K2 := b2
  have a3 : ag 50 54 (ce_ (up_ (ce_ (ce_ (ce_ (ce_ (ce_ (ce_ N2 44 (fun _ => 0)) 45 (fun _ => 0)) 46 (fun _ => 0)) 47 (fun _ => 0)) 48 (fun _ => 0)) 49 (fun _ => 0)) 36 2 z) 50 (dfl_ 9)) N3 := a3
  have b3 : ag 50 54 (ce_ (up_ (up_ (up_ (up_ (up_ (up_ (up_ (up_ (up_ K2 36 4 40) 36 8 44) 36 9 45) 36 10 46) 36 12 47) 36 13 48) 36 14 49) 36 0 x) 36 1 y) 50 (fun _ => -1)) K3 := b3
  have a4 : ag 55 59 (ce_ N3 55 (dfl_ 9)) N4 := a4
  have b4 : ag 55 59 (ce_ (up_ K3 36 5 50) 55 (fun _ => -1)) K4 := b4
  have a5 : ag 60 64 (ce_ N4 60 (dfl_ 9)) N5 := a5
  have b5 : ag 60 64 (ce_ (up_ K4 36 6 55) 60 (fun _ => -1)) K5 := b5
  have d1 : K1 37 0 = 38 ∧ K1 37 1 = 39 ∧ True := d1
  have d2 : K2 40 0 = 41 ∧ K2 40 1 = 42 ∧ K2 40 2 = 43 ∧ True := d2
  have d3 : K3 50 0 = 27 ∧ K3 50 1 = 51 ∧ K3 50 2 = 52 ∧ K3 50 3 = 53 ∧ True := d3
  have d4 : K4 55 0 = 27 ∧ K4 55 1 = 56 ∧ K4 55 2 = 57 ∧ K4 55 3 = 58 ∧ True := d4
  have d5 : K5 60 0 = 27 ∧ K5 60 1 = 61 ∧ K5 60 2 = 62 ∧ K5 60 3 = 63 ∧ True := d5
  refine h N5 (up_ K5 36 7 60) m5 ?_ ?_ (by omega) (fiL_app ?_ ?_)
  · repeat' (first | exact ag_refl _ _ _ | refine ag_in ?_ a5 (by decide) (by decide) | refine ag_in ?_ a4 (by decide) (by decide) | refine ag_in ?_ a3 (by decide) (by decide) | refine ag_in ?_ a2 (by decide) (by decide) | refine ag_in ?_ a1 (by decide) (by decide) | refine ag_c3 ?_ (by decide) | refine ag_u3 ?_ (by decide))
  · repeat' (first | exact ag_refl _ _ _ | refine ag_in ?_ b5 (by decide) (by decide) | refine ag_in ?_ b4 (by decide) (by decide) | refine ag_in ?_ b3 (by decide) (by decide) | refine ag_in ?_ b2 (by decide) (by decide) | refine ag_in ?_ b1 (by decide) (by decide) | refine ag_c3 ?_ (by decide) | refine ag_u3 ?_ (by decide))
  · have e5 : ∀ j, K5 36 j = up_ K4 36 6 55 36 j := fun j => b5 36 j (by decide)
    have e4 : ∀ j, K4 36 j = up_ K3 36 5 50 36 j := fun j => b4 36 j (by decide)
    have e3 : ∀ j, K3 36 j = (up_ (up_ (up_ (up_ (up_ (up_ (up_ (up_ (up_ K2 36 4 40) 36 8 44) 36 9 45) 36 10 46) 36 12 47) 36 13 48) 36 14 49) 36 0 x) 36 1 y) 36 j := fun j => b3 36 j (by decide)
    have e2 : ∀ j, K2 36 j = up_ K1 36 3 37 36 j := fun j => b2 36 j (by decide)
    exact ⟨(e5 0).trans ((e4 0).trans ((e3 0).trans hx)), (e5 1).trans ((e4 1).trans ((e3 1).trans hy)), (e5 3).trans ((e4 3).trans ((e3 3).trans (e2 3))), (e5 4).trans ((e4 4).trans (e3 4)), (e5 5).trans (e4 5), e5 6, rfl, (e5 8).trans ((e4 8).trans (e3 8)), (e5 9).trans ((e4 9).trans (e3 9)), (e5 10).trans ((e4 10).trans (e3 10)), (e5 12).trans ((e4 12).trans (e3 12)), (e5 13).trans ((e4 13).trans (e3 13)), (e5 14).trans ((e4 14).trans (e3 14)), trivial⟩
  · have t37 : ∀ j, (up_ K5 36 7 60) 37 j = K1 37 j := fun j => (b5 37 j (by decide)).trans ((b4 37 j (by decide)).trans ((b3 37 j (by decide)).trans (b2 37 j (by decide))))
    have t40 : ∀ j, (up_ K5 36 7 60) 40 j = K2 40 j := fun j => (b5 40 j (by decide)).trans ((b4 40 j (by decide)).trans (b3 40 j (by decide)))
    have t50 : ∀ j, (up_ K5 36 7 60) 50 j = K3 50 j := fun j => (b5 50 j (by decide)).trans (b4 50 j (by decide))
    have t55 : ∀ j, (up_ K5 36 7 60) 55 j = K4 55 j := fun j => b5 55 j (by decide)
    have t60 : ∀ j, (up_ K5 36 7 60) 60 j = K5 60 j := fun j => rfl
    exact ⟨(t37 0).trans d1.1, (t37 1).trans d1.2.1, (t40 0).trans d2.1, (t40 1).trans d2.2.1, (t40 2).trans d2.2.2.1, (t50 0).trans d3.1, (t50 1).trans d3.2.1, (t50 2).trans d3.2.2.1, (t50 3).trans d3.2.2.2.1, (t55 0).trans d4.1, (t55 1).trans d4.2.1, (t55 2).trans d4.2.2.1, (t55 3).trans d4.2.2.2.1, (t60 0).trans d5.1, (t60 1).trans d5.2.1, (t60 2).trans d5.2.2.1, (t60 3).trans d5.2.2.2.1, trivial⟩
def fi0 : List (Int × Int × Int) := [(65, 0, 27), (65, 1, 36), (65, 2, 66), (65, 3, 73), (65, 4, 69), (65, 5, 70), (65, 6, 71), (65, 10, 72), (66, 0, 67), (66, 1, 68), (73, 0, 27), (73, 1, 74), (73, 2, 75), (73, 3, 76)]
theorem i_X0 {M F : aM} {dl : Int → Int} {ns x y z : Int} {Q : aM → aW → Prop} (hx : x = 27) (hy : y = 36) (h : ∀ N K m, ag 65 77 M N → ag 65 77 F K → m = ns + 16229 → fiL fi0 K → (∀ j, N 69 j = 0) → Q N (K, dl, 78, m)) : CallV 0 [vR 65, vR x, vR y, vR z] (M, (F, dl, 66, ns)) Q := by
  refine e_X0_init _ _ _ _ _ _ _ _ _ ?_
  repeat' (first | apply And.intro | decide | exact rfl)
  refine i_X6 (Or.inr rfl) (fun N1 K1 m1 a1 b1 c1 d1 => ?_)
  dsimp only
  repeat' (first | apply And.intro | decide | exact rfl)
  refine i_X9 (Or.inr (Or.inr (Or.inr rfl))) hx (fun N2 K2 m2 a2 b2 c2 d2 => ?_)
  dsimp only
  repeat' (first | apply And.intro | decide | exact rfl)
  have a1 : ag 66 68 (ce_ M 66 (dfl_ 6)) N1 := a1
  have b1 : ag 66 68 (ce_ F 66 (fun _ => -1)) K1 := b1
  have a2 : ag 73 77 (ce_ (up_ (ce_ (ce_ (ce_ (ce_ N1 69 (fun _ => 0)) 70 (fun _ => 0)) 71 (fun _ => 0)) 72 (fun _ => 0)) 65 7 z) 73 (dfl_ 9)) N2 := a2
  have b2 : ag 73 77 (ce_ (up_ (up_ (up_ (up_ (up_ (up_ (up_ K1 65 2 66) 65 4 69) 65 5 70) 65 6 71) 65 10 72) 65 0 x) 65 1 y) 73 (fun _ => -1)) K2 := b2
  have d1 : K1 66 0 = 67 ∧ K1 66 1 = 68 ∧ True := d1
  have d2 : K2 73 0 = 27 ∧ K2 73 1 = 74 ∧ K2 73 2 = 75 ∧ K2 73 3 = 76 ∧ True := d2
  refine h N2 (up_ K2 65 3 73) m2 ?_ ?_ (by omega) ?_ (fun j => a2 69 j (by decide))
  · repeat' (first | exact ag_refl _ _ _ | refine ag_in ?_ a2 (by decide) (by decide) | refine ag_in ?_ a1 (by decide) (by decide) | refine ag_c3 ?_ (by decide) | refine ag_u3 ?_ (by decide))
  · repeat' (first | exact ag_refl _ _ _ | refine ag_in ?_ b2 (by decide) (by decide) | refine ag_in ?_ b1 (by decide) (by decide) | refine ag_c3 ?_ (by decide) | refine ag_u3 ?_ (by decide))
  · have e2 : ∀ j, K2 65 j = (up_ (up_ (up_ (up_ (up_ (up_ (up_ K1 65 2 66) 65 4 69) 65 5 70) 65 6 71) 65 10 72) 65 0 x) 65 1 y) 65 j := fun j => b2 65 j (by decide)
    have t66 : ∀ j, (up_ K2 65 3 73) 66 j = K1 66 j := fun j => b2 66 j (by decide)
    have t73 : ∀ j, (up_ K2 65 3 73) 73 j = K2 73 j := fun j => rfl
    exact ⟨(e2 0).trans hx, (e2 1).trans hy, e2 2, rfl, e2 4, e2 5, e2 6, e2 10, (t66 0).trans d1.1, (t66 1).trans d1.2.1, (t73 0).trans d2.1, (t73 1).trans d2.2.1, (t73 2).trans d2.2.2.1, (t73 3).trans d2.2.2.2.1, trivial⟩
