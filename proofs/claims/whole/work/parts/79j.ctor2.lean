/-! CONSTRUCTORS: Codes and the small ones -/
theorem ag_u3 {lo hi a i v : Int} {M N : aM} (h : ag lo hi M N) (h0 : lo ≤ a ∧ a ≤ hi) : ag lo hi M (up_ N a i v) := ag_u2 h h0.1 h0.2
theorem ag_c3 {lo hi a : Int} {M N : aM} {f : Int → Int} (h : ag lo hi M N) (h0 : lo ≤ a ∧ a ≤ hi) : ag lo hi M (ce_ N a f) := ag_tr h (ag_ce N h0.1 h0.2)
theorem x2_pw {K : aM} {dl : Int → Int} {m : Int} {Q : aM → aW → Prop} (hK : x2F K) {k : Int} (k0 : 0 ≤ k) (k1 : k < 64) : ∀ (n : Nat) (i : Int) (N : aM) (d3 : aL), 0 ≤ i → i + n = 6 → rcP n k i (N 30 k) = spr k →
    (∀ N' x2, (∀ b j, ¬ (b = 30 ∧ j = k) → N' b j = N b j) → N' 30 k = spr k → Xs 21 (113, [some (some (vR 27)), some (some (vI (k + 1))), some (some (vI x2)), d3], [], (N', (K, dl, 31, m))) (QV Q)) →
    Xs 21 (121, [some (some (vR 27)), some (some (vI k)), some (some (vI i)), d3], [], (N, (K, dl, 31, m))) (QV Q) := by
  obtain ⟨f0, f1, f2⟩ := hK
  intro n
  induction n with
  | zero =>
    intro i N d3 i0 i6 e1 h
    refine k_X2_init_121 _ _ _ _ _ _ _ _ _ ?_
    exact ⟨by omega, fun _ => h N _ (fun _ _ _ => rfl) e1, fun q => by omega⟩
  | succ n ih =>
    intro i N d3 i0 i6 e1 h
    refine k_X2_init_121 _ _ _ _ _ _ _ _ _ ?_
    rw [rcP_S] at e1
    rw [f2]
    refine ⟨by omega, fun q => by omega, fun _ => ⟨rfl, ⟨rfl, k0, k1⟩, ⟨i0, by omega⟩, ⟨rfl, k0, k1⟩, ih (i + 1) _ d3 (by omega) (by omega) ?_ (fun N' x2 q1 q2 => h N' x2 (fun b j hh => ?_) q2)⟩⟩
    · rw [up_s]; exact e1
    · rw [q1 b j hh]; unfold up_; rw [if_neg (by omega)]
def cdZ (N : aM) (a b : Int) : Prop := (∀ k, 0 ≤ k → k < a → N 28 k = opn k ∧ N 29 k = sht k) ∧ (∀ k, a ≤ k → k < 729 → N 28 k = 0 ∧ N 29 k = 0) ∧ (∀ k, 0 ≤ k → k < b → N 30 k = spr k) ∧ ∀ k, b ≤ k → k < 64 → N 30 k = 0
theorem x2_113 {K : aM} {dl : Int → Int} {m : Int} {Q : aM → aW → Prop} {M : aM} (hK : x2F K) (h : ∀ N, ag 28 30 M N → cdM N → Q N (K, dl, 31, m)) : ∀ (n : Nat) (k : Int) (N : aM) (d2 d3 : aL), 0 ≤ k → k + n = 64 → ag 28 30 M N → cdZ N 729 k →
    Xs 21 (113, [some (some (vR 27)), some (some (vI k)), d2, d3], [], (N, (K, dl, 31, m))) (QV Q) := by
  intro n
  induction n with
  | zero =>
    intro k N d2 d3 k0 k6 ha hz
    refine k_X2_init_113 _ _ _ _ _ _ _ _ _ ?_
    refine ⟨by omega, fun _ => h N ha ⟨fun j j0 j1 => hz.1 j j0 j1, fun s s0 s1 => hz.2.2.1 s s0 (by omega)⟩, fun q => by omega⟩
  | succ n ih =>
    intro k N d2 d3 k0 k6 ha hz
    refine k_X2_init_113 _ _ _ _ _ _ _ _ _ ?_
    refine ⟨by omega, fun q => by omega, fun _ => x2_pw hK k0 (by omega) 6 0 N d3 (by decide) (by decide) ?_ (fun N' x2 q1 q2 => ih (k + 1) N' _ _ (by omega) (by omega) (ag_tr ha (fun b j hb => q1 b j (by omega))) ⟨fun j j0 j1 => ?_, fun j j0 j1 => by omega, fun j j0 j1 => ?_, fun j j0 j1 => ?_⟩)⟩
    · rw [hz.2.2.2 k (by omega) (by omega)]; exact rcP_e k0 (by omega)
    · rw [q1 _ _ (by omega), q1 _ _ (by omega)]; exact hz.1 j j0 j1
    · by_cases x : j = k
      · rw [x]; exact q2
      · rw [q1 _ _ (by omega)]; exact hz.2.2.1 j j0 (by omega)
    · rw [q1 _ _ (by omega)]; exact hz.2.2.2 j (by omega) j1
theorem x2_32 {K : aM} {dl : Int → Int} {m : Int} {Q : aM → aW → Prop} {M : aM} (hK : x2F K) (h : ∀ N, ag 28 30 M N → cdM N → Q N (K, dl, 31, m)) : ∀ (n : Nat) (k : Int) (N : aM) (d2 d3 : aL), 0 ≤ k → k + n = 729 → ag 28 30 M N → cdZ N k 0 →
    Xs 21 (32, [some (some (vR 27)), some (some (vI k)), d2, d3], [], (N, (K, dl, 31, m))) (QV Q) := by
  intro n
  induction n with
  | zero =>
    intro k N d2 d3 k0 k6 ha hz
    refine k_X2_init_32 _ _ _ _ _ _ _ _ _ ?_
    refine ⟨by omega, fun _ => x2_113 hK h 64 0 N _ _ (by decide) (by decide) ha ⟨fun j j0 j1 => hz.1 j j0 (by omega), fun j j0 j1 => by omega, hz.2.2.1, hz.2.2.2⟩, fun q => by omega⟩
  | succ n ih =>
    intro k N d2 d3 k0 k6 ha hz
    refine k_X2_init_32 _ _ _ _ _ _ _ _ _ ?_
    have e := rcO_e k0 (show k < 729 by omega)
    have z := hz.2.1 k (by omega) (by omega)
    refine ⟨by omega, fun q => by omega, fun _ => x2_in hK k0 (by omega) 6 k 0 N (by decide) (by decide) k0 (by omega) ?_ ?_ (fun N' x2 x3 q1 q2 q3 => ih (k + 1) N' _ _ (by omega) (by omega) (ag_tr ha (fun b j hb => q1 b j (by omega))) ⟨fun j j0 j1 => ?_, fun j j0 j1 => ?_, fun j j0 j1 => by omega, fun j j0 j1 => ?_⟩)⟩
    · rw [z.1]; exact e.1
    · rw [z.2]; exact e.2
    · by_cases x : j = k
      · rw [x]; exact ⟨q2, q3⟩
      · rw [q1 _ _ (by omega), q1 _ _ (by omega)]; exact hz.1 j j0 (by omega)
    · rw [q1 _ _ (by omega), q1 _ _ (by omega)]; exact hz.2.1 j (by omega) j1
    · rw [q1 _ _ (by omega)]; exact hz.2.2.2 j (by omega) j1
def fi2 : List (Int × Int × Int) := [(27, 0, 28), (27, 1, 29), (27, 2, 30)]
theorem i_X2 {M F : aM} {dl : Int → Int} {ns : Int} {Q : aM → aW → Prop} (h : ∀ N K m, ag 27 30 M N → ag 27 30 F K → m = ns + 1522 → fiL fi2 K → cdM N → Q N (K, dl, 31, m)) : CallV 21 [vR 27] (M, (F, dl, 28, ns)) Q := by
  refine e_X2_init _ _ _ _ _ _ ?_
  repeat' (first | apply And.intro | decide | exact rfl)
  refine x2_32 (M := ce_ (ce_ (ce_ M 28 (fun _ => 0)) (28 + 1) (fun _ => 0)) (28 + 1 + 1) (fun _ => 0)) ⟨rfl, rfl, rfl⟩ (fun N ha hc => h N _ _ (ag_in ?_ ha (by decide) (by decide)) ?_ ?_ ⟨rfl, rfl, rfl, trivial⟩ hc) 729 0 _ _ _ (by decide) (by decide) (ag_refl _ _ _) ⟨fun j j0 j1 => by omega, fun j j0 j1 => ⟨rfl, rfl⟩, fun j j0 j1 => by omega, fun j j0 j1 => rfl⟩
  · repeat' (first | exact ag_refl _ _ _ | refine ag_c3 ?_ (by decide) | refine ag_u3 ?_ (by decide))
  · repeat' (first | exact ag_refl _ _ _ | refine ag_c3 ?_ (by decide) | refine ag_u3 ?_ (by decide))
  · omega
theorem s_X3_empty_c {M F : aM} {dl : Int → Int} {sz ns : Int} {Q : aM → aW → Prop} {c : Int} (c0 : 0 ≤ c) (o : ∀ N : aM, okD (N, (F, dl, sz, ns)) 3 c = true) (o4 : ∀ N : aM, okD (N, (F, dl, sz, ns)) 20 (c + 4) = true) (o5 : ∀ N : aM, okD (N, (F, dl, sz, ns)) 20 (c + 5) = true) (f4 : F c 11 = c + 4) (f5 : F c 12 = c + 5) (l4 : lD_ dl (c + 4) = 100) (l5 : lD_ dl (c + 5) = 10) (k : ∀ N, ag c (c + 8) M N → isE c N → Q N (F, dl, sz, ns)) : CallV 266 [vR c] (M, (F, dl, sz, ns)) Q := by
  have key2 : ∀ (m : Nat) (i : Int) (N : aM), 0 ≤ i → i + m = 10 → ag c (c + 8) M N → (N c 0 = 0 ∧ N c 1 = 0 ∧ N c 2 = 0 ∧ N c 3 = 0 ∧ N c 4 = 0 ∧ N c 5 = 0 ∧ N c 6 = -1 ∧ N c 7 = -1) → (∀ j, 0 ≤ j → j < 100 → N (c + 4) j = -1) → (∀ j, 0 ≤ j → j < i → N (c + 5) j = 0) → Xs 266 (66, [some (some (vR c)), some (some (vI i))], [], (N, (F, dl, sz, ns))) (QV Q) := by
    intro m
    induction m with
    | zero =>
      intro i N i0 i1 ha h0 h4 h5
      refine k_X3_empty_c_66 _ _ _ _ _ _ _ _ ?_
      rw [f5, l5]
      exact ⟨o _, o5 _, by omega, fun _ => k N ha ⟨h0, h4, fun j j0 j1 => h5 j j0 (by omega)⟩, fun q => by omega⟩
    | succ m ih =>
      intro i N i0 i1 ha h0 h4 h5
      refine k_X3_empty_c_66 _ _ _ _ _ _ _ _ ?_
      rw [f5, l5]
      refine ⟨o _, o5 _, by omega, fun q => by omega, fun _ => ⟨o _, ⟨o5 _, by omega, by omega⟩, ih (i + 1) _ (by omega) (by omega) (ag_tr ha (ag_up N (by omega) (by omega))) ?_ (fun j j0 j1 => ?_) (fun j j0 j1 => ?_)⟩⟩
      · rw [up_r _ _ _ (show c ≠ c + 5 by omega)]; exact h0
      · rw [up_b _ _ _ _ (by omega)]; exact h4 j j0 j1
      · by_cases x : j = i
        · rw [x, up_s]
        · rw [up_j _ _ _ x]; exact h5 j j0 (by omega)
  have key1 : ∀ (m : Nat) (i : Int) (N : aM), 0 ≤ i → i + m = 100 → ag c (c + 8) M N → (N c 0 = 0 ∧ N c 1 = 0 ∧ N c 2 = 0 ∧ N c 3 = 0 ∧ N c 4 = 0 ∧ N c 5 = 0 ∧ N c 6 = -1 ∧ N c 7 = -1) → (∀ j, 0 ≤ j → j < i → N (c + 4) j = -1) → Xs 266 (42, [some (some (vR c)), some (some (vI i))], [], (N, (F, dl, sz, ns))) (QV Q) := by
    intro m
    induction m with
    | zero =>
      intro i N i0 i1 ha h0 h4
      refine k_X3_empty_c_42 _ _ _ _ _ _ _ _ ?_
      rw [f4, l4]
      exact ⟨o _, o4 _, by omega, fun _ => key2 10 0 N (by decide) (by decide) ha h0 (fun j j0 j1 => h4 j j0 (by omega)) (fun j j0 j1 => by omega), fun q => by omega⟩
    | succ m ih =>
      intro i N i0 i1 ha h0 h4
      refine k_X3_empty_c_42 _ _ _ _ _ _ _ _ ?_
      rw [f4, l4]
      refine ⟨o _, o4 _, by omega, fun q => by omega, fun _ => ⟨o _, ⟨o4 _, by omega, by omega⟩, ih (i + 1) _ (by omega) (by omega) (ag_tr ha (ag_up N (by omega) (by omega))) ?_ (fun j j0 j1 => ?_)⟩⟩
      · rw [up_r _ _ _ (show c ≠ c + 4 by omega)]; exact h0
      · by_cases x : j = i
        · rw [x, up_s]
        · rw [up_j _ _ _ x]; exact h4 j j0 (by omega)
  refine e_X3_empty_c _ _ _ _ _ _ _ ?_
  refine ⟨o _, o _, o _, o _, o _, o _, o _, o _, key1 100 0 _ (by decide) (by decide) (fun b j hb => ?_) ⟨?_, ?_, ?_, ?_, ?_, ?_, ?_, ?_⟩ (fun j j0 j1 => by omega)⟩
  · rw [up_b _ _ _ _ (by omega), up_b _ _ _ _ (by omega), up_b _ _ _ _ (by omega), up_b _ _ _ _ (by omega), up_b _ _ _ _ (by omega), up_b _ _ _ _ (by omega), up_b _ _ _ _ (by omega), up_b _ _ _ _ (by omega)]
  all_goals unfold up_
  all_goals simp
theorem i_X3 {M F : aM} {dl : Int → Int} {ns t : Int} {Q : aM → aW → Prop} (ht : t = 2 ∨ t = 11) (h : ∀ N K m, ag t (t + 8) M N → ag t (t + 8) F K → m = ns + 304 → fiL [(t, 8, t + 1), (t, 9, t + 2), (t, 10, t + 3), (t, 11, t + 4), (t, 12, t + 5), (t, 13, t + 6), (t, 14, t + 7), (t, 15, t + 8)] K → isE t N → Q N (K, dl, t + 9, m)) : CallV 26 [vR t] (M, (F, dl, t + 1, ns)) Q := by
  rcases ht with rfl | rfl
  all_goals
    refine e_X3_init _ _ _ _ _ _ _ ?_
    repeat' (first | apply And.intro | decide | exact rfl)
    refine s_X3_empty_c (by decide) (fun _ => rfl) (fun _ => rfl) (fun _ => rfl) rfl rfl rfl rfl (fun N ha he => h N _ _ (ag_in ?_ ha (by decide) (by decide)) ?_ ?_ ⟨rfl, rfl, rfl, rfl, rfl, rfl, rfl, rfl, trivial⟩ he)
    · repeat' (first | exact ag_refl _ _ _ | refine ag_c3 ?_ (by decide) | refine ag_u3 ?_ (by decide))
    · repeat' (first | exact ag_refl _ _ _ | refine ag_c3 ?_ (by decide) | refine ag_u3 ?_ (by decide))
    · omega
theorem i_X4 {M F : aM} {dl : Int → Int} {ns : Int} {Q : aM → aW → Prop} (h : ∀ N K m, ag 31 35 M N → ag 31 35 F K → m = ns + 120 → fiL [(31, 1, 32), (31, 2, 33), (31, 3, 34), (31, 4, 35)] K → Q N (K, dl, 36, m)) : CallV 43 [vR 31] (M, (F, dl, 32, ns)) Q := by
  refine e_X4_init _ _ _ _ _ _ ?_
  repeat' (first | apply And.intro | decide | exact rfl)
  refine h _ _ _ ?_ ?_ ?_ ⟨rfl, rfl, rfl, rfl, trivial⟩
  · repeat' (first | exact ag_refl _ _ _ | refine ag_c3 ?_ (by decide) | refine ag_u3 ?_ (by decide))
  · repeat' (first | exact ag_refl _ _ _ | refine ag_c3 ?_ (by decide) | refine ag_u3 ?_ (by decide))
  · omega
theorem i_X5 {M F : aM} {dl : Int → Int} {ns x : Int} {Q : aM → aW → Prop} (hx : x = 27) (h : ∀ N K m, ag 82 85 M N → ag 82 85 F K → m = ns + 303 → fiL [(82, 1, 27), (82, 4, 83), (82, 5, 84), (82, 6, 85)] K → Q N (K, dl, 86, m)) : CallV 46 [vR 82, vR x] (M, (F, dl, 83, ns)) Q := by
  refine e_X5_init _ _ _ _ _ _ _ ?_
  repeat' (first | apply And.intro | decide | exact rfl)
  refine h _ _ _ ?_ ?_ ?_ ⟨hx, rfl, rfl, rfl, trivial⟩
  · repeat' (first | exact ag_refl _ _ _ | refine ag_c3 ?_ (by decide) | refine ag_u3 ?_ (by decide))
  · repeat' (first | exact ag_refl _ _ _ | refine ag_c3 ?_ (by decide) | refine ag_u3 ?_ (by decide))
  · omega
theorem i_X6 {M F : aM} {dl : Int → Int} {ns t : Int} {Q : aM → aW → Prop} (ht : t = 37 ∨ t = 66) (h : ∀ N K m, ag t (t + 2) M N → ag t (t + 2) F K → m = ns + 793 → fiL [(t, 0, t + 1), (t, 1, t + 2)] K → Q N (K, dl, t + 3, m)) : CallV 58 [vR t] (M, (F, dl, t + 1, ns)) Q := by
  rcases ht with rfl | rfl
  all_goals
    refine e_X6_init _ _ _ _ _ _ _ ?_
    repeat' (first | apply And.intro | decide | exact rfl)
    refine h _ _ _ ?_ ?_ ?_ ⟨rfl, rfl, trivial⟩
    · repeat' (first | exact ag_refl _ _ _ | refine ag_c3 ?_ (by decide) | refine ag_u3 ?_ (by decide))
    · repeat' (first | exact ag_refl _ _ _ | refine ag_c3 ?_ (by decide) | refine ag_u3 ?_ (by decide))
    · omega
theorem i_X9 {M F : aM} {dl : Int → Int} {ns t x y : Int} {Q : aM → aW → Prop} (ht : t = 50 ∨ t = 55 ∨ t = 60 ∨ t = 73) (hx : x = 27) (h : ∀ N K m, ag t (t + 4) M N → ag t (t + 4) F K → m = ns + 14680 → fiL [(t, 0, 27), (t, 1, t + 1), (t, 2, t + 2), (t, 3, t + 3)] K → Q N (K, dl, t + 5, m)) : CallV 104 [vR t, vR x, vR y] (M, (F, dl, t + 1, ns)) Q := by
  rcases ht with rfl | rfl | rfl | rfl
  all_goals
    refine e_X9_init _ _ _ _ _ _ _ _ _ ?_
    repeat' (first | apply And.intro | decide | exact rfl)
    refine h _ _ _ ?_ ?_ ?_ ⟨hx, rfl, rfl, rfl, trivial⟩
    · repeat' (first | exact ag_refl _ _ _ | refine ag_c3 ?_ (by decide) | refine ag_u3 ?_ (by decide))
    · repeat' (first | exact ag_refl _ _ _ | refine ag_c3 ?_ (by decide) | refine ag_u3 ?_ (by decide))
    · omega
theorem i_X10 {M F : aM} {dl : Int → Int} {ns : Int} {Q : aM → aW → Prop} (h : ∀ N K m, ag 40 43 M N → ag 40 43 F K → m = ns + 1380 → fiL [(40, 0, 41), (40, 1, 42), (40, 2, 43)] K → Q N (K, dl, 44, m)) : CallV 114 [vR 40] (M, (F, dl, 41, ns)) Q := by
  refine e_X10_init _ _ _ _ _ _ ?_
  repeat' (first | apply And.intro | decide | exact rfl)
  refine h _ _ _ ?_ ?_ ?_ ⟨rfl, rfl, rfl, trivial⟩
  · repeat' (first | exact ag_refl _ _ _ | refine ag_c3 ?_ (by decide) | refine ag_u3 ?_ (by decide))
  · repeat' (first | exact ag_refl _ _ _ | refine ag_c3 ?_ (by decide) | refine ag_u3 ?_ (by decide))
  · omega
theorem i_X1 {M F : aM} {dl : Int → Int} {ns x y : Int} {Q : aM → aW → Prop} (hx : x = 27) (h : ∀ N K m, ag 78 81 M N → ag 78 81 F K → m = ns + 110 → fiL [(78, 1, 27), (78, 3, 80), (78, 4, 81)] K → N 78 2 = 79 → Q N (K, dl, 82, m)) : CallV 12 [vR 78, vR x, vR y] (M, (F, dl, 79, ns)) Q := by
  refine e_X1_init _ _ _ _ _ _ _ _ ?_
  repeat' (first | apply And.intro | decide | exact rfl)
  refine h _ _ _ ?_ ?_ ?_ ⟨hx, rfl, rfl, trivial⟩ rfl
  · repeat' (first | exact ag_refl _ _ _ | refine ag_c3 ?_ (by decide) | refine ag_u3 ?_ (by decide))
  · repeat' (first | exact ag_refl _ _ _ | refine ag_c3 ?_ (by decide) | refine ag_u3 ?_ (by decide))
  · omega
