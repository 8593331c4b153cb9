/-! CONSTRUCTORS: cells that are laid one after another, the final references -/
theorem ag_u2 {lo hi a i v : Int} {M N : aM} (h : ag lo hi M N) (h0 : lo ≤ a) (h1 : a ≤ hi) : ag lo hi M (up_ N a i v) := ag_tr h (ag_up N h0 h1)
theorem ag_in {lo hi l k : Int} {M N K : aM} (h : ag lo hi M N) (h2 : ag l k N K) (h0 : lo ≤ l) (h1 : k ≤ hi) : ag lo hi M K := ag_tr h (ag_wk h2 h0 h1)
/-- the references of the list are laid -/
def fiL : List (Int × Int × Int) → aM → Prop
  | [], _ => True
  | q :: l, K => K q.1 q.2.1 = q.2.2 ∧ fiL l K
theorem fiL_app : ∀ {a b : List (Int × Int × Int)} {K : aM}, fiL a K → fiL b K → fiL (a ++ b) K := by
  intro a
  induction a with
  | nil => intro b K _ h; exact h
  | cons q l ih => intro b K h1 h2; exact ⟨h1.1, ih h1.2 h2⟩
theorem fiL_mem : ∀ {a : List (Int × Int × Int)} {K : aM}, fiL a K → ∀ q ∈ a, K q.1 q.2.1 = q.2.2 := by
  intro a
  induction a with
  | nil => intro K _ q hq; cases hq
  | cons p l ih =>
    intro K h q hq
    rcases List.mem_cons.1 hq with rfl | hq
    · exact h.1
    · exact ih h.2 q hq
theorem fiL_ag : ∀ {a : List (Int × Int × Int)} {F K : aM} {lo hi : Int}, fiL a F → ag lo hi F K → (∀ q ∈ a, q.1 < lo ∨ hi < q.1) → fiL a K := by
  intro a
  induction a with
  | nil => intro F K lo hi _ _ _; exact trivial
  | cons p l ih =>
    intro F K lo hi h ha hq
    exact ⟨(ha p.1 p.2.1 (hq p (List.mem_cons_self ..))).trans h.1, ih h.2 ha (fun q m => hq q (List.mem_cons_of_mem _ m))⟩
-- Codes
def rcO : Nat → Int → Int → Int → Int
  | 0, _, _, a => a
  | n + 1, r, i, a => rcO n (Int.tdiv r 3) (i + 1) (or_ a (if Int.tmod r 3 = 1 then shl_ 1 i else 0))
def rcS : Nat → Int → Int → Int → Int
  | 0, _, _, a => a
  | n + 1, r, i, a => rcS n (Int.tdiv r 3) (i + 1) (or_ a (if Int.tmod r 3 = 2 then shl_ 1 i else 0))
def rcP : Nat → Int → Int → Int → Int
  | 0, _, _, a => a
  | n + 1, s, i, a => rcP n s (i + 1) (a + and_ (shr_ s i) 1 * thr_ i)
set_option maxRecDepth 100000 in
theorem rcO_729 : ∀ k < 729, rcO 6 (Int.ofNat k) 0 0 = opn (Int.ofNat k) ∧ rcS 6 (Int.ofNat k) 0 0 = sht (Int.ofNat k) := by decide +kernel
set_option maxRecDepth 100000 in
theorem rcP_64 : ∀ k < 64, rcP 6 (Int.ofNat k) 0 0 = spr (Int.ofNat k) := by decide +kernel
theorem rcO_e {k : Int} (k0 : 0 ≤ k) (k1 : k < 729) : rcO 6 k 0 0 = opn k ∧ rcS 6 k 0 0 = sht k := by
  obtain ⟨n, rfl, hn⟩ := nat_of k0 k1; exact rcO_729 n hn
theorem rcP_e {k : Int} (k0 : 0 ≤ k) (k1 : k < 64) : rcP 6 k 0 0 = spr k := by
  obtain ⟨n, rfl, hn⟩ := nat_of k0 k1; exact rcP_64 n hn
theorem rcO_S (n : Nat) (r i a : Int) : rcO (n + 1) r i a = rcO n (Int.tdiv r 3) (i + 1) (or_ a (if Int.tmod r 3 = 1 then shl_ 1 i else 0)) := rfl
theorem rcS_S (n : Nat) (r i a : Int) : rcS (n + 1) r i a = rcS n (Int.tdiv r 3) (i + 1) (or_ a (if Int.tmod r 3 = 2 then shl_ 1 i else 0)) := rfl
theorem rcP_S (n : Nat) (s i a : Int) : rcP (n + 1) s i a = rcP n s (i + 1) (a + and_ (shr_ s i) 1 * thr_ i) := rfl
theorem td3 {r : Int} (h : 0 ≤ r) : Int.tdiv r 3 = r / 3 := Int.tdiv_eq_ediv_of_nonneg h
theorem tm3 {r : Int} (h : 0 ≤ r) : Int.tmod r 3 = r % 3 := Int.tmod_eq_emod_of_nonneg h
def x2F (K : aM) : Prop := K 27 0 = 28 ∧ K 27 1 = 29 ∧ K 27 2 = 30
theorem x2_in {K : aM} {dl : Int → Int} {m : Int} {Q : aM → aW → Prop} (hK : x2F K) {k : Int} (k0 : 0 ≤ k) (k1 : k < 729) : ∀ (n : Nat) (r i : Int) (N : aM), 0 ≤ i → i + n = 6 → 0 ≤ r → r < 729 → rcO n r i (N 28 k) = opn k → rcS n r i (N 29 k) = sht k →
    (∀ N' x2 x3, (∀ b j, ¬ ((b = 28 ∨ b = 29) ∧ j = k) → N' b j = N b j) → N' 28 k = opn k → N' 29 k = sht k → Xs 21 (32, [some (some (vR 27)), some (some (vI (k + 1))), some (some (vI x2)), some (some (vI x3))], [], (N', (K, dl, 31, m))) (QV Q)) →
    Xs 21 (43, [some (some (vR 27)), some (some (vI k)), some (some (vI r)), some (some (vI i))], [], (N, (K, dl, 31, m))) (QV Q) := by
  obtain ⟨f0, f1, f2⟩ := hK
  intro n
  induction n with
  | zero =>
    intro r i N i0 i6 r0 r1 e1 e2 h
    refine k_X2_init_43 _ _ _ _ _ _ _ _ _ ?_
    exact ⟨by omega, fun _ => h N _ _ (fun _ _ _ => rfl) e1 e2, fun q => by omega⟩
  | succ n ih =>
    intro r i N i0 i6 r0 r1 e1 e2 h
    refine k_X2_init_43 _ _ _ _ _ _ _ _ _ ?_
    rw [rcO_S] at e1
    rw [rcS_S] at e2
    rw [f0, f1]
    have l8 : lD_ dl 28 = 729 := rfl
    have l9 : lD_ dl 29 = 729 := rfl
    rw [l8, l9]
    have hd := td3 r0
    have hm := tm3 r0
    have c3 : inI r ∧ inI 3 ∧ (3 : Int) ≠ 0 := by omega
    have c4 : inI (Int.tmod r 3) := by omega
    have fin : ∀ (a b : Int), a = or_ (N 28 k) (if Int.tmod r 3 = 1 then shl_ 1 i else 0) → b = or_ ((up_ N 28 k a) 29 k) (if Int.tmod r 3 = 2 then shl_ 1 i else 0) → ∀ v, v = Int.tdiv r 3 → Xs 21 (43, [some (some (vR 27)), some (some (vI k)), some (some (vI v)), some (some (vI (i + 1)))], [], (up_ (up_ N 28 k a) 29 k b, (K, dl, 31, m))) (QV Q) := by
      intro a b ha hb v hv
      have hb2 : (up_ N 28 k a) 29 k = N 29 k := up_b _ _ _ _ (by decide)
      rw [hb2] at hb
      refine ih v (i + 1) _ (by omega) (by omega) (by omega) (by omega) ?_ ?_ (fun N' x2 x3 q1 q2 q3 => h N' x2 x3 (fun b j hh => ?_) q2 q3)
      · rw [up_b _ _ _ _ (by decide), up_s, ha, hv]; exact e1
      · rw [up_s, hb, hv]; exact e2
      · rw [q1 b j hh]; unfold up_; rw [if_neg (by omega), if_neg (by omega)]
    refine ⟨by omega, fun q => by omega, fun _ => ⟨rfl, ⟨rfl, k0, k1⟩, c3, c4, fun g1 => ⟨⟨rfl, k0, k1⟩, rfl, ⟨rfl, k0, k1⟩, c3, c4, fun g2 => ⟨⟨rfl, k0, k1⟩, c3, fin _ _ ?_ ?_⟩, fun g2 => ⟨⟨rfl, k0, k1⟩, c3, fin _ _ ?_ ?_⟩⟩, fun g1 => ⟨⟨rfl, k0, k1⟩, rfl, ⟨rfl, k0, k1⟩, c3, c4, fun g2 => ⟨⟨rfl, k0, k1⟩, c3, fin _ _ ?_ ?_⟩, fun g2 => ⟨⟨rfl, k0, k1⟩, c3, fin _ _ ?_ ?_⟩⟩⟩⟩
    · rw [if_neg g1]
    · rw [if_neg g2]
    · rw [if_neg g1]
    · rw [if_pos (by omega)]
    · rw [if_pos (by omega)]
    · rw [if_neg g2]
    · rw [if_pos (by omega)]
    · rw [if_pos (by omega)]
