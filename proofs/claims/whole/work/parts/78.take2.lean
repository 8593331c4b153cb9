/-! THE REFERENCE: words of the language; take -/
def kwS (w : Int) : Int := if w = 0 then 0 else if w = 1 then 6 else if w = 2 then 12 else if w = 3 then 17 else if w = 4 then 23 else if w = 5 then 26 else if w = 6 then 31 else if w = 7 then 36 else if w = 8 then 40 else if w = 9 then 45 else 48
def kwN (w : Int) : Int := if w = 0 then 5 else if w = 1 then 5 else if w = 2 then 4 else if w = 3 then 5 else if w = 4 then 2 else if w = 5 then 4 else if w = 6 then 4 else if w = 7 then 3 else if w = 8 then 4 else 2
theorem kw_nat : ∀ w < 10, (2 ≤ kwN (Int.ofNat w) ∧ kwN (Int.ofNat w) ≤ 5) ∧ kwS (Int.ofNat w + 1) = kwS (Int.ofNat w) + kwN (Int.ofNat w) + 1 ∧ (0 ≤ kwS (Int.ofNat w) ∧ kwS (Int.ofNat w) + kwN (Int.ofNat w) < 48) ∧ lng_ (kwS (Int.ofNat w) + kwN (Int.ofNat w)) = 32 ∧ cdF lng_ (kwS (Int.ofNat w)) (kwN (Int.ofNat w)).toNat = langL (Int.ofNat w) ∧ ∀ i < 5, Int.ofNat i < kwN (Int.ofNat w) → 97 ≤ lng_ (kwS (Int.ofNat w) + Int.ofNat i) ∧ lng_ (kwS (Int.ofNat w) + Int.ofNat i) ≤ 122 := by decide +kernel
theorem kw_tab {w : Int} (w0 : 0 ≤ w) (w1 : w < 10) : (2 ≤ kwN w ∧ kwN w ≤ 5) ∧ kwS (w + 1) = kwS w + kwN w + 1 ∧ (0 ≤ kwS w ∧ kwS w + kwN w < 48) ∧ lng_ (kwS w + kwN w) = 32 ∧ cdF lng_ (kwS w) (kwN w).toNat = langL w ∧ ∀ i : Int, 0 ≤ i → i < kwN w → 97 ≤ lng_ (kwS w + i) ∧ lng_ (kwS w + i) ≤ 122 := by
  obtain ⟨m, rfl, hm⟩ := nat_of w0 w1
  obtain ⟨a, b, c, d, e, f⟩ := kw_nat m hm
  refine ⟨a, b, c, d, e, fun i i0 i1 => ?_⟩
  obtain ⟨j, rfl, hj⟩ := nat_of i0 (show i < 5 by omega)
  exact f j hj i1
/-- the word of the text is this one of the language -/
def kwM (tp : Int → Int) (a k w : Int) : Prop := kwN w = k ∧ ∀ i : Int, 0 ≤ i → i < k → lng_ (kwS w + i) = tp (a + i)
theorem kwM_iff {tp : Int → Int} {a w : Int} {k : Nat} (w0 : 0 ≤ w) (w1 : w < 10) (hk : k ≤ 6) (hl : ∀ i : Int, 0 ≤ i → i < k → 97 ≤ tp (a + i) ∧ tp (a + i) ≤ 122) : kwM tp a k w ↔ langL w = cdF tp a k := by
  obtain ⟨h1, h2, h3, h4, h5, h6⟩ := kw_tab w0 w1
  rw [← h5]
  constructor
  · intro ⟨c1, c2⟩
    have e : (kwN w).toNat = k := by omega
    rw [e]
    exact cd_congr k c2
  · intro he
    have c := cd_inj (kwN w).toNat k (by omega) hk (fun i i0 i1 => h6 i i0 (by omega)) hl he
    exact ⟨by omega, fun i i0 i1 => c.2 i i0 (by omega)⟩
theorem kwL_cs (v : Int) : ∀ (k : Nat) (w : Int), 0 ≤ w → w + k = 10 → (kwL v k w = 10 ∧ ∀ u, w ≤ u → u < 10 → langL u ≠ v) ∨ (w ≤ kwL v k w ∧ kwL v k w < 10 ∧ langL (kwL v k w) = v ∧ ∀ u, w ≤ u → u < kwL v k w → langL u ≠ v) := by
  intro k
  induction k with
  | zero => intro w w0 hw; exact Or.inl ⟨rfl, fun u a b => by omega⟩
  | succ k ih =>
    intro w w0 hw
    unfold kwL
    by_cases c : langL w = v
    · rw [if_pos c]; exact Or.inr ⟨by omega, by omega, c, fun u a b => by omega⟩
    · rw [if_neg c]
      rcases ih (w + 1) (by omega) (by omega) with ⟨a, b⟩ | ⟨a, b, d, e⟩
      · exact Or.inl ⟨a, fun u c1 c2 => by
          by_cases q : u = w
          · rw [q]; exact c
          · exact b u (by omega) c2⟩
      · exact Or.inr ⟨by omega, b, d, fun u c1 c2 => by
          by_cases q : u = w
          · rw [q]; exact c
          · exact e u (by omega) c2⟩
/-- what a word of letters is: -1 or a keyword's number -/
def wdR (tp : Int → Int) (a b : Int) : Int := if 6 < b - a then -1 else if kwF (cdF tp a (b - a).toNat) = 10 then -1 else kwF (cdF tp a (b - a).toNat)
theorem wdR_no {tp : Int → Int} {a b : Int} (ab : a ≤ b) (hl : ∀ i : Int, 0 ≤ i → i < b - a → 97 ≤ tp (a + i) ∧ tp (a + i) ≤ 122) (h : ∀ w, 0 ≤ w → w < 10 → ¬ kwM tp a (b - a) w) : wdR tp a b = -1 := by
  unfold wdR
  by_cases c : 6 < b - a
  · rw [if_pos c]
  · rw [if_neg c]
    have e : (((b - a).toNat : Nat) : Int) = b - a := by omega
    rcases kwL_cs (cdF tp a (b - a).toNat) 10 0 (by decide) (by decide) with ⟨x, y⟩ | ⟨x, y, z, -⟩
    · exact if_pos x
    · have := (kwM_iff (k := (b - a).toNat) x y (by omega) (fun i i0 i1 => hl i i0 (by omega))).mpr z
      rw [e] at this
      exact absurd this (h _ x y)
theorem wdR_yes {tp : Int → Int} {a b w : Int} (ab : a ≤ b) (hl : ∀ i : Int, 0 ≤ i → i < b - a → 97 ≤ tp (a + i) ∧ tp (a + i) ≤ 122) (w0 : 0 ≤ w) (w1 : w < 10) (hm : kwM tp a (b - a) w) (h : ∀ u, 0 ≤ u → u < w → ¬ kwM tp a (b - a) u) : wdR tp a b = w := by
  have ht := (kw_tab w0 w1).1
  have e : (((b - a).toNat : Nat) : Int) = b - a := by omega
  have h1 := hm.1
  have h2 := (kwM_iff (k := (b - a).toNat) (tp := tp) (a := a) w0 w1 (by omega) (fun i i0 i1 => hl i i0 (by omega))).mp (by rw [e]; exact hm)
  have ek : kwF (cdF tp a (b - a).toNat) = w := by
    rcases kwL_cs (cdF tp a (b - a).toNat) 10 0 (by decide) (by decide) with ⟨x, y⟩ | ⟨x, y, z, u⟩
    · exact absurd h2 (y w w0 w1)
    · have x' : 0 ≤ kwF (cdF tp a (b - a).toNat) := x
      have y' : kwF (cdF tp a (b - a).toNat) < 10 := y
      refine Classical.byContradiction (fun hne => ?_)
      rcases (show w < kwF (cdF tp a (b - a).toNat) ∨ kwF (cdF tp a (b - a).toNat) < w by omega) with q | q
      · exact u w w0 q h2
      · have := (kwM_iff (k := (b - a).toNat) (tp := tp) (a := a) x' y' (by omega) (fun i i0 i1 => hl i i0 (by omega))).mpr z
        rw [e] at this
        exact h _ x' q this
  unfold wdR
  rw [if_neg (by omega), ek, if_neg (by omega)]
theorem s_X12_wordAt {M : aM} {W : aW} {Q : Int → aM → aW → Prop} {tp : Int → Int} {n a b : Int} (hL : lxS tp n M) (a0 : 0 ≤ a) (ab : a ≤ b) (bn : b ≤ n) (hl : ∀ i, a ≤ i → i < b → smL (tp i) = true) (h : Q (wdR tp a b) M W) : CallI 157 [vR 86, vI a, vI b] (M, W) Q := by
  obtain ⟨c1, c2, c3, c4, c5⟩ := hL
  have hl' : ∀ i : Int, 0 ≤ i → i < b - a → 97 ≤ tp (a + i) ∧ tp (a + i) ≤ 122 := fun i i0 i1 => (smL_iff _).mp (hl (a + i) (by omega) (by omega))
  have l5 : ∀ (m : Nat) (w : Int) (d5 d6 d7 : aL), 0 ≤ w → w ≤ 10 → (10 - w).toNat = m → (∀ u, 0 ≤ u → u < w → ¬ kwM tp a (b - a) u) → Xs 157 (5, [some (some (vR 86)), some (some (vI a)), some (some (vI b)), some (some (vI w)), some (some (vI (kwS w))), d5, d6, d7], [], (M, W)) (QI Q) := by
    intro m
    induction m with
    | zero =>
      intro w d5 d6 d7 w0 w1 hm hno
      have e : w = 10 := by omega
      subst e
      rw [wdR_no ab hl' hno] at h
      refine k_X12_wordAt_5 _ _ _ _ _ _ _ _ _ _ ?_
      exact ⟨by decide, fun _ => h, fun hlt => absurd (by decide) hlt⟩
    | succ m ih =>
      intro w d5 d6 d7 w0 w1 hm hno
      obtain ⟨h1, h2, h3, h4, h5, h6⟩ := kw_tab w0 (show w < 10 by omega)
      have l57 : ∀ (q : Nat) (x6 i : Int), 0 ≤ i → i ≤ kwN w → (kwN w - i).toNat = q → ((x6 = 1 ∧ kwN w = b - a ∧ ∀ j : Int, 0 ≤ j → j < i → lng_ (kwS w + j) = tp (a + j)) ∨ (x6 = 0 ∧ ¬ kwM tp a (b - a) w)) → Xs 157 (57, [some (some (vR 86)), some (some (vI a)), some (some (vI b)), some (some (vI w)), some (some (vI (kwS w))), some (some (vI (kwN w))), some (some (vI x6)), some (some (vI i))], [], (M, W)) (QI Q) := by
        intro q
        have nx : ∀ (d5 d6 d7 : aL), ¬ kwM tp a (b - a) w → Xs 157 (5, [some (some (vR 86)), some (some (vI a)), some (some (vI b)), some (some (vI (w + 1))), some (some (vI (kwS w + (kwN w + 1)))), d5, d6, d7], [], (M, W)) (QI Q) := fun d5 d6 d7 hn => by
          rw [show kwS w + (kwN w + 1) = kwS (w + 1) by omega]
          refine ih (w + 1) _ _ _ (by omega) (by omega) (by omega) (fun u u0 u1 => ?_)
          by_cases e : u = w
          · rw [e]; exact hn
          · exact hno u u0 (by omega)
        induction q with
        | zero =>
          intro x6 i i0 i1 hq hx
          have ei : i = kwN w := by omega
          refine k_X12_wordAt_57 _ _ _ _ _ _ _ _ _ _ ?_
          refine ⟨by omega, fun _ => ⟨by omega, fun hz v ev => ?_, fun hnz => ?_⟩, fun hlt => by omega⟩
          · rw [ev]
            rcases hx with ⟨e, -⟩ | ⟨-, e⟩
            · omega
            · exact nx _ _ _ e
          · rcases hx with ⟨-, e1, e2⟩ | ⟨e, -⟩
            · rw [wdR_yes ab hl' w0 (by omega) ⟨e1, fun j j0 j1 => e2 j j0 (by omega)⟩ hno] at h; exact h
            · omega
        | succ q ih2 =>
          intro x6 i i0 i1 hq hx
          refine k_X12_wordAt_57 _ _ _ _ _ _ _ _ _ _ ?_
          refine ⟨by omega, fun hge => by omega, fun _ => ⟨by omega, fun hz => ⟨by omega, fun _ v ev => ?_, fun hnz => absurd hz hnz⟩, fun hnz => ?_⟩⟩
          · rw [ev]
            rcases hx with ⟨e, -⟩ | ⟨-, e⟩
            · omega
            · exact nx _ _ _ e
          · rcases hx with ⟨e0, e1, e2⟩ | ⟨e, -⟩
            · have hi := h6 i i0 (by omega)
              have hb := hl' i i0 (by omega)
              rw [c5 (kwS w + i) (by omega) (by omega), c4 (a + i) (by omega) (by omega), show tp (a + i) % 256 = tp (a + i) by omega]
              refine ⟨by omega, by omega, by omega, fun hne => ih2 0 (i + 1) (by omega) (by omega) (by omega) (Or.inr ⟨rfl, fun hk => hne (hk.2 i i0 (by omega))⟩), fun heq => ih2 1 (i + 1) (by omega) (by omega) (by omega) (Or.inl ⟨rfl, e1, fun j j0 j1 => ?_⟩)⟩
              by_cases ej : j = i
              · rw [ej]; exact Classical.byContradiction heq
              · exact e2 j j0 (by omega)
            · exact absurd e hnz
      have l18 : ∀ (q : Nat) (i : Int) (d6 d7 : aL), 0 ≤ i → i ≤ kwN w → (kwN w - i).toNat = q → Xs 157 (18, [some (some (vR 86)), some (some (vI a)), some (some (vI b)), some (some (vI w)), some (some (vI (kwS w))), some (some (vI i)), d6, d7], [], (M, W)) (QI Q) := by
        intro q
        induction q with
        | zero =>
          intro i d6 d7 i0 i1 hq
          have ei : i = kwN w := by omega
          subst ei
          refine k_X12_wordAt_18 _ _ _ _ _ _ _ _ _ _ ?_
          rw [c5 (kwS w + kwN w) (by omega) (by omega), h4]
          refine ⟨by omega, by decide, fun _ => ⟨by omega, fun hne => l57 _ 0 0 (by decide) (by omega) rfl (Or.inr ⟨rfl, fun hk => hne hk.1⟩), fun heq => l57 _ 1 0 (by decide) (by omega) rfl (Or.inl ⟨rfl, Classical.byContradiction heq, fun j j0 j1 => by omega⟩)⟩, fun hn => absurd rfl hn⟩
        | succ q ih2 =>
          intro i d6 d7 i0 i1 hq
          have hi := h6 i i0 (by omega)
          refine k_X12_wordAt_18 _ _ _ _ _ _ _ _ _ _ ?_
          rw [c5 (kwS w + i) (by omega) (by omega)]
          exact ⟨by omega, by omega, fun he => by omega, fun _ => ih2 (i + 1) _ _ (by omega) (by omega) (by omega)⟩
      refine k_X12_wordAt_5 _ _ _ _ _ _ _ _ _ _ ?_
      exact ⟨by omega, fun hge => by omega, fun _ => l18 _ 0 _ _ (by decide) (by omega) rfl⟩
  refine e_X12_wordAt _ _ _ _ _ ?_
  exact l5 _ 0 _ _ _ (by decide) (by decide) rfl (fun u u0 u1 => by omega)
def kdR (k : Int) : Int := if k ≤ 9 then 1 else if k = 10 then 2 else if k = 11 then 3 else if k = 12 then 4 else if k = 13 then 0 else 5
/-- a number as far as it counts -/
def nbR (x y : Int) : Prop := (0 ≤ y ∧ y ≤ 999) ∧ ((0 ≤ x ∧ x ≤ 99 ∧ y = x) ∨ (99 < x ∧ 99 < y))
/-- token a is taken -/
def tkR (tp : Int → Int) (n a : Int) (M : aM) : Prop := M 86 10 = tS tp n a ∧ M 86 7 = nxF tp n (tS tp n a) ∧ M 86 8 = kdR (tK tp n a) ∧ (tK tp n a ≤ 9 → M 86 9 = tK tp n a) ∧ (tK tp n a = 10 → nmR (tV tp n a) (M 86 9)) ∧ (tK tp n a = 11 → nbR (tV tp n a) (M 86 9))
def frL (M N : aM) : Prop := ∀ b j, ¬ (b = 86 ∧ 7 ≤ j ∧ j ≤ 10) → N b j = M b j
theorem frL_tr {M N K : aM} (h1 : frL M N) (h2 : frL N K) : frL M K := fun b j a => (h2 b j a).trans (h1 b j a)
theorem frL_up {M : aM} {i v : Int} (h : 7 ≤ i ∧ i ≤ 10) : frL M (up_ M 86 i v) := fun b j c => by unfold up_; exact if_neg (by omega)
theorem frL.L {tp : Int → Int} {n : Int} {M N : aM} (h : frL M N) (hL : lxS tp n M) : lxS tp n N := hL.of (fun b j c => h b j (by omega))
theorem s_X12_take {M : aM} {W : aW} {Q : aM → aW → Prop} {tp : Int → Int} {n a p0 : Int} (hL : lxS tp n M) (hp : M 86 7 = p0) (q0 : 0 ≤ p0) (q1 : p0 ≤ n) (hs : tS tp n a = runT wsL tp n p0) (h : ∀ N, frL M N → tkR tp n a N → Q N W) : CallV 160 [vR 86] (M, W) Q := by
  have hn := hL.1
  have hrt := hL.2.1
  have hS : tS tp n a ≤ n ∧ p0 ≤ tS tp n a := by rw [hs]; exact ⟨runT_le q1, runT_ge q1⟩
  generalize hsv : tS tp n a = s at *
  have l90 : smL (tp s) = true → s < n → ∀ (m : Nat) (p : Int) (N : aM), s ≤ p → p ≤ n → (n - p).toNat = m → frL M N → N 86 10 = s → N 86 7 = p → runT smL tp n p = edW tp n s → (∀ i, s ≤ i → i < p → smL (tp i) = true) → Xs 160 (90, [some (some (vR 86))], [], (N, W)) (QV Q) := by
    intro hsm hsn m
    induction m using Nat.strongRecOn with
    | _ m ih =>
      intro p N p0' p1 hm fN e10 e7 hrun hall
      have hLN := fN.L hL
      refine k_X12_take_90 _ _ _ ?_
      rw [e7]
      refine s_X12_isSmall hLN (by omega) (by omega) (fun c1 c2 => ⟨by decide, fun y => absurd y (by decide), fun _ => ?_⟩) (fun c => ⟨by decide, fun _ => ?_, fun y => absurd rfl y⟩)
      · rw [e7]
        refine ih (n - (p + 1)).toNat (by omega) (p + 1) _ (by omega) (by omega) rfl (frL_tr fN (frL_up (by decide))) (by rw [up_j _ _ _ (by decide)]; exact e10) (up_s _ _ _ _) (by rw [← runT_yes c1 c2]; exact hrun) (fun i i0 i1 => ?_)
        by_cases e : i = p
        · rw [e]; exact c2
        · exact hall i i0 (by omega)
      · have ep : p = edW tp n s := by
          rcases c with c | c
          · rw [← hrun]; exact (runT_stop (by omega)).symm
          · rw [← hrun]; exact (runT_no c).symm
        rw [e10, e7]
        have hll : ∀ i : Int, 0 ≤ i → i < p - s → 97 ≤ tp (s + i) ∧ tp (s + i) ≤ 122 := fun i i0 i1 => (smL_iff _).mp (hall (s + i) (by omega) (by omega))
        have hkd : tK tp n a = if 6 < edW tp n s - s then 14 else kwF (cdW tp n s) := by
          unfold tK kdF
          rw [hsv, if_neg (by omega), if_pos hsm]
        have hvl : tV tp n a = cdW tp n s := by
          unfold tV vlF
          rw [hsv, if_neg (by omega), if_pos hsm]
        have hnx : nxF tp n s = p := by
          unfold nxF
          rw [if_neg (by omega), if_pos hsm]; exact ep.symm
        have hcw : cdW tp n s = cdF tp s (p - s).toNat := by unfold cdW; rw [← ep]
        have hkr : 0 ≤ kwF (cdW tp n s) ∧ kwF (cdW tp n s) ≤ 10 := kwL_rng _ 10 0 (by decide) (by decide)
        refine s_X12_wordAt hLN (by omega) p0' p1 hall ?_
        have hfin : ∀ (N' : aM), frL N N' → N' 86 10 = s → N' 86 7 = p → N' 86 8 = kdR (tK tp n a) → (tK tp n a ≤ 9 → N' 86 9 = tK tp n a) → (tK tp n a = 10 → nmR (tV tp n a) (N' 86 9)) → Q N' W := fun N' f1 f2 f3 f4 f5 f6 => h N' (frL_tr fN f1) ⟨by rw [hsv]; exact f2, by rw [hsv, hnx]; exact f3, f4, f5, f6, fun q => by
          rw [hkd] at q
          split at q
          · omega
          · omega⟩
        have u7 : ∀ (x y : Int), up_ (up_ N 86 9 x) 86 8 y 86 7 = p := fun x y => by rw [up_j _ _ _ (by decide), up_j _ _ _ (by decide)]; exact e7
        have u10 : ∀ (x y : Int), up_ (up_ N 86 9 x) 86 8 y 86 10 = s := fun x y => by rw [up_j _ _ _ (by decide), up_j _ _ _ (by decide)]; exact e10
        have v7 : ∀ (x : Int), up_ N 86 9 x 86 7 = p := fun x => by rw [up_j _ _ _ (by decide)]; exact e7
        have v10 : ∀ (x : Int), up_ N 86 9 x 86 10 = s := fun x => by rw [up_j _ _ _ (by decide)]; exact e10
        have fr2 : ∀ (x y : Int), frL N (up_ (up_ N 86 9 x) 86 8 y) := fun x y => frL_tr (frL_up (by decide)) (frL_up (by decide))
        rw [up_s, up_s, up_s, up_s, v7, v10]
        have hwd : wdR tp s p = if 6 < p - s then -1 else if kwF (cdW tp n s) = 10 then -1 else kwF (cdW tp n s) := by rw [hcw]; rfl
        rw [← ep] at hkd
        by_cases c6 : 6 < p - s
        · rw [if_pos c6] at hwd hkd
          rw [hwd]
          refine ⟨by decide, fun _ => ⟨by omega, fun hle => by omega, fun _ => ⟨by decide, fun _ => ?_, fun y => absurd (by decide) y⟩⟩, fun y => absurd (by decide) y⟩
          exact hfin _ (fr2 _ _) (u10 _ _) (u7 _ _) (by rw [up_s, hkd]; rfl) (fun q => by omega) (fun q => by omega)
        · rw [if_neg c6] at hwd hkd
          by_cases c10 : kwF (cdW tp n s) = 10
          · rw [if_pos c10] at hwd
            rw [c10] at hkd
            rw [hwd]
            refine ⟨by decide, fun _ => ⟨by omega, fun hle => ⟨by decide, fun y => absurd rfl y, fun _ => ?_⟩, fun hgt => by omega⟩, fun y => absurd (by decide) y⟩
            rw [u10, u7]
            refine s_X12_packed ((fr2 _ _).L hLN) (by omega) p0' (by omega) p1 hall ?_
            refine hfin _ (frL_tr (fr2 _ _) (frL_up (by decide))) (by rw [up_j _ _ _ (by decide)]; exact u10 _ _) (by rw [up_j _ _ _ (by decide)]; exact u7 _ _) (by rw [up_j _ _ _ (by decide), up_s, hkd]; rfl) (fun q => by omega) (fun _ => ?_)
            rw [up_s, hvl, hcw]
            exact ⟨tp, s, (p - s).toNat, by omega, fun i i0 i1 => hll i i0 (by omega), rfl, by rw [show (((p - s).toNat : Nat) : Int) = p - s by omega]⟩
          · rw [if_neg c10] at hwd
            rw [hwd]
            refine ⟨by omega, fun hneg => by omega, fun _ => ⟨by decide, fun _ => ?_, fun y => absurd (by decide) y⟩⟩
            exact hfin _ (fr2 _ _) (u10 _ _) (u7 _ _) (by rw [up_s, hkd]; unfold kdR; rw [if_pos (by omega)]) (fun q => by rw [up_j _ _ _ (by decide), up_s, hkd]) (fun q => by omega)
  have l212 : smL (tp s) = false → dgL (tp s) = true → s < n → ∀ (m : Nat) (p : Int) (N : aM), s ≤ p → p ≤ n → (n - p).toNat = m → frL M N → N 86 10 = s → N 86 7 = p → N 86 8 = 3 → nbR (nbF tp s (p - s).toNat) (N 86 9) → runT dgL tp n p = edD tp n s → Xs 160 (212, [some (some (vR 86))], [], (N, W)) (QV Q) := by
    intro hsm hdg hsn m
    induction m using Nat.strongRecOn with
    | _ m ih =>
      intro p N p0' p1 hm fN e10 e7 e8 e9 hrun
      have hLN := fN.L hL
      have e9r := e9.1
      refine k_X12_take_212 _ _ _ ?_
      rw [e7]
      refine s_X12_isDigit hLN (by omega) (by omega) (fun c1 c2 => ⟨by decide, fun y => absurd y (by decide), fun _ => ⟨by omega, fun hle => ?_, fun hgt => ?_⟩⟩) (fun c => ⟨by decide, fun _ => ?_, fun y => absurd rfl y⟩)
      · have hd := (dgL_iff _).mp c2
        have e87 : N 87 p = tp p := by rw [hLN.2.2.2.1 p (by omega) c1]; omega
        rw [e7, e87, up_j _ _ _ (show (7 : Int) ≠ 9 by decide), e7]
        refine ⟨by omega, ih (n - (p + 1)).toNat (by omega) (p + 1) _ (by omega) (by omega) rfl (frL_tr fN (frL_tr (frL_up (by decide)) (frL_up (by decide)))) (by rw [up_j _ _ _ (by decide), up_j _ _ _ (by decide)]; exact e10) (up_s _ _ _ _) (by rw [up_j _ _ _ (by decide), up_j _ _ _ (by decide)]; exact e8) ?_ (by rw [← runT_yes c1 c2]; exact hrun)⟩
        rw [up_j _ _ _ (by decide), up_s, show (p + 1 - s).toNat = (p - s).toNat + 1 by omega]
        have en : nbF tp s ((p - s).toNat + 1) = if nbF tp s (p - s).toNat < 1000 then nbF tp s (p - s).toNat * 10 + tp p - 48 else nbF tp s (p - s).toNat := by
          show (if nbF tp s (p - s).toNat < 1000 then nbF tp s (p - s).toNat * 10 + tp (s + ((p - s).toNat : Nat)) - 48 else nbF tp s (p - s).toNat) = _
          rw [show s + ((p - s).toNat : Nat) = p by omega]
        rw [en]
        have e92 := e9.2
        unfold nbR
        rw [if_pos (by omega)]
        omega
      · rw [up_j _ _ _ (show (7 : Int) ≠ 9 by decide), e7]
        have hd := (dgL_iff _).mp c2
        refine ih (n - (p + 1)).toNat (by omega) (p + 1) _ (by omega) (by omega) rfl (frL_tr fN (frL_tr (frL_up (by decide)) (frL_up (by decide)))) (by rw [up_j _ _ _ (by decide), up_j _ _ _ (by decide)]; exact e10) (up_s _ _ _ _) (by rw [up_j _ _ _ (by decide), up_j _ _ _ (by decide)]; exact e8) ?_ (by rw [← runT_yes c1 c2]; exact hrun)
        rw [up_j _ _ _ (by decide), up_s, show (p + 1 - s).toNat = (p - s).toNat + 1 by omega]
        have en : nbF tp s ((p - s).toNat + 1) = if nbF tp s (p - s).toNat < 1000 then nbF tp s (p - s).toNat * 10 + tp p - 48 else nbF tp s (p - s).toNat := by
          show (if nbF tp s (p - s).toNat < 1000 then nbF tp s (p - s).toNat * 10 + tp (s + ((p - s).toNat : Nat)) - 48 else nbF tp s (p - s).toNat) = _
          rw [show s + ((p - s).toNat : Nat) = p by omega]
        rw [en]
        have e92 := e9.2
        unfold nbR
        split <;> omega
      · have ep : p = edD tp n s := by
          rcases c with c | c
          · rw [← hrun]; exact (runT_stop (by omega)).symm
          · rw [← hrun]; exact (runT_no c).symm
        have hkd : tK tp n a = 11 := by
          unfold tK kdF
          rw [hsv, if_neg (by omega), if_neg (by rw [hsm]; decide), if_pos hdg]
        have hvl : tV tp n a = nbF tp s (p - s).toNat := by
          unfold tV vlF
          rw [hsv, if_neg (by omega), if_neg (by rw [hsm]; decide), if_pos hdg]
          unfold nbD; rw [← ep]
        have hnx : nxF tp n s = p := by
          unfold nxF
          rw [if_neg (by omega), if_neg (by rw [hsm]; decide), if_pos hdg]; exact ep.symm
        refine h N fN ⟨by rw [hsv]; exact e10, by rw [hsv, hnx]; exact e7, by rw [e8, hkd]; rfl, fun q => by omega, fun q => by omega, fun _ => by rw [hvl]; exact e9⟩
  have l0 : ∀ (m : Nat) (p : Int) (N : aM), 0 ≤ p → p ≤ n → (n - p).toNat = m → frL M N → N 86 7 = p → runT wsL tp n p = s → Xs 160 (0, [some (some (vR 86))], [], (N, W)) (QV Q) := by
    intro m
    induction m using Nat.strongRecOn with
    | _ m ih =>
      intro p N a0 a1 hm fN e7 hrun
      have hLN := fN.L hL
      have e6 : N 86 6 = n := hLN.2.2.1
      have w7 : up_ N 86 10 p 86 7 = p := by rw [up_j _ _ _ (by decide)]; exact e7
      have w6 : up_ N 86 10 p 86 6 = n := by rw [up_j _ _ _ (by decide)]; exact e6
      have w10 : up_ N 86 10 p 86 10 = p := up_s _ _ _ _
      have fr1 : frL N (up_ N 86 10 p) := frL_up (by decide)
      have hL1 := fr1.L hLN
      have stp : p < n → wsL (tp p) = false → s = p := fun c1 c2 => by rw [← hrun]; exact runT_no c2
      -- the token that begins at p
      have tok : p < n → wsL (tp p) = false → CallI 158 [vR 86, vI p] (up_ N 86 10 p, W) (fun r3 M1 W2 => inI r3 ∧ ((r3 = 0 → CallI 159 [vR 86, vI (M1 86 7)] (M1, W2) (fun r6 M4 W5 => inI r6 ∧ ((r6 = 0 → (0 ≤ M4 86 7 ∧ M4 86 7 < 600) ∧ inI (M4 87 (M4 86 7)) ∧ ((M4 87 (M4 86 7) ≠ 59 → Q (up_ (up_ M4 86 8 5) 86 7 ((up_ M4 86 8 5) 86 7 + 1)) W5) ∧ (¬ M4 87 (M4 86 7) ≠ 59 → Q (up_ (up_ M4 86 8 4) 86 7 ((up_ M4 86 8 4) 86 7 + 1)) W5))) ∧ (¬ r6 = 0 → Xs 160 (212, [some (some (vR 86))], [], (up_ (up_ M4 86 8 3) 86 9 0, W5)) (QV Q))))) ∧ (¬ r3 = 0 → Xs 160 (90, [some (some (vR 86))], [], (M1, W2)) (QV Q)))) := fun c1 c2 => by
        have es := stp c1 c2
        refine s_X12_isSmall hL1 a0 (by omega) (fun d1 d2 => ⟨by decide, fun y => absurd y (by decide), fun _ => ?_⟩) (fun d => ⟨by decide, fun _ => ?_, fun y => absurd rfl y⟩)
        · rw [← es] at d2
          refine l90 d2 (by omega) _ p _ (by omega) a1 rfl (frL_tr fN fr1) (by rw [w10]; exact es.symm) w7 (by rw [← es]; rfl) (fun i i0 i1 => by omega)
        · have d3 : smL (tp p) = false := by
            rcases d with d | d
            · omega
            · exact d
          rw [w7]
          refine s_X12_isDigit hL1 a0 (by omega) (fun g1 g2 => ⟨by decide, fun y => absurd y (by decide), fun _ => ?_⟩) (fun g => ⟨by decide, fun _ => ?_, fun y => absurd rfl y⟩)
          · rw [← es] at d3 g2
            refine l212 d3 g2 (by omega) _ p _ (by omega) a1 rfl (frL_tr fN (frL_tr fr1 (frL_tr (frL_up (by decide)) (frL_up (by decide))))) (by rw [up_j _ _ _ (by decide), up_j _ _ _ (by decide), w10]; exact es.symm) (by rw [up_j _ _ _ (by decide), up_j _ _ _ (by decide)]; exact w7) (by rw [up_j _ _ _ (by decide), up_s]) ?_ (by rw [← es]; rfl)
            rw [up_s, show (p - s).toNat = 0 by omega]
            have e0 : nbF tp s 0 = 0 := rfl
            rw [e0]
            exact ⟨by decide, Or.inl ⟨by decide, by decide, rfl⟩⟩
          · have g3 : dgL (tp p) = false := by
              rcases g with g | g
              · omega
              · exact g
            have hb := hrt p a0 c1
            rw [w7, hL1.2.2.2.1 p a0 c1]
            have u7 : ∀ y : Int, up_ (up_ N 86 10 p) 86 8 y 86 7 = p := fun y => by rw [up_j _ _ _ (by decide)]; exact w7
            rw [u7, u7]
            have hnx : nxF tp n p = p + 1 := by
              unfold nxF
              rw [if_neg (by omega), if_neg (by rw [d3]; decide), if_neg (by rw [g3]; decide)]
            have fin : ∀ y : Int, (tK tp n a = 12 ∨ tK tp n a = 14) → y = kdR (tK tp n a) → Q (up_ (up_ (up_ N 86 10 p) 86 8 y) 86 7 (p + 1)) W := fun y hk ey => h _ (frL_tr fN (frL_tr fr1 (frL_tr (frL_up (by decide)) (frL_up (by decide))))) ⟨by rw [up_j _ _ _ (by decide), up_j _ _ _ (by decide), w10, hsv]; exact es.symm, by rw [up_s, hsv, es, hnx], by rw [up_j _ _ _ (by decide), up_s]; exact ey, fun q => by omega, fun q => by omega, fun q => by omega⟩
            have hkd : tK tp n a = if tp p = 59 then 12 else 14 := by
              unfold tK kdF
              rw [hsv, es, if_neg (by omega), if_neg (by rw [d3]; decide), if_neg (by rw [g3]; decide)]
            refine ⟨by omega, by omega, fun hne => fin 5 (by rw [hkd, if_neg (by omega)]; exact Or.inr rfl) (by rw [hkd, if_neg (by omega)]; rfl), fun heq => fin 4 (by rw [hkd, if_pos (by omega)]; exact Or.inl rfl) (by rw [hkd, if_pos (by omega)]; rfl)⟩
      refine e_X12_take _ _ _ ?_
      rw [e7, e6, w7, w6]
      refine ⟨by omega, fun hge => ⟨by omega, fun hne => by omega, fun _ => ?_⟩, fun hlt => ?_⟩
      · have es : s = p := by rw [← hrun]; exact runT_stop (by omega)
        have hkd : tK tp n a = 13 := by
          unfold tK kdF
          rw [hsv, if_pos (by omega)]
        refine h _ (frL_tr fN (frL_tr fr1 (frL_up (by decide)))) ⟨by rw [up_j _ _ _ (by decide), w10, hsv]; exact es.symm, by
          rw [up_j _ _ _ (by decide), w7, hsv]
          unfold nxF; rw [if_pos (by omega)]; exact es.symm, by rw [up_s, hkd]; rfl, fun q => by omega, fun q => by omega, fun q => by omega⟩
      · have hb := hrt p a0 (by omega)
        rw [hLN.2.2.2.1 p a0 (by omega)]
        have stepw : wsL (tp p) = true → Xs 160 (0, [some (some (vR 86))], [], (up_ N 86 7 (p + 1), W)) (QV Q) := fun c => ih (n - (p + 1)).toNat (by omega) (p + 1) _ (by omega) (by omega) rfl (frL_tr fN (frL_up (by decide))) (up_s _ _ _ _) (by rw [← runT_yes (show p < n by omega) c]; exact hrun)
        refine ⟨by omega, by omega, fun h10 => stepw ((wsL_iff _).mpr (by omega)), fun h10 => ⟨by omega, by omega, fun h32 => ⟨by omega, fun _ => tok (by omega) (wsL_no (by omega)), fun y => absurd (show p ≠ n by omega) y⟩, fun h32 => stepw ((wsL_iff _).mpr (by omega))⟩⟩
  exact l0 _ p0 M q0 q1 rfl (fun _ _ _ => rfl) hp hs.symm
