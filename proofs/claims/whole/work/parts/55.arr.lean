/-! THE REFERENCE: what it is worth to come to know -/
abbrev V3 : Type := Option (Option Int)
def op3 (sm : Int) (a b : V3) : V3 := match a, b with
  | none, y => y
  | x, none => x
  | some none, _ => some none
  | _, some none => some none
  | some (some x), some (some y) => some (some (if sm = 0 then max_ x y else x + y))
theorem op3_n (sm : Int) (a : V3) : op3 sm a none = a := by rcases a with _ | _ | a <;> rfl
theorem op3_0 (sm : Int) (a : V3) : op3 sm none a = a := rfl
theorem op3_t (sm : Int) (a : V3) : op3 sm (some none) a = some none := by rcases a with _ | _ | a <;> rfl
theorem op3_t2 (sm : Int) (a : V3) : op3 sm a (some none) = some none := by rcases a with _ | _ | a <;> rfl
theorem op3_v (sm x y : Int) : op3 sm (some (some x)) (some (some y)) = some (some (if sm = 0 then max_ x y else x + y)) := rfl
theorem max_a (x y z : Int) : max_ (max_ x y) z = max_ x (max_ y z) := by
  unfold max_
  by_cases a : x < y <;> by_cases b : y < z <;> by_cases c : x < z <;> simp only [a, b, c, if_true, if_false] <;> (try split) <;> omega
theorem max_c (x y : Int) : max_ x y = max_ y x := by unfold max_; split <;> split <;> omega
theorem op3_c (sm : Int) (a b : V3) : op3 sm a b = op3 sm b a := by
  rcases a with _ | _ | a <;> rcases b with _ | _ | b <;> try rfl
  rw [op3_v, op3_v]
  split
  · rw [max_c]
  · rw [Int.add_comm]
theorem op3_a (sm : Int) (a b c : V3) : op3 sm (op3 sm a b) c = op3 sm a (op3 sm b c) := by
  rcases a with _ | _ | a <;> rcases b with _ | _ | b <;> rcases c with _ | _ | c <;> try rfl
  rw [op3_v, op3_v, op3_v, op3_v]
  split
  · rw [max_a]
  · rw [Int.add_assoc]
def fo3 (sm : Int) (e : Int → V3) : Nat → V3
  | 0 => none
  | n + 1 => op3 sm (fo3 sm e n) (e n)
theorem fo3_S (sm : Int) (e : Int → V3) (n : Nat) : fo3 sm e (n + 1) = op3 sm (fo3 sm e n) (e n) := rfl
theorem fo3_s (sm : Int) (e : Int → V3) {x : Int} (h : 0 ≤ x) : fo3 sm e (x + 1).toNat = op3 sm (fo3 sm e x.toNat) (e x) := by
  rw [show (x + 1).toNat = x.toNat + 1 by omega, fo3_S, show (x.toNat : Int) = x by omega]
theorem fo3_congr {sm : Int} {e f : Int → V3} : ∀ n : Nat, (∀ i : Int, 0 ≤ i → i < n → e i = f i) → fo3 sm e n = fo3 sm f n
  | 0, _ => rfl
  | n + 1, h => by rw [fo3_S, fo3_S, fo3_congr n (fun i a b => h i a (by omega)), h n (by omega) (by omega)]
theorem fo3_op {sm : Int} {e f : Int → V3} : ∀ n : Nat, fo3 sm (fun i => op3 sm (e i) (f i)) n = op3 sm (fo3 sm e n) (fo3 sm f n)
  | 0 => rfl
  | n + 1 => by
    rw [fo3_S, fo3_S, fo3_S, fo3_op n, op3_a, op3_a]
    congr 1
    rw [← op3_a, op3_c sm (fo3 sm f n) (e n), op3_a]
theorem fo3_dbl {sm : Int} {e : Int → V3} : ∀ n : Nat, fo3 sm e (n + n) = fo3 sm (fun i => op3 sm (e (2 * i)) (e (2 * i + 1))) n
  | 0 => rfl
  | n + 1 => by
    rw [show n + 1 + (n + 1) = n + n + 1 + 1 by omega, fo3_S, fo3_S, fo3_S, fo3_dbl n, op3_a]
    rw [show ((n + n : Nat) : Int) = 2 * (n : Int) by omega, show ((n + n + 1 : Nat) : Int) = 2 * (n : Int) + 1 by omega]
theorem fo3_top {sm : Int} {e : Int → V3} : ∀ {n m : Nat}, n ≤ m → fo3 sm e n = some none → fo3 sm e m = some none := by
  intro n m h
  induction h with
  | refl => exact fun q => q
  | step _ ih => intro q; rw [fo3_S, ih q, op3_t]
-- how many are missing below, what is known as the missing ones come out as s says
def msC (k r n : Int) : Int := cnt_ (fun i => decide (mis k r i)) n.toNat
theorem msC_0 (k r : Int) : msC k r 0 = 0 := rfl
theorem msC_s (k r : Int) {n : Int} (h : 0 ≤ n) : msC k r (n + 1) = msC k r n + (if mis k r n then 1 else 0) := by
  unfold msC
  rw [cnt_succ _ h]
  by_cases q : mis k r n
  · rw [if_pos q, if_pos (decide_eq_true q)]; omega
  · rw [if_neg q, if_neg (by rw [decide_eq_true_eq]; exact q)]; omega
theorem msC_rng (k r : Int) {n : Int} (h : 0 ≤ n) : 0 ≤ msC k r n ∧ msC k r n ≤ n := by
  unfold msC
  have := cnt_le (fun i => decide (mis k r i)) n.toNat
  omega
def cpN (k r s n : Int) : Int := ds (fun i => if i < n ∧ mis k r i then bt s (msC k r i) + 1 else dg k i)
def cp (k r s : Int) : Int := ds (fun i => if mis k r i then bt s (msC k r i) + 1 else dg k i)
theorem cp_f (k r s i : Int) : 0 ≤ (if mis k r i then bt s (msC k r i) + 1 else dg k i) ∧ (if mis k r i then bt s (msC k r i) + 1 else dg k i) < 3 := by
  have h1 := dg_rng k i; have h2 := bt_rng s (msC k r i)
  split <;> omega
theorem dg_cp {k r s i : Int} (i0 : 0 ≤ i) (i6 : i < 6) : dg (cp k r s) i = if mis k r i then bt s (msC k r i) + 1 else dg k i := dg_ds (fun i _ _ => cp_f k r s i) i0 i6
theorem cp_rng (k r s : Int) : 0 ≤ cp k r s ∧ cp k r s < 729 := ds_rng (fun i _ _ => cp_f k r s i)
theorem cp_lt {G : Lnd} (hw : WF G) {k r s : Int} (k0 : 0 ≤ k) (k1 : k < thr_ ((G 0 3))) (r0 : 0 ≤ r) (r1 : r < p2_ ((G 0 3))) : cp k r s < thr_ ((G 0 3)) := by
  have hN := hw.N; unfold wfN at hN
  have hr := cp_rng k r s
  refine lt_thr hr.1 hr.2 (by omega) (by omega) (fun i i0 i6 => ?_)
  rw [dg_cp (by omega) i6]
  have h1 := bt_hi r0 (show 0 ≤ (G 0 3) by omega) r1 (i := i) i0 i6
  rw [if_neg (fun q => by have := q.1; omega)]
  exact dg_hi k0 (by omega) k1 i0 i6
theorem cp_seen {G : Lnd} {k p s : Int} : seenOK G p (cp k ((G 5 p)) s) := fun i i0 i6 hb => by
  rw [dg_cp i0 i6]
  have h2 := bt_rng s (msC k ((G 5 p)) i)
  by_cases q : mis k ((G 5 p)) i
  · rw [if_pos q]; omega
  · rw [if_neg q]; exact fun e => q ⟨hb, e⟩
theorem cp_unk {G : Lnd} (hw : WF G) {k r s d : Int} (d0 : 0 ≤ d) (d1 : d < (G 0 3)) (hm : mis k r d) : unk G (cp k r s) < unk G k := by
  have hN := hw.N; unfold wfN at hN
  refine unk_lt d0 d1 (fun i i0 i1 h => ?_) hm.2 ?_
  · rw [dg_cp i0 (by omega)] at h
    have h2 := bt_rng s (msC k r i)
    by_cases q : mis k r i
    · rw [if_pos q] at h; omega
    · rw [if_neg q] at h; exact h
  · rw [dg_cp d0 (by omega), if_pos hm]
    have h2 := bt_rng s (msC k r d); omega
theorem cp_id {k r s : Int} (k0 : 0 ≤ k) (k1 : k < 729) (h : ∀ i, 0 ≤ i → i < 6 → ¬ mis k r i) : cp k r s = k := by
  have e : cp k r s = ds (dg k) := ds_ext (fun i i0 i6 => if_neg (h i i0 i6))
  rw [e]; exact ds_dg k0 k1
theorem bt_2 {s b m : Int} (s0 : 0 ≤ s) (b0 : b = 0 ∨ b = 1) (m0 : 0 ≤ m) (m5 : m < 6) : bt (2 * s + b) (m + 1) = bt s m := by
  unfold bt
  rcases six_ m0 m5 with rfl | rfl | rfl | rfl | rfl | rfl
  · rw [show p2_ (0 + 1) = 2 from rfl, show p2_ 0 = 1 from rfl]; omega
  · rw [show p2_ (1 + 1) = 4 from rfl, show p2_ 1 = 2 from rfl]; omega
  · rw [show p2_ (2 + 1) = 8 from rfl, show p2_ 2 = 4 from rfl]; omega
  · rw [show p2_ (3 + 1) = 16 from rfl, show p2_ 3 = 8 from rfl]; omega
  · rw [show p2_ (4 + 1) = 32 from rfl, show p2_ 4 = 16 from rfl]; omega
  · rw [show p2_ (5 + 1) = 64 from rfl, show p2_ 5 = 32 from rfl]; omega
theorem bt_20 {s b : Int} (b0 : b = 0 ∨ b = 1) : bt (2 * s + b) 0 = b := by
  unfold bt
  rw [show p2_ 0 = 1 from rfl]; omega
theorem mis_add {k r d v i : Int} (k0 : 0 ≤ k) (k1 : k < 729) (d0 : 0 ≤ d) (d6 : d < 6) (hd : dg k d = 0) (v0 : 1 ≤ v) (v1 : v < 3) (i0 : 0 ≤ i) (i6 : i < 6) : mis (k + v * thr_ d) r i ↔ (i ≠ d ∧ mis k r i) := by
  unfold mis
  rw [dg_add k0 k1 d0 d6 i0 i6 hd ⟨by omega, v1⟩]
  by_cases e : i = d
  · rw [if_pos e]; exact ⟨fun q => by omega, fun q => absurd e q.1⟩
  · rw [if_neg e]; exact ⟨fun q => ⟨e, q⟩, fun q => q.2⟩
theorem msC_no {k r n : Int} (n0 : 0 ≤ n) (h : ∀ i, 0 ≤ i → i < n → ¬ mis k r i) : msC k r n = 0 := by
  unfold msC
  rw [cnt_none _ (fun i a b => decide_eq_false (h i a (by omega)))]; rfl
theorem msC_add {k r d v : Int} (k0 : 0 ≤ k) (k1 : k < 729) (d0 : 0 ≤ d) (d6 : d < 6) (hd : mis k r d) (v0 : 1 ≤ v) (v1 : v < 3) (hf : ∀ i, 0 ≤ i → i < d → ¬ mis k r i) : ∀ n : Nat, d + 1 + n ≤ 6 → msC k r (d + 1 + n) = msC (k + v * thr_ d) r (d + 1 + n) + 1
  | 0, _ => by
    rw [show d + 1 + ((0 : Nat) : Int) = d + 1 by omega, msC_s _ _ d0, msC_s _ _ d0, msC_no d0 hf, msC_no d0 (fun i i0 i1 q => hf i i0 i1 ((mis_add k0 k1 d0 d6 hd.2 v0 v1 i0 (by omega)).mp q).2), if_pos hd, if_neg (fun q => ((mis_add k0 k1 d0 d6 hd.2 v0 v1 d0 d6).mp q).1 rfl)]
    omega
  | n + 1, hn => by
    have ih := msC_add k0 k1 d0 d6 hd v0 v1 hf n (by omega)
    rw [show d + 1 + ((n + 1 : Nat) : Int) = d + 1 + (n : Int) + 1 by omega, msC_s _ _ (by omega), msC_s _ _ (by omega), ih]
    have hm := mis_add (r := r) (i := d + 1 + (n : Int)) k0 k1 d0 d6 hd.2 v0 v1 (by omega) (by omega)
    by_cases q : mis k r (d + 1 + (n : Int))
    · rw [if_pos q, if_pos (hm.mpr ⟨by omega, q⟩)]
    · rw [if_neg q, if_neg (fun a => q (hm.mp a).2)]; omega
theorem cp_split {k r d s b : Int} (k0 : 0 ≤ k) (k1 : k < 729) (d0 : 0 ≤ d) (d6 : d < 6) (hd : mis k r d) (hf : ∀ i, 0 ≤ i → i < d → ¬ mis k r i) (s0 : 0 ≤ s) (hb : b = 0 ∨ b = 1) : cp k r (2 * s + b) = cp (k + (b + 1) * thr_ d) r s := by
  refine ds_ext (fun i i0 i6 => ?_)
  have hm := mis_add (r := r) (v := b + 1) k0 k1 d0 d6 hd.2 (by omega) (by omega) i0 i6
  have hg := dg_add k0 k1 d0 d6 i0 i6 hd.2 (v := b + 1) ⟨by omega, by omega⟩
  by_cases e : i = d
  · subst e
    rw [if_pos hd, if_neg (fun q => (hm.mp q).1 rfl), hg, if_pos rfl, msC_no i0 hf, bt_20 hb]
  · rw [if_neg e] at hg
    by_cases q : mis k r i
    · rw [if_pos q, if_pos (hm.mpr ⟨e, q⟩)]
      have hlt : d < i := by
        refine Classical.byContradiction (fun hno => hf i i0 (by omega) q)
      have hma := msC_add (v := b + 1) k0 k1 d0 d6 hd (by omega) (by omega) hf (i - d - 1).toNat (by omega)
      rw [show d + 1 + ((i - d - 1).toNat : Int) = i by omega] at hma
      have hmr := msC_rng (k + (b + 1) * thr_ d) r i0
      rw [hma, bt_2 s0 hb hmr.1 (by omega)]
    · rw [if_neg q, if_neg (fun a => q (hm.mp a).2), hg]
-- values
def upV (v : Int) : Int := if v < 1152921504606846976 then v else 4000000000000000000
/-- how great values are -/
def vB (G : Lnd) (lik : Int → Int) (v : Int → Int → Int) : Prop := ∀ k, 0 ≤ k → k < thr_ ((G 0 3)) → 0 < lik k → ∀ p, 0 ≤ p → p < (G 0 0) → -1000000000000000 ≤ v k p ∧ v k p ≤ 1152921504606846976 ∧ (v k p < 1152921504606846976 → v k p ≤ 100000000000000000)
theorem VV_B {G : Lnd} (hw : WF G) {sm : Int} {lik en : Int → Int} (hl : likO G lik) (he : enO G sm lik en) : vB G lik (VV G sm lik en) := by
  intro k k0 k1 hlk p p0 p1
  obtain ⟨h1, h2, h3⟩ := VV_rng hw hl he k k0 k1 hlk p p0 p1
  have ht := thrG hw
  have he2 : 0 ≤ eB sm ∧ eB sm ≤ 100000000000000 := by unfold eB; split <;> omega
  have hs2 : 0 ≤ sT sm lik k ∧ sT sm lik k ≤ 20000000000 := by
    have := (hl.1 k k0 k1)
    unfold sT; split <;> omega
  refine ⟨by omega, h2, fun hlt => ?_⟩
  have h4 := h3 hlt
  have h5 : (729 - k) * sT sm lik k ≤ 729 * 20000000000 := Int.le_trans (Int.mul_le_mul_of_nonneg_right (show 729 - k ≤ 729 by omega) hs2.1) (Int.mul_le_mul_of_nonneg_left hs2.2 (by decide))
  omega
def T3 (lik : Int → Int) (v : Int → Int → Int) (p k : Int) : V3 := if lik k ≤ 0 then none else if v k p < 1152921504606846976 then some (some (v k p)) else some none
def T3v (x : Int) : V3 := if x < 1152921504606846976 then some (some x) else some none
theorem op3_leV {G : Lnd} {sm k p d : Int} {lik : Int → Int} {v : Int → Int → Int} (hsm : sm = 0 ∨ sm = 1) (hl : likO G lik) (hB : vB G lik v) (k0 : 0 ≤ k) (k1 : k < thr_ ((G 0 3))) (hlk : 0 < lik k) (d0 : 0 ≤ d) (d1 : d < (G 0 3)) (hd : dg k d = 0) (h1 : 0 ≤ k + thr_ d ∧ k + thr_ d < thr_ ((G 0 3))) (h2 : 0 ≤ k + 2 * thr_ d ∧ k + 2 * thr_ d < thr_ ((G 0 3))) (p0 : 0 ≤ p) (p1 : p < (G 0 0)) : op3 sm (T3 lik v p (k + thr_ d)) (T3 lik v p (k + 2 * thr_ d)) = T3v (leV sm lik v k p d) := by
  have hs := hl.2 k d k0 k1 d0 d1 hd
  have l1 := (hl.1 _ h1.1 h1.2).1
  have l2 := (hl.1 _ h2.1 h2.2).1
  unfold leV T3 T3v
  by_cases q1 : lik (k + thr_ d) ≤ 0
  · rw [if_pos q1, if_pos q1, op3_0, if_neg (by omega)]
  · rw [if_neg q1, if_neg q1]
    have b1 := hB _ h1.1 h1.2 (by omega) p p0 p1
    by_cases q2 : lik (k + 2 * thr_ d) ≤ 0
    · rw [if_pos q2, if_pos q2, op3_n]
    · rw [if_neg q2, if_neg q2]
      have b2 := hB _ h2.1 h2.2 (by omega) p p0 p1
      by_cases q3 : v (k + thr_ d) p < 1152921504606846976
      · rw [if_pos q3, if_neg (show ¬ 1152921504606846976 ≤ v (k + thr_ d) p by omega)]
        by_cases q4 : v (k + 2 * thr_ d) p < 1152921504606846976
        · rw [if_pos q4, if_neg (show ¬ 1152921504606846976 ≤ v (k + 2 * thr_ d) p by omega), op3_v]
          have m1 : max_ (v (k + thr_ d) p) (v (k + 2 * thr_ d) p) < 1152921504606846976 := by unfold max_; split <;> omega
          by_cases q5 : sm = 0
          · rw [if_pos q5, if_pos m1]
          · rw [if_neg q5, if_pos (by omega)]
        · rw [if_neg q4, if_pos (show 1152921504606846976 ≤ v (k + 2 * thr_ d) p by omega), op3_t2, if_neg (by decide)]
      · rw [if_neg q3, if_pos (show 1152921504606846976 ≤ v (k + thr_ d) p by omega), op3_t, if_neg (by decide)]
theorem T3_v {lik : Int → Int} {v : Int → Int → Int} {p k : Int} (h : 0 < lik k) : T3 lik v p k = T3v (v k p) := by
  unfold T3 T3v; rw [if_neg (by omega)]
/-- a place's value where it isn't seen is that of coming to know -/
def vS (G : Lnd) (sm : Int) (lik : Int → Int) (v : Int → Int → Int) (p : Int) : Prop := ∀ k d, 0 ≤ k → k < thr_ ((G 0 3)) → 0 < lik k → 0 ≤ d → d < (G 0 3) → mis k ((G 5 p)) d → (∀ i, 0 ≤ i → i < d → ¬ mis k ((G 5 p)) i) → v k p = leV sm lik v k p d
theorem T3_cp {G : Lnd} (hw : WF G) {sm p : Int} {lik : Int → Int} {v : Int → Int → Int} (hsm : sm = 0 ∨ sm = 1) (hl : likO G lik) (hB : vB G lik v) (hS : vS G sm lik v p) (p0 : 0 ≤ p) (p1 : p < (G 0 0)) : ∀ (n : Nat) (k : Int), 0 ≤ k → k < thr_ ((G 0 3)) → msC k ((G 5 p)) 6 = n → fo3 sm (fun s => T3 lik v p (cp k ((G 5 p)) s)) (p2_ n).toNat = T3 lik v p k := by
  have hN := hw.N; unfold wfN at hN
  have ht := thrG hw
  have hSn := hw.S.1 p p0 (by omega)
  intro n; induction n with
  | zero =>
    intro k k0 k1 hm
    have hno : ∀ i, 0 ≤ i → i < 6 → ¬ mis k ((G 5 p)) i := fun i i0 i6 q => by
      have := cnt_pos (P := fun i => decide (mis k ((G 5 p)) i)) 6 i i0 (by omega) (decide_eq_true q)
      unfold msC at hm; rw [show (6 : Int).toNat = 6 from rfl] at hm; omega
    show op3 sm none (T3 lik v p (cp k ((G 5 p)) ((0 : Nat) : Int))) = _
    rw [op3_0, cp_id k0 (by omega) hno]
  | succ n ih =>
    intro k k0 k1 hm
    have hfm := fm_cs k ((G 5 p))
    rcases hfm with ⟨-, hno⟩ | ⟨f0, f6, fm, ff⟩
    · have := msC_no (show (0 : Int) ≤ 6 by decide) hno; omega
    · generalize fm_ k ((G 5 p)) = d at f0 f6 fm ff
      have d1 : d < (G 0 3) := by
        refine Classical.byContradiction (fun hno => ?_)
        have := bt_hi hSn.1 (show 0 ≤ (G 0 3) by omega) hSn.2 (i := d) (by omega) f6
        have := fm.1; omega
      have n5 : (n : Int) + 1 ≤ 6 := by have := (msC_rng k ((G 5 p)) (show (0 : Int) ≤ 6 by decide)).2; omega
      have b1 := dg_lt (v := 1) k0 (by omega) k1 f0 d1 fm.2 (by decide)
      have b2 := dg_lt (v := 2) k0 (by omega) k1 f0 d1 fm.2 (by decide)
      have c1 := msC_add (v := 1) k0 (by omega) f0 f6 fm (by decide) (by decide) ff (5 - d).toNat (by omega)
      have c2 := msC_add (v := 2) k0 (by omega) f0 f6 fm (by decide) (by decide) ff (5 - d).toNat (by omega)
      rw [show d + 1 + ((5 - d).toNat : Int) = 6 by omega] at c1 c2
      have i1 := ih _ b1.1 b1.2 (by omega)
      have i2 := ih _ b2.1 b2.2 (by omega)
      have h2 := p2_le (show (0 : Int) ≤ (n : Int) by omega) (show (n : Int) ≤ 6 by omega)
      rw [show ((n + 1 : Nat) : Int) = (n : Int) + 1 by omega, p2_S (by omega) (by omega), show (p2_ (n : Int) + p2_ (n : Int)).toNat = (p2_ (n : Int)).toNat + (p2_ (n : Int)).toNat by omega, fo3_dbl]
      rw [fo3_congr (f := fun s => op3 sm (T3 lik v p (cp (k + 1 * thr_ d) ((G 5 p)) s)) (T3 lik v p (cp (k + 2 * thr_ d) ((G 5 p)) s))) _ (fun i j0 j1 => by
        have q1 := cp_split (b := 0) (s := i) k0 (by omega) f0 f6 fm ff j0 (Or.inl rfl)
        have q2 := cp_split (b := 1) (s := i) k0 (by omega) f0 f6 fm ff j0 (Or.inr rfl)
        rw [show 2 * i + 0 = 2 * i by omega, show (0 : Int) + 1 = 1 by omega] at q1
        rw [show (1 : Int) + 1 = 2 by omega] at q2
        rw [q1, q2])]
      rw [fo3_op, i1, i2]
      rw [show k + 1 * thr_ d = k + thr_ d by omega] at b1 ⊢
      by_cases hlk : 0 < lik k
      · rw [op3_leV hsm hl hB k0 k1 hlk f0 d1 fm.2 b1 b2 p0 p1, T3_v hlk, hS k d k0 k1 hlk f0 d1 fm ff]
      · have hs := hl.2 k d k0 k1 f0 d1 fm.2
        have l1 := (hl.1 _ b1.1 b1.2).1
        have l2 := (hl.1 _ b2.1 b2.2).1
        unfold T3
        rw [if_pos (by omega), if_pos (by omega), if_pos (by omega)]; rfl
/-- what is summed up so far -/
def ac3 (sm : Int) (t : V3) (x : Int) : Prop := (t = none ∧ x = if sm = 0 then -4000000000000000000 else 0) ∨ t = some (some x)
def tvP (sl : Int) (lik : Int → Int) (v : Int → Int → Int) (p k : Int) (M : aM) : Prop := 0 < lik k → M 105 (7290 * sl + 10 * k + p) = upV (v k p)
theorem upV_T {v : Int} : (v < 1152921504606846976 ∧ upV v = v ∧ T3v v = some (some v)) ∨ (1152921504606846976 ≤ v ∧ upV v = 4000000000000000000 ∧ T3v v = some none) := by
  unfold upV T3v
  by_cases h : v < 1152921504606846976
  · exact Or.inl ⟨h, if_pos h, if_pos h⟩
  · exact Or.inr ⟨by omega, if_neg h, if_neg h⟩
theorem ac3_go {sm x y : Int} {t : V3} (hsm : sm = 0 ∨ sm = 1) (h : ac3 sm t x) (hy : -1000000000000000 ≤ y) : (sm = 0 → (y ≤ x → ac3 sm (op3 sm t (some (some y))) x) ∧ (¬ y ≤ x → ac3 sm (op3 sm t (some (some y))) y)) ∧ (sm ≠ 0 → ac3 sm (op3 sm t (some (some y))) (x + y)) := by
  unfold ac3 at h ⊢
  rcases h with ⟨h, hx⟩ | h
  · subst h; rw [op3_0]
    refine ⟨fun q => ?_, fun q => ?_⟩
    · rw [if_pos q] at hx
      exact ⟨fun a => by omega, fun a => Or.inr rfl⟩
    · rw [if_neg q] at hx
      exact Or.inr (by rw [hx, Int.zero_add])
  · subst h; rw [op3_v]
    refine ⟨fun q => ?_, fun q => ?_⟩
    · rw [if_pos q]
      refine ⟨fun a => Or.inr ?_, fun a => Or.inr ?_⟩
      · unfold max_; rw [if_neg (by omega)]
      · unfold max_; rw [if_pos (by omega)]
    · rw [if_neg q]; exact Or.inr rfl
theorem s_X12_arrives {M : aM} {W : aW} {Q : Int → aM → aW → Prop} {G : Lnd} {sl sm p k : Int} {lik : Int → Int} {v : Int → Int → Int} (hG : rfG G M) (sl0 : 0 ≤ sl) (sl1 : sl < 4) (hsm : sm = 0 ∨ sm = 1) (hl : likO G lik) (hml : ∀ k, 0 ≤ k → k < thr_ ((G 0 3)) → M 103 k = lik k) (hB : vB G lik v) (hS : vS G sm lik v p) (p0 : 0 ≤ p) (p1 : p < (G 0 0)) (k0 : 0 ≤ k) (k1 : k < thr_ ((G 0 3))) (hlk : 0 < lik k) (hT : ∀ s, 0 ≤ s → tvP sl lik v p (cp k ((G 5 p)) s) M) (h : Q (upV (v k p)) M W) : CallL 208 [vR 86, vI sl, vI sm, vI p, vI k] (M, W) Q := by
  have hn := hG.n
  have ht := hG.t
  have hw := hG.W
  have hSn := hw.S.1 p p0 (by omega)
  have hm6 : msC k ((G 5 p)) ((G 0 3)) = msC k ((G 5 p)) 6 := by
    have e : ∀ m : Nat, (G 0 3) + m ≤ 6 → msC k ((G 5 p)) ((G 0 3) + m) = msC k ((G 5 p)) ((G 0 3)) := by
      intro m; induction m with
      | zero => intro _; rw [show (G 0 3) + ((0 : Nat) : Int) = (G 0 3) by omega]
      | succ m ih =>
        intro hm
        rw [show (G 0 3) + ((m + 1 : Nat) : Int) = (G 0 3) + (m : Int) + 1 by omega, msC_s _ _ (by omega), ih (by omega), if_neg (fun q => by
          have := bt_hi hSn.1 (show 0 ≤ (G 0 3) by omega) hSn.2 (i := (G 0 3) + (m : Int)) (by omega) (by omega)
          have := q.1; omega)]
        omega
    have := e (6 - (G 0 3)).toNat (by omega)
    rw [show (G 0 3) + ((6 - (G 0 3)).toNat : Int) = 6 by omega] at this
    exact this.symm
  have hmr := msC_rng k ((G 5 p)) (show (0 : Int) ≤ 6 by decide)
  have hall := T3_cp hw hsm hl hB hS p0 p1 (msC k ((G 5 p)) 6).toNat k k0 k1 (by omega)
  rw [show ((msC k ((G 5 p)) 6).toNat : Int) = msC k ((G 5 p)) 6 by omega, T3_v hlk] at hall
  have h2 := p2_le hmr.1 hmr.2
  have l73 : ∀ (n : Nat) (x6 x8 : Int) (d9 d10 d11 d12 : aL), 0 ≤ x8 → x8 ≤ p2_ (msC k ((G 5 p)) 6) → (p2_ (msC k ((G 5 p)) 6) - x8).toNat = n → ac3 sm (fo3 sm (fun s => T3 lik v p (cp k ((G 5 p)) s)) x8.toNat) x6 → (sm = 0 → inL x6) → Xs 208 (73, [some (some (vR 86)), some (some (vI sl)), some (some (vI sm)), some (some (vI p)), some (some (vI k)), some (some (vI (msC k ((G 5 p)) 6))), some (some (vL x6)), some none, some (some (vI x8)), d9, d10, d11, d12], [], (M, W)) (QL Q) := by
    intro n; induction n using Nat.strongRecOn with
    | _ n ih =>
      intro x6 x8 d9 d10 d11 d12 h0 h1 hn2 hac hix
      refine k_X12_arrives_73 _ _ _ _ _ _ _ _ _ _ _ _ _ _ ?_
      rw [shl_e hmr.1 hmr.2]
      refine ⟨by omega, fun hge => ?_, fun hlt => ?_⟩
      · have e : x8 = p2_ (msC k ((G 5 p)) 6) := by omega
        rw [e, hall] at hac
        rcases upV_T (v := v k p) with ⟨q1, q2, q3⟩ | ⟨q1, q2, q3⟩
        · rw [q3] at hac
          rcases hac with ⟨c, -⟩ | c
          · cases c
          · have e2 : v k p = x6 := by injection c with c; injection c
            rw [q2, e2] at h; exact h
        · rw [q3] at hac
          rcases hac with ⟨c, -⟩ | c
          · cases c
          · injection c with c; cases c
      · have l92 : ∀ (m : Nat) (x9 x10 x11 : Int) (d12 : aL), 0 ≤ x11 → x11 ≤ (G 0 3) → ((G 0 3) - x11).toNat = m → x9 = cpN k ((G 5 p)) x8 x11 → x10 = msC k ((G 5 p)) x11 → Xs 208 (92, [some (some (vR 86)), some (some (vI sl)), some (some (vI sm)), some (some (vI p)), some (some (vI k)), some (some (vI (msC k ((G 5 p)) 6))), some (some (vL x6)), some none, some (some (vI x8)), some (some (vI x9)), some (some (vI x10)), some (some (vI x11)), d12], [], (M, W)) (QL Q) := by
          intro m; induction m using Nat.strongRecOn with
          | _ m ih2 =>
            intro x9 x10 x11 d12 j0 j1 hm hx9 hx10
            refine k_X12_arrives_92 _ _ _ _ _ _ _ _ _ _ _ _ _ _ ?_
            refine s_X12_doubts hG ⟨by omega, fun hge => ?_, fun hlt2 => ?_⟩
            · have e9 : x9 = cp k ((G 5 p)) x8 := by
                rw [hx9]
                refine ds_ext (fun i i0 i6 => ?_)
                by_cases q : mis k ((G 5 p)) i
                · have : i < x11 := by
                    refine Classical.byContradiction (fun hno => ?_)
                    have := bt_hi hSn.1 (show 0 ≤ (G 0 3) by omega) hSn.2 (i := i) (by omega) i6
                    have := q.1; omega
                  rw [if_pos ⟨this, q⟩, if_pos q]
                · rw [if_neg (fun a => q a.2), if_neg q]
              have hc := cp_rng k ((G 5 p)) x8
              have hc2 := cp_lt hw (s := x8) k0 k1 hSn.1 hSn.2
              have hTs := hT x8 h0
              have hll := hl.1 _ hc.1 hc2
              have hfs := fo3_s sm (fun s => T3 lik v p (cp k ((G 5 p)) s)) h0
              have nxt : ∀ (y : Int) (d9 d10 d11 d12 : aL), ac3 sm (fo3 sm (fun s => T3 lik v p (cp k ((G 5 p)) s)) (x8 + 1).toNat) y → (sm = 0 → inL y) → Xs 208 (73, [some (some (vR 86)), some (some (vI sl)), some (some (vI sm)), some (some (vI p)), some (some (vI k)), some (some (vI (msC k ((G 5 p)) 6))), some (some (vL y)), some none, some (some (vI (x8 + 1))), d9, d10, d11, d12], [], (M, W)) (QL Q) := fun y d9 d10 d11 d12 hy hy2 => ih (p2_ (msC k ((G 5 p)) 6) - (x8 + 1)).toNat (by omega) y (x8 + 1) _ _ _ _ (by omega) (by omega) rfl hy hy2
              rw [e9, hml _ hc.1 hc2]
              refine ⟨by omega, by omega, fun q => ⟨by omega, fun v4 e4 => ?_⟩, fun q => nxt _ _ _ _ _ ?_ hix⟩
              · have hlp : 0 < lik (cp k ((G 5 p)) x8) := by omega
                have hb := hB _ hc.1 hc2 hlp p p0 p1
                rw [hTs hlp] at e4
                have hfs' : fo3 sm (fun s => T3 lik v p (cp k ((G 5 p)) s)) (x8 + 1).toNat = op3 sm (fo3 sm (fun s => T3 lik v p (cp k ((G 5 p)) s)) x8.toNat) (T3v (v (cp k ((G 5 p)) x8) p)) := by
                  rw [hfs, T3_v hlp]
                rcases upV_T (v := v (cp k ((G 5 p)) x8) p) with ⟨q1, q2, q3⟩ | ⟨q1, q2, q3⟩
                · rw [q2] at e4
                  rw [q3, ← e4] at hfs'
                  have hg := ac3_go hsm hac (y := v4) (by omega)
                  rw [← hfs'] at hg
                  refine ⟨by omega, fun _ => ⟨by omega, fun z => ⟨⟨by omega, hix z⟩, fun y => nxt _ _ _ _ _ ((hg.1 z).1 y) hix, fun y => nxt _ _ _ _ _ ((hg.1 z).2 y) (fun _ => by omega)⟩, fun z => nxt _ _ _ _ _ (hg.2 z) (fun y => absurd y z)⟩, fun y => by omega⟩
                · rw [q2] at e4
                  rw [q3, op3_t2] at hfs'
                  have := fo3_top (show (x8 + 1).toNat ≤ (p2_ (msC k ((G 5 p)) 6)).toNat by omega) hfs'
                  rw [hall] at this
                  rcases upV_T (v := v k p) with ⟨r1, r2, r3⟩ | ⟨r1, r2, r3⟩
                  · rw [r3] at this; injection this with this; cases this
                  · rw [r2] at h
                    exact ⟨by omega, fun y => by omega, fun _ => h⟩
              · rw [hfs]
                have e : T3 lik v p (cp k ((G 5 p)) x8) = none := if_pos (by omega)
                rw [e, op3_n]; exact hac
            · have hb := bt_rng ((G 5 p)) x11
              have hms := msC_s k ((G 5 p)) j0
              have hmr2 := msC_rng k ((G 5 p)) j0
              have hb8 := bt_rng x8 (msC k ((G 5 p)) x11)
              have skip : ¬ mis k ((G 5 p)) x11 → ∀ d12 : aL, Xs 208 (92, [some (some (vR 86)), some (some (vI sl)), some (some (vI sm)), some (some (vI p)), some (some (vI k)), some (some (vI (msC k ((G 5 p)) 6))), some (some (vL x6)), some none, some (some (vI x8)), some (some (vI x9)), some (some (vI x10)), some (some (vI (x11 + 1))), d12], [], (M, W)) (QL Q) := by
                intro hq d12
                rw [if_neg hq] at hms
                refine ih2 ((G 0 3) - (x11 + 1)).toNat (by omega) _ _ (x11 + 1) _ (by omega) (by omega) rfl ?_ (by omega)
                rw [hx9]
                refine ds_ext (fun i i0 i6 => ?_)
                by_cases y : i < x11 ∧ mis k ((G 5 p)) i
                · rw [if_pos y, if_pos ⟨by omega, y.2⟩]
                · rw [if_neg y, if_neg (fun a => y ⟨by
                    have : i ≠ x11 := fun e => hq (e ▸ a.2)
                    omega, a.2⟩)]
              rw [hG.s97 p0 (by omega), bit_e hSn.1 (by omega) j0 (by omega)]
              refine ⟨by omega, by omega, fun z => skip (fun q => by have := q.1; omega) _, fun z => s_X12_digit hG.D3 k0 (by omega) j0 (by omega) ⟨by have := dg_rng k x11; omega, fun y => ⟨by omega, fun v8 e8 => ?_⟩, fun y => skip (fun q => y q.2) _⟩⟩
              have hq : mis k ((G 5 p)) x11 := ⟨by omega, y⟩
              rw [if_pos hq] at hms
              rw [hx10, bit_e h0 (by omega) hmr2.1 (by omega), hG.D3 x11 j0 (by omega)] at e8
              refine ih2 ((G 0 3) - (x11 + 1)).toNat (by omega) _ _ (x11 + 1) _ (by omega) (by omega) rfl ?_ (by omega)
              rw [e8, hx9]
              refine (ds_add j0 (by omega) (fun i i0 i6 => ?_)).symm
              by_cases e : i = x11
              · subst e; rw [if_pos rfl, if_pos ⟨by omega, hq⟩, if_neg (fun a => by omega), y]; omega
              · rw [if_neg e]
                by_cases a : i < x11 ∧ mis k ((G 5 p)) i
                · rw [if_pos a, if_pos ⟨by omega, a.2⟩]
                · rw [if_neg a, if_neg (fun b => a ⟨by omega, b.2⟩)]
        refine l92 _ k 0 0 _ (by decide) (by omega) rfl ?_ rfl
        have e : cpN k ((G 5 p)) x8 0 = ds (dg k) := ds_ext (fun i i0 i6 => if_neg (fun a => by omega))
        rw [e, ds_dg k0 (by omega)]
  have l6 : ∀ (n : Nat) (x5 x6 : Int) (d7 d8 d9 d10 d11 d12 : aL), 0 ≤ x6 → x6 ≤ (G 0 3) → ((G 0 3) - x6).toNat = n → x5 = msC k ((G 5 p)) x6 → Xs 208 (6, [some (some (vR 86)), some (some (vI sl)), some (some (vI sm)), some (some (vI p)), some (some (vI k)), some (some (vI x5)), some (some (vI x6)), d7, d8, d9, d10, d11, d12], [], (M, W)) (QL Q) := by
    intro n; induction n using Nat.strongRecOn with
    | _ n ih =>
      intro x5 x6 d7 d8 d9 d10 d11 d12 h0 h1 hn2 hx
      have hms := msC_s k ((G 5 p)) h0
      refine k_X12_arrives_6 _ _ _ _ _ _ _ _ _ _ _ _ _ _ _ ?_
      refine s_X12_doubts hG ⟨by omega, fun hge => ?_, fun hlt => ?_⟩
      · have e : x5 = msC k ((G 5 p)) 6 := by
          rw [hx, show x6 = (G 0 3) by omega]; exact hm6
        rw [e]
        refine ⟨by omega, fun q => ?_, fun q => ?_⟩
        · exact l73 _ _ 0 _ _ _ _ (by decide) (by omega) rfl (Or.inl ⟨rfl, by rw [if_pos q]⟩) (fun _ => by decide)
        · exact l73 _ _ 0 _ _ _ _ (by decide) (by omega) rfl (Or.inl ⟨rfl, by rw [if_neg q]⟩) (fun y => absurd y q)
      · rw [hG.s97 p0 (by omega), bit_e hSn.1 (by omega) h0 (by omega)]
        have hb := bt_rng ((G 5 p)) x6
        have nxt : ∀ y, y = msC k ((G 5 p)) (x6 + 1) → Xs 208 (6, [some (some (vR 86)), some (some (vI sl)), some (some (vI sm)), some (some (vI p)), some (some (vI k)), some (some (vI y)), some (some (vI (x6 + 1))), d7, d8, d9, d10, d11, d12], [], (M, W)) (QL Q) := fun y hy => ih ((G 0 3) - (x6 + 1)).toNat (by omega) y (x6 + 1) _ _ _ _ _ _ (by omega) (by omega) rfl hy
        refine ⟨by omega, by omega, fun q v hv => nxt v ?_, fun q => s_X12_digit hG.D3 k0 (by omega) h0 (by omega) ⟨by have := dg_rng k x6; omega, fun y v hv => nxt v ?_, fun y v hv => nxt v ?_⟩⟩
        · rw [hv, hx, hms, if_neg (fun a => q a.1)]
        · rw [hv, hx, hms, if_neg (fun a => y a.2)]
        · rw [hv, hx, hms, if_pos ⟨by omega, by omega⟩]
  refine e_X12_arrives _ _ _ _ _ _ _ ?_
  exact l6 _ 0 0 _ _ _ _ _ _ (by decide) (by omega) rfl (msC_0 _ _).symm
