/-! NUMBERS: digits by three, bits, sums of six -/
def p2_ (i : Int) : Int := if i = 0 then 1 else if i = 1 then 2 else if i = 2 then 4 else if i = 3 then 8 else if i = 4 then 16 else if i = 5 then 32 else 64
def dg (k i : Int) : Int := k / thr_ i % 3
def bt (w i : Int) : Int := w / p2_ i % 2
theorem six_ {i : Int} (h0 : 0 ≤ i) (h1 : i < 6) : i = 0 ∨ i = 1 ∨ i = 2 ∨ i = 3 ∨ i = 4 ∨ i = 5 := by omega
theorem svn_ {i : Int} (h0 : 0 ≤ i) (h1 : i ≤ 6) : i = 0 ∨ i = 1 ∨ i = 2 ∨ i = 3 ∨ i = 4 ∨ i = 5 ∨ i = 6 := by omega
theorem dg_rng (k i : Int) : 0 ≤ dg k i ∧ dg k i < 3 := by unfold dg; omega
theorem dg_cs (k i : Int) : dg k i = 0 ∨ dg k i = 1 ∨ dg k i = 2 := by have := dg_rng k i; omega
theorem bt_rng (k i : Int) : 0 ≤ bt k i ∧ bt k i < 2 := by unfold bt; omega
theorem bt_cs (k i : Int) : bt k i = 0 ∨ bt k i = 1 := by have := bt_rng k i; omega
def bs (f : Int → Int) : Int := f 0 + 2 * f 1 + 4 * f 2 + 8 * f 3 + 16 * f 4 + 32 * f 5
def ds (f : Int → Int) : Int := f 0 + 3 * f 1 + 9 * f 2 + 27 * f 3 + 81 * f 4 + 243 * f 5
theorem bs_rng {f : Int → Int} (h : ∀ i, 0 ≤ i → i < 6 → f i = 0 ∨ f i = 1) : 0 ≤ bs f ∧ bs f < 64 := by
  have h0 := h 0 (by decide) (by decide); have h1 := h 1 (by decide) (by decide); have h2 := h 2 (by decide) (by decide)
  have h3 := h 3 (by decide) (by decide); have h4 := h 4 (by decide) (by decide); have h5 := h 5 (by decide) (by decide)
  unfold bs; omega
theorem bt_bs {f : Int → Int} (h : ∀ i, 0 ≤ i → i < 6 → f i = 0 ∨ f i = 1) {i : Int} (i0 : 0 ≤ i) (i6 : i < 6) : bt (bs f) i = f i := by
  have h0 := h 0 (by decide) (by decide); have h1 := h 1 (by decide) (by decide); have h2 := h 2 (by decide) (by decide)
  have h3 := h 3 (by decide) (by decide); have h4 := h 4 (by decide) (by decide); have h5 := h 5 (by decide) (by decide)
  rcases six_ i0 i6 with rfl | rfl | rfl | rfl | rfl | rfl <;> simp only [bt, bs, p2_, ite_true, Int.reduceEq, ite_false] <;> omega
theorem ds_rng {f : Int → Int} (h : ∀ i, 0 ≤ i → i < 6 → 0 ≤ f i ∧ f i < 3) : 0 ≤ ds f ∧ ds f < 729 := by
  have h0 := h 0 (by decide) (by decide); have h1 := h 1 (by decide) (by decide); have h2 := h 2 (by decide) (by decide)
  have h3 := h 3 (by decide) (by decide); have h4 := h 4 (by decide) (by decide); have h5 := h 5 (by decide) (by decide)
  unfold ds; omega
theorem dg_ds {f : Int → Int} (h : ∀ i, 0 ≤ i → i < 6 → 0 ≤ f i ∧ f i < 3) {i : Int} (i0 : 0 ≤ i) (i6 : i < 6) : dg (ds f) i = f i := by
  have h0 := h 0 (by decide) (by decide); have h1 := h 1 (by decide) (by decide); have h2 := h 2 (by decide) (by decide)
  have h3 := h 3 (by decide) (by decide); have h4 := h 4 (by decide) (by decide); have h5 := h 5 (by decide) (by decide)
  rcases six_ i0 i6 with rfl | rfl | rfl | rfl | rfl | rfl <;> simp only [dg, ds, thr_, ite_true, Int.reduceEq, ite_false] <;> omega
theorem bs_bt {w : Int} (h0 : 0 ≤ w) (h1 : w < 64) : bs (bt w) = w := by
  simp only [bt, bs, p2_, ite_true, Int.reduceEq, ite_false]; omega
theorem ds_dg {k : Int} (h0 : 0 ≤ k) (h1 : k < 729) : ds (dg k) = k := by
  simp only [dg, ds, thr_, ite_true, Int.reduceEq, ite_false]; omega
theorem bs_ext {f g : Int → Int} (h : ∀ i, 0 ≤ i → i < 6 → f i = g i) : bs f = bs g := by
  unfold bs; rw [h 0, h 1, h 2, h 3, h 4, h 5] <;> decide
theorem ds_ext {f g : Int → Int} (h : ∀ i, 0 ≤ i → i < 6 → f i = g i) : ds f = ds g := by
  unfold ds; rw [h 0, h 1, h 2, h 3, h 4, h 5] <;> decide
theorem dg_ext {k l : Int} (k0 : 0 ≤ k) (k1 : k < 729) (l0 : 0 ≤ l) (l1 : l < 729) (h : ∀ i, 0 ≤ i → i < 6 → dg k i = dg l i) : k = l := by
  rw [← ds_dg k0 k1, ← ds_dg l0 l1]; exact ds_ext h
theorem bt_ext {k l : Int} (k0 : 0 ≤ k) (k1 : k < 64) (l0 : 0 ≤ l) (l1 : l < 64) (h : ∀ i, 0 ≤ i → i < 6 → bt k i = bt l i) : k = l := by
  rw [← bs_bt k0 k1, ← bs_bt l0 l1]; exact bs_ext h
theorem dg_add {k v i j : Int} (k0 : 0 ≤ k) (k1 : k < 729) (i0 : 0 ≤ i) (i6 : i < 6) (j0 : 0 ≤ j) (j6 : j < 6) (h : dg k i = 0) (hv : 0 ≤ v ∧ v < 3) : dg (k + v * thr_ i) j = if j = i then v else dg k j := by
  rcases six_ i0 i6 with rfl | rfl | rfl | rfl | rfl | rfl <;> rcases six_ j0 j6 with rfl | rfl | rfl | rfl | rfl | rfl <;> simp only [dg, thr_, ite_true, Int.reduceEq, ite_false] at h ⊢ <;> omega
theorem dg_lt {k v i d : Int} (k0 : 0 ≤ k) (hd : d ≤ 6) (k1 : k < thr_ d) (i0 : 0 ≤ i) (i6 : i < d) (h : dg k i = 0) (hv : 0 ≤ v ∧ v < 3) : 0 ≤ k + v * thr_ i ∧ k + v * thr_ i < thr_ d := by
  have hd0 : 0 ≤ d := by omega
  rcases svn_ hd0 hd with rfl | rfl | rfl | rfl | rfl | rfl | rfl <;> rcases six_ i0 (by omega) with rfl | rfl | rfl | rfl | rfl | rfl <;> (try omega) <;> simp only [dg, thr_, ite_true, Int.reduceEq, ite_false] at h k1 ⊢ <;> omega
theorem dg_hi {k i d : Int} (k0 : 0 ≤ k) (d0 : 0 ≤ d) (k1 : k < thr_ d) (i0 : d ≤ i) (i6 : i < 6) : dg k i = 0 := by
  rcases six_ (by omega) i6 with rfl | rfl | rfl | rfl | rfl | rfl <;> rcases svn_ d0 (by omega) with rfl | rfl | rfl | rfl | rfl | rfl | rfl <;> (try omega) <;> simp only [dg, thr_, ite_true, Int.reduceEq, ite_false] at k1 ⊢ <;> omega
theorem lt_thr {k d : Int} (k0 : 0 ≤ k) (k7 : k < 729) (d0 : 0 ≤ d) (d6 : d ≤ 6) (h : ∀ i, d ≤ i → i < 6 → dg k i = 0) : k < thr_ d := by
  have h0 := h 0; have h1 := h 1; have h2 := h 2; have h3 := h 3; have h4 := h 4; have h5 := h 5
  rcases svn_ d0 d6 with rfl | rfl | rfl | rfl | rfl | rfl | rfl <;> simp only [dg, thr_, ite_true, Int.reduceEq, ite_false, Int.reduceLE, Int.reduceLT, true_implies, false_implies] at h0 h1 h2 h3 h4 h5 ⊢ <;> omega
theorem lt_p2 {k d : Int} (k0 : 0 ≤ k) (k7 : k < 64) (d0 : 0 ≤ d) (d6 : d ≤ 6) (h : ∀ i, d ≤ i → i < 6 → bt k i = 0) : k < p2_ d := by
  have h0 := h 0; have h1 := h 1; have h2 := h 2; have h3 := h 3; have h4 := h 4; have h5 := h 5
  rcases svn_ d0 d6 with rfl | rfl | rfl | rfl | rfl | rfl | rfl <;> simp only [bt, p2_, ite_true, Int.reduceEq, ite_false, Int.reduceLE, Int.reduceLT, true_implies, false_implies] at h0 h1 h2 h3 h4 h5 ⊢ <;> omega
theorem bt_hi {k i d : Int} (k0 : 0 ≤ k) (d0 : 0 ≤ d) (k1 : k < p2_ d) (i0 : d ≤ i) (i6 : i < 6) : bt k i = 0 := by
  rcases six_ (by omega) i6 with rfl | rfl | rfl | rfl | rfl | rfl <;> rcases svn_ d0 (by omega) with rfl | rfl | rfl | rfl | rfl | rfl | rfl <;> (try omega) <;> simp only [bt, p2_, ite_true, Int.reduceEq, ite_false] at k1 ⊢ <;> omega
theorem thr_le {d : Int} (d0 : 0 ≤ d) (d6 : d ≤ 6) : 1 ≤ thr_ d ∧ thr_ d ≤ 729 := by
  rcases svn_ d0 d6 with rfl | rfl | rfl | rfl | rfl | rfl | rfl <;> decide
theorem p2_le {d : Int} (d0 : 0 ≤ d) (d6 : d ≤ 6) : 1 ≤ p2_ d ∧ p2_ d ≤ 64 := by
  rcases svn_ d0 d6 with rfl | rfl | rfl | rfl | rfl | rfl | rfl <;> decide
theorem thr_mono {i d : Int} (i0 : 0 ≤ i) (h : i < d) (d6 : d ≤ 6) : 3 * thr_ i ≤ thr_ d := by
  rcases svn_ (show 0 ≤ d by omega) d6 with rfl | rfl | rfl | rfl | rfl | rfl | rfl <;> rcases six_ i0 (by omega) with rfl | rfl | rfl | rfl | rfl | rfl <;> first | omega | decide
-- what is known, told as sets
def opn (k : Int) : Int := bs (fun i => if dg k i = 1 then 1 else 0)
def sht (k : Int) : Int := bs (fun i => if dg k i = 2 then 1 else 0)
def spr (s : Int) : Int := ds (bt s)
def sAnd (a b : Int) : Int := bs (fun i => if bt a i = 1 ∧ bt b i = 1 then 1 else 0)
def sDif (a b : Int) : Int := bs (fun i => if bt a i = 1 ∧ bt b i = 0 then 1 else 0)
def sOr (a b : Int) : Int := bs (fun i => if bt a i = 1 ∨ bt b i = 1 then 1 else 0)
theorem opn_rng (k : Int) : 0 ≤ opn k ∧ opn k < 64 := bs_rng (fun i _ _ => by split <;> simp)
theorem sht_rng (k : Int) : 0 ≤ sht k ∧ sht k < 64 := bs_rng (fun i _ _ => by split <;> simp)
theorem bt_opn {k i : Int} (i0 : 0 ≤ i) (i6 : i < 6) : bt (opn k) i = if dg k i = 1 then 1 else 0 := bt_bs (fun i _ _ => by split <;> simp) i0 i6
theorem bt_sht {k i : Int} (i0 : 0 ≤ i) (i6 : i < 6) : bt (sht k) i = if dg k i = 2 then 1 else 0 := bt_bs (fun i _ _ => by split <;> simp) i0 i6
theorem sAnd_rng (a b : Int) : 0 ≤ sAnd a b ∧ sAnd a b < 64 := bs_rng (fun i _ _ => by split <;> simp)
theorem sDif_rng (a b : Int) : 0 ≤ sDif a b ∧ sDif a b < 64 := bs_rng (fun i _ _ => by split <;> simp)
theorem sOr_rng (a b : Int) : 0 ≤ sOr a b ∧ sOr a b < 64 := bs_rng (fun i _ _ => by split <;> simp)
theorem bt_sAnd {a b i : Int} (i0 : 0 ≤ i) (i6 : i < 6) : bt (sAnd a b) i = if bt a i = 1 ∧ bt b i = 1 then 1 else 0 := bt_bs (fun i _ _ => by split <;> simp) i0 i6
theorem bt_sDif {a b i : Int} (i0 : 0 ≤ i) (i6 : i < 6) : bt (sDif a b) i = if bt a i = 1 ∧ bt b i = 0 then 1 else 0 := bt_bs (fun i _ _ => by split <;> simp) i0 i6
theorem bt_sOr {a b i : Int} (i0 : 0 ≤ i) (i6 : i < 6) : bt (sOr a b) i = if bt a i = 1 ∨ bt b i = 1 then 1 else 0 := bt_bs (fun i _ _ => by split <;> simp) i0 i6
theorem dg_spr {s i : Int} (i0 : 0 ≤ i) (i6 : i < 6) : dg (spr s) i = bt s i := dg_ds (fun i _ _ => by have := bt_rng s i; omega) i0 i6
-- the machine's words on these
set_option maxRecDepth 100000 in
theorem and_64 : ∀ a < 64, ∀ b < 64, and_ (Int.ofNat a) (Int.ofNat b) = sAnd (Int.ofNat a) (Int.ofNat b) := by decide +kernel
set_option maxRecDepth 100000 in
theorem dif_64 : ∀ a < 64, ∀ b < 64, and_ (Int.ofNat a) (xor_ (Int.ofNat b) (-1)) = sDif (Int.ofNat a) (Int.ofNat b) := by decide +kernel
set_option maxRecDepth 100000 in
theorem or_64 : ∀ a < 64, ∀ b < 64, or_ (Int.ofNat a) (Int.ofNat b) = sOr (Int.ofNat a) (Int.ofNat b) := by decide +kernel
set_option maxRecDepth 100000 in
theorem bit_64 : ∀ a < 64, ∀ b < 6, and_ (shr_ (Int.ofNat a) (Int.ofNat b)) 1 = bt (Int.ofNat a) (Int.ofNat b) := by decide +kernel
theorem shl_6 : ∀ b < 7, shl_ 1 (Int.ofNat b) = p2_ (Int.ofNat b) := by decide +kernel
theorem shl2_6 : ∀ b < 6, shl_ 2 (Int.ofNat b) = 2 * p2_ (Int.ofNat b) := by decide +kernel
theorem nat_of {a n : Int} (h0 : 0 ≤ a) (h1 : a < n) : ∃ m : Nat, a = Int.ofNat m ∧ m < n.toNat := ⟨a.toNat, by simp [Int.toNat_of_nonneg h0], by omega⟩
theorem and_e {a b : Int} (a0 : 0 ≤ a) (a1 : a < 64) (b0 : 0 ≤ b) (b1 : b < 64) : and_ a b = sAnd a b := by
  obtain ⟨m, rfl, hm⟩ := nat_of a0 a1; obtain ⟨n, rfl, hn⟩ := nat_of b0 b1; exact and_64 m hm n hn
theorem dif_e {a b : Int} (a0 : 0 ≤ a) (a1 : a < 64) (b0 : 0 ≤ b) (b1 : b < 64) : and_ a (xor_ b (-1)) = sDif a b := by
  obtain ⟨m, rfl, hm⟩ := nat_of a0 a1; obtain ⟨n, rfl, hn⟩ := nat_of b0 b1; exact dif_64 m hm n hn
theorem or_e {a b : Int} (a0 : 0 ≤ a) (a1 : a < 64) (b0 : 0 ≤ b) (b1 : b < 64) : or_ a b = sOr a b := by
  obtain ⟨m, rfl, hm⟩ := nat_of a0 a1; obtain ⟨n, rfl, hn⟩ := nat_of b0 b1; exact or_64 m hm n hn
theorem bit_e {a b : Int} (a0 : 0 ≤ a) (a1 : a < 64) (b0 : 0 ≤ b) (b1 : b < 6) : and_ (shr_ a b) 1 = bt a b := by
  obtain ⟨m, rfl, hm⟩ := nat_of a0 a1; obtain ⟨n, rfl, hn⟩ := nat_of b0 b1; exact bit_64 m hm n hn
theorem shl_e {b : Int} (b0 : 0 ≤ b) (b1 : b ≤ 6) : shl_ 1 b = p2_ b := by
  obtain ⟨n, rfl, hn⟩ := nat_of b0 (show b < 7 by omega); exact shl_6 n hn
