/-! THE REFERENCE: LEAST TIMES; each round lowers them -/
theorem HI_low {G : Lnd} (hw : WF G) {D : Int → Int → Int} {plan w : Int} (hO : planOK G D plan) (w0 : 0 ≤ w) (w1 : w < p2_ ((G 0 3))) (hW : 0 < wtG G w) : ∀ (n : Nat) (p k h : Int), stO G w p k → HI G (doF G D plan) w n p k h = -2 ∨ (h ≤ HI G (doF G D plan) w n p k h ∧ (p ≠ (G 0 7) → h + 1 ≤ HI G (doF G D plan) w n p k h)) := by
  intro n; induction n with
  | zero =>
    intro p k h ho
    show (if p = (G 0 7) then h else -2) = -2 ∨ _
    have e : HI G (doF G D plan) w 0 p k h = if p = (G 0 7) then h else -2 := rfl
    rw [e]
    by_cases g : p = (G 0 7)
    · rw [if_pos g]; exact Or.inr ⟨Int.le_refl _, fun c => absurd g c⟩
    · rw [if_neg g]; exact Or.inl rfl
  | succ n ih =>
    intro p k h ho
    have hlk := lkG_pos hw w0 w1 hW ho.2.2.1
    have hok := doF_ok hw hO ho.1.1 ho.1.2 ho.2.1.1 ho.2.1.2 hlk ho.2.2.2
    rw [HI_S]
    by_cases g : p = (G 0 7)
    · rw [if_pos g]; exact Or.inr ⟨Int.le_refl _, fun c => absurd g c⟩
    · rw [if_neg g]
      by_cases c : doF G D plan p k < 0
      · rw [if_pos c]; exact Or.inl rfl
      · rw [if_neg c]
        have hk := wkH_rng hw ho.1.1 ho.1.2 hok (by omega)
        rcases ih _ _ (h + wkH G (doF G D plan p k) p k) (st_step hw ho hok (by omega)) with q | ⟨q, -⟩
        · exact Or.inl q
        · exact Or.inr ⟨by omega, fun _ => by omega⟩
theorem ho_pos {G : Lnd} (hw : WF G) {D : Int → Int → Int} {plan w : Int} (hO : planOK G D plan) (w0 : 0 ≤ w) (w1 : w < p2_ ((G 0 3))) (hW : 0 < wtG G w) (hs : 0 ≤ (G 0 6)) (hsg : (G 0 6) ≠ (G 0 7)) (h : 0 ≤ hoP G D plan w) : 1 ≤ hoP G D plan w := by
  rcases HI_low hw hO w0 w1 hW 100 ((G 0 6)) _ 0 (st_start hw hs) with q | ⟨-, q⟩
  · unfold hoP hoursF at h; omega
  · have := q hsg
    unfold hoP hoursF; omega
/-- the greatest times are some world's, and none's are greater -/
def gzX (H K Wt : Int → Int) (r : Int × Int) (n : Int) : Prop := ∃ w : Int, 0 ≤ w ∧ w < n ∧ 0 < Wt w ∧ r = (H w, K w)
theorem gz_max {H K Wt : Int → Int} : ∀ n : Nat, (∀ w : Int, 0 ≤ w → w < n → 0 < Wt w → 1 ≤ K w) → ((gz H K Wt n = (0, 0) ∧ ∀ w : Int, 0 ≤ w → w < n → ¬ 0 < Wt w) ∨ (gzX H K Wt (gz H K Wt n) n ∧ ∀ w : Int, 0 ≤ w → w < n → 0 < Wt w → H w * (gz H K Wt n).2 ≤ (gz H K Wt n).1 * K w))
  | 0, _ => Or.inl ⟨rfl, fun w a b => by omega⟩
  | n + 1, h => by
    have ih := gz_max (H := H) n (fun w a b c => h w a (by omega) c)
    have hs : gz H K Wt (n + 1) = if 0 < Wt n then (if (gz H K Wt n).2 = 0 ∨ (gz H K Wt n).1 * K n < H n * (gz H K Wt n).2 then (H n, K n) else gz H K Wt n) else gz H K Wt n := rfl
    by_cases c : 0 < Wt n
    · have hk := h n (by omega) (by omega) c
      rw [if_pos c] at hs
      by_cases d : (gz H K Wt n).2 = 0 ∨ (gz H K Wt n).1 * K n < H n * (gz H K Wt n).2
      · rw [if_pos d] at hs
        refine Or.inr ⟨⟨n, by omega, by omega, c, hs⟩, fun w a b e => ?_⟩
        rw [hs]
        dsimp only
        by_cases q : w = n
        · rw [q]; exact Int.le_refl _
        · rcases ih with ⟨i1, i2⟩ | ⟨⟨w', a', b', c', e'⟩, i2⟩
          · exact absurd e (i2 w a (by omega))
          · have hk' := h w' a' (by omega) c'
            have i3 := i2 w a (by omega) e
            have hkw := h w a (by omega) e
            rw [e'] at d i3
            dsimp only at d i3
            have d' : H w' * K n < H n * K w' := by
              rcases d with d | d
              · omega
              · exact d
            -- H w * K w' ≤ H w' * K w, H w' * K n < H n * K w'
            have z1 : H w * K w' * K n ≤ H w' * K w * K n := Int.mul_le_mul_of_nonneg_right i3 (by omega)
            have z2 : H w' * K n * K w ≤ H n * K w' * K w := Int.mul_le_mul_of_nonneg_right (by omega) (by omega)
            have z3 : H w * K n * K w' ≤ H n * K w * K w' := by
              rw [Int.mul_right_comm (H w) (K n) (K w'), Int.mul_right_comm (H n) (K w) (K w')]
              rw [Int.mul_right_comm (H w') (K w) (K n)] at z1
              exact Int.le_trans z1 z2
            exact Int.le_of_mul_le_mul_right z3 (by omega)
      · rw [if_neg d] at hs
        rcases ih with ⟨i1, i2⟩ | ⟨⟨w', a', b', c', e'⟩, i2⟩
        · rw [i1] at d; exact absurd (Or.inl rfl) d
        · refine Or.inr ⟨⟨w', a', by omega, c', by rw [hs]; exact e'⟩, fun w a b e => ?_⟩
          rw [hs]
          by_cases q : w = n
          · rw [q]; omega
          · exact i2 w a (by omega) e
    · rw [if_neg c] at hs
      rcases ih with ⟨i1, i2⟩ | ⟨⟨w', a', b', c', e'⟩, i2⟩
      · refine Or.inl ⟨hs.trans i1, fun w a b e => ?_⟩
        by_cases q : w = n
        · rw [q] at e; exact c e
        · exact i2 w a (by omega) e
      · refine Or.inr ⟨⟨w', a', by omega, c', by rw [hs]; exact e'⟩, fun w a b e => ?_⟩
        rw [hs]
        by_cases q : w = n
        · rw [q] at e; exact absurd e c
        · exact i2 w a (by omega) e
theorem eFr_1 {G : Lnd} {a b w : Int} (ha : 1 ≤ a) (hb : 1 ≤ b) (hk : 1 ≤ KW G w) : - eFr G a b 1 w = (a * KW G w - 1) / b := by
  have h1 : 1 ≤ a * KW G w := Int.le_trans (by omega) (Int.mul_le_mul ha hk (by decide) (by omega))
  unfold eFr
  rw [if_neg (by omega), if_neg (by omega), Int.tdiv_eq_ediv_of_nonneg (by omega)]
  omega
noncomputable def mF (G : Lnd) (a b w : Int) : Nat := if 0 < wtG G w then (if - eFr G a b 1 w < 13860 then (- eFr G a b 1 w).toNat else 13860) else 0
theorem fr_dec {G : Lnd} (hw : WF G) (hs : 0 ≤ (G 0 6)) (hsg : (G 0 6) ≠ (G 0 7)) {a b : Int} (a0 : 1 ≤ a) (a1 : a ≤ 19800) (b0 : 1 ≤ b) (b1 : b ≤ 1980) (hK : ∀ w, 0 ≤ w → w < p2_ ((G 0 3)) → 0 < wtG G w → 0 ≤ KW G w) (hV : VF G (eFr G a b 1) 0 ((G 0 6)) ≤ 0) :
    gbP G (pdF G a b 1) 2 = false ∧ (1 ≤ (gzP G (pdF G a b 1) 2).1 ∧ (gzP G (pdF G a b 1) 2).1 ≤ 19800) ∧ (1 ≤ (gzP G (pdF G a b 1) 2).2 ∧ (gzP G (pdF G a b 1) 2).2 ≤ 1980) ∧ sm_ (mF G (gzP G (pdF G a b 1) 2).1 (gzP G (pdF G a b 1) 2).2) (p2_ ((G 0 3))).toNat < sm_ (mF G a b) (p2_ ((G 0 3))).toNat := by
  have h64 := p2_lt64 hw
  have hO := pdF_ok hw a b 1
  obtain ⟨hgb, hfo⟩ := gb_fair hw hs hsg (show 0 ≤ a by omega) a1 hK hV
  have hKp : ∀ w : Int, 0 ≤ w → w < ((p2_ ((G 0 3))).toNat : Int) → 0 < wtG G w → 1 ≤ KW G w := fun w c d e => KW_pos hw hs hsg (hK w c (by omega) e)
  have hm := gz_max (H := hoP G (pdF G a b 1) 2) (K := KW G) (Wt := wtG G) (p2_ ((G 0 3))).toNat hKp
  have hpos : ∃ w : Int, 0 ≤ w ∧ w < p2_ ((G 0 3)) ∧ 0 < wtG G w := by
    obtain ⟨w, c, d, e⟩ := su_pos _ (fun i _ _ => wtG_nn hw i) (wt_pos hw (o := -1) (od := 0) (by decide))
    exact ⟨w, c, by omega, e⟩
  refine ⟨hgb, ?_⟩
  rcases hm with ⟨-, hno⟩ | ⟨⟨w', c0, c1, c2, c3⟩, hmx⟩
  · obtain ⟨w, c, d, e⟩ := hpos
    exact absurd e (hno w c (by omega))
  · have hf' := hfo w' c0 (by omega) c2
    have hk' := hKp w' c0 c1 c2
    have hkr := KW_rng hw (w := w') hs
    have hp' := ho_pos hw hO c0 (by omega) c2 hs hsg hf'.1
    have hbd := hoursF_bd hw hO c0 (by omega) c2 hs hf'.1
    have e1 : (gzP G (pdF G a b 1) 2).1 = hoP G (pdF G a b 1) 2 w' := by unfold gzP; rw [c3]
    have e2 : (gzP G (pdF G a b 1) 2).2 = KW G w' := by unfold gzP; rw [c3]
    rw [e1, e2]
    have hcr := hf'.2
    rw [eFr_1 a0 b0 hk', Int.le_ediv_iff_mul_le (by omega)] at hcr
    generalize hA : hoP G (pdF G a b 1) 2 w' = A at hf' hp' hbd hcr
    generalize hB : KW G w' = B at hk' hkr hcr
    refine ⟨by omega, by omega, sm_lt (p2_ ((G 0 3))).toNat w' c0 c1 (fun w d0 d1 => ?_) ?_⟩
    · unfold mF
      by_cases q : 0 < wtG G w
      · rw [if_pos q, if_pos q]
        have hk := hKp w d0 d1 q
        rw [eFr_1 a0 b0 hk, eFr_1 hp' hk' hk]
        have hle : (A * KW G w - 1) / B ≤ (a * KW G w - 1) / b := by
          rw [Int.le_ediv_iff_mul_le (by omega)]
          have z0 : (A * KW G w - 1) / B * B ≤ A * KW G w - 1 := Int.ediv_mul_le _ (by omega)
          generalize (A * KW G w - 1) / B = L at z0
          have z1 : L * B * b ≤ (A * KW G w - 1) * b := Int.mul_le_mul_of_nonneg_right z0 (by omega)
          have z2 : A * b * KW G w ≤ (a * B - 1) * KW G w := Int.mul_le_mul_of_nonneg_right hcr (by omega)
          rw [Int.sub_mul, Int.mul_right_comm A (KW G w) b] at z1
          rw [Int.sub_mul, Int.mul_right_comm a B (KW G w)] at z2
          rw [Int.mul_right_comm L B b] at z1
          have z3 : L * b * B < a * KW G w * B := by omega
          have z4 := Int.lt_of_mul_lt_mul_right z3 (by omega)
          omega
        split <;> split <;> omega
      · rw [if_neg q, if_neg q]; exact Nat.le_refl _
    · unfold mF
      rw [if_pos c2, if_pos c2]
      have f2 := hfo w' c0 (by omega) c2
      rw [hA] at f2
      have hlt : (A * B - 1) / B < A := Int.ediv_lt_of_lt_mul (by omega) (by omega)
      have e3 : - eFr G A B 1 w' = (A * B - 1) / B := by
        have := eFr_1 (G := G) (a := A) (b := B) (w := w') hp' hk' (by omega)
        rw [hB] at this; exact this
      rw [e3]
      have hge : 0 ≤ (A * B - 1) / B := Int.ediv_nonneg (by have := Int.mul_le_mul hp' hk' (by decide) (show 0 ≤ A by omega); omega) (by omega)
      split <;> split <;> omega
theorem sm_64 {g : Int → Nat} {c : Nat} (h : ∀ w, g w ≤ c) : ∀ n : Nat, sm_ g n ≤ n * c
  | 0 => Nat.zero_le _
  | n + 1 => by
    have ih := sm_64 h n
    have h1 := h n
    show sm_ g n + g n ≤ (n + 1) * c
    rw [Nat.succ_mul]; omega
theorem mF_big {G : Lnd} (hw : WF G) (a b : Int) : sm_ (mF G a b) (p2_ ((G 0 3))).toNat < bigN := by
  have h64 := p2_lt64 hw
  have h1 : ∀ w, mF G a b w ≤ 13860 := fun w => by unfold mF; split <;> (try split) <;> omega
  have h2 := sm_64 h1 (p2_ ((G 0 3))).toNat
  have h3 : (p2_ ((G 0 3))).toNat * 13860 ≤ 64 * 13860 := Nat.mul_le_mul_right _ (by omega)
  have h4 : (64 * 13860 : Nat) < bigN := by decide
  omega
