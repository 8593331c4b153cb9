/-! THE CLASS: Reader, the lines -/
def rdCau (tp : Int → Int) (n : Int) (G : Lnd) (a : Int) : PRes :=
  if 2 ≤ (G 0 1) then flt tp n 2 a else if tK tp n (a + 1) ≠ 10 then flt tp n 1 (a + 1) else if 0 ≤ fnd (G 10) (tV tp n (a + 1)) ((G 0 1)) then flt tp n 3 (a + 1) else numK tp n 9 (a + 2) (fun o => Sum.inr (a + 3, addC G (tV tp n (a + 1)) o))
def rdPl (tp : Int → Int) (n : Int) : Nat → Lnd → Int → PRes
  | 0, G, a => Sum.inr (a, G)
  | k + 1, G, a => if tK tp n a ≠ 10 then Sum.inr (a, G) else if 10 ≤ (G 0 0) then flt tp n 2 a else if 0 ≤ fnd (G 9) (tV tp n a) ((G 0 0)) then flt tp n 3 a else rdPl tp n k (addP G (tV tp n a)) (a + 1)
def rdPls (tp : Int → Int) (n : Int) (G : Lnd) (a : Int) : PRes := if tK tp n (a + 1) ≠ 10 then flt tp n 1 (a + 1) else rdPl tp n 11 G (a + 1)
def rdD3 (tp : Int → Int) (n : Int) (G : Lnd) (p q h d e b : Int) : PRes :=
  if tK tp n b = 5 ∧ (0 < d ∨ 0 ≤ e) then numK tp n 99 (b + 1) (fun w => Sum.inr (b + 2, addR G p q h d e w)) else Sum.inr (b, addR G p q h d e 0)
def rdD2 (tp : Int → Int) (n : Int) (G : Lnd) (p q h d b : Int) : PRes :=
  if tK tp n b = 4 then cauK tp n G (b + 1) (fun e => rdD3 tp n G p q h d e (b + 2)) else rdD3 tp n G p q h d (-1) b
def rdD1 (tp : Int → Int) (n : Int) (G : Lnd) (p q h b : Int) : PRes :=
  if (tK tp n b = 3 ∨ tK tp n b = 4) ∧ 6 ≤ (G 0 3) then flt tp n 2 b else if tK tp n b = 3 then numK tp n 9 (b + 1) (fun d => rdD2 tp n G p q h d (b + 2)) else rdD2 tp n G p q h 0 b
def rdRoa (tp : Int → Int) (n : Int) (G : Lnd) (a : Int) : PRes :=
  if 24 ≤ (G 0 2) then flt tp n 2 a else plcK tp n G (a + 1) (fun p => plcK tp n G (a + 2) (fun q => if p = q ∨ 0 ≤ (G 4 (p * 10 + q)) then flt tp n 3 (a + 2) else numK tp n 99 (a + 3) (fun h => rdD1 tp n G p q h (a + 4))))
def rdSee (tp : Int → Int) (n : Int) (G : Lnd) (a : Int) : PRes :=
  if 8 ≤ G 0 4 then flt tp n 2 a else plcK tp n G (a + 1) (fun l => dbtK tp n G (a + 2) (fun d => Sum.inr (a + 4, addS G l d)))
def rdInn (tp : Int → Int) (n : Int) (G : Lnd) (a : Int) : PRes :=
  if 6 ≤ (G 0 5) then flt tp n 2 a else plcK tp n G (a + 1) (fun l => dbtK tp n G (a + 2) (fun d => numK tp n 99 (a + 4) (fun t => Sum.inr (a + 5, addW G l d t))))
def rdEnd (tp : Int → Int) (n x : Int) (G : Lnd) (a : Int) : PRes :=
  if 0 ≤ G 0 x then flt tp n 3 a else plcK tp n G (a + 1) (fun p => Sum.inr (a + 2, up_ G 0 x p))
theorem frD_20 {c : Int} {M N : aM} (h : fr20 M N) : frD c M N := h.frD
theorem frD_up {c b i v : Int} (M : aM) (hb : c ≤ b) (hb2 : b ≤ c + 8) : frD c M (up_ M b i v) := fun x j q1 q2 q3 q4 => by
  unfold up_; rw [if_neg (by omega)]
theorem rdN_k {G H : Lnd} {M N : aM} (h : rdN G M) (e9 : ∀ j, H 9 j = G 9 j) (e10 : ∀ j, H 10 j = G 10 j) (f1 : ∀ j, N 25 j = M 25 j) (f2 : ∀ j, N 26 j = M 26 j) : rdN H N :=
  ⟨fun j => by rw [f1, e9]; exact h.1 j, fun j => by rw [f2, e10]; exact h.2 j⟩
theorem s_X8_readCause {M : aM} {W : aW} {Q : Int → aM → aW → Prop} {tp : Int → Int} {n c a : Int} {G : Lnd} (n0 : 0 ≤ n) (n1 : n ≤ 600) (hk : cty c) (hS : rdS tp n c a G M) (ht : tK tp n a ≠ 13) (k1 : ∀ x e N, frD c M N → rdF N x (tS tp n e) → (rdCau tp n G a) = flt tp n x e → Q 0 N W) (k2 : ∀ b H N, frD c M N → rdS tp n c b H N → a < b → (rdCau tp n G a) = Sum.inr (b, H) → Q 1 N W) : CallI 91 [vR 20] (M, W) Q := by
  have hw := hS.pw
  have hN := hw.1.N; unfold wfN at hN
  have hc := ct_rng hk
  have e1 : M c 1 = (G 0 1) := hS.cl.1 1
  refine e_X8_readCause _ _ _ ?_
  rw [hS.i7, e1, hS.i8]
  refine ⟨ct_o hk, by omega, fun g => ?_, fun g => ?_⟩
  · refine t_move n0 n1 hk hS rfl ht (fun N1 f1 S1 => ?_)
    have r1 := tK_rng tp n (a + 1)
    have v1 := tV_rng (tp := tp) n0 (a + 1)
    rw [S1.i9, S1.i7]
    refine ⟨by omega, fun g1 => ⟨ct_o hk, ?_⟩, fun g1 => ?_⟩
    · have e1' : N1 c 1 = (G 0 1) := S1.cl.1 1
      rw [e1']
      have e26 : (N1 26) = G 10 := funext S1.nm.2
      refine s_X8_numberOf (L := 2) rfl rfl hN.2.1.1 hN.2.1.2 (by decide) (fun j j0 j1 => ?_) (by rw [S1.i10]; omega) ?_
      · rw [S1.nm.2 j]; have := hw.2.2.2 j j0 j1; omega
      · rw [e26, S1.i10, S1.i7, e1']
        have fr := fnd_rng (G 10) (tV tp n (a + 1)) ((G 0 1)) hN.2.1.1
        refine ⟨by omega, fun g2 => ⟨ct_o hk, by omega, ?_⟩, fun g2 => ?_⟩
        · have u8 : up_ N1 26 ((G 0 1)) (tV tp n (a + 1)) 20 8 = a + 1 := by rw [up_b _ _ _ _ (by decide)]; exact S1.i8
          rw [u8]
          -- the name is told; the land as it is for now, but for its name
          have S1' : rdS tp n c (a + 1) (up_ G 10 ((G 0 1)) (tV tp n (a + 1))) (up_ N1 26 ((G 0 1)) (tV tp n (a + 1))) := by
            refine S1.gr hk (fun b j q1 q2 q3 => up_b _ _ _ _ q3) ((S1.cl.off hk (by decide)).hi (by decide)) ⟨fun j => ?_, fun j => ?_⟩ ?_
            · rw [up_b _ _ _ _ (by decide), up_b _ _ _ _ (by decide)]; exact S1.nm.1 j
            · unfold up_
              by_cases x : j = (G 0 1)
              · rw [if_pos ⟨rfl, x⟩, if_pos ⟨rfl, x⟩]
              · rw [if_neg (fun y => x y.2), if_neg (fun y => x y.2)]; exact S1.nm.2 j
            · obtain ⟨w1, w2, w3, w4⟩ := hw
              have U : ∀ b j, b ≠ 10 → up_ G 10 ((G 0 1)) (tV tp n (a + 1)) b j = G b j := fun b j hb => up_b _ _ _ _ hb
              refine ⟨w1.mono ?_ (by rw [U _ _ (by decide)]; omega) (by rw [U _ _ (by decide)]; omega) (fun j => U 2 j (by decide)) (fun j => U 3 j (by decide)) (fun j => U 4 j (by decide)) (U 0 2 (by decide)) (U 0 3 (by decide)) (fun p p0 p1 => ?_) (fun w w0 w1' => ?_) (fun e e0 e1 => ?_), ?_, fun j j0 j1 => ?_, fun j j0 j1 => ?_⟩
              · unfold wfN; rw [U 0 0 (by decide), U 0 1 (by decide), U 0 2 (by decide), U 0 3 (by decide), U 0 5 (by decide), U 0 6 (by decide), U 0 7 (by decide)]; exact hN
              · rw [U 5 p (by decide)]; exact ⟨w1.S.1 p p0 p1, fun d d0 d1 hd => hd⟩
              · rw [U 0 5 (by decide)] at w1'
                rw [U 6 w (by decide), U 7 w (by decide), U 8 w (by decide), U 0 0 (by decide), U 0 3 (by decide)]; exact w1.W w w0 w1'
              · rw [U 0 1 (by decide)] at e1
                rw [U 1 e (by decide)]; exact w1.C e e0 e1
              · rw [U 0 4 (by decide)]; exact w2
              · rw [U 0 0 (by decide)] at j1; rw [U 9 j (by decide)]; exact w3 j j0 j1
              · rw [U 0 1 (by decide)] at j1
                rw [up_j _ _ _ (by omega)]; exact w4 j j0 j1
          have ff1 : frD c M (up_ N1 26 ((G 0 1)) (tV tp n (a + 1))) := fun b j q1 q2 q3 q4 => by rw [up_b _ _ _ _ q3]; exact f1.1 b j q1
          refine t_move n0 n1 hk S1' rfl (by omega) (fun N2 f2 S2 => ?_)
          rw [show a + 1 + 1 = a + 2 by omega] at S2
          have ff2 := frD_tr ff1 (frD_20 (c := c) f2)
          refine t_takeNumber n0 n1 hk S2 (by decide) (fun x N3 f3 t3 e => ?_) (fun o N3 o0 o1 f3 S3 e => ?_)
          · have h7 : N3 20 7 = c := by rw [f3.2]; exact S2.i7
            rw [h7]
            have q1 : N3 c 1 = (G 0 1) := by rw [f3.1 c 1 (by omega), S2.cl.1 1]; exact up_b _ _ _ _ (by decide)
            have h7' : up_ N3 (c + 1) (N3 c 1) (-1) 20 7 = c := by rw [up_b _ _ _ _ (by omega)]; exact h7
            rw [h7', q1]
            refine ⟨ct_o hk, ct_o hk, ⟨ct_a1 hk, by omega, by rw [ct_l1 hk]; omega⟩, ct_o hk, ct_o hk, by decide, fun _ => ⟨by decide, k1 x (a + 2) _ ?_ ?_ ?_⟩, fun y => absurd y (by decide)⟩
            · exact frD_tr (frD_tr ff2 (frD_20 (c := c) f3)) (frD_tr (frD_up _ (by omega) (by omega)) (frD_up _ (by omega) (by omega)))
            · unfold rdF; rw [up_b _ _ _ _ (by omega), up_b _ _ _ _ (by omega), up_b _ _ _ _ (by omega), up_b _ _ _ _ (by omega)]; exact t3
            · unfold rdCau; rw [if_neg (by omega), if_neg (by omega), if_neg (by omega), e]
          · rw [S3.i7]
            have q1 : N3 c 1 = (G 0 1) := by rw [S3.cl.1 1]; exact up_b _ _ _ _ (by decide)
            have h7' : up_ N3 (c + 1) (N3 c 1) o 20 7 = c := by rw [up_b _ _ _ _ (by omega)]; exact S3.i7
            rw [h7', q1]
            have q2 : up_ N3 (c + 1) ((G 0 1)) o c 1 = (G 0 1) := by rw [up_b _ _ _ _ (by omega)]; exact q1
            rw [q2]
            refine ⟨ct_o hk, ct_o hk, ⟨ct_a1 hk, by omega, by rw [ct_l1 hk]; omega⟩, ct_o hk, ct_o hk, by omega, fun y => absurd y (by omega), fun _ => ⟨by decide, k2 (a + 3) (addC G (tV tp n (a + 1)) o) _ ?_ ?_ (by omega) ?_⟩⟩
            · exact frD_tr (frD_tr ff2 (frD_20 (c := c) f3)) (frD_tr (frD_up _ (by omega) (by omega)) (frD_up _ (by omega) (by omega)))
            · rw [show a + 2 + 1 = a + 3 by omega] at S3
              refine S3.gr hk (fun b j q1 q2 q3 => by rw [up_b _ _ _ _ (by omega), up_b _ _ _ _ (by omega)]) ?_ (rdN_k S3.nm (fun j => ?_) (fun j => ?_) (fun j => by rw [up_b _ _ _ _ (by omega), up_b _ _ _ _ (by omega)]) (fun j => by rw [up_b _ _ _ _ (by omega), up_b _ _ _ _ (by omega)])) (addC_W hw g v1.1 v1.2 o0 o1)
              · exact (S3.cl.up (r := 1) (i := (G 0 1)) (v := o)).up0 (i := 1) (v := (G 0 1) + 1)
              · unfold addC; rw [up_b _ _ _ _ (by decide), up_b _ _ _ _ (by decide)]
              · unfold addC; rw [up_b _ _ _ _ (by decide), up_b _ _ _ _ (by decide)]
            · unfold rdCau; rw [if_neg (by omega), if_neg (by omega), if_neg (by omega), e]
        · exact t_fail n0 n1 hk S1 (fun N f2 t2 => ⟨by decide, k1 3 (a + 1) N (frD_20 (fr20_tr f1 f2)) t2 (by unfold rdCau; rw [if_neg (by omega), if_neg (by omega), if_pos (by omega)])⟩)
    · exact t_fail n0 n1 hk S1 (fun N f2 t2 => ⟨by decide, k1 1 (a + 1) N (frD_20 (fr20_tr f1 f2)) t2 (by unfold rdCau; rw [if_neg (by omega), if_pos g1])⟩)
  · exact t_fail n0 n1 hk hS (fun N f2 t2 => ⟨by decide, k1 2 a N (frD_20 f2) t2 (by unfold rdCau; rw [if_pos (by omega)])⟩)
