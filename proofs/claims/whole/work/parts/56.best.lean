/-! THE REFERENCE: buying, terms, the least of a place -/
theorem s_X12_buys {M : aM} {W : aW} {Q : Int → aM → aW → Prop} {G : Lnd} {sl sm w k : Int} {lik : Int → Int} {v : Int → Int → Int} (hG : rfG G M) (sl0 : 0 ≤ sl) (sl1 : sl < 4) (hsm : sm = 0 ∨ sm = 1) (hl : likO G lik) (hml : ∀ k, 0 ≤ k → k < thr_ ((G 0 3)) → M 103 k = lik k) (hB : vB G lik v) (w0 : 0 ≤ w) (w1 : w < (G 0 5)) (k0 : 0 ≤ k) (k1 : k < thr_ ((G 0 3))) (hlk : 0 < lik k) (hd : dg k (G 7 w) = 0) (hT : ∀ s, 1 ≤ s → s < 3 → tvP sl lik v (G 6 w) (k + s * thr_ (G 7 w)) M) (h : Q (upV (leV sm lik v k (G 6 w) (G 7 w))) M W) : CallL 209 [vR 86, vI sl, vI sm, vI w, vI k] (M, W) Q := by
  have hn := hG.n
  have ht := hG.t
  have hw := hG.W
  have hWw := hw.W w w0 w1
  have hm := hG.w96 w0 w1
  generalize G 6 w = p at hT h hWw hm
  generalize G 7 w = d at hT h hWw hm hd
  have b1 := dg_lt (v := 1) k0 (by omega) k1 hWw.2.1.1 hWw.2.1.2 hd (by decide)
  have b2 := dg_lt (v := 2) k0 (by omega) k1 hWw.2.1.1 hWw.2.1.2 hd (by decide)
  have hop := op3_leV hsm hl hB k0 k1 hlk hWw.2.1.1 hWw.2.1.2 hd (by rw [show k + 1 * thr_ d = k + thr_ d by omega] at b1; exact b1) b2 (p := p) hWw.1.1 hWw.1.2
  have hfo : fo3 sm (fun s => T3 lik v p (k + (s + 1) * thr_ d)) 2 = T3v (leV sm lik v k p d) := by
    rw [← hop]
    show op3 sm (op3 sm none (T3 lik v p (k + (((0 : Nat) : Int) + 1) * thr_ d))) (T3 lik v p (k + (((1 : Nat) : Int) + 1) * thr_ d)) = _
    rw [op3_0, show (((0 : Nat) : Int) + 1) * thr_ d = thr_ d by omega, show (((1 : Nat) : Int) + 1) = 2 by omega]
  have key : ∀ (n : Nat) (x6 x8 : Int) (d9 d10 d11 : aL), 1 ≤ x8 → x8 ≤ 3 → (3 - x8).toNat = n → ac3 sm (fo3 sm (fun s => T3 lik v p (k + (s + 1) * thr_ d)) (x8 - 1).toNat) x6 → (sm = 0 → inL x6) → Xs 209 (28, [some (some (vR 86)), some (some (vI sl)), some (some (vI sm)), some (some (vI w)), some (some (vI k)), some (some (vI d)), some (some (vL x6)), some none, some (some (vI x8)), d9, d10, d11], [], (M, W)) (QL Q) := by
    intro n; induction n using Nat.strongRecOn with
    | _ n ih =>
      intro x6 x8 d9 d10 d11 h0 h1 hn2 hac hix
      refine k_X12_buys_28 _ _ _ _ _ _ _ _ _ _ _ _ _ ?_
      refine ⟨by omega, fun hge => ?_, fun hlt => ⟨by omega, fun v1 e1 => ?_⟩⟩
      · rw [show (x8 - 1).toNat = 2 by omega, hfo] at hac
        rcases upV_T (v := leV sm lik v k p d) with ⟨q1, q2, q3⟩ | ⟨q1, q2, q3⟩
        · rw [q3] at hac
          rcases hac with ⟨c, -⟩ | c
          · cases c
          · have e2 : leV sm lik v k p d = x6 := by injection c with c; injection c
            rw [q2, e2] at h; exact h
        · rw [q3] at hac
          rcases hac with ⟨c, -⟩ | c
          · cases c
          · injection c with c; cases c
      · rw [hG.D3 d hWw.2.1.1 (by omega)] at e1
        have hc : 0 ≤ v1 ∧ v1 < thr_ ((G 0 3)) := by
          rcases (show x8 = 1 ∨ x8 = 2 by omega) with e | e
          · rw [e] at e1; rw [e1]; exact b1
          · rw [e] at e1; rw [e1]; exact b2
        have hfs := fo3_s sm (fun s => T3 lik v p (k + (s + 1) * thr_ d)) (show 0 ≤ x8 - 1 by omega)
        rw [show x8 - 1 + 1 = x8 by omega, ← e1] at hfs
        have nxt : ∀ (y : Int) (d9 d10 d11 : aL), ac3 sm (fo3 sm (fun s => T3 lik v p (k + (s + 1) * thr_ d)) x8.toNat) y → (sm = 0 → inL y) → Xs 209 (28, [some (some (vR 86)), some (some (vI sl)), some (some (vI sm)), some (some (vI w)), some (some (vI k)), some (some (vI d)), some (some (vL y)), some none, some (some (vI (x8 + 1))), d9, d10, d11], [], (M, W)) (QL Q) := fun y d9 d10 d11 hy hy2 => ih (3 - (x8 + 1)).toNat (by omega) y (x8 + 1) _ _ _ (by omega) (by omega) rfl (by rw [show x8 + 1 - 1 = x8 by omega]; exact hy) hy2
        have hll := hl.1 _ hc.1 hc.2
        rw [hml _ hc.1 hc.2, hm.1]
        refine ⟨by omega, by omega, fun q => ⟨by omega, by omega, fun v4 e4 => ?_⟩, fun q => nxt _ _ _ _ ?_ hix⟩
        · have hlp : 0 < lik v1 := by omega
          have hb := hB _ hc.1 hc.2 hlp p hWw.1.1 hWw.1.2
          have hTs := hT x8 h0 (by omega)
          rw [← e1] at hTs
          rw [hTs hlp] at e4
          rw [T3_v hlp] at hfs
          rcases upV_T (v := v v1 p) with ⟨q1, q2, q3⟩ | ⟨q1, q2, q3⟩
          · rw [q2] at e4
            rw [q3, ← e4] at hfs
            have hg := ac3_go hsm hac (y := v4) (by omega)
            rw [← hfs] at hg
            refine ⟨by omega, fun _ => ⟨by omega, fun z => ⟨⟨by omega, hix z⟩, fun y => nxt _ _ _ _ ((hg.1 z).1 y) hix, fun y => nxt _ _ _ _ ((hg.1 z).2 y) (fun _ => by omega)⟩, fun z => nxt _ _ _ _ (hg.2 z) (fun y => absurd y z)⟩, fun y => by omega⟩
          · rw [q2] at e4
            rw [q3, op3_t2] at hfs
            have := fo3_top (show x8.toNat ≤ 2 by omega) hfs
            rw [hfo] at this
            rcases upV_T (v := leV sm lik v k p d) with ⟨r1, r2, r3⟩ | ⟨r1, r2, r3⟩
            · rw [r3] at this; injection this with this; cases this
            · rw [r2] at h
              exact ⟨by omega, fun y => by omega, fun _ => h⟩
        · rw [hfs]
          have e : T3 lik v p v1 = none := if_pos (by omega)
          rw [e, op3_n]; exact hac
  refine e_X12_buys _ _ _ _ _ _ _ ?_
  rw [hm.2.1]
  exact ⟨by omega, fun v1 e1 => by
    subst e1
    exact ⟨by omega, fun q => key _ _ 1 _ _ _ (by decide) (by decide) rfl (Or.inl ⟨rfl, by rw [if_pos q]⟩) (fun _ => by decide), fun q => key _ _ 1 _ _ _ (by decide) (by decide) rfl (Or.inl ⟨rfl, by rw [if_neg q]⟩) (fun y => absurd y q)⟩⟩
theorem s_X12_layTerm {M : aM} {W : aW} {Q : aM → aW → Prop} {G : Lnd} {e : Int → Int} (hG : rfG G M) (hml : ∀ k, 0 ≤ k → k < thr_ ((G 0 3)) → M 103 k = lkG G k) (he : ∀ w, 0 ≤ w → w < p2_ ((G 0 3)) → 0 < wtG G w → M 108 w = e w ∧ -100000000 ≤ e w ∧ e w ≤ 100000000)
    (h : ∀ N, ag 109 109 M N → (∀ k, 0 ≤ k → k < thr_ ((G 0 3)) → 0 < lkG G k → N 109 k = enG G e k) → Q N W) : CallV 210 [vR 86] (M, W) Q := by
  have hn := hG.n
  have ht := hG.t
  have hw := hG.W
  have key : ∀ (n : Nat) (x1 : Int) (d2 d3 d4 d5 d6 d7 : aL) (N : aM), 0 ≤ x1 → x1 ≤ thr_ ((G 0 3)) → (thr_ ((G 0 3)) - x1).toNat = n → ag 109 109 M N → (∀ k, 0 ≤ k → k < thr_ ((G 0 3)) → 0 < lkG G k → dnT N x1 k → N 109 k = enG G e k) → Xs 210 (2, [some (some (vR 86)), some (some (vI x1)), d2, d3, d4, d5, d6, d7], [], (N, W)) (QV Q) := by
    intro n; induction n using Nat.strongRecOn with
    | _ n ih =>
      intro x1 d2 d3 d4 d5 d6 d7 N h0 h1 hn2 hag hi
      have hGN := hG.ag hag (by decide)
      refine k_X12_layTerm_2 _ _ _ _ _ _ _ _ _ _ ?_
      rw [hGN.o23]
      refine ⟨by omega, fun hge => ?_, fun hlt => ⟨by omega, fun v hv => ?_⟩⟩
      · have e : x1 = thr_ ((G 0 3)) := by omega
        subst e
        exact h N hag (fun k k0 k1 hl => hi k k0 k1 hl (dnT_all hGN.T k0 k1))
      · have hvr := hGN.T.1 x1 h0 (by omega)
        rw [← hv] at hvr
        have nxt : ∀ y d3 d4 d5 d6 d7, (0 < lkG G v → y = enG G e v) → Xs 210 (2, [some (some (vR 86)), some (some (vI (x1 + 1))), some (some (vI v)), d3, d4, d5, d6, d7], [], ((up_ N 109 v y), W)) (QV Q) := by
          intro y d3 d4 d5 d6 d7 hy
          refine ih (thr_ ((G 0 3)) - (x1 + 1)).toNat (by omega) (x1 + 1) _ _ _ _ _ _ _ (by omega) (by omega) rfl (ag_tr hag (ag_up _ (by decide) (by decide))) (fun k k0 k1 hl hd => ?_)
          by_cases e : k = v
          · subst e; rw [up_s]; exact hy hl
          · rw [up_j _ _ _ e]
            rcases dnT_s (hd.of (M := N) (fun j => up_b _ _ _ _ (by decide))) with q | q
            · exact hi k k0 k1 hl q
            · exact absurd (q.trans hv.symm) e
        refine s_X12_openIn hGN (by omega) (by omega) ⟨by have := cnt_le (fun i => decide (dg v i = 0)) ((G 0 3)).toNat; unfold unk; omega, fun q => ?_, fun q => ?_⟩
        · refine s_X12_unknownIn hGN (by omega) (by omega) (fun hf => q (by rw [unk_0.mpr hf]; rfl)) (fun d d0 d1 hd _ => ?_)
          have b1 := dg_lt (v := 1) hvr.1 (by omega) hvr.2 d0 d1 hd (by decide)
          have b2 := dg_lt (v := 2) hvr.1 (by omega) hvr.2 d0 d1 hd (by decide)
          have u1 := unk_add hw hvr.1 hvr.2 d0 d1 hd (v := 1) (by decide) (by decide)
          have u2 := unk_add hw hvr.1 hvr.2 d0 d1 hd (v := 2) (by decide) (by decide)
          rw [hv] at u1 u2
          have t1 := dnT_lt hGN.T h0 (by omega) (k := N 100 x1 + 1 * thr_ d) (by rw [← hv]; exact b1.1) (by rw [← hv]; exact b1.2) u1
          have t2 := dnT_lt hGN.T h0 (by omega) (k := N 100 x1 + 2 * thr_ d) (by rw [← hv]; exact b2.1) (by rw [← hv]; exact b2.2) u2
          rw [← hv] at t1 t2
          have e1 := fun hl => hi _ b1.1 b1.2 hl t1
          have e2 := fun hl => hi _ b2.1 b2.2 hl t2
          have hsp := enG_split hw (e := e) hvr.1 (by omega) d0 (by omega) hd
          have hls := (lkG_ok hw).2 v d hvr.1 hvr.2 d0 d1 hd
          have z1 := lkG_rng hw (v + thr_ d); have z2 := lkG_rng hw (v + 2 * thr_ d)
          rw [hGN.D3 d d0 (by omega)]
          rw [show v + 1 * thr_ d = v + thr_ d by omega] at e1 b1
          have r1 := fun hl => enG_rng hw (e := e) (B := 100000000) (k := v + thr_ d) (fun w w0 w1 hW => (he w w0 w1 hW).2) hl (by decide)
          have r2 := fun hl => enG_rng hw (e := e) (B := 100000000) (k := v + 2 * thr_ d) (fun w w0 w1 hW => (he w w0 w1 hW).2) hl (by decide)
          have n1 := fun hl => enG_none hw (e := e) (k := v + thr_ d) hl
          have n2 := fun hl => enG_none hw (e := e) (k := v + 2 * thr_ d) hl
          rw [hag 103 (v + thr_ d) (by decide), hag 103 (v + 2 * thr_ d) (by decide), hml _ b1.1 b1.2, hml _ b2.1 b2.2]
          unfold max_ at hsp
          refine ⟨by omega, by omega, by omega, fun q1 => ⟨by omega, by omega, by omega, fun q2 => ⟨by decide, fun _ => ⟨by omega, nxt _ _ _ _ _ _ (fun hl => by omega)⟩, fun y => absurd (by decide) y⟩, fun q2 => ?_⟩, fun q1 => ⟨by omega, by omega, by omega, by omega, by omega, fun q2 => ?_, fun q2 => ?_⟩⟩
          · have n1' := n1 q1; have r2' := r2 (by omega)
            rw [e2 (by omega)]
            refine ⟨by omega, by omega, by omega, fun y => ⟨by omega, nxt _ _ _ _ _ _ (fun hl => ?_)⟩, fun y => by omega⟩
            rw [hsp, if_pos (by omega)]
          · have n2' := n2 q2; have r1' := r1 (by omega)
            rw [e1 (by omega)]
            refine ⟨by omega, fun y => by omega, fun y => ⟨by omega, nxt _ _ _ _ _ _ (fun hl => ?_)⟩⟩
            rw [hsp, if_neg (by omega)]
          · have r1' := r1 (by omega); have r2' := r2 (by omega)
            rw [e1 (by omega), e2 (by omega)]
            refine ⟨by omega, by omega, by omega, fun y => ⟨by omega, nxt _ _ _ _ _ _ (fun hl => ?_)⟩, fun y => ⟨by omega, nxt _ _ _ _ _ _ (fun hl => ?_)⟩⟩
            · rw [hsp]
              by_cases a : enG G e (v + thr_ d) < enG G e (v + 2 * thr_ d)
              · rw [if_pos a]
              · rw [if_neg a]; omega
            · rw [hsp, if_neg (by omega)]
        · have hf : ful ((G 0 3)) v := unk_0.mp (by omega)
          have hs := sht_lt (by omega) (by omega) hvr.1 hvr.2
          have hsr := sht_rng v
          refine s_X12_worldOf hGN hvr.1 hvr.2 ⟨by omega, by omega, nxt _ _ _ _ _ _ (fun hl => ?_)⟩
          have hW : 0 < wtG G (sht v) := by
            have := lk_ful (u := wtG G) (by omega) (by omega) hvr.1 hvr.2 hf
            unfold lkG at hl; omega
          have hes := he _ hsr.1 hs hW
          rw [hag 108 _ (by decide), hes.1, enG_ful hw hvr.1 hvr.2 hf hl (by omega)]
  refine e_X12_layTerm _ _ _ ?_
  exact key _ 0 _ _ _ _ _ _ M (by decide) (by omega) rfl (ag_refl _ _ _) (fun k _ _ _ hd => absurd hd dnT_0)
theorem s_X12_isSold {M : aM} {W : aW} {Q : Int → aM → aW → Prop} {G : Lnd} {w p k : Int} (hG : rfG G M) (w0 : 0 ≤ w) (w1 : w < (G 0 5)) (hp : inI p) (k0 : 0 ≤ k) (k1 : k < 2147483648) (y1 : G 6 w = p → dg k (G 7 w) = 0 → Q 1 M W) (y0 : ¬ (G 6 w = p ∧ dg k (G 7 w) = 0) → Q 0 M W) : CallI 211 [vR 86, vI w, vI p, vI k] (M, W) Q := by
  have hn := hG.n
  have hWw := hG.W.W w w0 w1
  have hm := hG.w96 w0 w1
  refine e_X12_isSold _ _ _ _ _ _ ?_
  rw [hm.1, hm.2.1]
  refine ⟨by omega, by omega, fun q => ⟨Or.inl rfl, y0 (fun a => q a.1)⟩, fun q => ⟨by omega, s_X12_digit hG.D3 k0 k1 hWw.2.1.1 (by omega) ⟨by have := dg_rng k (G 7 w); omega, fun q2 => ⟨Or.inl rfl, y0 (fun a => q2 a.2)⟩, fun q2 => ⟨Or.inr rfl, y1 (by omega) (by omega)⟩⟩⟩⟩
def aft (st h y : Int) : Int := if y < 4000000000000000000 then st * h + y else 4000000000000000000
theorem s_X12_after {M : aM} {W : aW} {Q : Int → aM → aW → Prop} {st h0 y : Int} (hh : inI h0) (hy : inL y) (h : Q (aft st h0 y) M W) : CallL 212 [vR 86, vL st, vI h0, vL y] (M, W) Q := by
  unfold aft at h
  refine e_X12_after _ _ _ _ _ _ ?_
  refine ⟨⟨hy, by decide⟩, fun q => ⟨hh, ?_⟩, fun q => ?_⟩
  · rw [if_pos q] at h; exact h
  · rw [if_neg q] at h; exact h
/-- what a place counts for while one known is laid -/
def rvR (G : Lnd) (at1 k : Int) (N : aM) (q : Int) : Int := if fm_ k ((G 5 q)) < 0 then N 105 (at1 + q) else N 110 q
def goF (G : Lnd) (st k : Int) (R : Int → Int) (p q : Int) : Int := if 0 < pas G p q k then aft st (pas G p q k) (R q) else 4000000000000000000
def boF (G : Lnd) (st k : Int) (bo : Int → Int) (p w : Int) : Int := if G 6 w = p ∧ dg k (G 7 w) = 0 then aft st (G 8 w) (bo w) else 4000000000000000000
def lsF (G : Lnd) (st k : Int) (R bo : Int → Int) (p : Int) : Int := mn_ (boF G st k bo p) (mn_ (goF G st k R p) 4000000000000000000 ((G 0 0)).toNat) ((G 0 5)).toNat
/-- the scratch rows of one known -/
def scM (G : Lnd) (k : Int) (bo : Int → Int) (N : aM) : Prop := (∀ q, 0 ≤ q → q < (G 0 0) → N 111 q = if fm_ k ((G 5 q)) < 0 then 0 else 1) ∧ ∀ w, 0 ≤ w → w < (G 0 5) → dg k (G 7 w) = 0 → fm_ k ((G 5 (G 6 w))) < 0 → N 112 w = bo w
def rO (x : Int) : Prop := -2000000000000000000 ≤ x ∧ x ≤ 4000000000000000000
theorem aft_rng {st h y : Int} (s0 : 0 ≤ st) (s1 : st ≤ 20000000000) (h0 : 0 ≤ h) (h1 : h ≤ 198) (hy : rO y) : -2000000000000000000 ≤ aft st h y ∧ aft st h y ≤ 4000004000000000000 := by
  unfold rO at hy
  have a1 : 0 ≤ st * h := Int.mul_nonneg s0 h0
  have a2 : st * h ≤ 20000000000 * 198 := Int.le_trans (Int.mul_le_mul_of_nonneg_right s1 h0) (Int.mul_le_mul_of_nonneg_left h1 (by decide))
  unfold aft; split <;> omega
theorem s_X12_goes {M : aM} {W : aW} {Q : Int → aM → aW → Prop} {G : Lnd} {at1 st p q k : Int} {bo : Int → Int} (hG : rfG G M) (hS : scM G k bo M) (a0 : 0 ≤ at1) (a1 : at1 ≤ 29150) (s0 : 0 ≤ st) (s1 : st ≤ 20000000000) (p0 : 0 ≤ p) (p1 : p < (G 0 0)) (q0 : 0 ≤ q) (q1 : q < (G 0 0)) (k0 : 0 ≤ k) (k1 : k < 2147483648) (hR : rO (rvR G at1 k M q)) (h : inL (goF G st k (rvR G at1 k M) p q) → Q (goF G st k (rvR G at1 k M) p q) M W) : CallL 215 [vR 86, vI at1, vL st, vI p, vI q, vI k] (M, W) Q := by
  have hn := hG.n
  have hw := hG.W
  have hb := pasB_hr hw (p := p) (q := q) (op := opn k) (sh := sht k) p0 (by omega) q0 (by omega)
  have hpr := pasB_rng hw (p := p) (q := q) (op := opn k) (sh := sht k) p0 (by omega) q0 (by omega)
  have hbl := hw.btw_lt p0 (show p < 10 by omega) q0 (show q < 10 by omega)
  have har := aft_rng (h := pas G p q k) s0 s1 hpr.1 hpr.2 hR
  have h' := h (by unfold goF; split <;> omega)
  clear h
  have hS1 := hS.1 q q0 q1
  refine e_X12_goes _ _ _ _ _ _ _ _ ?_
  rw [hG.b98 p0 (by omega) q0 (by omega)]
  unfold goF at h'
  unfold pas at h' har
  unfold rvR at hR h' har
  unfold rO at hR
  refine ⟨by omega, fun v1 e1 => ⟨by omega, fun z => ?_, fun z => ⟨by decide, fun y => absurd y (by decide), fun _ => ?_⟩⟩⟩
  · obtain ⟨hb1, hb2⟩ := hb.2 (by omega)
    rw [← e1] at hb1 hb2
    refine s_X12_hoursOf hG (by omega) hb1 k0 k1 ⟨by rcases hb2 with a | a <;> omega, fun y => ?_, fun y => ?_⟩
    · have e2 : pasB G p q (opn k) (sht k) = hrB G v1 (opn k) (sht k) := by rcases hb2 with a | a <;> omega
      rw [← e2]
      rw [if_pos (by rcases hb2 with a | a <;> omega)] at h'
      rw [hS1]
      by_cases f : fm_ k ((G 5 q)) < 0
      · rw [if_pos f] at hR h' har ⊢
        exact ⟨by omega, by decide, fun _ => ⟨by omega, s_X12_after (by omega) (by omega) h'⟩, fun y => absurd rfl y⟩
      · rw [if_neg f] at hR h' har ⊢
        exact ⟨by omega, by decide, fun y => absurd y (by decide), fun _ => ⟨by omega, s_X12_after (by omega) (by omega) h'⟩⟩
    · rw [if_neg (by rcases hb2 with a | a <;> omega)] at h'; exact h'
  · rw [if_neg (by have := hb.1 (by omega); omega)] at h'; exact h'
theorem s_X12_least {M : aM} {W : aW} {Q : Int → aM → aW → Prop} {G : Lnd} {at1 st p k : Int} {bo : Int → Int} (hG : rfG G M) (hS : scM G k bo M) (a0 : 0 ≤ at1) (a1 : at1 ≤ 29150) (s0 : 0 ≤ st) (s1 : st ≤ 20000000000) (p0 : 0 ≤ p) (p1 : p < (G 0 0)) (hp : fm_ k ((G 5 p)) < 0) (k0 : 0 ≤ k) (k1 : k < 2147483648) (hR : ∀ q, 0 ≤ q → q < (G 0 0) → rO (rvR G at1 k M q)) (hbo : ∀ w, 0 ≤ w → w < (G 0 5) → dg k (G 7 w) = 0 → fm_ k ((G 5 (G 6 w))) < 0 → rO (bo w)) (h : inL (lsF G st k (rvR G at1 k M) bo p) → Q (lsF G st k (rvR G at1 k M) bo p) M W) : CallL 216 [vR 86, vI at1, vL st, vI p, vI k] (M, W) Q := by
  have hn := hG.n
  have hw := hG.W
  have l57 : ∀ (n : Nat) (x6 x8 : Int) (d9 d10 : aL), 0 ≤ x8 → x8 ≤ (G 0 5) → ((G 0 5) - x8).toNat = n → x6 = mn_ (boF G st k bo p) (mn_ (goF G st k (rvR G at1 k M) p) 4000000000000000000 ((G 0 0)).toNat) x8.toNat → inL x6 → Xs 216 (57, [some (some (vR 86)), some (some (vI at1)), some (some (vL st)), some none, some (some (vI p)), some (some (vI k)), some (some (vL x6)), some none, some (some (vI x8)), d9, d10], [], (M, W)) (QL Q) := by
    intro n; induction n using Nat.strongRecOn with
    | _ n ih =>
      intro x6 x8 d9 d10 h0 h1 hn2 hx hix
      have hs := mn_succ (boF G st k bo p) (mn_ (goF G st k (rvR G at1 k M) p) 4000000000000000000 ((G 0 0)).toNat) h0
      have htop : x6 ≤ 4000000000000000000 := by
        have t1 := mn_le_top (boF G st k bo p) (mn_ (goF G st k (rvR G at1 k M) p) 4000000000000000000 ((G 0 0)).toNat) x8.toNat
        have t2 := mn_le_top (goF G st k (rvR G at1 k M) p) 4000000000000000000 ((G 0 0)).toNat
        omega
      refine k_X12_least_57 _ _ _ _ _ _ _ _ _ _ _ ?_
      rw [hG.N.2.2.2.2.1]
      refine ⟨by omega, fun hge => ?_, fun hlt => ?_⟩
      · have e : x8 = (G 0 5) := by omega
        subst e; rw [hx] at hix ⊢; exact h hix
      · have hWw := hw.W x8 h0 (by omega)
        have nxt : ∀ y d9 d10, y = mn_ (boF G st k bo p) (mn_ (goF G st k (rvR G at1 k M) p) 4000000000000000000 ((G 0 0)).toNat) (x8 + 1).toNat → inL y → Xs 216 (57, [some (some (vR 86)), some (some (vI at1)), some (some (vL st)), some none, some (some (vI p)), some (some (vI k)), some (some (vL y)), some none, some (some (vI (x8 + 1))), d9, d10], [], (M, W)) (QL Q) := fun y d9 d10 hy hy2 => ih ((G 0 5) - (x8 + 1)).toNat (by omega) y (x8 + 1) _ _ (by omega) (by omega) rfl hy hy2
        refine s_X12_isSold hG h0 (by omega) (by omega) k0 k1 (fun z1 z2 => ⟨by decide, fun _ => ?_, fun y => absurd (by decide) y⟩) (fun z => ⟨by decide, fun y => absurd rfl y, fun _ => nxt _ _ _ ?_ hix⟩)
        · have hbw := hbo x8 h0 (by omega) z2 (by rw [z1]; exact hp)
          have har := aft_rng (h := G 8 x8) s0 s1 (by omega) (by omega) hbw
          rw [hS.2 x8 h0 (by omega) z2 (by rw [z1]; exact hp), (hG.w96 h0 (by omega)).2.2]
          unfold rO at hbw
          have eb : boF G st k bo p x8 = aft st (G 8 x8) (bo x8) := if_pos ⟨z1, z2⟩
          rw [eb, ← hx] at hs
          refine ⟨by omega, by omega, s_X12_after (by omega) (by omega) ⟨⟨by omega, hix⟩, fun y => nxt _ _ _ ?_ hix, fun y => nxt _ _ _ ?_ (by omega)⟩⟩
          · rw [hs, if_neg (by omega)]
          · rw [hs, if_pos (by omega)]
        · have eb : boF G st k bo p x8 = 4000000000000000000 := if_neg z
          rw [eb, ← hx, if_neg (by omega)] at hs
          exact hs.symm
  have l8 : ∀ (n : Nat) (x6 x8 : Int) (d9 d10 : aL), 0 ≤ x8 → x8 ≤ (G 0 0) → ((G 0 0) - x8).toNat = n → x6 = mn_ (goF G st k (rvR G at1 k M) p) 4000000000000000000 x8.toNat → inL x6 → Xs 216 (8, [some (some (vR 86)), some (some (vI at1)), some (some (vL st)), some none, some (some (vI p)), some (some (vI k)), some (some (vL x6)), some none, some (some (vI x8)), d9, d10], [], (M, W)) (QL Q) := by
    intro n; induction n using Nat.strongRecOn with
    | _ n ih =>
      intro x6 x8 d9 d10 h0 h1 hn2 hx hix
      have hs := mn_succ (goF G st k (rvR G at1 k M) p) 4000000000000000000 h0
      refine k_X12_least_8 _ _ _ _ _ _ _ _ _ _ _ ?_
      refine s_X12_places hG ⟨by omega, fun hge => ?_, fun hlt => ?_⟩
      · have e : x8 = (G 0 0) := by omega
        subst e
        exact l57 _ x6 0 _ _ (by decide) (by omega) rfl hx hix
      · refine s_X12_goes hG hS a0 a1 s0 s1 p0 p1 h0 (by omega) k0 k1 (hR x8 h0 (by omega)) (fun hi => ⟨⟨hi, hix⟩, fun y => ?_, fun y => ?_⟩)
        · refine ih ((G 0 0) - (x8 + 1)).toNat (by omega) _ (x8 + 1) _ _ (by omega) (by omega) rfl ?_ hix
          rw [hs, ← hx, if_neg (by omega)]
        · refine ih ((G 0 0) - (x8 + 1)).toNat (by omega) _ (x8 + 1) _ _ (by omega) (by omega) rfl ?_ hi
          rw [hs, ← hx, if_pos (by omega)]
  refine e_X12_least _ _ _ _ _ _ _ ?_
  exact l8 _ _ 0 _ _ (by decide) (by omega) rfl rfl (by decide)
theorem s_X12_firstOf {M : aM} {W : aW} {Q : Int → aM → aW → Prop} {G : Lnd} {at1 st p k : Int} {bo : Int → Int} (hG : rfG G M) (hS : scM G k bo M) (a0 : 0 ≤ at1) (a1 : at1 ≤ 29150) (s0 : 0 ≤ st) (s1 : st ≤ 20000000000) (p0 : 0 ≤ p) (p1 : p < (G 0 0)) (hp : fm_ k ((G 5 p)) < 0) (k0 : 0 ≤ k) (k1 : k < 2147483648) (hR : ∀ q, 0 ≤ q → q < (G 0 0) → rO (rvR G at1 k M q)) (hbo : ∀ w, 0 ≤ w → w < (G 0 5) → dg k (G 7 w) = 0 → fm_ k ((G 5 (G 6 w))) < 0 → rO (bo w)) (hV : M 105 (at1 + p) < 4000000000000000000) (hV0 : -2000000000000000000 ≤ M 105 (at1 + p))
    (y1 : ∀ q, 0 ≤ q → q < (G 0 0) → goF G st k (rvR G at1 k M) p q = M 105 (at1 + p) → (∀ j, 0 ≤ j → j < q → goF G st k (rvR G at1 k M) p j ≠ M 105 (at1 + p)) → Q q M W)
    (y2 : ∀ w, (∀ j, 0 ≤ j → j < (G 0 0) → goF G st k (rvR G at1 k M) p j ≠ M 105 (at1 + p)) → 0 ≤ w → w < (G 0 5) → boF G st k bo p w = M 105 (at1 + p) → (∀ j, 0 ≤ j → j < w → boF G st k bo p j ≠ M 105 (at1 + p)) → Q (100 + w) M W)
    (y3 : (∀ j, 0 ≤ j → j < (G 0 0) → goF G st k (rvR G at1 k M) p j ≠ M 105 (at1 + p)) → (∀ j, 0 ≤ j → j < (G 0 5) → boF G st k bo p j ≠ M 105 (at1 + p)) → Q (-2) M W) : CallI 217 [vR 86, vI at1, vL st, vI p, vI k] (M, W) Q := by
  have hn := hG.n
  have hw := hG.W
  have l49 : (∀ j, 0 ≤ j → j < (G 0 0) → goF G st k (rvR G at1 k M) p j ≠ M 105 (at1 + p)) → ∀ (n : Nat) (x6 : Int), 0 ≤ x6 → x6 ≤ (G 0 5) → ((G 0 5) - x6).toNat = n → (∀ j, 0 ≤ j → j < x6 → boF G st k bo p j ≠ M 105 (at1 + p)) → Xs 217 (49, [some (some (vR 86)), some (some (vI at1)), some (some (vL st)), some none, some (some (vI p)), some (some (vI k)), some (some (vI x6))], [], (M, W)) (QI Q) := by
    intro hno n; induction n using Nat.strongRecOn with
    | _ n ih =>
      intro x6 h0 h1 hn2 hx
      refine k_X12_firstOf_49 _ _ _ _ _ _ _ _ ?_
      rw [hG.N.2.2.2.2.1]
      refine ⟨by omega, fun hge => y3 hno (fun j j0 j1 => hx j j0 (by omega)), fun hlt => ?_⟩
      have hWw := hw.W x6 h0 (by omega)
      have nxt : boF G st k bo p x6 ≠ M 105 (at1 + p) → Xs 217 (49, [some (some (vR 86)), some (some (vI at1)), some (some (vL st)), some none, some (some (vI p)), some (some (vI k)), some (some (vI (x6 + 1)))], [], (M, W)) (QI Q) := fun hne => ih ((G 0 5) - (x6 + 1)).toNat (by omega) (x6 + 1) (by omega) (by omega) rfl (fun j j0 j1 => by
        by_cases e : j = x6
        · rw [e]; exact hne
        · exact hx j j0 (by omega))
      refine s_X12_isSold hG h0 (by omega) (by omega) k0 k1 (fun z1 z2 => ⟨by decide, fun y => absurd y (by decide), fun _ => ?_⟩) (fun z => ⟨by decide, fun _ => nxt ?_, fun y => absurd rfl y⟩)
      · have hbw := hbo x6 h0 (by omega) z2 (by rw [z1]; exact hp)
        have har := aft_rng (h := G 8 x6) s0 s1 (by omega) (by omega) hbw
        rw [hS.2 x6 h0 (by omega) z2 (by rw [z1]; exact hp), (hG.w96 h0 (by omega)).2.2]
        unfold rO at hbw
        have eb : boF G st k bo p x6 = aft st (G 8 x6) (bo x6) := if_pos ⟨z1, z2⟩
        exact ⟨by omega, by omega, s_X12_after (by omega) (by omega) ⟨by omega, by omega, fun y => nxt (by rw [eb]; exact y), fun y => y2 x6 hno h0 (by omega) (by rw [eb]; omega) hx⟩⟩
      · have eb : boF G st k bo p x6 = 4000000000000000000 := if_neg z
        rw [eb]; omega
  have l3 : ∀ (n : Nat) (x6 : Int), 0 ≤ x6 → x6 ≤ (G 0 0) → ((G 0 0) - x6).toNat = n → (∀ j, 0 ≤ j → j < x6 → goF G st k (rvR G at1 k M) p j ≠ M 105 (at1 + p)) → Xs 217 (3, [some (some (vR 86)), some (some (vI at1)), some (some (vL st)), some none, some (some (vI p)), some (some (vI k)), some (some (vI x6))], [], (M, W)) (QI Q) := by
    intro n; induction n using Nat.strongRecOn with
    | _ n ih =>
      intro x6 h0 h1 hn2 hx
      refine k_X12_firstOf_3 _ _ _ _ _ _ _ _ ?_
      refine s_X12_places hG ⟨by omega, fun hge => l49 (fun j j0 j1 => hx j j0 (by omega)) _ 0 (by decide) (by omega) rfl (fun j a b => by omega), fun hlt => ?_⟩
      refine s_X12_goes hG hS a0 a1 s0 s1 p0 p1 h0 (by omega) k0 k1 (hR x6 h0 (by omega)) (fun hi => ⟨by omega, ⟨hi, by omega⟩, fun y => ?_, fun y => y1 x6 h0 (by omega) (by omega) hx⟩)
      refine ih ((G 0 0) - (x6 + 1)).toNat (by omega) (x6 + 1) (by omega) (by omega) rfl (fun j j0 j1 => ?_)
      by_cases e : j = x6
      · rw [e]; exact y
      · exact hx j j0 (by omega)
  refine e_X12_firstOf _ _ _ _ _ _ _ ?_
  exact l3 _ 0 (by decide) (by omega) rfl (fun j a b => by omega)
