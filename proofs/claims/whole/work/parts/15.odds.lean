/-! ODDS: sums and products, weights of worlds, LIKELY of knowns -/
def pr_ (i : Int) (f : Int → Int) : Nat → Int
  | 0 => i
  | n + 1 => pr_ i f n * f n
def su_ (f : Int → Int) : Nat → Int
  | 0 => 0
  | n + 1 => su_ f n + f n
theorem pr_succ (i : Int) (f : Int → Int) {x : Int} (h : 0 ≤ x) : pr_ i f (x + 1).toNat = pr_ i f x.toNat * f x := by
  have e : (x + 1).toNat = x.toNat + 1 := by omega
  have e2 : ((x.toNat : Nat) : Int) = x := by omega
  rw [e]; show pr_ i f x.toNat * f (x.toNat : Nat) = _; rw [e2]
theorem su_succ (f : Int → Int) {x : Int} (h : 0 ≤ x) : su_ f (x + 1).toNat = su_ f x.toNat + f x := by
  have e : (x + 1).toNat = x.toNat + 1 := by omega
  have e2 : ((x.toNat : Nat) : Int) = x := by omega
  rw [e]; show su_ f x.toNat + f (x.toNat : Nat) = _; rw [e2]
theorem su_congr {f g : Int → Int} : ∀ n : Nat, (∀ i : Int, 0 ≤ i → i < n → f i = g i) → su_ f n = su_ g n := by
  intro n; induction n with
  | zero => intro _; rfl
  | succ n ih => intro h; show su_ f n + f n = su_ g n + g n; rw [ih (fun i a b => h i a (by omega)), h n (by omega) (by omega)]
theorem pr_congr {f g : Int → Int} {i : Int} : ∀ n : Nat, (∀ j : Int, 0 ≤ j → j < n → f j = g j) → pr_ i f n = pr_ i g n := by
  intro n; induction n with
  | zero => intro _; rfl
  | succ n ih => intro h; show pr_ i f n * f n = pr_ i g n * g n; rw [ih (fun i a b => h i a (by omega)), h n (by omega) (by omega)]
theorem su_add (f g : Int → Int) : ∀ n : Nat, su_ (fun i => f i + g i) n = su_ f n + su_ g n := by
  intro n; induction n with
  | zero => rfl
  | succ n ih => show su_ (fun i => f i + g i) n + (f n + g n) = (su_ f n + f n) + (su_ g n + g n); rw [ih]; omega
theorem su_mul (f : Int → Int) (a : Int) : ∀ n : Nat, su_ (fun i => f i * a) n = su_ f n * a := by
  intro n; induction n with
  | zero => show 0 = 0 * a; omega
  | succ n ih => show su_ (fun i => f i * a) n + f n * a = (su_ f n + f n) * a; rw [ih, Int.add_mul]
theorem su_nn {f : Int → Int} : ∀ n : Nat, (∀ i : Int, 0 ≤ i → i < n → 0 ≤ f i) → 0 ≤ su_ f n := by
  intro n; induction n with
  | zero => intro _; exact Int.le_refl _
  | succ n ih => intro h; have := ih (fun i a b => h i a (by omega)); have := h n (by omega) (by omega); show 0 ≤ su_ f n + f n; omega
theorem su_le {f g : Int → Int} : ∀ n : Nat, (∀ i : Int, 0 ≤ i → i < n → f i ≤ g i) → su_ f n ≤ su_ g n := by
  intro n; induction n with
  | zero => intro _; exact Int.le_refl _
  | succ n ih => intro h; have := ih (fun i a b => h i a (by omega)); have := h n (by omega) (by omega); show su_ f n + f n ≤ su_ g n + g n; omega
theorem su_zero : ∀ n : Nat, su_ (fun _ => 0) n = 0 := by
  intro n; induction n with
  | zero => rfl
  | succ n ih => show su_ (fun _ => 0) n + 0 = 0; omega
theorem su_one {f : Int → Int} (j : Int) : ∀ n : Nat, 0 ≤ j → j < n → (∀ i : Int, 0 ≤ i → i < n → i ≠ j → f i = 0) → su_ f n = f j := by
  intro n; induction n with
  | zero => intro a b; omega
  | succ n ih =>
    intro a b h
    show su_ f n + f n = f j
    by_cases hj : j = (n : Int)
    · have e : su_ f n = 0 := by
        rw [su_congr (g := fun _ => 0) n (fun i i0 i1 => h i i0 (by omega) (by omega))]
        exact su_zero n
      rw [e, hj]; omega
    · rw [ih a (by omega) (fun i i0 i1 => h i i0 (by omega)), h n (by omega) (by omega) (fun q => hj q.symm)]; omega
theorem su_pos {f : Int → Int} : ∀ n : Nat, (∀ i : Int, 0 ≤ i → i < n → 0 ≤ f i) → 0 < su_ f n → ∃ j : Int, 0 ≤ j ∧ j < n ∧ 0 < f j := by
  intro n; induction n with
  | zero => intro _ h; exact absurd h (Int.lt_irrefl _)
  | succ n ih =>
    intro h hp
    have hp' : 0 < su_ f n + f n := hp
    by_cases hn : 0 < f n
    · exact ⟨n, by omega, by omega, hn⟩
    · obtain ⟨j, a, b, c⟩ := ih (fun i i0 i1 => h i i0 (by omega)) (by omega)
      exact ⟨j, a, by omega, c⟩
theorem su_ge {f : Int → Int} : ∀ (n : Nat) (j : Int), (∀ i : Int, 0 ≤ i → i < n → 0 ≤ f i) → 0 ≤ j → j < n → f j ≤ su_ f n := by
  intro n; induction n with
  | zero => intro j _ a b; omega
  | succ n ih =>
    intro j h a b
    have h1 := su_nn n (fun i i0 i1 => h i i0 (by omega))
    have h2 := h n (by omega) (by omega)
    show f j ≤ su_ f n + f n
    by_cases hj : j = (n : Int)
    · rw [hj]; omega
    · have := ih j (fun i i0 i1 => h i i0 (by omega)) a (by omega); omega
/-- what one road's row gives -/
def rrv (doubt caused shut : Int) : Int := if caused = 0 then (if doubt = 0 then (if shut = 0 then 1 else 0) else (if shut = 0 then 10 - doubt else doubt)) else (if shut = 0 then 0 else if doubt ≤ 0 then 1 else 10)
def dbt (G : Lnd) (o od d : Int) : Int := if d = o then od else (G 2 ((G 3 d) * 7 + 3))
def csd (G : Lnd) (come d : Int) : Int := if 0 ≤ (G 2 ((G 3 d) * 7 + 4)) ∧ bt come ((G 2 ((G 3 d) * 7 + 4))) = 1 then 1 else 0
def rrb (G : Lnd) (o od come d b : Int) : Int := rrv (dbt G o od d) (csd G come d) b
def crf (G : Lnd) (come c : Int) : Int := if bt come c = 1 then G 1 c else 10 - G 1 c
def crw (G : Lnd) (come : Int) : Nat → Int := pr_ 1 (crf G come)
def wrw (G : Lnd) (o od w come : Int) : Nat → Int := pr_ (crw G come ((G 0 1)).toNat) (fun d => rrb G o od come d (bt w d))
/-- the weight of a world; one road may have another doubt than told -/
def wt (G : Lnd) (o od w : Int) : Int := su_ (fun come => wrw G o od w come ((G 0 3)).toNat) (p2_ ((G 0 1))).toNat
def odO (x : Int) : Prop := x = 37 ∨ x = 66
theorem od_o {x : Int} (h : odO x) : okO 86 6 x = true := by rcases h with rfl | rfl <;> rfl
theorem od_a1 {x : Int} (h : odO x) : okO 86 21 (x + 1) = true := by rcases h with rfl | rfl <;> rfl
theorem od_a2 {x : Int} (h : odO x) : okO 86 21 (x + 2) = true := by rcases h with rfl | rfl <;> rfl
theorem od_l1 {x : Int} (h : odO x) : ln_ (x + 1) = 64 := by rcases h with rfl | rfl <;> rfl
theorem od_l2 {x : Int} (h : odO x) : ln_ (x + 2) = 729 := by rcases h with rfl | rfl <;> rfl
theorem od_g {x : Int} (h : odO x) : 36 < x := by rcases h with rfl | rfl <;> decide
theorem s_X6_roadRows {M : aM} {W : aW} {Q : Int → aM → aW → Prop} {x a b c : Int} (a0 : 0 ≤ a) (a1 : a ≤ 10) (b0 : b = 0 ∨ b = 1) (c0 : c = 0 ∨ c = 1) (h : 0 ≤ rrv a b c → rrv a b c ≤ 10 → Q (rrv a b c) M W) : CallI 61 [vR x, vI a, vI b, vI c] (M, W) Q := by
  have e : 0 ≤ rrv a b c ∧ rrv a b c ≤ 10 := by unfold rrv; rcases b0 with rfl | rfl <;> rcases c0 with rfl | rfl <;> simp <;> (try split) <;> omega
  have h' := h e.1 e.2
  refine e_X6_roadRows _ _ _ _ _ _ _ ?_
  unfold rrv at h'
  rcases b0 with rfl | rfl <;> rcases c0 with rfl | rfl <;> repeat' (first | apply And.intro | intro _)
  all_goals (try omega)
  all_goals (by_cases ha : a = 0)
  all_goals simp_all
  all_goals (try omega)
  all_goals (first | exact h' | (rw [if_neg (by omega)] at h'; exact h') | (rw [if_pos (by omega)] at h'; exact h'))
theorem s_X6_causeRows {M : aM} {W : aW} {Q : Int → aM → aW → Prop} {G : Lnd} {c x come : Int} (hk : cty c) (hG : clG c G M) (hw : WF G) (c0 : 0 ≤ come) (c1 : come < 64) (h : Q (crw G come ((G 0 1)).toNat) M W) : CallL 60 [vR x, vR c, vI come] (M, W) Q := by
  have hN := hw.N; unfold wfN at hN
  have key : ∀ (n : Nat) (x3 x5 : Int) (d6 : aL), 0 ≤ x5 → x5 ≤ (G 0 1) → ((G 0 1) - x5).toNat = n → x3 = crw G come x5.toNat → Xs 60 (5, [some (some (vR x)), some (some (vR c)), some (some (vI come)), some (some (vL x3)), some none, some (some (vI x5)), d6], [], (M, W)) (QL Q) := by
    intro n; induction n using Nat.strongRecOn with
    | _ n ih =>
      intro x3 x5 d6 h0 h1 hn hx
      refine k_X6_causeRows_5 _ _ _ _ _ _ _ _ _ ?_
      rw [hG.1, ct_l1 hk]
      refine ⟨ct_o hk, by omega, fun hge => ?_, fun hlt => ⟨ct_o hk, ⟨ct_a1 hk, by omega, by omega⟩, fun v hv => ?_⟩⟩
      · have e : x5 = (G 0 1) := by omega
        subst e; rw [hx]; exact h
      · have hC := hw.C x5 h0 (by omega)
        rw [hG.2.1] at hv
        rw [bit_e c0 c1 h0 (by omega)]
        have hb := bt_rng come x5
        refine ⟨by omega, fun hz => ⟨by omega, fun y hy => ?_⟩, fun hz => ⟨by omega, fun y hy => ?_⟩⟩
        · refine ih ((G 0 1) - (x5 + 1)).toNat (by omega) y (x5 + 1) _ (by omega) (by omega) rfl ?_
          unfold crw at hx ⊢
          rw [pr_succ _ _ h0, ← hx, hy, hv]; unfold crf; rw [if_neg (by omega)]
        · refine ih ((G 0 1) - (x5 + 1)).toNat (by omega) y (x5 + 1) _ (by omega) (by omega) rfl ?_
          unfold crw at hx ⊢
          rw [pr_succ _ _ h0, ← hx, hy, hv]; unfold crf; rw [if_pos (by omega)]
  refine e_X6_causeRows _ _ _ _ _ _ ?_
  exact key _ 1 0 _ (by omega) (by omega) rfl rfl
theorem dbt_rng {G : Lnd} (hw : WF G) {o od d : Int} (ho : 0 ≤ od ∧ od ≤ 10) (d0 : 0 ≤ d) (d1 : d < (G 0 3)) : 0 ≤ dbt G o od d ∧ dbt G o od d ≤ 10 := by
  have h1 := hw.D d d0 d1
  have h2 := hw.R _ h1.1 h1.2.1
  unfold dbt; split <;> omega
theorem csd_cs (G : Lnd) (come d : Int) : csd G come d = 0 ∨ csd G come d = 1 := by unfold csd; split <;> simp
theorem s_X6_weigh {M : aM} {W : aW} {Q : aM → aW → Prop} {G : Lnd} {c x o od : Int} (hk : cty c) (hG : clG c G M) (hw : WF G) (hx : odO x) (o0 : inI o) (ho : 0 ≤ od ∧ od ≤ 10)
    (h : ∀ N, ag (x + 1) (x + 1) M N → (∀ w, 0 ≤ w → w < p2_ ((G 0 3)) → N (x + 1) w = wt G o od w) → Q N W) : CallV 59 [vR x, vR c, vI o, vI od] (M, W) Q := by
  have hN := hw.N; unfold wfN at hN
  have h64 := p2_lt64 hw
  have hC4 : 1 ≤ p2_ ((G 0 1)) ∧ p2_ ((G 0 1)) ≤ 4 := by
    rcases (show (G 0 1) = 0 ∨ (G 0 1) = 1 ∨ (G 0 1) = 2 by omega) with e | e | e <;> rw [e] <;> decide
  have hxg := od_g hx
  have l3 : ∀ (n : Nat) (x4 : Int) (d5 d6 d7 d8 d9 d10 d11 : aL) (N : aM), 0 ≤ x4 → x4 ≤ p2_ ((G 0 3)) → (p2_ ((G 0 3)) - x4).toNat = n → ag (x + 1) (x + 1) M N → (∀ w, 0 ≤ w → w < x4 → N (x + 1) w = wt G o od w) → Xs 59 (3, [some (some (vR x)), some (some (vR c)), some (some (vI o)), some (some (vI od)), some (some (vI x4)), d5, d6, d7, d8, d9, d10, d11], [], (N, W)) (QV Q) := by
    intro n; induction n using Nat.strongRecOn with
    | _ n ih =>
      intro x4 d5 d6 d7 d8 d9 d10 d11 N h0 h1 hn hag hi
      have hGN := hG.ag hk hag (by omega)
      refine k_X6_weigh_3 _ _ _ _ _ _ _ _ _ _ _ _ _ _ _ ?_
      refine ⟨ct_o hk, s_X3_worlds hk hGN hw ⟨by omega, fun hge => ?_, fun hlt => ⟨od_o hx, ⟨od_a1 hx, by rw [od_l1 hx]; omega⟩, ?_⟩⟩⟩
      · exact h N hag (fun w w0 w1 => hi w w0 (by omega))
      · have l23 : ∀ (m : Nat) (x5 : Int) (d6 d7 d8 d9 d10 d11 : aL) (K : aM), 0 ≤ x5 → x5 ≤ p2_ ((G 0 1)) → (p2_ ((G 0 1)) - x5).toNat = m → ag (x + 1) (x + 1) M K → (∀ w, 0 ≤ w → w < x4 → K (x + 1) w = wt G o od w) → K (x + 1) x4 = su_ (fun come => wrw G o od x4 come ((G 0 3)).toNat) x5.toNat → Xs 59 (23, [some (some (vR x)), some (some (vR c)), some (some (vI o)), some (some (vI od)), some (some (vI x4)), some (some (vI x5)), d6, d7, d8, d9, d10, d11], [], (K, W)) (QV Q) := by
          intro m; induction m using Nat.strongRecOn with
          | _ m ih2 =>
            intro x5 d6 d7 d8 d9 d10 d11 K k0 k1 hm hagK hiK hsu
            have hGK := hG.ag hk hagK (by omega)
            refine k_X6_weigh_23 _ _ _ _ _ _ _ _ _ _ _ _ _ _ _ ?_
            rw [hGK.1, shl_e (by omega) (by omega)]
            refine ⟨ct_o hk, by omega, fun hge => ?_, fun hlt5 => ⟨od_o hx, s_X6_causeRows hk hGK hw k0 (by omega) ?_⟩⟩
            · have e5 : x5 = p2_ ((G 0 1)) := by omega
              refine ih (p2_ ((G 0 3)) - (x4 + 1)).toNat (by omega) (x4 + 1) _ _ _ _ _ _ _ K (by omega) (by omega) rfl hagK (fun w w0 w1 => ?_)
              by_cases he : w = x4
              · rw [he, hsu, e5]; rfl
              · exact hiK w w0 (by omega)
            · have l46 : ∀ (k : Nat) (x6 x8 : Int) (d9 d10 d11 : aL), 0 ≤ x8 → x8 ≤ (G 0 3) → ((G 0 3) - x8).toNat = k → x6 = wrw G o od x4 x5 x8.toNat → Xs 59 (46, [some (some (vR x)), some (some (vR c)), some (some (vI o)), some (some (vI od)), some (some (vI x4)), some (some (vI x5)), some (some (vL x6)), some none, some (some (vI x8)), d9, d10, d11], [], (K, W)) (QV Q) := by
                intro k; induction k using Nat.strongRecOn with
                | _ k ih3 =>
                  intro x6 x8 d9 d10 d11 j0 j1 hkk hx6
                  refine k_X6_weigh_46 _ _ _ _ _ _ _ _ _ _ _ _ _ _ ?_
                  rw [hGK.1, od_l1 hx]
                  refine ⟨ct_o hk, by omega, fun hge8 => ⟨od_o hx, ⟨od_a1 hx, by omega, by omega⟩, ⟨od_a1 hx, by omega, by omega⟩, ?_⟩, fun hlt8 => ⟨by omega, ?_⟩⟩
                  · have e8 : x8 = (G 0 3) := by omega
                    refine ih2 (p2_ ((G 0 1)) - (x5 + 1)).toNat (by omega) (x5 + 1) _ _ _ _ _ _ _ (by omega) (by omega) rfl (ag_tr hagK (ag_up _ (Int.le_refl _) (Int.le_refl _))) (fun w w0 w1 => ?_) ?_
                    · rw [up_j _ _ _ (by omega)]; exact hiK w w0 w1
                    · rw [up_s, su_succ _ k0, hsu, hx6, e8]
                  · have hD := hw.D x8 j0 (by omega)
                    have hR := hw.R _ hD.1 hD.2.1
                    have hdr := dbt_rng (o := o) hw ho j0 (show x8 < (G 0 3) by omega)
                    have hb4 := bt_cs x4 x8
                    have nxt : ∀ (x9 x10 : Int) (d11 : aL) (v : Int), v = rrb G o od x5 x8 (bt x4 x8) → Xs 59 (46, [some (some (vR x)), some (some (vR c)), some (some (vI o)), some (some (vI od)), some (some (vI x4)), some (some (vI x5)), some (some (vL (x6 * v))), some none, some (some (vI (x8 + 1))), some (some (vI x9)), some (some (vI x10)), d11], [], (K, W)) (QV Q) := by
                      intro x9 x10 d11 v hv
                      refine ih3 ((G 0 3) - (x8 + 1)).toNat (by omega) _ (x8 + 1) _ _ _ (by omega) (by omega) rfl ?_
                      unfold wrw at hx6 ⊢
                      rw [pr_succ _ _ j0, ← hx6, hv]
                    have l100 : ∀ (x9 x10 : Int) (d11 : aL), x9 = dbt G o od x8 → csd G x5 x8 = 0 → Xs 59 (100, [some (some (vR x)), some (some (vR c)), some (some (vI o)), some (some (vI od)), some (some (vI x4)), some (some (vI x5)), some (some (vL x6)), some none, some (some (vI x8)), some (some (vI x9)), some (some (vI x10)), d11], [], (K, W)) (QV Q) := by
                      intro x9 x10 d11 h9 hcs
                      refine k_X6_weigh_100 _ _ _ _ _ _ _ _ _ _ _ _ _ _ ?_
                      rw [bit_e h0 (by omega) j0 (by omega)]
                      refine ⟨by omega, fun hz => ⟨od_o hx, s_X6_roadRows (by omega) (by omega) (Or.inl rfl) (Or.inl rfl) (fun r0 r1 => ⟨by omega, fun v hv => ?_⟩)⟩, fun hz => ⟨od_o hx, s_X6_roadRows (by omega) (by omega) (Or.inl rfl) (Or.inr rfl) (fun r0 r1 => ⟨by omega, fun v hv => ?_⟩)⟩⟩
                      · rw [hv]; exact nxt _ _ _ _ (by unfold rrb; rw [hcs, ← h9, hz])
                      · rw [hv]; exact nxt _ _ _ _ (by unfold rrb; rw [hcs, ← h9, show bt x4 x8 = 1 by omega])
                    have rest : ∀ (x9 : Int), x9 = dbt G o od x8 → ((inI ((G 2 ((G 3 x8) * 7 + 4)))) ∧ (((G 2 ((G 3 x8) * 7 + 4)) < 0 → Xs 59 (100, [some (some (vR x)), some (some (vR c)), some (some (vI o)), some (some (vI od)), some (some (vI x4)), some (some (vI x5)), some (some (vL x6)), some none, some (some (vI x8)), some (some (vI x9)), some (some (vI ((G 2 ((G 3 x8) * 7 + 4))))), d11], [], (K, W)) (QV Q)) ∧ (¬ (G 2 ((G 3 x8) * 7 + 4)) < 0 → (inI (and_ (shr_ x5 ((G 2 ((G 3 x8) * 7 + 4)))) 1)) ∧
                        ((and_ (shr_ x5 ((G 2 ((G 3 x8) * 7 + 4)))) 1 = 0 → Xs 59 (100, [some (some (vR x)), some (some (vR c)), some (some (vI o)), some (some (vI od)), some (some (vI x4)), some (some (vI x5)), some (some (vL x6)), some none, some (some (vI x8)), some (some (vI x9)), some (some (vI ((G 2 ((G 3 x8) * 7 + 4))))), d11], [], (K, W)) (QV Q)) ∧ (¬ and_ (shr_ x5 ((G 2 ((G 3 x8) * 7 + 4)))) 1 = 0 → (inI (and_ (shr_ x4 x8) 1)) ∧
                          ((and_ (shr_ x4 x8) 1 = 0 → (okO 86 6 x = true) ∧ CallI 61 [vR x, vI x9, vI 1, vI 0] (K, W) (fun r9 M7 W8 => (inI r9) ∧ (∀ v10 : Int, v10 = x6 * r9 → Xs 59 (46, [some (some (vR x)), some (some (vR c)), some (some (vI o)), some (some (vI od)), some (some (vI x4)), some (some (vI x5)), some (some (vL v10)), some none, some (some (vI (x8 + 1))), some (some (vI x9)), some (some (vI ((G 2 ((G 3 x8) * 7 + 4))))), some (some (vI 1))], [], (M7, W8)) (QV Q)))) ∧
                           (¬ and_ (shr_ x4 x8) 1 = 0 → (okO 86 6 x = true) ∧ CallI 61 [vR x, vI x9, vI 1, vI 1] (K, W) (fun r9 M7 W8 => (inI r9) ∧ (∀ v10 : Int, v10 = x6 * r9 → Xs 59 (46, [some (some (vR x)), some (some (vR c)), some (some (vI o)), some (some (vI od)), some (some (vI x4)), some (some (vI x5)), some (some (vL v10)), some none, some (some (vI (x8 + 1))), some (some (vI x9)), some (some (vI ((G 2 ((G 3 x8) * 7 + 4))))), some (some (vI 1))], [], (M7, W8)) (QV Q)))))))))) := by
                      intro x9 h9
                      refine ⟨by omega, fun hz => l100 _ _ _ h9 (by unfold csd; rw [if_neg (by omega)]), fun hz => ?_⟩
                      rw [bit_e k0 (by omega) (by omega) (by omega), bit_e h0 (by omega) j0 (by omega)]
                      have hb5 := bt_cs x5 ((G 2 ((G 3 x8) * 7 + 4)))
                      refine ⟨by omega, fun hy => l100 _ _ _ h9 (by unfold csd; rw [if_neg (by omega)]), fun hy => ⟨by omega, fun hs => ⟨od_o hx, s_X6_roadRows (by omega) (by omega) (Or.inr rfl) (Or.inl rfl) (fun r0 r1 => ⟨by omega, fun v hv => ?_⟩)⟩, fun hs => ⟨od_o hx, s_X6_roadRows (by omega) (by omega) (Or.inr rfl) (Or.inr rfl) (fun r0 r1 => ⟨by omega, fun v hv => ?_⟩)⟩⟩⟩
                      · rw [hv]; exact nxt _ _ _ _ (by unfold rrb; rw [← h9, hs, show csd G x5 x8 = 1 by unfold csd; rw [if_pos (by omega)]])
                      · rw [hv]; exact nxt _ _ _ _ (by unfold rrb; rw [← h9, show bt x4 x8 = 1 by omega, show csd G x5 x8 = 1 by unfold csd; rw [if_pos (by omega)]])
                    refine ⟨fun hne => ⟨ct_o hk, s_X3_doubtOf hk hGK hw j0 (by omega) ⟨ct_o hk, s_X3_causeOf hk hGK hw j0 (by omega) ?_⟩⟩, fun he => ⟨ct_o hk, s_X3_causeOf hk hGK hw j0 (by omega) ?_⟩⟩
                    · exact rest _ (by unfold dbt; rw [if_neg hne])
                    · exact rest _ (by unfold dbt; rw [if_pos (by omega)])
              exact l46 _ _ 0 _ _ _ (by omega) (by omega) rfl rfl
        refine l23 _ 0 _ _ _ _ _ _ _ (by omega) (by omega) rfl (ag_tr hag (ag_up _ (Int.le_refl _) (Int.le_refl _))) (fun w w0 w1 => ?_) ?_
        · rw [up_j _ _ _ (by omega)]; exact hi w w0 w1
        · rw [up_s]; rfl
  refine e_X6_weigh _ _ _ _ _ _ _ ?_
  exact l3 _ 0 _ _ _ _ _ _ _ M (by omega) (by omega) rfl (ag_refl _ _ _) (fun w a b => by omega)
-- what all weights make
theorem bt_low {n i w : Int} (n0 : 0 ≤ n) (n6 : n < 6) (i0 : 0 ≤ i) (i1 : i < n) (w0 : 0 ≤ w) (w1 : w < p2_ n) : bt (w + p2_ n) i = bt w i := by
  rcases six_ n0 n6 with rfl | rfl | rfl | rfl | rfl | rfl <;> rcases six_ i0 (by omega) with rfl | rfl | rfl | rfl | rfl | rfl <;> (try omega) <;> simp only [bt, p2_, ite_true, Int.reduceEq, ite_false] at w1 ⊢ <;> omega
theorem bt_top {n w : Int} (n0 : 0 ≤ n) (n6 : n < 6) (w0 : 0 ≤ w) (w1 : w < p2_ n) : bt (w + p2_ n) n = 1 ∧ bt w n = 0 := by
  rcases six_ n0 n6 with rfl | rfl | rfl | rfl | rfl | rfl <;> simp only [bt, p2_, ite_true, Int.reduceEq, ite_false] at w1 ⊢ <;> omega
theorem p2_S {n : Int} (n0 : 0 ≤ n) (n6 : n < 6) : p2_ (n + 1) = p2_ n + p2_ n := by
  rcases six_ n0 n6 with rfl | rfl | rfl | rfl | rfl | rfl <;> decide
theorem su_app (f : Int → Int) (a : Nat) : ∀ b : Nat, su_ f (a + b) = su_ f a + su_ (fun i => f (i + a)) b := by
  intro b; induction b with
  | zero => show su_ f a = su_ f a + 0; omega
  | succ b ih =>
    show su_ f (a + b) + f ((a + b : Nat) : Int) = su_ f a + (su_ (fun i => f (i + a)) b + f ((b : Int) + a))
    rw [ih, show ((a + b : Nat) : Int) = (b : Int) + a by omega]; omega
theorem su_prod (R : Int → Int → Int) (i0 : Int) : ∀ n : Nat, n ≤ 6 → su_ (fun w => pr_ i0 (fun d => R d (bt w d)) n) (p2_ n).toNat = pr_ i0 (fun d => R d 0 + R d 1) n := by
  intro n; induction n with
  | zero => intro _; show 0 + i0 = i0; omega
  | succ n ih =>
    intro hn
    have e0 : p2_ ((n + 1 : Nat) : Int) = p2_ n + p2_ n := by rw [show ((n + 1 : Nat) : Int) = (n : Int) + 1 by omega]; exact p2_S (by omega) (by omega)
    have hp := p2_le (show (0 : Int) ≤ n by omega) (show (n : Int) ≤ 6 by omega)
    have e1 : (p2_ ((n + 1 : Nat) : Int)).toNat = (p2_ n).toNat + (p2_ n).toNat := by omega
    rw [e1, su_app]
    have h1 : su_ (fun w => pr_ i0 (fun d => R d (bt w d)) (n + 1)) (p2_ n).toNat = su_ (fun w => pr_ i0 (fun d => R d (bt w d)) n) (p2_ n).toNat * R n 0 := by
      rw [← su_mul]
      refine su_congr _ (fun w w0 w1 => ?_)
      show pr_ i0 (fun d => R d (bt w d)) n * R n (bt w n) = _
      rw [(bt_top (n := n) (by omega) (by omega) w0 (by omega)).2]
    have h2 : su_ (fun i => pr_ i0 (fun d => R d (bt (i + ((p2_ n).toNat : Int)) d)) (n + 1)) (p2_ n).toNat = su_ (fun w => pr_ i0 (fun d => R d (bt w d)) n) (p2_ n).toNat * R n 1 := by
      rw [← su_mul]
      refine su_congr _ (fun w w0 w1 => ?_)
      have e2 : w + ((p2_ n).toNat : Int) = w + p2_ n := by omega
      show pr_ i0 (fun d => R d (bt (w + ((p2_ n).toNat : Int)) d)) n * R n (bt (w + ((p2_ n).toNat : Int)) n) = pr_ i0 (fun d => R d (bt w d)) n * R n 1
      rw [e2, (bt_top (n := n) (by omega) (by omega) w0 (by omega)).1]
      rw [pr_congr (g := fun d => R d (bt w d)) n (fun j j0 j1 => by rw [bt_low (n := n) (by omega) (by omega) j0 j1 w0 (by omega)])]
    rw [h1, h2, ih (by omega), ← Int.mul_add]; rfl
theorem pr_nn {i : Int} {f : Int → Int} (hi : 0 ≤ i) : ∀ n : Nat, (∀ j : Int, 0 ≤ j → j < n → 0 ≤ f j) → 0 ≤ pr_ i f n := by
  intro n; induction n with
  | zero => intro _; exact hi
  | succ n ih => intro h; exact Int.mul_nonneg (ih (fun j a b => h j a (by omega))) (h n (by omega) (by omega))
def tenp : Nat → Int
  | 0 => 1
  | n + 1 => tenp n * 10
theorem tenp_pos : ∀ n, 0 ≤ tenp n := by
  intro n; induction n with
  | zero => decide
  | succ n ih => show 0 ≤ tenp n * 10; omega
theorem pr_ten {i b : Int} {f : Int → Int} (hi : 0 ≤ i) (hb : i ≤ b) : ∀ n : Nat, (∀ j : Int, 0 ≤ j → j < n → 0 ≤ f j ∧ f j ≤ 10) → pr_ i f n ≤ b * tenp n := by
  intro n; induction n with
  | zero => intro _; show i ≤ b * 1; omega
  | succ n ih =>
    intro h
    have h1 := ih (fun j a b => h j a (by omega))
    have h2 := h n (by omega) (by omega)
    have h3 := pr_nn hi n (fun j a b => (h j a (by omega)).1)
    show pr_ i f n * f n ≤ b * (tenp n * 10)
    have a1 : pr_ i f n * f n ≤ pr_ i f n * 10 := Int.mul_le_mul_of_nonneg_left h2.2 h3
    have a2 : pr_ i f n * 10 ≤ b * tenp n * 10 := Int.mul_le_mul_of_nonneg_right h1 (by decide)
    rw [← Int.mul_assoc]; omega
theorem tenp_le : ∀ {n m : Nat}, n ≤ m → tenp n ≤ tenp m := by
  intro n m h; induction h with
  | refl => exact Int.le_refl _
  | step _ ih => have := tenp_pos n; show tenp n ≤ tenp _ * 10; omega
theorem crf_rng {G : Lnd} (hw : WF G) {come c : Int} (c0 : 0 ≤ c) (c1 : c < (G 0 1)) : 0 ≤ crf G come c ∧ crf G come c ≤ 10 := by
  have := hw.C c c0 c1; unfold crf; split <;> omega
theorem crw_nn {G : Lnd} (hw : WF G) (come : Int) {n : Nat} (hn : n ≤ (G 0 1)) : 0 ≤ crw G come n := pr_nn (by decide) _ (fun j a b => (crf_rng hw a (by omega)).1)
theorem rrv_sum {a c : Int} (a0 : 0 ≤ a) (a1 : a ≤ 10) : (0 ≤ rrv a c 0 + rrv a c 1 ∧ rrv a c 0 + rrv a c 1 ≤ 10) ∧ 0 ≤ rrv a c 0 ∧ 0 ≤ rrv a c 1 := by
  unfold rrv
  by_cases hc : c = 0 <;> by_cases ha : a = 0 <;> simp [hc, ha] <;> (try split) <;> omega
theorem wrw_nn {G : Lnd} (hw : WF G) {o od w come : Int} (ho : 0 ≤ od ∧ od ≤ 10) : 0 ≤ wrw G o od w come ((G 0 3)).toNat := by
  have hN := hw.N; unfold wfN at hN
  refine pr_nn (crw_nn hw come (by omega)) _ (fun j a b => ?_)
  have hd := dbt_rng (o := o) hw ho a (show j < (G 0 3) by omega)
  have hs := rrv_sum (c := csd G come j) hd.1 hd.2
  unfold rrb
  rcases bt_cs w j with e | e <;> rw [e]
  · exact hs.2.1
  · exact hs.2.2
theorem wt_nn {G : Lnd} (hw : WF G) {o od : Int} (ho : 0 ≤ od ∧ od ≤ 10) (w : Int) : 0 ≤ wt G o od w := su_nn _ (fun come _ _ => wrw_nn hw ho)
theorem su_swap (f : Int → Int → Int) (n : Nat) : ∀ m : Nat, su_ (fun i => su_ (fun j => f i j) m) n = su_ (fun j => su_ (fun i => f i j) n) m := by
  intro m; induction m with
  | zero => exact su_zero n
  | succ m ih =>
    show su_ (fun i => su_ (fun j => f i j) m + f i m) n = su_ (fun j => su_ (fun i => f i j) n) m + su_ (fun i => f i m) n
    rw [su_add, ih]
theorem wt_sum {G : Lnd} (hw : WF G) {o od : Int} (ho : 0 ≤ od ∧ od ≤ 10) : su_ (wt G o od) (p2_ ((G 0 3))).toNat ≤ 100000000 := by
  have hN := hw.N; unfold wfN at hN
  have e : su_ (wt G o od) (p2_ ((G 0 3))).toNat = su_ (fun come => su_ (fun w => wrw G o od w come ((G 0 3)).toNat) (p2_ ((G 0 3))).toNat) (p2_ ((G 0 1))).toNat := su_swap (fun w come => wrw G o od w come ((G 0 3)).toNat) _ _
  rw [e]
  have eD : ((((G 0 3)).toNat : Nat) : Int) = (G 0 3) := by omega
  have eC : ((((G 0 1)).toNat : Nat) : Int) = (G 0 1) := by omega
  have h1 : ∀ come : Int, su_ (fun w => wrw G o od w come ((G 0 3)).toNat) (p2_ ((G 0 3))).toNat ≤ crw G come ((G 0 1)).toNat * 1000000 := by
    intro come
    have h2 := su_prod (fun d b => rrb G o od come d b) (crw G come ((G 0 1)).toNat) ((G 0 3)).toNat (by omega)
    rw [eD] at h2
    show su_ (fun w => pr_ (crw G come ((G 0 1)).toNat) (fun d => rrb G o od come d (bt w d)) ((G 0 3)).toNat) (p2_ ((G 0 3))).toNat ≤ _
    rw [h2]
    have h3 := pr_ten (crw_nn hw come (by omega)) (Int.le_refl (crw G come ((G 0 1)).toNat)) (f := fun d => rrb G o od come d 0 + rrb G o od come d 1) ((G 0 3)).toNat (fun j a b => by
      have hd := dbt_rng (o := o) hw ho a (show j < (G 0 3) by omega)
      exact (rrv_sum hd.1 hd.2).1)
    have h4 : tenp ((G 0 3)).toNat ≤ 1000000 := tenp_le (m := 6) (by omega)
    exact Int.le_trans h3 (Int.mul_le_mul_of_nonneg_left h4 (crw_nn hw come (by omega)))
  have h5 : su_ (fun come => su_ (fun w => wrw G o od w come ((G 0 3)).toNat) (p2_ ((G 0 3))).toNat) (p2_ ((G 0 1))).toNat ≤ su_ (fun come => crw G come ((G 0 1)).toNat * 1000000) (p2_ ((G 0 1))).toNat := su_le _ (fun come _ _ => h1 come)
  rw [su_mul] at h5
  have h6 := su_prod (fun d b => if b = 1 then G 1 d else 10 - G 1 d) 1 ((G 0 1)).toNat (by omega)
  rw [eC] at h6
  have h7 : su_ (fun come => crw G come ((G 0 1)).toNat) (p2_ ((G 0 1))).toNat ≤ 100 := by
    show su_ (fun come => pr_ 1 (fun d => if bt come d = 1 then G 1 d else 10 - G 1 d) ((G 0 1)).toNat) (p2_ ((G 0 1))).toNat ≤ 100
    rw [h6]
    have h3 := pr_ten (i := 1) (b := 1) (by decide) (by decide) (f := fun d => (if (0 : Int) = 1 then G 1 d else 10 - G 1 d) + (if (1 : Int) = 1 then G 1 d else 10 - G 1 d)) ((G 0 1)).toNat (fun j a b => by simp)
    have h4 : tenp ((G 0 1)).toNat ≤ 100 := tenp_le (m := 2) (by omega)
    omega
  omega
-- LIKELY
def agB (k w : Int) : Bool := (decide (dg k 0 = 0 ∨ dg k 0 = bt w 0 + 1) && decide (dg k 1 = 0 ∨ dg k 1 = bt w 1 + 1)) && (decide (dg k 2 = 0 ∨ dg k 2 = bt w 2 + 1) && decide (dg k 3 = 0 ∨ dg k 3 = bt w 3 + 1)) && (decide (dg k 4 = 0 ∨ dg k 4 = bt w 4 + 1) && decide (dg k 5 = 0 ∨ dg k 5 = bt w 5 + 1))
theorem agB_iff (k w : Int) : agB k w = true ↔ ∀ i, 0 ≤ i → i < 6 → dg k i = 0 ∨ dg k i = bt w i + 1 := by
  unfold agB
  simp only [Bool.and_eq_true, decide_eq_true_eq]
  constructor
  · rintro ⟨⟨⟨a, b⟩, c, d⟩, e, f⟩ i i0 i6
    rcases six_ i0 i6 with rfl | rfl | rfl | rfl | rfl | rfl <;> assumption
  · intro h
    exact ⟨⟨⟨h 0 (by decide) (by decide), h 1 (by decide) (by decide)⟩, h 2 (by decide) (by decide), h 3 (by decide) (by decide)⟩, h 4 (by decide) (by decide), h 5 (by decide) (by decide)⟩
def lk (u : Int → Int) (nd : Int) (k : Int) : Int := su_ (fun w => if agB k w = true then u w else 0) (p2_ nd).toNat
theorem agB_split {k d w : Int} (k0 : 0 ≤ k) (k1 : k < 729) (d0 : 0 ≤ d) (d6 : d < 6) (h : dg k d = 0) : (agB k w = true ↔ (agB (k + thr_ d) w = true ∨ agB (k + 2 * thr_ d) w = true)) ∧ ¬ (agB (k + thr_ d) w = true ∧ agB (k + 2 * thr_ d) w = true) := by
  have e1 : ∀ i, 0 ≤ i → i < 6 → dg (k + thr_ d) i = if i = d then 1 else dg k i := fun i i0 i6 => by have := dg_add (v := 1) k0 k1 d0 d6 i0 i6 h (by decide); rw [Int.one_mul] at this; exact this
  have e2 : ∀ i, 0 ≤ i → i < 6 → dg (k + 2 * thr_ d) i = if i = d then 2 else dg k i := fun i i0 i6 => dg_add (v := 2) k0 k1 d0 d6 i0 i6 h (by decide)
  have hb := bt_cs w d
  simp only [agB_iff]
  refine ⟨⟨fun hh => ?_, fun hh i i0 i6 => ?_⟩, fun hh => ?_⟩
  · rcases hb with hb | hb
    · refine Or.inl (fun i i0 i6 => ?_)
      rw [e1 i i0 i6]
      by_cases hi : i = d
      · rw [if_pos hi, hi]; omega
      · rw [if_neg hi]; exact hh i i0 i6
    · refine Or.inr (fun i i0 i6 => ?_)
      rw [e2 i i0 i6]
      by_cases hi : i = d
      · rw [if_pos hi, hi]; omega
      · rw [if_neg hi]; exact hh i i0 i6
  · by_cases hi : i = d
    · rw [hi]; exact Or.inl h
    · rcases hh with hh | hh
      · have := hh i i0 i6; rw [e1 i i0 i6, if_neg hi] at this; exact this
      · have := hh i i0 i6; rw [e2 i i0 i6, if_neg hi] at this; exact this
  · have h1 := hh.1 d d0 d6; have h2 := hh.2 d d0 d6
    rw [e1 d d0 d6, if_pos rfl] at h1; rw [e2 d d0 d6, if_pos rfl] at h2
    omega
theorem lk_split {u : Int → Int} {nd k d : Int} (k0 : 0 ≤ k) (k1 : k < 729) (d0 : 0 ≤ d) (d6 : d < 6) (h : dg k d = 0) : lk u nd k = lk u nd (k + thr_ d) + lk u nd (k + 2 * thr_ d) := by
  unfold lk
  rw [← su_add]
  refine su_congr _ (fun w _ _ => ?_)
  have hs := agB_split (w := w) k0 k1 d0 d6 h
  cases h1 : agB (k + thr_ d) w <;> cases h2 : agB (k + 2 * thr_ d) w <;> cases h3 : agB k w <;> simp_all
theorem lk_nn {u : Int → Int} {nd : Int} (hu : ∀ w, 0 ≤ w → w < p2_ nd → 0 ≤ u w) (k : Int) : 0 ≤ lk u nd k := su_nn _ (fun w w0 w1 => by
  have := hu w w0 (by omega)
  split <;> omega)
theorem lk_le {u : Int → Int} {nd : Int} (hu : ∀ w, 0 ≤ w → w < p2_ nd → 0 ≤ u w) (k : Int) : lk u nd k ≤ su_ u (p2_ nd).toNat := su_le _ (fun w w0 w1 => by
  have := hu w w0 (by omega)
  split <;> omega)
/-- all of nd roads known -/
def ful (nd k : Int) : Prop := ∀ i, 0 ≤ i → i < nd → dg k i ≠ 0
theorem sht_lt {nd k : Int} (n0 : 0 ≤ nd) (n6 : nd ≤ 6) (k0 : 0 ≤ k) (k1 : k < thr_ nd) : sht k < p2_ nd := by
  have h1 := sht_rng k
  have ht := thr_le n0 n6
  exact lt_p2 h1.1 h1.2 n0 n6 (fun i i0 i6 => by rw [bt_sht (by omega) i6, dg_hi k0 n0 k1 i0 i6]; rfl)
theorem agB_ful {nd k w : Int} (n0 : 0 ≤ nd) (n6 : nd ≤ 6) (k0 : 0 ≤ k) (k1 : k < thr_ nd) (w0 : 0 ≤ w) (w1 : w < p2_ nd) (hf : ful nd k) : agB k w = true ↔ w = sht k := by
  have ht := thr_le n0 n6; have hp := p2_le n0 n6; have hs := sht_rng k
  rw [agB_iff]
  constructor
  · intro h
    refine bt_ext w0 (by omega) hs.1 hs.2 (fun i i0 i6 => ?_)
    rw [bt_sht i0 i6]
    by_cases hi : i < nd
    · have h1 := h i i0 i6; have h2 := hf i i0 hi; have h3 := bt_cs w i
      split <;> omega
    · rw [bt_hi w0 n0 w1 (by omega) i6, dg_hi k0 n0 k1 (by omega) i6]; rfl
  · intro e i i0 i6
    rw [e, bt_sht i0 i6]
    have := dg_cs k i
    split <;> omega
theorem lk_ful {u : Int → Int} {nd k : Int} (n0 : 0 ≤ nd) (n6 : nd ≤ 6) (k0 : 0 ≤ k) (k1 : k < thr_ nd) (hf : ful nd k) : lk u nd k = u (sht k) := by
  have hs := sht_rng k; have hl := sht_lt n0 n6 k0 k1; have hp := p2_le n0 n6
  unfold lk
  rw [su_one (sht k) _ hs.1 (by omega) (fun i i0 i1 hne => by
    rw [if_neg]; rw [agB_ful n0 n6 k0 k1 i0 (by omega) hf]; exact hne)]
  rw [if_pos]; rw [agB_ful n0 n6 k0 k1 hs.1 hl hf]
theorem bt_all {nd i : Int} (n0 : 0 ≤ nd) (n6 : nd ≤ 6) (i0 : 0 ≤ i) (i6 : i < 6) : bt (p2_ nd - 1) i = if i < nd then 1 else 0 := by
  rcases svn_ n0 n6 with rfl | rfl | rfl | rfl | rfl | rfl | rfl <;> rcases six_ i0 i6 with rfl | rfl | rfl | rfl | rfl | rfl <;> decide
/-- the first unknown one of all -/
theorem fm_all {G : Lnd} (hw : WF G) {k : Int} : (fm_ k (allD G) = -1 ∧ ful ((G 0 3)) k) ∨ (0 ≤ fm_ k (allD G) ∧ fm_ k (allD G) < (G 0 3) ∧ dg k (fm_ k (allD G)) = 0 ∧ ∀ i, 0 ≤ i → i < fm_ k (allD G) → dg k i ≠ 0) := by
  have hN := hw.N; unfold wfN at hN
  have hb : ∀ i, 0 ≤ i → i < 6 → bt (allD G) i = if i < (G 0 3) then 1 else 0 := fun i i0 i6 => bt_all (by omega) (by omega) i0 i6
  rcases fm_cs k (allD G) with ⟨h1, h2⟩ | ⟨h1, h2, h3, h4⟩
  · refine Or.inl ⟨h1, fun i i0 i1 hd => h2 i i0 (by omega) ⟨?_, hd⟩⟩
    rw [hb i i0 (by omega), if_pos i1]
  · have h5 := h3.1
    rw [hb _ h1 h2] at h5
    refine Or.inr ⟨h1, ?_, h3.2, fun i i0 i1 hd => h4 i i0 i1 ⟨?_, hd⟩⟩
    · by_cases hl : fm_ k (allD G) < (G 0 3)
      · exact hl
      · rw [if_neg hl] at h5; omega
    · rw [hb i i0 (by omega), if_pos]
      by_cases hl : fm_ k (allD G) < (G 0 3)
      · omega
      · rw [if_neg hl] at h5; omega
theorem s_X6_sumUp {M : aM} {W : aW} {Q : aM → aW → Prop} {G : Lnd} {c x : Int} {u : Int → Int} (hk : cty c) (hG : clG c G M) (hw : WF G) (hc : cdM M) (hx : odO x) (hu : ∀ w, 0 ≤ w → w < p2_ ((G 0 3)) → M (x + 1) w = u w)
    (h : ∀ N, ag (x + 2) (x + 2) M N → (∀ k, 0 ≤ k → k < thr_ ((G 0 3)) → N (x + 2) k = lk u ((G 0 3)) k) → Q N W) : CallV 63 [vR x, vR c, vR 27] (M, W) Q := by
  have hN := hw.N; unfold wfN at hN
  have h64 := p2_lt64 hw
  have ht := thr_le hN.2.2.2.1.1 hN.2.2.2.1.2
  have hall := allD_rng hw
  have hxg := od_g hx
  have key : ∀ (n : Nat) (x4 : Int) (d5 d6 : aL) (N : aM), -1 ≤ x4 → x4 < thr_ ((G 0 3)) → (x4 + 1).toNat = n → ag (x + 2) (x + 2) M N → (∀ k, x4 < k → k < thr_ ((G 0 3)) → N (x + 2) k = lk u ((G 0 3)) k) → Xs 63 (15, [some (some (vR x)), some (some (vR c)), some (some (vR 27)), some (some (vI (allD G))), some (some (vI x4)), d5, d6], [], (N, W)) (QV Q) := by
    intro n; induction n using Nat.strongRecOn with
    | _ n ih =>
      intro x4 d5 d6 N h0 h1 hn hag hi
      have hcN := hc.ag hag (by omega)
      refine k_X6_sumUp_15 _ _ _ _ _ _ _ _ _ ?_
      refine ⟨by omega, fun hlt => h N hag (fun k k0 k1 => hi k (by omega) k1), fun hge => ?_⟩
      refine s_X2_firstMissing hcN (by omega) (by omega) hall.1 hall.2 ?_
      have hfm := fm_all hw (k := x4)
      have stp : ∀ (v : Int) (d5 d6 : aL), v = lk u ((G 0 3)) x4 → Xs 63 (15, [some (some (vR x)), some (some (vR c)), some (some (vR 27)), some (some (vI (allD G))), some (some (vI (x4 + (-1)))), d5, d6], [], ((up_ N (x + 2) x4 v), W)) (QV Q) := by
        intro v d5 d6 hv
        refine ih (x4 + (-1) + 1).toNat (by omega) _ _ _ _ (by omega) (by omega) rfl (ag_tr hag (ag_up _ (Int.le_refl _) (Int.le_refl _))) (fun k k0 k1 => ?_)
        by_cases he : k = x4
        · rw [he, up_s, hv]
        · rw [up_j _ _ _ he]; exact hi k (by omega) k1
      refine ⟨by omega, fun hge0 => ?_, fun hlt0 => ?_⟩
      · obtain ⟨f0, f1, f2, f3⟩ : 0 ≤ fm_ x4 (allD G) ∧ fm_ x4 (allD G) < (G 0 3) ∧ dg x4 (fm_ x4 (allD G)) = 0 ∧ ∀ i, 0 ≤ i → i < fm_ x4 (allD G) → dg x4 i ≠ 0 := by
          rcases hfm with hf | hf
          · omega
          · exact hf
        have b1 := dg_lt (v := 1) (by omega) (by omega) h1 f0 f1 f2 (by decide)
        have b2 := dg_lt (v := 2) (by omega) (by omega) h1 f0 f1 f2 (by decide)
        have hth := thr_le f0 (show fm_ x4 (allD G) ≤ 6 by omega)
        rw [od_l2 hx]
        refine ⟨by omega, fun v hv => ⟨od_o hx, od_o hx, ⟨od_a2 hx, by omega, by omega⟩, od_o hx, by omega, ⟨od_a2 hx, by omega, by omega⟩, ⟨od_a2 hx, by omega, by omega⟩, stp _ _ _ ?_⟩⟩
        rw [hi v (by omega) (by omega), hi _ (by omega) (by omega), lk_split (d := fm_ x4 (allD G)) (by omega) (by omega) f0 (by omega) f2, hv]
        rw [show x4 + thr_ (fm_ x4 (allD G)) + thr_ (fm_ x4 (allD G)) = x4 + 2 * thr_ (fm_ x4 (allD G)) by omega]
      · have hf : ful ((G 0 3)) x4 := by
          rcases hfm with hf | hf
          · exact hf.2
          · omega
        have hsl := sht_lt (by omega) (by omega) (by omega) h1
        have hsr := sht_rng x4
        rw [od_l2 hx, od_l1 hx, (hcN.1 x4 (by omega) (by omega)).2]
        refine ⟨od_o hx, od_o hx, by omega, ⟨od_a1 hx, by omega, by omega⟩, ⟨od_a2 hx, by omega, by omega⟩, stp _ _ _ ?_⟩
        rw [hag _ _ (by omega), hu _ hsr.1 hsl, lk_ful (by omega) (by omega) (by omega) h1 hf]
  refine e_X6_sumUp _ _ _ _ _ ?_
  refine ⟨ct_o hk, s_X3_worlds hk hG hw (fun v hv => ⟨ct_o hk, s_X3_knowns hk hG hw (fun y hy => ?_)⟩)⟩
  rw [hv]
  exact key _ y _ _ M (by omega) (by omega) rfl (ag_refl _ _ _) (fun k a b => by omega)
theorem pr_pos {i : Int} {f : Int → Int} (hi : 1 ≤ i) : ∀ n : Nat, (∀ j : Int, 0 ≤ j → j < n → 1 ≤ f j) → 1 ≤ pr_ i f n := by
  intro n; induction n with
  | zero => intro _; exact hi
  | succ n ih =>
    intro h
    have h1 := ih (fun j a b => h j a (by omega)); have h2 := h n (by omega) (by omega)
    show 1 ≤ pr_ i f n * f n
    have := Int.mul_le_mul h1 h2 (by decide) (by omega)
    omega
theorem rrv_pos {a c : Int} : 1 ≤ rrv a c 0 + rrv a c 1 := by
  unfold rrv
  by_cases hc : c = 0 <;> by_cases ha : a = 0 <;> simp [hc, ha] <;> (try split) <;> omega
theorem wt_pos {G : Lnd} (hw : WF G) {o od : Int} (ho : 0 ≤ od ∧ od ≤ 10) : 0 < su_ (wt G o od) (p2_ ((G 0 3))).toNat := by
  have hN := hw.N; unfold wfN at hN
  have e : su_ (wt G o od) (p2_ ((G 0 3))).toNat = su_ (fun come => su_ (fun w => wrw G o od w come ((G 0 3)).toNat) (p2_ ((G 0 3))).toNat) (p2_ ((G 0 1))).toNat := su_swap (fun w come => wrw G o od w come ((G 0 3)).toNat) _ _
  rw [e]
  have eD : ((((G 0 3)).toNat : Nat) : Int) = (G 0 3) := by omega
  have h1 : ∀ come : Int, crw G come ((G 0 1)).toNat ≤ su_ (fun w => wrw G o od w come ((G 0 3)).toNat) (p2_ ((G 0 3))).toNat := by
    intro come
    have h2 := su_prod (fun d b => rrb G o od come d b) (crw G come ((G 0 1)).toNat) ((G 0 3)).toNat (by omega)
    rw [eD] at h2
    show _ ≤ su_ (fun w => pr_ (crw G come ((G 0 1)).toNat) (fun d => rrb G o od come d (bt w d)) ((G 0 3)).toNat) (p2_ ((G 0 3))).toNat
    rw [h2]
    have key : ∀ n : Nat, crw G come ((G 0 1)).toNat ≤ pr_ (crw G come ((G 0 1)).toNat) (fun d => rrb G o od come d 0 + rrb G o od come d 1) n := by
      intro n; induction n with
      | zero => exact Int.le_refl _
      | succ n ih =>
        show _ ≤ pr_ (crw G come ((G 0 1)).toNat) (fun d => rrb G o od come d 0 + rrb G o od come d 1) n * (rrb G o od come n 0 + rrb G o od come n 1)
        have h0 := crw_nn hw come (n := ((G 0 1)).toNat) (by omega)
        have hr : 1 ≤ rrb G o od come n 0 + rrb G o od come n 1 := rrv_pos
        have := Int.mul_le_mul_of_nonneg_left hr (show 0 ≤ pr_ (crw G come ((G 0 1)).toNat) (fun d => rrb G o od come d 0 + rrb G o od come d 1) n by omega)
        omega
    exact key _
  have h5 := su_le (p2_ ((G 0 1))).toNat (fun come _ _ => h1 come)
  have h6 := su_prod (fun d b => if b = 1 then G 1 d else 10 - G 1 d) 1 ((G 0 1)).toNat (by omega)
  rw [show ((((G 0 1)).toNat : Nat) : Int) = (G 0 1) by omega] at h6
  have h7 : 1 ≤ su_ (fun come => crw G come ((G 0 1)).toNat) (p2_ ((G 0 1))).toNat := by
    show 1 ≤ su_ (fun come => pr_ 1 (fun d => if bt come d = 1 then G 1 d else 10 - G 1 d) ((G 0 1)).toNat) (p2_ ((G 0 1))).toNat
    rw [h6]
    exact pr_pos (by decide) _ (fun j a b => by simp)
  omega
set_option maxRecDepth 100000 in
theorem kp_64 : ∀ a < 64, ∀ b < 6, and_ (Int.ofNat a) (p2_ (Int.ofNat b)) = p2_ (Int.ofNat b) * bt (Int.ofNat a) (Int.ofNat b) ∧ and_ (Int.ofNat a) (xor_ (p2_ (Int.ofNat b)) (-1)) = Int.ofNat a - p2_ (Int.ofNat b) * bt (Int.ofNat a) (Int.ofNat b) ∧ or_ (Int.ofNat a) (p2_ (Int.ofNat b)) = Int.ofNat a + p2_ (Int.ofNat b) * (1 - bt (Int.ofNat a) (Int.ofNat b)) := by decide +kernel
theorem kp_e {a b : Int} (a0 : 0 ≤ a) (a1 : a < 64) (b0 : 0 ≤ b) (b1 : b < 6) : and_ a (p2_ b) = p2_ b * bt a b ∧ and_ a (xor_ (p2_ b) (-1)) = a - p2_ b * bt a b ∧ or_ a (p2_ b) = a + p2_ b * (1 - bt a b) := by
  obtain ⟨m, rfl, hm⟩ := nat_of a0 a1; obtain ⟨n, rfl, hn⟩ := nat_of b0 b1; exact kp_64 m hm n hn
/-- the weights if a road is open in each world -/
def kpW (u : Int → Int) (r w : Int) : Int := if bt w r = 1 then 0 else u w + u (w + p2_ r)
theorem bt_flip {w r nd : Int} (n0 : 0 ≤ nd) (n6 : nd ≤ 6) (w0 : 0 ≤ w) (w1 : w < p2_ nd) (r0 : 0 ≤ r) (r1 : r < nd) : (bt w r = 0 → w + p2_ r < p2_ nd ∧ bt (w + p2_ r) r = 1) ∧ (bt w r = 1 → 0 ≤ w - p2_ r ∧ bt (w - p2_ r) r = 0) := by
  rcases svn_ n0 n6 with rfl | rfl | rfl | rfl | rfl | rfl | rfl <;> rcases six_ r0 (by omega) with rfl | rfl | rfl | rfl | rfl | rfl <;> (try omega) <;> simp only [bt, p2_, ite_true, Int.reduceEq, ite_false] at w1 ⊢ <;> omega
theorem s_X6_keepOpen {M : aM} {W : aW} {Q : aM → aW → Prop} {G : Lnd} {c x r : Int} {u : Int → Int} (hk : cty c) (hG : clG c G M) (hw : WF G) (hx : odO x) (r0 : 0 ≤ r) (r1 : r < (G 0 3)) (hu : ∀ w, 0 ≤ w → w < p2_ ((G 0 3)) → M (x + 1) w = u w)
    (h : ∀ N, ag (x + 1) (x + 1) M N → (∀ w, 0 ≤ w → w < p2_ ((G 0 3)) → N (x + 1) w = kpW u r w) → Q N W) : CallV 62 [vR x, vR c, vI r] (M, W) Q := by
  have hN := hw.N; unfold wfN at hN
  have h64 := p2_lt64 hw
  have hxg := od_g hx
  have hpr : 1 ≤ p2_ r ∧ p2_ r ≤ 64 := p2_le r0 (by omega)
  have key : ∀ (n : Nat) (x4 : Int) (N : aM), 0 ≤ x4 → x4 ≤ p2_ ((G 0 3)) → (p2_ ((G 0 3)) - x4).toNat = n → ag (x + 1) (x + 1) M N → (∀ w, 0 ≤ w → w < p2_ ((G 0 3)) → N (x + 1) w = if bt w r = 1 then (if w < x4 then 0 else u w) else (u w + if w + p2_ r < x4 then u (w + p2_ r) else 0)) → Xs 62 (7, [some (some (vR x)), some (some (vR c)), some (some (vI r)), some (some (vI (p2_ r))), some (some (vI x4))], [], (N, W)) (QV Q) := by
    intro n; induction n using Nat.strongRecOn with
    | _ n ih =>
      intro x4 N h0 h1 hn hag hi
      have hGN := hG.ag hk hag (by omega)
      refine k_X6_keepOpen_7 _ _ _ _ _ _ _ _ ?_
      refine ⟨ct_o hk, s_X3_worlds hk hGN hw ⟨by omega, fun hge => h N hag (fun w w0 w1 => ?_), fun hlt => ?_⟩⟩
      · rw [hi w w0 w1]; unfold kpW
        have hfl := bt_flip (by omega) (by omega) w0 w1 r0 r1
        rcases bt_cs w r with e | e
        · have := hfl.1 e
          rw [if_neg (show ¬ bt w r = 1 by omega), if_neg (show ¬ bt w r = 1 by omega), if_pos (show w + p2_ r < x4 by omega)]
        · rw [if_pos e, if_pos e, if_pos (show w < x4 by omega)]
      · have hkp := kp_e h0 (show x4 < 64 by omega) r0 (by omega)
        have hfl := bt_flip (by omega) (by omega) h0 (show x4 < p2_ ((G 0 3)) by omega) r0 r1
        rw [hkp.1, hkp.2.1, od_l1 hx]
        rcases bt_cs x4 r with e | e
        · rw [e]
          refine ⟨by omega, fun _ => ?_, fun hne => absurd (by omega) hne⟩
          refine ih (p2_ ((G 0 3)) - (x4 + 1)).toNat (by omega) (x4 + 1) N (by omega) (by omega) rfl hag (fun w w0 w1 => ?_)
          rw [hi w w0 w1]
          have hf2 := bt_flip (by omega) (by omega) w0 w1 r0 r1
          rcases bt_cs w r with e2 | e2
          · have := hf2.1 e2
            rw [if_neg (show ¬ bt w r = 1 by omega), if_neg (show ¬ bt w r = 1 by omega)]
            have hne : w + p2_ r ≠ x4 := fun q => by rw [q] at this; omega
            by_cases hq : w + p2_ r < x4
            · rw [if_pos hq, if_pos (show w + p2_ r < x4 + 1 by omega)]
            · rw [if_neg hq, if_neg (show ¬ w + p2_ r < x4 + 1 by omega)]
          · rw [if_pos e2, if_pos e2]
            have hne : w ≠ x4 := fun q => by rw [q] at e2; omega
            by_cases hq : w < x4
            · rw [if_pos hq, if_pos (show w < x4 + 1 by omega)]
            · rw [if_neg hq, if_neg (show ¬ w < x4 + 1 by omega)]
        · rw [e]
          have hf := hfl.2 e
          rw [Int.mul_one]
          refine ⟨by omega, fun hz => by omega, fun _ => ⟨od_o hx, ⟨od_a1 hx, by omega, by omega⟩, od_o hx, ⟨od_a1 hx, by omega, by omega⟩, ⟨od_a1 hx, by omega, by omega⟩, od_o hx, ⟨od_a1 hx, by omega, by omega⟩, ?_⟩⟩
          refine ih (p2_ ((G 0 3)) - (x4 + 1)).toNat (by omega) (x4 + 1) _ (by omega) (by omega) rfl (ag_tr hag (ag_tr (ag_up _ (Int.le_refl _) (Int.le_refl _)) (ag_up _ (Int.le_refl _) (Int.le_refl _)))) (fun w w0 w1 => ?_)
          have i1 := hi (x4 - p2_ r) (by omega) (by omega)
          have i2 := hi x4 (by omega) (by omega)
          rw [if_neg (show ¬ bt (x4 - p2_ r) r = 1 by omega), if_neg (show ¬ x4 - p2_ r + p2_ r < x4 by omega)] at i1
          rw [if_pos e, if_neg (Int.lt_irrefl x4)] at i2
          by_cases hwx : w = x4
          · rw [hwx, up_s, if_pos e, if_pos (show x4 < x4 + 1 by omega)]
          · rw [up_j _ _ _ hwx]
            by_cases hwy : w = x4 - p2_ r
            · rw [hwy, up_s, i1, i2, if_neg (show ¬ bt (x4 - p2_ r) r = 1 by omega), if_pos (show x4 - p2_ r + p2_ r < x4 + 1 by omega), show x4 - p2_ r + p2_ r = x4 by omega]; omega
            · rw [up_j _ _ _ hwy, hi w w0 w1]
              rcases bt_cs w r with e2 | e2
              · rw [if_neg (show ¬ bt w r = 1 by omega), if_neg (show ¬ bt w r = 1 by omega)]
                by_cases hq : w + p2_ r < x4
                · rw [if_pos hq, if_pos (show w + p2_ r < x4 + 1 by omega)]
                · rw [if_neg hq, if_neg (show ¬ w + p2_ r < x4 + 1 by omega)]
              · rw [if_pos e2, if_pos e2]
                by_cases hq : w < x4
                · rw [if_pos hq, if_pos (show w < x4 + 1 by omega)]
                · rw [if_neg hq, if_neg (show ¬ w < x4 + 1 by omega)]
  refine e_X6_keepOpen _ _ _ _ _ _ ?_
  rw [shl_e r0 (by omega)]
  intro v hv
  rw [hv]
  exact key _ 0 M (by omega) (by omega) rfl (ag_refl _ _ _) (fun w w0 w1 => by
    rw [hu w w0 w1, if_neg (show ¬ w < 0 by omega), if_neg (show ¬ w + p2_ r < 0 by omega)]; split <;> omega)
