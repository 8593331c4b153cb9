theorem exec_code {n mi : Nat} {S : aT} {q : Option aV × aS} (h : exec n mi S = some q) : ∃ e, code_ mi S.1 = some e := by
  cases n with
  | zero => simp [exec] at h
  | succ n =>
    rw [exec] at h
    cases hc : code_ mi S.1 with
    | none => rw [hc] at h; cases h
    | some e => exact ⟨e, rfl⟩
/-- the abstract machine's runs are the machine's -/
theorem sim_all (hck : CkAll) : ∀ n, Sim n := by
  intro n
  induction n with
  | zero => intro mi S rr s1 h; simp [exec] at h
  | succ n ih =>
    intro mi S rr s1 h
    obtain ⟨pc, L, st, s0⟩ := S
    rw [exec] at h
    cases hc : code_ mi pc with
    | none => simp only [hc] at h; cases h
    | some e =>
      obtain ⟨i, k, r⟩ := e
      simp only [hc] at h
      obtain ⟨hkE, hkY⟩ := hck mi pc _ hc
      have hroom : 40 ≤ lo_ mi ∧ 2 ≤ fr_ mi := by
        simp only [ckY, Bool.and_eq_true, decide_eq_true_eq] at hkY
        exact ⟨hkY.1.2, hkY.1.1.2⟩
      have hkE' := hkE
      unfold ckE at hkE'
      rw [Bool.and_eq_true, Bool.and_eq_true, decide_eq_true_eq] at hkE'
      obtain ⟨hd, hlen, hr⟩ := hkE'
      have hmono : OM mi (pc, L, st, s0) (act (bnd_ mi) (i, k, r) (pc, L, st, s0)) := act_mono hr
      -- one step on
      have step : ∀ T : aT, exec n mi T = some (rr, s1) → Mo mi (pc, L, st, s0) T → (szS s0 ≤ szS s1 ∧ nsS s0 ≤ nsS s1 ∧ (cl_ mi = false → s1.2.1 = s0.2.1)) ∧ (szS T.2.2.2 ≤ szS s1 ∧ nsS T.2.2.2 ≤ nsS s1) := by
        intro T hT hM
        obtain ⟨⟨g1, g2, g3⟩, -⟩ := ih mi T rr s1 hT
        exact ⟨⟨Int.le_trans hM.1 g1, Int.le_trans hM.2.1 g2, fun q => (g3 q).trans (hM.2.2 q)⟩, g1, g2⟩
      rcases hA : act (bnd_ mi) (i, k, r) (pc, L, st, s0) with ⟨g, T⟩ | ⟨g, x, f⟩ | ⟨g, M, f⟩ | ⟨g, cd, T1, T2⟩ | ⟨g, v⟩ | ⟨g, mj, as, rt, rest⟩ | ⟨g, x, l9, d⟩ | u9
      · simp only [hA] at h
        rw [hA] at hmono
        by_cases hg : gP g
        · rw [iteP_t hg] at h
          have hM : Mo mi (pc, L, st, s0) T := hmono hg
          obtain ⟨h1, h2⟩ := step T h hM
          refine ⟨h1, fun z t u D I p l e R s m args below meth c C hF n0 Qc mc ms b1 b2 b3 b4 hq H locs cells slots ls hR hS e1 e2 hl => ?_⟩
          have hok := ok_act (l := l) (e := e) (below := below) (Z := MQ below Qc args s mc ms (AAz z)) (n0 := n0) (L := L) (st := st) C hF hkE hroom
          rw [hA] at hok
          have hst : St z t u D I (WFr p l e R s m args below meth c (MQ below Qc args s mc ms (AAz z))) s R m mi n0 (pc, L, st, s0) T := hok hg
          obtain ⟨-, hmain⟩ := ih mi T rr s1 h
          have hFT : bld_ (bnd_ mi) T.2.2.2 := bld_step hF hR.1 hM.1 hM.2.2
          exact hst.2.2.2 (by omega) (by omega) (hmain z t u D I p l e R s m args below meth c C hFT n0 Qc mc ms b1 b2 b3 b4 hq) H locs cells slots ls hR hS e1 e2 hl
        · rw [iteP_f hg] at h; cases h
      · simp only [hA] at h
        rw [hA] at hmono
        by_cases hg : gP g
        · rw [iteP_t hg] at h
          have hM : Mo mi (pc, L, st, s0) (f x) := hmono hg
          obtain ⟨h1, h2⟩ := step (f x) h hM
          refine ⟨h1, fun z t u D I p l e R s m args below meth c C hF n0 Qc mc ms b1 b2 b3 b4 hq H locs cells slots ls hR hS e1 e2 hl => ?_⟩
          have hok := ok_act (l := l) (e := e) (below := below) (Z := MQ below Qc args s mc ms (AAz z)) (n0 := n0) (L := L) (st := st) C hF hkE hroom
          rw [hA] at hok
          have hst : St z t u D I (WFr p l e R s m args below meth c (MQ below Qc args s mc ms (AAz z))) s R m mi n0 (pc, L, st, s0) (f x) := hok hg
          obtain ⟨-, hmain⟩ := ih mi (f x) rr s1 h
          have hFT : bld_ (bnd_ mi) (f x).2.2.2 := bld_step hF hR.1 hM.1 hM.2.2
          exact hst.2.2.2 (by omega) (by omega) (hmain z t u D I p l e R s m args below meth c C hFT n0 Qc mc ms b1 b2 b3 b4 hq) H locs cells slots ls hR hS e1 e2 hl
        · rw [iteP_f hg] at h; cases h
      · simp only [hA] at h
        rw [hA] at hmono
        by_cases hg : gP g
        · rw [iteP_t hg] at h
          have hM : Mo mi (pc, L, st, s0) (f M) := hmono hg
          obtain ⟨h1, h2⟩ := step (f M) h hM
          refine ⟨h1, fun z t u D I p l e R s m args below meth c C hF n0 Qc mc ms b1 b2 b3 b4 hq H locs cells slots ls hR hS e1 e2 hl => ?_⟩
          have hok := ok_act (l := l) (e := e) (below := below) (Z := MQ below Qc args s mc ms (AAz z)) (n0 := n0) (L := L) (st := st) C hF hkE hroom
          rw [hA] at hok
          have hst : St z t u D I (WFr p l e R s m args below meth c (MQ below Qc args s mc ms (AAz z))) s R m mi n0 (pc, L, st, s0) (f M) := hok hg
          obtain ⟨-, hmain⟩ := ih mi (f M) rr s1 h
          have hFT : bld_ (bnd_ mi) (f M).2.2.2 := bld_step hF hR.1 hM.1 hM.2.2
          exact hst.2.2.2 (by omega) (by omega) (hmain z t u D I p l e R s m args below meth c C hFT n0 Qc mc ms b1 b2 b3 b4 hq) H locs cells slots ls hR hS e1 e2 hl
        · rw [iteP_f hg] at h; cases h
      · simp only [hA] at h
        rw [hA] at hmono
        by_cases hg : gP g
        · rw [iteP_t hg] at h
          have hM : Mo mi (pc, L, st, s0) T1 ∧ Mo mi (pc, L, st, s0) T2 := hmono hg
          by_cases hcd : cd
          · rw [iteP_t hcd] at h
            obtain ⟨h1, h2⟩ := step T1 h hM.1
            refine ⟨h1, fun z t u D I p l e R s m args below meth c C hF n0 Qc mc ms b1 b2 b3 b4 hq H locs cells slots ls hR hS e1 e2 hl => ?_⟩
            have hok := ok_act (l := l) (e := e) (below := below) (Z := MQ below Qc args s mc ms (AAz z)) (n0 := n0) (L := L) (st := st) C hF hkE hroom
            rw [hA] at hok
            have hst : Br z t u D I (WFr p l e R s m args below meth c (MQ below Qc args s mc ms (AAz z))) s m mi n0 (pc, L, st, s0) cd T1 T2 := hok hg
            obtain ⟨-, hmain⟩ := ih mi T1 rr s1 h
            have hFT : bld_ (bnd_ mi) T1.2.2.2 := bld_step hF hR.1 hM.1.1 hM.1.2.2
            exact hst.2.2 (fun _ => hmain z t u D I p l e R s m args below meth c C hFT n0 Qc mc ms b1 b2 b3 b4 hq) (fun q => absurd hcd q) H locs cells slots ls hR hS e1 e2 hl
          · rw [iteP_f hcd] at h
            obtain ⟨h1, h2⟩ := step T2 h hM.2
            refine ⟨h1, fun z t u D I p l e R s m args below meth c C hF n0 Qc mc ms b1 b2 b3 b4 hq H locs cells slots ls hR hS e1 e2 hl => ?_⟩
            have hok := ok_act (l := l) (e := e) (below := below) (Z := MQ below Qc args s mc ms (AAz z)) (n0 := n0) (L := L) (st := st) C hF hkE hroom
            rw [hA] at hok
            have hst : Br z t u D I (WFr p l e R s m args below meth c (MQ below Qc args s mc ms (AAz z))) s m mi n0 (pc, L, st, s0) cd T1 T2 := hok hg
            obtain ⟨-, hmain⟩ := ih mi T2 rr s1 h
            have hFT : bld_ (bnd_ mi) T2.2.2.2 := bld_step hF hR.1 hM.2.1 hM.2.2.2
            exact hst.2.2 (fun q => absurd q hcd) (fun _ => hmain z t u D I p l e R s m args below meth c C hFT n0 Qc mc ms b1 b2 b3 b4 hq) H locs cells slots ls hR hS e1 e2 hl
        · rw [iteP_f hg] at h; cases h
      · simp only [hA] at h
        by_cases hg : gP g
        · rw [iteP_t hg] at h
          have h' : some (v, s0) = some (rr, s1) := h
          obtain ⟨rfl, rfl⟩ := Prod.mk.inj (Option.some.inj h')
          refine ⟨⟨Int.le_refl _, Int.le_refl _, fun _ => rfl⟩, fun z t u D I p l e R s m args below meth c C hF n0 Qc mc ms b1 b2 b3 b4 hq H locs cells slots ls hR hS e1 e2 hl => ?_⟩
          have hok := ok_act (l := l) (e := e) (below := below) (Z := MQ below Qc args s mc ms (AAz z)) (n0 := n0) (L := L) (st := st) C hF hkE hroom
          rw [hA] at hok
          have hrt : Rt z t u p l e R s m args below meth c (pc, L, st, s0) v := hok hg
          have e1 : s.heap.size + cells = z + (szS s0).toNat := e1
          have e2 : (slots : Int) = nsS s0 - n0 := e2
          exact hrt Qc mc ms H locs cells slots ls hS (fun T hT hW => hq H locs T hR hS hT hW) (by have : z + (szS s0).toNat ≤ s.heap.size + mc := b3; omega) (by have : nsS s0 - n0 ≤ (ms : Int) := b4; omega)
        · rw [iteP_f hg] at h; cases h
      · simp only [hA] at h
        rw [hA] at hmono
        by_cases hg : gP g
        · rw [iteP_t hg] at h
          cases hx1 : exec n mj (ent_ mj as s0) with
          | none => simp only [hx1] at h; cases h
          | some w9 =>
            obtain ⟨rj, sj⟩ := w9
            simp only [hx1] at h
            cases hx2 : res_ rt rj rest with
            | none => simp only [hx2] at h; cases h
            | some st2 =>
              simp only [hx2] at h
              obtain ⟨⟨q1, q2, q3⟩, -⟩ := ih mj (ent_ mj as s0) rj sj hx1
              have q1 : szS s0 ≤ szS sj := q1
              have q2 : nsS s0 ≤ nsS sj := q2
              obtain ⟨⟨g1, g2, g3⟩, hmain⟩ := ih mi (pc + k, L, st2, sj) rr s1 h
              have g1 : szS sj ≤ szS s1 := g1
              have g2 : nsS sj ≤ nsS s1 := g2
              have hcl : cl_ mi = false → cl_ mj = false := hmono hg
              refine ⟨⟨Int.le_trans q1 g1, Int.le_trans q2 g2, fun q => (g3 q).trans (q3 (hcl q))⟩, fun z t u D I p l e R s m args below meth c C hF n0 Qc mc ms b1 b2 b3 b4 hq => ?_⟩
              intro H locs cells slots ls hR hS e1 e2 hl
              have hok := ok_act (l := l) (e := e) (below := below) (Z := MQ below Qc args s mc ms (AAz z)) (n0 := n0) (L := L) (st := st) C hF hkE hroom
              rw [hA] at hok
              have hCl : Cl mi i (pc, L, st, s0) mj as rt rest := hok hg
              have hk3 : k = 3 := by
                rw [Bool.or_eq_true, decide_eq_true_eq, decide_eq_true_eq] at hlen
                rcases hCl.2.2.2.2.2.2.2.2.2.2 with ⟨ix, rfl, -⟩ | ⟨ix, rfl, -⟩ | ⟨ix, rfl, -⟩ <;> (cases hlen with | inl q => exact q | inr q => simp [lenI] at q)
              subst hk3
              obtain ⟨ej, hej⟩ := exec_code hx1
              have hFT : bld_ (bnd_ mi) sj := bld_step hF hR.1 q1 (fun q => q3 (hcl q))
              exact call_go ih (hck mj _ ej hej).2 hd hCl hx1 hx2 C hF (by omega) (by omega) (hmain z t u D I p l e R s m args below meth c C hFT n0 Qc mc ms b1 b2 b3 b4 hq) H locs cells slots ls hR hS e1 e2 hl
        · rw [iteP_f hg] at h; cases h
      · simp only [hA] at h
        rw [hA] at hmono
        by_cases hg : gP g
        · rw [iteP_t hg] at h
          have hM : Mo mi (pc, L, st, s0) (pick_ x l9 d) := hmono hg
          obtain ⟨h1, h2⟩ := step (pick_ x l9 d) h hM
          refine ⟨h1, fun z t u D I p l e R s m args below meth c C hF n0 Qc mc ms b1 b2 b3 b4 hq H locs cells slots ls hR hS e1 e2 hl => ?_⟩
          have hok := ok_act (l := l) (e := e) (below := below) (Z := MQ below Qc args s mc ms (AAz z)) (n0 := n0) (L := L) (st := st) C hF hkE hroom
          rw [hA] at hok
          have hst : Sw z t u D I (WFr p l e R s m args below meth c (MQ below Qc args s mc ms (AAz z))) s m mi n0 (pc, L, st, s0) x l9 d := hok hg
          obtain ⟨-, hmain⟩ := ih mi (pick_ x l9 d) rr s1 h
          have hFT : bld_ (bnd_ mi) (pick_ x l9 d).2.2.2 := bld_step hF hR.1 hM.1 hM.2.2
          exact hst.2 (hmain z t u D I p l e R s m args below meth c C hFT n0 Qc mc ms b1 b2 b3 b4 hq) H locs cells slots ls hR hS e1 e2 hl
        · rw [iteP_f hg] at h; cases h
      · simp only [hA] at h; cases h
