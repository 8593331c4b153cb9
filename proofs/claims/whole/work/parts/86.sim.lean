theorem ckJ_neg {mi : Nat} {i : Instr} {mj n rt mo cc bd w : Int} (h : ckJ mi i [mj, n, rt, mo, cc, bd, w] = true) : mj < 0 := by
  unfold ckJ at h
  cases i <;> simp only [Bool.and_eq_true, Bool.or_eq_true, decide_eq_true_eq, Bool.false_eq_true] at h <;> omega
/-- the counts only grow; final references stay, but in constructors -/
def Mo (mi : Nat) (S T : aT) : Prop := szS S.2.2.2 ≤ szS T.2.2.2 ∧ nsS S.2.2.2 ≤ nsS T.2.2.2 ∧ (cl_ mi = false → T.2.2.2.2.1 = S.2.2.2.2.1)
theorem Mo.same {mi : Nat} {S T : aT} (h : T.2.2.2.2 = S.2.2.2.2) : Mo mi S T := ⟨by unfold szS; rw [h]; exact Int.le_refl _, by unfold nsS; rw [h]; exact Int.le_refl _, fun _ => by rw [h]⟩
abbrev OM (mi : Nat) (S : aT) : aR → Prop := OK (Mo mi S) (fun _ => True) (fun mj _ _ _ => cl_ mi = false → cl_ mj = false) (fun _ T1 T2 => Mo mi S T1 ∧ Mo mi S T2) (fun x l d => Mo mi S (pick_ x l d))
theorem Mo.pick {mi : Nat} {S : aT} {x : Int} {d : aT} : ∀ {l : List (Int × aT)}, (∀ q ∈ l, Mo mi S q.2) → Mo mi S d → Mo mi S (pick_ x l d)
  | [], _, h => h
  | q :: l, h, hd => by
    unfold pick_
    split
    · exact h q List.mem_cons_self
    · exact Mo.pick (fun w hw => h w (List.mem_cons_of_mem _ hw)) hd
theorem swL_mem {F : Nat → aT} : ∀ {l : List Int} {q : Int × aT}, q ∈ swL l F → ∃ tg, q.2 = F tg
  | [], q, h => by cases h
  | [_], q, h => by cases h
  | k :: tg :: l, q, h => by
    rcases List.mem_cons.mp h with h | h
    · exact ⟨_, by rw [h]⟩
    · exact swL_mem h
theorem om_N {mi : Nat} {S T : aT} {g : Option Prop} (h : T.2.2.2.2 = S.2.2.2.2) : OM mi S (rN g T) := fun _ => Mo.same h
theorem om_gI {mi : Nat} {S : aT} {f x y : Int} {F : Option Prop → aR} (h : ∀ g, OM mi S (F g)) : OM mi S (gI f x y F) := by
  unfold gI
  split
  · exact h _
  · split
    · cases inIb x with
      | false => exact True.intro
      | true => exact h _
    · split
      · cases inIb y with
        | false => exact True.intro
        | true => exact h _
      · cases (inIb x && inIb y) with
        | false => exact True.intro
        | true => exact h _
theorem om_b {mi : Nat} {S : aT} {b : Bool} {A B : aR} (h1 : OM mi S A) (h2 : OM mi S B) : OM mi S (bif b then A else B) := by
  cases b with
  | true => exact h1
  | false => exact h2
theorem om_i {mi : Nat} {S : aT} {c : Prop} [Decidable c] {A B : aR} (h1 : c → OM mi S A) (h2 : OM mi S B) : OM mi S (if c then A else B) := by
  split
  · exact h1 (by assumption)
  · exact h2
theorem om_gB {mi : Nat} {S : aT} {l b : Bool} {F : Option Prop → aR} (h : ∀ g, OM mi S (F g)) : OM mi S (gB l b F) := by
  unfold gB
  exact om_b (om_b (h _) True.intro) (h _)
theorem om_gB2 {mi : Nat} {S : aT} {l b : Bool} {q : Prop} {F : Option Prop → aR} (h : ∀ g, OM mi S (F g)) : OM mi S (gB2 l b q F) := by
  unfold gB2
  exact om_b (om_b (h _) True.intro) (h _)
theorem om_get {mi : Nat} {B : Int} {e : aE} {S : aT} : OM mi S (aGet B e S) := by
  unfold aGet
  split
  · refine om_i (fun _ => om_b (om_N rfl) True.intro) (om_i (fun _ => om_N rfl) (om_i (fun _ => om_b (om_N rfl) True.intro) (om_i (fun _ => om_b (om_N rfl) True.intro) (om_i (fun _ => om_N rfl) (om_i (fun _ => om_N rfl) (om_i (fun _ => om_N rfl) (om_i (fun _ => om_N rfl) True.intro)))))))
  · exact True.intro
theorem om_put {mi : Nat} {pc : Nat} {B : Int} {ix n : Nat} {r : List Int} {S : aT} (hr : ckR mi pc (.putfield ix, n, r) = true) : OM mi S (aPut B (.putfield ix, n, r) S) := by
  unfold aPut
  split
  · rename_i v a st mo cc k ty nm w h1 h2
    have h2 : r = [mo, cc, k, ty, nm, w] := h2
    subst h2
    have wr : ∀ (x : Int) (g : Option Prop), OM mi S (bif decide (nm = 1) then rM g (up_ S.2.2.2.1 a k x) (fun M => memTo (.putfield ix, n, [mo, cc, k, ty, nm, w]) S st (M, S.2.2.2.2)) else rN g (memTo (.putfield ix, n, [mo, cc, k, ty, nm, w]) S st (up_ S.2.2.2.1 a k x, S.2.2.2.2))) := fun x g => om_b (fun _ => Mo.same rfl) (om_N rfl)
    have go : ∀ F : Option Prop → aR, (∀ g, OM mi S (F g)) → OM mi S (if mo = 0 then gB true (okO B cc a) F else if mo = 1 then gB false (okO B cc a) F else if mo = 6 then gB false (okD S.2.2.2 cc a) F else rX) := fun F h => om_i (fun _ => om_gB h) (om_i (fun _ => om_gB h) (om_i (fun _ => om_gB h) True.intro))
    have go2 : ∀ (q : Prop) (F : Option Prop → aR), (∀ g, OM mi S (F g)) → OM mi S (if mo = 0 then gB2 true (okO B cc a) q F else if mo = 1 then gB2 false (okO B cc a) q F else if mo = 6 then gB2 false (okD S.2.2.2 cc a) q F else rX) := fun q F h => om_i (fun _ => om_gB2 h) (om_i (fun _ => om_gB2 h) (om_i (fun _ => om_gB2 h) True.intro))
    refine om_i (fun h7 => ?_) ?_
    · subst h7
      simp only [ckR, Bool.and_eq_true, decide_eq_true_eq, decide_true, cond_true] at hr
      have hcl : cl_ mi = true := by unfold cl_; rw [hr.2.1.1.2]; rfl
      split
      · exact om_b (fun _ => ⟨Int.le_refl _, Int.le_refl _, fun q => by rw [hcl] at q; cases q⟩) True.intro
      · exact True.intro
    · split
      · exact om_i (fun _ => go _ (wr _)) (om_i (fun _ => om_b (go _ (wr _)) True.intro) (om_i (fun _ => go2 _ _ (wr _)) True.intro))
      · exact om_b (go _ (wr _)) True.intro
      · exact om_b (go _ (wr _)) True.intro
  · exact True.intro
theorem om_ld {mi : Nat} {B : Int} {mk : Int → aV} {e : aE} {S : aT} : OM mi S (aLd B mk e S) := by
  unfold aLd
  split
  · exact om_i (fun _ => om_b (om_b (om_N rfl) True.intro) (om_b (om_N rfl) True.intro)) (om_i (fun _ => om_N rfl) (om_i (fun _ => om_N rfl) (om_i (fun _ => om_b (om_N rfl) True.intro) True.intro)))
  · exact True.intro
theorem om_st {mi : Nat} {B : Int} {e : aE} {S : aT} : OM mi S (aSt B e S) := by
  unfold aSt
  split
  · rename_i v ix a st mo kd lit vc nm h1 h2
    have wr : ∀ (x : Int) (g : Option Prop), OM mi S (bif decide (nm = 1) then rM g (up_ S.2.2.2.1 a ix x) (fun M => memTo e S st (M, S.2.2.2.2)) else rN g (memTo e S st (up_ S.2.2.2.1 a ix x, S.2.2.2.2))) := fun x g => om_b (fun _ => Mo.same rfl) (om_N rfl)
    have vg : ∀ (x lo hi : Int) (g : Option Prop) (F : Option Prop → aR), (∀ g, OM mi S (F g)) → OM mi S (if vc = 0 then bif decide (kd = 20) || decide (kd = 21) then F g else rX else if vc = 1 then bif decide (lo ≤ x) && decide (x ≤ hi) then F g else rX else match g with
        | none => F (some (lo ≤ x ∧ x ≤ hi))
        | some p => F (some (p ∧ lo ≤ x ∧ x ≤ hi))) := by
      intro x lo hi g F h
      refine om_i (fun _ => om_b (h _) True.intro) (om_i (fun _ => om_b (h _) True.intro) ?_)
      cases g with
      | none => exact h _
      | some p => exact h _
    exact om_b (om_i (fun _ => om_b (om_b (vg _ _ _ _ _ (wr _)) True.intro) (om_b (vg _ _ _ _ _ (wr _)) True.intro)) (om_i (fun _ => vg _ _ _ _ _ (wr _)) (om_i (fun _ => vg _ _ _ _ _ (wr _)) True.intro))) True.intro
  · exact True.intro
theorem om_len {mi : Nat} {B : Int} {e : aE} {S : aT} : OM mi S (aLen B e S) := by
  unfold aLen
  split
  · exact om_i (fun _ => om_b (om_N rfl) True.intro) (om_i (fun _ => om_N rfl) (om_i (fun _ => om_N rfl) True.intro))
  · exact True.intro
theorem om_newA {mi : Nat} {e : aE} {S : aT} : OM mi S (aNewA e S) := by
  unfold aNewA
  split
  · rename_i n st mo kd h1 h2
    refine om_i (fun _ => ?_) (om_i (fun _ => om_b ?_ True.intro) True.intro)
    · rintro ⟨g1, g2, g3, g4⟩
      have := ln_in S.2.2.2.2.2.2.1
      refine ⟨by show szS S.2.2.2 ≤ szS S.2.2.2 + 1; omega, by show nsS S.2.2.2 ≤ nsS S.2.2.2 + n; omega, fun _ => rfl⟩
    · rintro ⟨g1, g2, g3⟩
      exact ⟨by show szS S.2.2.2 ≤ szS S.2.2.2 + 1; omega, by show nsS S.2.2.2 ≤ nsS S.2.2.2 + n; omega, fun _ => rfl⟩
  · exact True.intro
theorem om_new {mi : Nat} {pc ix k : Nat} {r : List Int} {S : aT} (hr : ckR mi pc (.new ix, k, r) = true) : OM mi S (aNew (.new ix, k, r) S) := by
  unfold aNew
  split
  · rename_i cc n w h2
    have h2 : r = [cc, n, w] := h2
    subst h2
    simp only [ckR, Bool.and_eq_true, decide_eq_true_eq] at hr
    obtain ⟨⟨⟨⟨⟨⟨hcl, hc0⟩, hc1⟩, hn⟩, -⟩, -⟩, -⟩ := hr
    have hn0 : 0 ≤ n := by
      rw [hn]
      have h3 : (List.range 13).all (fun cc => decide (0 ≤ nC_ (cc : Int))) = true := by decide +kernel
      have := of_decide_eq_true (List.all_eq_true.mp h3 cc.toNat (List.mem_range.mpr (by omega)))
      rw [Int.toNat_of_nonneg hc0] at this
      exact this
    exact fun _ => ⟨by show szS S.2.2.2 ≤ szS S.2.2.2 + 1; omega, by show nsS S.2.2.2 ≤ nsS S.2.2.2 + n; omega, fun q => by rw [hcl] at q; cases q⟩
  · exact True.intro
theorem om_call {mi pc : Nat} {B : Int} {i : Instr} {n9 : Nat} {r : List Int} {S : aT} (hr : (ckC mi pc i r || ckJ mi i r) = true) : OM mi S (aCall B (i, n9, r) S) := by
  unfold aCall
  split
  · rename_i mj n rt mo cc bd w h2
    have h2 : r = [mj, n, rt, mo, cc, bd, w] := h2
    subst h2
    split
    · exact True.intro
    · by_cases hm : mj < 0
      · dsimp only
        rw [if_pos hm]
        refine om_b ?_ True.intro
        split
        · exact om_i (fun _ => om_N rfl) (om_i (fun _ => om_b (om_N rfl) True.intro) True.intro)
        · exact om_i (fun _ => om_b (om_N rfl) True.intro) True.intro
        · exact om_i (fun _ => om_gI (fun g => om_N rfl)) (om_i (fun _ => om_gI (fun g => om_N rfl)) True.intro)
        · exact om_i (fun _ => om_N rfl) True.intro
        · exact om_i (fun _ => om_b (om_N rfl) True.intro) True.intro
        · exact True.intro
      · dsimp only
        rw [if_neg hm]
        refine om_b ?_ True.intro
        have hcl : cl_ mi = false → cl_ mj.toNat = false := by
          intro hq
          rw [Bool.or_eq_true] at hr
          rcases hr with hr | hr
          · simp only [ckC, Bool.and_eq_true, Bool.or_eq_true, decide_eq_true_eq, Bool.not_eq_true'] at hr
            have h3 := hr.1.1.1.1.1.1.1.2
            rw [hq] at h3
            simpa using h3
          · exact absurd (ckJ_neg hr) hm
        have rc : ∀ (g : Option Prop) (as rest : List aV), OM mi S (rC g mj.toNat as rt.toNat rest) := fun g as rest => fun _ => hcl
        refine om_b (om_i (fun _ => rc _ _ _) ?_) True.intro
        split
        · exact om_i (fun _ => om_gB (fun _ => rc _ _ _)) (om_i (fun _ => om_gB (fun _ => rc _ _ _)) (om_i (fun _ => om_b (om_gB (fun _ => rc _ _ _)) (rc _ _ _)) True.intro))
        · exact True.intro
  · exact True.intro
theorem act_mono {mi pc : Nat} {B : Int} {i : Instr} {n : Nat} {r : List Int} {S : aT} (hr : ckR mi pc (i, n, r) = true) : OM mi S (act B (i, n, r) S) := by
  cases i <;> (try exact True.intro)
  case getfield => exact om_get
  case putfield => exact om_put hr
  case iaload => exact om_ld
  case laload => exact om_ld
  case baload => exact om_ld
  case iastore => exact om_st
  case lastore => exact om_st
  case bastore => exact om_st
  case arraylength => exact om_len
  case newarray => exact om_newA
  case new => exact om_new hr
  case invokevirtual => exact om_call hr
  case invokestatic => exact om_call hr
  case invokespecial => exact om_call hr
  case tableswitch =>
    unfold act; dsimp only
    split
    · exact fun _ => Mo.pick (fun q hq => by obtain ⟨tg, h⟩ := swL_mem hq; rw [h]; exact Mo.same rfl) (Mo.same rfl)
    · exact True.intro
  case lookupswitch =>
    unfold act; dsimp only
    split
    · exact fun _ => Mo.pick (fun q hq => by obtain ⟨tg, h⟩ := swL_mem hq; rw [h]; exact Mo.same rfl) (Mo.same rfl)
    · exact True.intro
  case ifCond =>
    unfold act; dsimp only
    split
    · exact om_gI (fun g => fun _ => ⟨Mo.same rfl, Mo.same rfl⟩)
    · exact True.intro
  case if_icmp =>
    unfold act; dsimp only
    split
    · exact om_gI (fun g => fun _ => ⟨Mo.same rfl, Mo.same rfl⟩)
    · exact True.intro
  case lcmp =>
    unfold act; dsimp only
    split
    · exact om_i (fun _ => fun _ => ⟨Mo.same rfl, Mo.same rfl⟩) (om_i (fun _ => fun _ => ⟨Mo.same rfl, Mo.same rfl⟩) (om_i (fun _ => fun _ => ⟨Mo.same rfl, Mo.same rfl⟩) (om_i (fun _ => fun _ => ⟨Mo.same rfl, Mo.same rfl⟩) (om_i (fun _ => fun _ => ⟨Mo.same rfl, Mo.same rfl⟩) (fun _ => ⟨Mo.same rfl, Mo.same rfl⟩)))))
    · exact True.intro
  case ireturn =>
    unfold act; dsimp only
    split
    · split
      · exact fun _ => True.intro
      · split
        · refine om_b ?_ ?_
          · exact fun _ => True.intro
          · exact True.intro
        · exact fun _ => True.intro
    · exact True.intro
  all_goals
    unfold act; dsimp only
    repeat' split
    all_goals first | exact True.intro | exact fun _ => Mo.same rfl | exact fun _ => True.intro
