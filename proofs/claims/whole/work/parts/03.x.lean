def gP (g : Option Prop) : Prop := match g with
  | none => True
  | some p => p
def gA (g : Option Prop) (P : Prop) : Prop := match g with
  | none => P
  | some p => p ∧ P
def layA : List aV → List aL
  | [] => []
  | v :: l => match v with
    | .inr (.inl _) => some (some v) :: some none :: layA l
    | _ => some (some v) :: layA l
def pad_ : Nat → List aL → List aL
  | 0, _ => []
  | n + 1, [] => none :: pad_ n []
  | n + 1, a :: l => a :: pad_ n l
def ent_ (mj : Nat) (as : List aV) (s : aS) : aT := (0, pad_ (mxl_ mj) (layA as), [], s)
def res_ (rt : Nat) (r : Option aV) (rest : List aV) : Option (List aV) := match rt, r with
  | 0, none => some rest
  | 1, some (.inl x) => some (vI x :: rest)
  | 2, some (.inr (.inl x)) => some (vL x :: rest)
  | _, _ => none
def pick_ (x : Int) : List (Int × aT) → aT → aT
  | [], d => d
  | q :: l, d => if x = q.1 then q.2 else pick_ x l d
noncomputable def iteP {α : Type} (p : Prop) (a b : α) : α := @ite α p (Classical.propDecidable p) a b
theorem iteP_t {α : Type} {p : Prop} {a b : α} (h : p) : iteP p a b = a := by unfold iteP; exact if_pos h
theorem iteP_f {α : Type} {p : Prop} {a b : α} (h : ¬ p) : iteP p a b = b := by unfold iteP; exact if_neg h
noncomputable def exec : Nat → Nat → aT → Option (Option aV × aS)
  | 0, _, _ => none
  | n + 1, mi, S => match code_ mi S.1 with
    | none => none
    | some e => match act (bnd_ mi) e S with
      | .inl (g, T) => iteP (gP g) (exec n mi T) none
      | .inr (.inl (g, x, f)) => iteP (gP g) (exec n mi (f x)) none
      | .inr (.inr (.inl (g, M, f))) => iteP (gP g) (exec n mi (f M)) none
      | .inr (.inr (.inr (.inl (g, c, T1, T2)))) => iteP (gP g) (iteP c (exec n mi T1) (exec n mi T2)) none
      | .inr (.inr (.inr (.inr (.inl (g, v))))) => iteP (gP g) (some (v, S.2.2.2)) none
      | .inr (.inr (.inr (.inr (.inr (.inl (g, mj, as, rt, rest)))))) => iteP (gP g) (match exec n mj (ent_ mj as S.2.2.2) with
        | none => none
        | some (r, s) => match res_ rt r rest with
          | none => none
          | some st => exec n mi (S.1 + e.2.1, S.2.1, st, s)) none
      | .inr (.inr (.inr (.inr (.inr (.inr (.inl (g, x, l, d))))))) => iteP (gP g) (exec n mi (pick_ x l d)) none
      | .inr (.inr (.inr (.inr (.inr (.inr (.inr _)))))) => none
theorem exec_up : ∀ (n mi : Nat) (S : aT) (q : Option aV × aS), exec n mi S = some q → exec (n + 1) mi S = some q := by
  intro n
  induction n with
  | zero => intro mi S q h; simp [exec] at h
  | succ n ih =>
    intro mi S q h
    rw [exec] at h ⊢
    cases hc : code_ mi S.1 with
    | none => rw [hc] at h; simp at h
    | some e =>
      rw [hc] at h
      simp only at h ⊢
      rcases hA : act (bnd_ mi) e S with ⟨g, T⟩ | ⟨g, x, f⟩ | ⟨g, M, f⟩ | ⟨g, c, T1, T2⟩ | ⟨g, v⟩ | ⟨g, mj, as, rt, rest⟩ | ⟨g, x, l, d⟩ | u
      · rw [hA] at h; simp only at h ⊢
        by_cases hg : gP g
        · rw [iteP_t hg] at h ⊢; exact ih _ _ _ h
        · rw [iteP_f hg] at h; cases h
      · rw [hA] at h; simp only at h ⊢
        by_cases hg : gP g
        · rw [iteP_t hg] at h ⊢; exact ih _ _ _ h
        · rw [iteP_f hg] at h; cases h
      · rw [hA] at h; simp only at h ⊢
        by_cases hg : gP g
        · rw [iteP_t hg] at h ⊢; exact ih _ _ _ h
        · rw [iteP_f hg] at h; cases h
      · rw [hA] at h; simp only at h ⊢
        by_cases hg : gP g
        · rw [iteP_t hg] at h ⊢
          by_cases hcc : c
          · rw [iteP_t hcc] at h ⊢; exact ih _ _ _ h
          · rw [iteP_f hcc] at h ⊢; exact ih _ _ _ h
        · rw [iteP_f hg] at h; cases h
      · rw [hA] at h; simp only at h ⊢; exact h
      · rw [hA] at h; simp only at h ⊢
        by_cases hg : gP g
        · rw [iteP_t hg] at h ⊢
          cases h1 : exec n mj (ent_ mj as S.2.2.2) with
          | none => rw [h1] at h; cases h
          | some w =>
            obtain ⟨r, s⟩ := w
            rw [h1] at h
            rw [ih _ _ _ h1]
            simp only at h ⊢
            cases h2 : res_ rt r rest with
            | none => rw [h2] at h; cases h
            | some st => rw [h2] at h; exact ih _ _ _ h
        · rw [iteP_f hg] at h; cases h
      · rw [hA] at h; simp only at h ⊢
        by_cases hg : gP g
        · rw [iteP_t hg] at h ⊢; exact ih _ _ _ h
        · rw [iteP_f hg] at h; cases h
      · rw [hA] at h; cases h
theorem exec_le {n k mi : Nat} {S : aT} {q : Option aV × aS} (h : exec n mi S = some q) (hk : n ≤ k) : exec k mi S = some q := by
  induction hk with
  | refl => exact h
  | step _ ih => exact exec_up _ _ _ _ ih
/-- the method, from there, comes to its end, with Q -/
def Xs (mi : Nat) (S : aT) (Q : Option aV → aS → Prop) : Prop := ∃ (n : Nat) (r : Option aV) (s : aS), exec n mi S = some (r, s) ∧ Q r s
def QI (Q : Int → aM → aW → Prop) : Option aV → aS → Prop := fun r s => match r with
  | some (.inl x) => Q x s.1 s.2
  | _ => False
def QL (Q : Int → aM → aW → Prop) : Option aV → aS → Prop := fun r s => match r with
  | some (.inr (.inl x)) => Q x s.1 s.2
  | _ => False
def QV (Q : aM → aW → Prop) : Option aV → aS → Prop := fun r s => match r with
  | none => Q s.1 s.2
  | _ => False
def CallI (mj : Nat) (as : List aV) (s : aS) (Q : Int → aM → aW → Prop) : Prop := Xs mj (ent_ mj as s) (QI Q)
def CallL (mj : Nat) (as : List aV) (s : aS) (Q : Int → aM → aW → Prop) : Prop := Xs mj (ent_ mj as s) (QL Q)
def CallV (mj : Nat) (as : List aV) (s : aS) (Q : aM → aW → Prop) : Prop := Xs mj (ent_ mj as s) (QV Q)
theorem CallI.mono {mj : Nat} {as : List aV} {s : aS} {P Q : Int → aM → aW → Prop} (h : CallI mj as s P) (k : ∀ x M W, P x M W → Q x M W) : CallI mj as s Q := by
  obtain ⟨n, r, s', h1, h2⟩ := h
  refine ⟨n, r, s', h1, ?_⟩
  rcases r with _ | x | x | x <;> simp only [QI] at h2 ⊢
  exact k _ _ _ h2
theorem CallL.mono {mj : Nat} {as : List aV} {s : aS} {P Q : Int → aM → aW → Prop} (h : CallL mj as s P) (k : ∀ x M W, P x M W → Q x M W) : CallL mj as s Q := by
  obtain ⟨n, r, s', h1, h2⟩ := h
  refine ⟨n, r, s', h1, ?_⟩
  rcases r with _ | x | x | x <;> simp only [QL] at h2 ⊢
  exact k _ _ _ h2
theorem CallV.mono {mj : Nat} {as : List aV} {s : aS} {P Q : aM → aW → Prop} (h : CallV mj as s P) (k : ∀ M W, P M W → Q M W) : CallV mj as s Q := by
  obtain ⟨n, r, s', h1, h2⟩ := h
  refine ⟨n, r, s', h1, ?_⟩
  rcases r with _ | x | x | x <;> simp only [QV] at h2 ⊢
  exact k _ _ h2
/-- what is to be shown, k instructions on, up to the cuts -/
def wpS (x : Int) (l : List (Int × aT)) (d : aT) (go : aT → Prop) : Prop := match l with
  | [] => go d
  | q :: l => (x = q.1 → go q.2) ∧ (x ≠ q.1 → wpS x l d go)
def wpN (mi : Nat) (cut : Nat → Bool) : Nat → aT → (Option aV → aS → Prop) → Prop
  | 0, S, Q => Xs mi S Q
  | k + 1, S, Q => match code_ mi S.1 with
    | none => False
    | some e => match act (bnd_ mi) e S with
      | .inl (g, T) => gA g (bif cut T.1 then Xs mi T Q else wpN mi cut k T Q)
      | .inr (.inl (g, x, f)) => gA g (∀ y : Int, y = x → bif cut (f y).1 then Xs mi (f y) Q else wpN mi cut k (f y) Q)
      | .inr (.inr (.inl (g, M, f))) => gA g (∀ y : aM, y = M → bif cut (f y).1 then Xs mi (f y) Q else wpN mi cut k (f y) Q)
      | .inr (.inr (.inr (.inl (g, c, T1, T2)))) => gA g ((c → bif cut T1.1 then Xs mi T1 Q else wpN mi cut k T1 Q) ∧ (¬ c → bif cut T2.1 then Xs mi T2 Q else wpN mi cut k T2 Q))
      | .inr (.inr (.inr (.inr (.inl (g, v))))) => gA g (Q v S.2.2.2)
      | .inr (.inr (.inr (.inr (.inr (.inl (g, mj, as, rt, rest)))))) => gA g (match rt with
        | 0 => CallV mj as S.2.2.2 (fun M W => bif cut (S.1 + e.2.1) then Xs mi (S.1 + e.2.1, S.2.1, rest, (M, W)) Q else wpN mi cut k (S.1 + e.2.1, S.2.1, rest, (M, W)) Q)
        | 1 => CallI mj as S.2.2.2 (fun x M W => bif cut (S.1 + e.2.1) then Xs mi (S.1 + e.2.1, S.2.1, vI x :: rest, (M, W)) Q else wpN mi cut k (S.1 + e.2.1, S.2.1, vI x :: rest, (M, W)) Q)
        | 2 => CallL mj as S.2.2.2 (fun x M W => bif cut (S.1 + e.2.1) then Xs mi (S.1 + e.2.1, S.2.1, vL x :: rest, (M, W)) Q else wpN mi cut k (S.1 + e.2.1, S.2.1, vL x :: rest, (M, W)) Q)
        | _ => False)
      | .inr (.inr (.inr (.inr (.inr (.inr (.inl (g, x, l, d))))))) => gA g (wpS x l d (fun T => bif cut T.1 then Xs mi T Q else wpN mi cut k T Q))
      | .inr (.inr (.inr (.inr (.inr (.inr (.inr _)))))) => False
theorem gA_P {g : Option Prop} {P : Prop} (h : gA g P) : gP g ∧ P := by
  cases g with
  | none => exact ⟨trivial, h⟩
  | some p => exact h
theorem cut_X {mi : Nat} {b : Bool} {T : aT} {Q : Option aV → aS → Prop} {P : Prop} (hP : P → Xs mi T Q) (h : bif b then Xs mi T Q else P) : Xs mi T Q := by
  cases b with
  | true => exact h
  | false => exact hP h
theorem wpS_pick {x : Int} {d : aT} {go : aT → Prop} : ∀ {l : List (Int × aT)}, wpS x l d go → go (pick_ x l d)
  | [], h => h
  | q :: l, h => by
    unfold pick_
    by_cases hx : x = q.1
    · rw [if_pos hx]; exact h.1 hx
    · rw [if_neg hx]; exact wpS_pick (h.2 hx)
theorem X_step {mi : Nat} {S : aT} {e : aE} {Q : Option aV → aS → Prop} {T : aT} (hc : code_ mi S.1 = some e) (h : ∀ n, exec (n + 1) mi S = exec n mi T) (k : Xs mi T Q) : Xs mi S Q := by
  obtain ⟨n, r, s, h1, h2⟩ := k
  exact ⟨n + 1, r, s, by rw [h]; exact h1, h2⟩
theorem wpN_X {mi : Nat} {cut : Nat → Bool} : ∀ (k : Nat) (S : aT) (Q : Option aV → aS → Prop), wpN mi cut k S Q → Xs mi S Q := by
  intro k
  induction k with
  | zero => intro S Q h; exact h
  | succ k ih =>
    intro S Q h
    rw [wpN] at h
    cases hc : code_ mi S.1 with
    | none => rw [hc] at h; exact h.elim
    | some e =>
      rw [hc] at h
      simp only at h
      rcases hA : act (bnd_ mi) e S with ⟨g, T⟩ | ⟨g, x, f⟩ | ⟨g, M, f⟩ | ⟨g, c, T1, T2⟩ | ⟨g, v⟩ | ⟨g, mj, as, rt, rest⟩ | ⟨g, x, l, d⟩ | u
      · rw [hA] at h
        obtain ⟨hg, h⟩ := gA_P h
        exact X_step hc (fun n => by rw [exec, hc]; simp only; rw [hA]; exact iteP_t hg) (cut_X (ih _ _) h)
      · rw [hA] at h
        obtain ⟨hg, h⟩ := gA_P h
        exact X_step hc (fun n => by rw [exec, hc]; simp only; rw [hA]; exact iteP_t hg) (cut_X (ih _ _) (h x rfl))
      · rw [hA] at h
        obtain ⟨hg, h⟩ := gA_P h
        exact X_step hc (fun n => by rw [exec, hc]; simp only; rw [hA]; exact iteP_t hg) (cut_X (ih _ _) (h M rfl))
      · rw [hA] at h
        obtain ⟨hg, h⟩ := gA_P h
        by_cases hcc : c
        · exact X_step hc (fun n => by rw [exec, hc]; simp only; rw [hA]; simp only; rw [iteP_t hg, iteP_t hcc]) (cut_X (ih _ _) (h.1 hcc))
        · exact X_step hc (fun n => by rw [exec, hc]; simp only; rw [hA]; simp only; rw [iteP_t hg, iteP_f hcc]) (cut_X (ih _ _) (h.2 hcc))
      · rw [hA] at h
        obtain ⟨hg, h⟩ := gA_P h
        exact ⟨1, v, S.2.2.2, by rw [exec, hc]; simp only; rw [hA]; exact iteP_t hg, h⟩
      · rw [hA] at h
        obtain ⟨hg, h⟩ := gA_P h
        have fin : ∀ {r : Option aV} {s : aS} {st : List aV} {n : Nat}, exec n mj (ent_ mj as S.2.2.2) = some (r, s) → res_ rt r rest = some st → Xs mi (S.1 + e.2.1, S.2.1, st, s) Q → Xs mi S Q := by
          intro r s st n h1 h2 ⟨n2, r2, s2, h3, h4⟩
          refine ⟨max n n2 + 1, r2, s2, ?_, h4⟩
          rw [exec, hc]; simp only; rw [hA]; simp only; rw [iteP_t hg, exec_le h1 (Nat.le_max_left n n2)]; simp only; rw [h2]
          exact exec_le h3 (Nat.le_max_right n n2)
        rcases rt with _ | _ | _ | rt
        · obtain ⟨n, r, s, h1, h2⟩ := h
          rcases r with _ | x | x | x <;> simp only [QV] at h2
          exact fin h1 rfl (cut_X (ih _ _) h2)
        · obtain ⟨n, r, s, h1, h2⟩ := h
          rcases r with _ | x | x | x <;> simp only [QI] at h2
          exact fin h1 rfl (cut_X (ih _ _) h2)
        · obtain ⟨n, r, s, h1, h2⟩ := h
          rcases r with _ | x | x | x <;> simp only [QL] at h2
          exact fin h1 rfl (cut_X (ih _ _) h2)
        · exact h.elim
      · rw [hA] at h
        obtain ⟨hg, h⟩ := gA_P h
        exact X_step hc (fun n => by rw [exec, hc]; simp only; rw [hA]; exact iteP_t hg) (cut_X (ih _ _) (wpS_pick h))
      · rw [hA] at h; exact h.elim
