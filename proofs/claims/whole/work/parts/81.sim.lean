/-! the machine's cells, locals and values out of the abstract ones -/
def cvR (z t u : Nat) (x : Int) : Value := if x = -10 then .ref t else if x = -11 then .ref u else if x < 0 then .null else .ref (z + x.toNat)
def cv (z t u : Nat) (v : aV) : Value := match v with
  | .inl x => .int (Int32.ofInt x)
  | .inr (.inl x) => .long (Int64.ofInt x)
  | .inr (.inr x) => cvR z t u x
theorem cvR_n (z t u a : Nat) : cvR z t u (a : Int) = .ref (z + a) := by
  unfold cvR
  rw [if_neg (by omega), if_neg (by omega), if_neg (by omega)]
  rfl
theorem cvR_p {z t u : Nat} {x : Int} (h : 0 ≤ x) : cvR z t u x = .ref (z + x.toNat) := by
  unfold cvR
  rw [if_neg (by omega), if_neg (by omega), if_neg (by omega)]
theorem cvR_cat (z t u : Nat) (x : Int) : (cvR z t u x).category = 1 := by
  unfold cvR
  split
  · rfl
  · split
    · rfl
    · split <;> rfl
def asv (z t u : Nat) (L : List aL) (i : Nat) : Option Value := match nL_ L i with
  | some (some (.inl x)) => some (.int (Int32.ofInt x))
  | some (some (.inr (.inl x))) => (match nL_ L (i + 1) with
    | some none => some (.long (Int64.ofInt x))
    | _ => none)
  | some (some (.inr (.inr x))) => some (cvR z t u x)
  | _ => none
def LR (z t u n : Nat) (L : List aL) (ls : Array Slot) : Prop := L.length = n ∧ ls.size = n ∧ lv_wf ls ∧ ∀ i v, asv z t u L i = some v → ls[i]? = some (.val v)
theorem nL_lt : ∀ {L : List aL} {i : Nat} {v : Option aV}, nL_ L i = some v → i < L.length
  | [], _, _, h => by simp [nL_] at h
  | _ :: _, 0, _, _ => by simp
  | _ :: l, n + 1, _, h => by
    have := nL_lt (L := l) (i := n) h
    simp; omega
theorem sL_len : ∀ (L : List aL) (i : Nat) (v : aL), (sL_ L i v).length = L.length
  | [], _, _ => rfl
  | _ :: _, 0, _ => rfl
  | _ :: l, n + 1, v => by simp [sL_, sL_len l n v]
theorem nL_sL : ∀ (L : List aL) (i j : Nat) (v : aL), nL_ (sL_ L i v) j = if j = i ∧ i < L.length then v else nL_ L j
  | [], i, j, v => by simp [sL_, nL_]
  | a :: l, 0, 0, v => by simp [sL_, nL_]
  | a :: l, 0, j + 1, v => by simp [sL_, nL_]
  | a :: l, i + 1, 0, v => by simp [sL_, nL_]
  | a :: l, i + 1, j + 1, v => by
    simp only [sL_, nL_, nL_sL l i j v, List.length_cons]
    by_cases h : j = i ∧ i < l.length
    · rw [if_pos h, if_pos ⟨by omega, by omega⟩]
    · rw [if_neg h, if_neg (fun q => h ⟨by omega, by omega⟩)]
theorem asv_lt {z t u : Nat} {L : List aL} {i : Nat} {v : Value} (h : asv z t u L i = some v) : i < L.length := by
  unfold asv at h
  cases hq : nL_ L i with
  | none => rw [hq] at h; simp at h
  | some w => exact nL_lt hq
def lvl (z t u : Nat) (L : List aL) : List (Nat × Value) := (List.range L.length).filterMap (fun i => (asv z t u L i).map (fun v => (i, v)))
theorem mem_lvl {z t u : Nat} {L : List aL} {q : Nat × Value} : q ∈ lvl z t u L ↔ asv z t u L q.1 = some q.2 := by
  unfold lvl
  simp only [List.mem_filterMap, List.mem_range, Option.map_eq_some_iff]
  constructor
  · rintro ⟨i, _, v, h, rfl⟩
    exact h
  · intro h
    exact ⟨q.1, asv_lt h, q.2, h, rfl⟩
theorem LR.has {z t u n : Nat} {L : List aL} {ls : Array Slot} (h : LR z t u n L ls) : lv_has ls n (lvl z t u L) := ⟨h.2.1, h.2.2.1, fun q hq => h.2.2.2 _ _ (mem_lvl.mp hq)⟩
theorem LR.get {z t u n : Nat} {L : List aL} {ls : Array Slot} (h : LR z t u n L ls) {i : Nat} {v : Value} (hv : asv z t u L i = some v) : ls[i]? = some (.val v) := h.2.2.2 _ _ hv
theorem asv_cat2 {z t u : Nat} {L : List aL} {i : Nat} {v : Value} (h : asv z t u L i = some v) (hc : v.category = 2) : nL_ L (i + 1) = some none := by
  unfold asv at h
  split at h
  · cases h; simp [Value.category] at hc
  · split at h
    · assumption
    · cases h
  · cases h; rw [cvR_cat] at hc; cases hc
  · cases h
/-- a value of one word is stored -/
theorem LR.put1 {z t u n : Nat} {L : List aL} {ls ls' : Array Slot} {i : Nat} {v : aV} (h : LR z t u n L ls) (hi : i < n) (hv : ∀ x, v ≠ .inr (.inl x)) (h' : lv_has ls' n ((i, cv z t u v) :: (lvl z t u L).filter (fun q => !(q.1 == i) && !(q.1 + 1 == i && q.2.category == 2)))) : LR z t u n (st1 L i v) ls' := by
  refine ⟨by rw [st1, sL_len]; exact h.1, h'.1, h'.2.1, fun j w hw => ?_⟩
  have hil : i < L.length := by rw [h.1]; exact hi
  by_cases hj : j = i
  · subst hj
    have e : w = cv z t u v := by
      unfold asv at hw
      rw [st1, nL_sL, if_pos ⟨rfl, hil⟩] at hw
      rcases v with x | x | x
      · exact (Option.some.inj hw).symm
      · exact absurd rfl (hv x)
      · exact (Option.some.inj hw).symm
    rw [e]
    exact h'.2.2 _ List.mem_cons_self
  · have hw2 : asv z t u L j = some w ∧ (j + 1 = i → w.category ≠ 2) := by
      have e0 : nL_ (st1 L i v) j = nL_ L j := by rw [st1, nL_sL, if_neg (fun q => hj q.1)]
      by_cases hj1 : j + 1 = i
      · have e1 : nL_ (st1 L i v) (j + 1) = some (some v) := by rw [st1, nL_sL, if_pos ⟨hj1, hil⟩]
        unfold asv at hw ⊢
        rw [e0, e1] at hw
        cases hq : nL_ L j with
        | none => rw [hq] at hw; cases hw
        | some o =>
          rw [hq] at hw
          rcases o with _ | x | x | x
          · cases hw
          · cases hw; exact ⟨rfl, fun _ => by simp [Value.category]⟩
          · cases hw
          · cases hw; exact ⟨rfl, fun _ => by rw [cvR_cat]; decide⟩
      · refine ⟨?_, fun q => absurd q hj1⟩
        have e1 : nL_ (st1 L i v) (j + 1) = nL_ L (j + 1) := by rw [st1, nL_sL, if_neg (fun q => hj1 q.1)]
        unfold asv at hw ⊢
        rw [e0, e1] at hw
        exact hw
    refine h'.2.2 (j, w) (List.mem_cons_of_mem _ (List.mem_filter.mpr ⟨mem_lvl.mpr hw2.1, ?_⟩))
    simp only [Bool.and_eq_true, Bool.not_eq_true', beq_eq_false_iff_ne, ne_eq, Bool.and_eq_false_imp, beq_iff_eq]
    exact ⟨hj, fun q => hw2.2 q⟩
/-- a long is stored -/
theorem LR.put2 {z t u n : Nat} {L : List aL} {ls ls' : Array Slot} {i : Nat} {x : Int} (h : LR z t u n L ls) (hi : i + 1 < n) (h' : lv_has ls' n ((i, Value.long (Int64.ofInt x)) :: (lvl z t u L).filter (fun q => !(q.1 == i) && (!(q.1 == i + 1) && !(q.1 + 1 == i && q.2.category == 2))))) : LR z t u n (st2 L i (vL x)) ls' := by
  refine ⟨by rw [st2, sL_len, sL_len]; exact h.1, h'.1, h'.2.1, fun j w hw => ?_⟩
  have hil : i < L.length := by rw [h.1]; omega
  have hil1 : i + 1 < L.length := by rw [h.1]; omega
  have e0 : ∀ k, nL_ (st2 L i (vL x)) k = if k = i + 1 then some none else if k = i then some (some (vL x)) else nL_ L k := by
    intro k
    rw [st2, nL_sL, sL_len, nL_sL]
    by_cases h1 : k = i + 1
    · rw [if_pos ⟨h1, hil1⟩, if_pos h1]
    · rw [if_neg (fun q => h1 q.1), if_neg h1]
      by_cases h2 : k = i
      · rw [if_pos ⟨h2, hil⟩, if_pos h2]
      · rw [if_neg (fun q => h2 q.1), if_neg h2]
  by_cases hj : j = i
  · subst hj
    have e : w = .long (Int64.ofInt x) := by
      unfold asv at hw
      rw [e0, e0, if_neg (by omega), if_pos rfl, if_pos rfl] at hw
      exact (Option.some.inj hw).symm
    rw [e]
    exact h'.2.2 _ List.mem_cons_self
  · have hj1 : j ≠ i + 1 := by
      intro q
      unfold asv at hw
      rw [e0, if_pos q] at hw
      cases hw
    have hw2 : asv z t u L j = some w ∧ (j + 1 = i → w.category ≠ 2) := by
      by_cases hj2 : j + 1 = i
      · unfold asv at hw ⊢
        rw [e0, e0, if_neg hj1, if_neg hj, if_neg (by omega), if_pos hj2] at hw
        cases hq : nL_ L j with
        | none => rw [hq] at hw; cases hw
        | some o =>
          rw [hq] at hw
          rcases o with _ | y | y | y
          · cases hw
          · cases hw; exact ⟨rfl, fun _ => by simp [Value.category]⟩
          · cases hw
          · cases hw; exact ⟨rfl, fun _ => by rw [cvR_cat]; decide⟩
      · refine ⟨?_, fun q => absurd q hj2⟩
        unfold asv at hw ⊢
        rw [e0, e0, if_neg hj1, if_neg hj, if_neg (by omega), if_neg hj2] at hw
        exact hw
    refine h'.2.2 (j, w) (List.mem_cons_of_mem _ (List.mem_filter.mpr ⟨mem_lvl.mpr hw2.1, ?_⟩))
    simp only [Bool.and_eq_true, Bool.not_eq_true', beq_eq_false_iff_ne, ne_eq, Bool.and_eq_false_imp, beq_iff_eq]
    exact ⟨hj, hj1, fun q => hw2.2 q⟩
def fv (z t u : Nat) (ty : FieldType) (x : Int) : Value := match ty with
  | .long => .long (Int64.ofInt x)
  | .object _ => cvR z t u x
  | .array _ => cvR z t u x
  | _ => .int (Int32.ofInt x)
def oe (z t u : Nat) (s : aS) (c n : Nat) (a : Int) : List Value := (List.range n).map (fun k => fv z t u (ty_ c k) (if (fT_ c k).2.2.2 = true then s.2.1 a k else s.1 a k))
abbrev aI : Type := ClassId × ClassId × ClassId × ClassId
def en (z t u : Nat) (I : aI) (s : aS) (a : Int) : va_E :=
  if kD_ s.2.2.1 a = 20 then .inl (I.1, ((lD_ s.2.2.1 a).toNat, .inl (fun j => Int32.ofInt (s.1 a j))))
  else if kD_ s.2.2.1 a = 21 then .inl (I.2.1, ((lD_ s.2.2.1 a).toNat, .inr (.inl (fun j => Int64.ofInt (s.1 a j)))))
  else if kD_ s.2.2.1 a = 22 then .inl (I.2.2.1, ((lD_ s.2.2.1 a).toNat, .inl (fun j => Int32.ofInt (s.1 a j))))
  else if kD_ s.2.2.1 a = 23 then .inl (I.2.2.2, ((lD_ s.2.2.1 a).toNat, .inl (fun j => Int32.ofInt (s.1 a j))))
  else .inr ((kD_ s.2.2.1 a).toNat, oe z t u s (kD_ s.2.2.1 a).toNat (nC_ (kD_ s.2.2.1 a)).toNat a)
abbrev szS (s : aS) : Int := s.2.2.2.1
abbrev nsS (s : aS) : Int := s.2.2.2.2
def Rel (z t u : Nat) (D : va_G) (I : aI) (s : aS) (H : Heap) : Prop := 0 ≤ szS s ∧ H.size = z + (szS s).toNat ∧ (∀ a : Nat, (a : Int) < szS s → kD_ s.2.2.1 a ≠ 99 → va_at D vwCl (z + a, en z t u I s a) H) ∧ ∀ a : Int, s.2.2.1 a ≤ 100000000
abbrev tyL (I : aI) : List (ClassId × FieldType) := [(I.1, .int), (I.2.1, .long), (I.2.2.1, .byte), (I.2.2.2, .boolean)]
def thrV (j : Nat) : Value := .int (Int32.ofInt (thr_ j))
abbrev AAz (z : Nat) : Nat → Prop := fun q => z ≤ q
def txt_ : String := "place cause road doubt by wait sees inn from to "
/-- what is known of the one string constant and of the statics that its methods read -/
def KS (z u v : Nat) (U : State) (H : Heap) : Prop := va_Z "java/lang/String" "COMPACT_STRINGS" "Z" (.int 1) (AAz z) U H ∧ (∃ w : Value, (w = .null ∨ ∃ q : Nat, w = .ref q) ∧ va_Z "jdk/internal/util/Preconditions" "SIOOBE_FORMATTER" "Ljava/util/function/BiFunction;" w (AAz z) U H) ∧
  va_O "java/lang/String" u (AAz z) U H ∧ va_OF "java/lang/String" "coder" "B" (.int 0) u (AAz z) U H ∧ va_OF "java/lang/String" "value" "[B" (.ref v) u (AAz z) U H ∧ va_T .byte v 48 (fun j => .int (Int32.ofInt (lng_ (j : Int)))) (AAz z) U H
theorem KS.moved {z u v : Nat} {U V : State} {H H1 : Heap} (h : KS z u v U H) (hW : U.WarmedH V.vm) (hq : ∀ a : Nat, a < H.size → ¬ AAz z a → H1[a]? = H[a]?) : KS z u v V H1 := by
  obtain ⟨h1, ⟨w, hw, h2⟩, h3, h4, h5, h6⟩ := h
  exact ⟨(h1.moved hW.alike).kept hq, ⟨w, hw, (h2.moved hW.alike).kept hq⟩, (h3.moved hW.alike).kept hq, (h4.moved hW.alike).kept hq, (h5.moved hW.alike).kept hq, (h6.moved hW.alike).kept hq⟩
theorem KS.recv {z u v : Nat} {U : State} {H : Heap} (h : KS z u v U H) : ∃ cell : Cell, H[u]? = some cell ∧ cell.vm.isStatics = false ∧ U.vm.findClass "java/lang/String" = some cell.cls := by
  obtain ⟨cell, h1, h2, h3, -⟩ := h.2.2.1
  exact ⟨cell, h1, h2, h3⟩
def KK (z t u : Nat) (D : va_G) (I : aI) (U : State) (H : Heap) : Prop := va_K D vwCl (tyL I) U ∧ va_Z "ShutPasses" "THREES" "[I" (.ref t) (AAz z) U H ∧ va_T .int t 7 thrV (AAz z) U H ∧ (∀ w ∈ nestL, va_Nw w U) ∧ (∃ v : Nat, KS z u v U H) ∧ vk_R "ShutPasses$Reader" 38 txt_ u U
/-- the list of all cells that live -/
def idl (s : aS) : List Nat := (List.range (szS s).toNat).filter (fun a => decide (kD_ s.2.2.1 (a : Int) ≠ 99))
def wl (z t u : Nat) (I : aI) (s : aS) : va_W := (idl s).map (fun a => (z + a, en z t u I s (a : Int)))
theorem mem_idl {s : aS} {a : Nat} : a ∈ idl s ↔ (a : Int) < szS s ∧ kD_ s.2.2.1 (a : Int) ≠ 99 := by
  unfold idl
  rw [List.mem_filter, List.mem_range, decide_eq_true_eq]
  constructor
  · rintro ⟨h1, h2⟩; exact ⟨by omega, h2⟩
  · rintro ⟨h1, h2⟩; exact ⟨by omega, h2⟩
set_option maxRecDepth 20000 in
theorem Rel.P {z t u : Nat} {D : va_G} {I : aI} {s : aS} {H : Heap} (h : Rel z t u D I s H) : va_P D vwCl (wl z t u I s) H := by
  intro k q hq
  obtain ⟨a, ha, rfl⟩ := List.mem_map.mp (List.mem_of_getElem? hq)
  have hm := mem_idl.mp ha
  exact h.2.2.1 a hm.1 hm.2
theorem wl_ix {z t u : Nat} {I : aI} {s : aS} {a : Nat} (h1 : (a : Int) < szS s) (h2 : kD_ s.2.2.1 (a : Int) ≠ 99) : ∃ k : Nat, (wl z t u I s)[k]? = some (z + a, en z t u I s (a : Int)) := by
  obtain ⟨k, hk⟩ := List.getElem?_of_mem (mem_idl.mpr ⟨h1, h2⟩)
  exact ⟨k, by unfold wl; rw [List.getElem?_map, hk]; rfl⟩
theorem wl_D {z t u : Nat} {I : aI} {s : aS} : va_D (AAz z) (wl z t u I s) := by
  refine ⟨fun i j p q hi hj hpq => ?_, fun k q hq => ?_⟩
  · unfold wl at hi hj
    rw [List.getElem?_map, Option.map_eq_some_iff] at hi hj
    obtain ⟨a, ha, rfl⟩ := hi
    obtain ⟨b, hb, rfl⟩ := hj
    have hab : a = b := by
      have : z + a = z + b := hpq
      omega
    subst hab
    have hnd : (idl s).Nodup := by
      unfold idl
      exact List.Pairwise.filter _ List.nodup_range
    exact (List.getElem?_inj (List.getElem?_eq_some_iff.mp ha).1 hnd).mp (ha.trans hb.symm)
  · obtain ⟨a, -, rfl⟩ := List.mem_map.mp (List.mem_of_getElem? hq)
    show z ≤ z + a
    omega
set_option maxRecDepth 20000 in
/-- one cell has changed -/
theorem Rel.set {z t u : Nat} {D : va_G} {I : aI} {s s2 : aS} {H H1 : Heap} {k a : Nat} {e : va_E} (h : Rel z t u D I s H) (hk : (wl z t u I s)[k]? = some (z + a, en z t u I s (a : Int))) (hP : va_P D vwCl ((wl z t u I s).set k (z + a, e)) H1) (hz : H1.size = H.size)
    (h1 : szS s2 = szS s) (h2 : s2.2.2.1 = s.2.2.1) (he : en z t u I s2 (a : Int) = e) (ho : ∀ b : Nat, b ≠ a → kD_ s.2.2.1 (b : Int) ≠ 99 → en z t u I s2 (b : Int) = en z t u I s (b : Int)) : Rel z t u D I s2 H1 := by
  refine ⟨by rw [h1]; exact h.1, by rw [h1, hz]; exact h.2.1, fun b hb1 hb2 => ?_, by rw [h2]; exact h.2.2.2⟩
  rw [h1] at hb1
  rw [h2] at hb2
  by_cases hba : b = a
  · subst hba
    rw [he]
    refine hP k _ ?_
    rw [List.getElem?_set_self (List.getElem?_eq_some_iff.mp hk).1]
  · obtain ⟨j, hj⟩ := wl_ix (z := z) (t := t) (u := u) (I := I) hb1 hb2
    rw [ho b hba hb2]
    refine hP j _ ?_
    rw [List.getElem?_set_ne]
    · exact hj
    · rintro rfl
      rw [hk] at hj
      have : z + a = z + b := congrArg Prod.fst (Option.some.inj hj)
      omega
theorem KK.moved {z t u : Nat} {D : va_G} {I : aI} {U V : State} {H H1 : Heap} (h : KK z t u D I U H) (hW : U.WarmedH V.vm) (hq : ∀ a : Nat, a < H.size → ¬ AAz z a → H1[a]? = H[a]?) : KK z t u D I V H1 := by
  obtain ⟨h1, h2, h3, h4, ⟨v, h5⟩, h6⟩ := h
  refine ⟨h1.moved hW.alike, (h2.moved hW.alike).kept hq, (h3.moved hW.alike).kept hq, fun w hw => ?_, ⟨v, h5.moved hW hq⟩, vk_R.warm hW h6⟩
  have h5 := h4 w hw
  simp only [nestL, List.mem_cons, List.not_mem_nil, or_false] at hw
  rcases hw with rfl | rfl | rfl | rfl | rfl | rfl | rfl | rfl | rfl | rfl <;> first | exact va_Nw.warmF hW h5 | exact va_Nw.warmM hW h5
/-- the class's words and fields, by its number -/
theorem cl_of {c : Nat} (hc : c < 13) : ∃ q : vw_C, vwCl[c]? = some q ∧ q.1 = cn_ c ∧ (∀ k, q.2.1 k = fT_ c k) ∧ q.2.2 = (nC_ (c : Int)).toNat := by
  match c, hc with
  | 0, _ => exact ⟨_, rfl, rfl, fun _ => rfl, rfl⟩
  | 1, _ => exact ⟨_, rfl, rfl, fun _ => rfl, rfl⟩
  | 2, _ => exact ⟨_, rfl, rfl, fun _ => rfl, rfl⟩
  | 3, _ => exact ⟨_, rfl, rfl, fun _ => rfl, rfl⟩
  | 4, _ => exact ⟨_, rfl, rfl, fun _ => rfl, rfl⟩
  | 5, _ => exact ⟨_, rfl, rfl, fun _ => rfl, rfl⟩
  | 6, _ => exact ⟨_, rfl, rfl, fun _ => rfl, rfl⟩
  | 7, _ => exact ⟨_, rfl, rfl, fun _ => rfl, rfl⟩
  | 8, _ => exact ⟨_, rfl, rfl, fun _ => rfl, rfl⟩
  | 9, _ => exact ⟨_, rfl, rfl, fun _ => rfl, rfl⟩
  | 10, _ => exact ⟨_, rfl, rfl, fun _ => rfl, rfl⟩
  | 11, _ => exact ⟨_, rfl, rfl, fun _ => rfl, rfl⟩
  | 12, _ => exact ⟨_, rfl, rfl, fun _ => rfl, rfl⟩
  | n + 13, h => exact absurd h (by omega)
theorem i_in {x : Int} (h : inI x) : (Int32.ofInt x).toInt = x := Int32.toInt_ofInt_of_le h.1 h.2
theorem l_in {x : Int} (h : inL x) : (Int64.ofInt x).toInt = x := Int64.toInt_ofInt_of_le h.1 h.2
theorem i_lt {x y : Int} (hx : inI x) (hy : inI y) : Int32.ofInt x < Int32.ofInt y ↔ x < y := by rw [Int32.lt_iff_toInt_lt, i_in hx, i_in hy]
theorem i_le {x y : Int} (hx : inI x) (hy : inI y) : Int32.ofInt x ≤ Int32.ofInt y ↔ x ≤ y := by rw [Int32.le_iff_toInt_le, i_in hx, i_in hy]
theorem i_eq {x y : Int} (hx : inI x) (hy : inI y) : Int32.ofInt x = Int32.ofInt y ↔ x = y := by rw [← Int32.toInt_inj, i_in hx, i_in hy]
theorem l_lt {x y : Int} (hx : inL x) (hy : inL y) : Int64.ofInt x < Int64.ofInt y ↔ x < y := by rw [Int64.lt_iff_toInt_lt, l_in hx, l_in hy]
theorem l_le {x y : Int} (hx : inL x) (hy : inL y) : Int64.ofInt x ≤ Int64.ofInt y ↔ x ≤ y := by rw [Int64.le_iff_toInt_le, l_in hx, l_in hy]
theorem l_eq {x y : Int} (hx : inL x) (hy : inL y) : Int64.ofInt x = Int64.ofInt y ↔ x = y := by rw [← Int64.toInt_inj, l_in hx, l_in hy]
theorem i_0 : inI 0 := ⟨by omega, by omega⟩
theorem inIb_ok {x : Int} (h : inIb x = true) : inI x := by
  simp only [inIb, Bool.and_eq_true, decide_eq_true_eq] at h
  exact h
theorem i_div {x y : Int} (hx : inI x) (hy : inI y) : Int32.ofInt (Int.tdiv x y) = Int32.ofInt x / Int32.ofInt y := Int32.ofInt_tdiv hx.1 (by have := hx.2; show x ≤ 2147483647; omega) hy.1 (by have := hy.2; show y ≤ 2147483647; omega)
theorem l_div {x y : Int} (hx : inL x) (hy : inL y) : Int64.ofInt (Int.tdiv x y) = Int64.ofInt x / Int64.ofInt y := Int64.ofInt_tdiv hx.1 (by have := hx.2; show x ≤ 9223372036854775807; omega) hy.1 (by have := hy.2; show y ≤ 9223372036854775807; omega)
theorem i_mod {x y : Int} (hx : inI x) (hy : inI y) : Int32.ofInt (Int.tmod x y) = Int32.ofInt x - Int32.ofInt x / Int32.ofInt y * Int32.ofInt y := by
  have e : Int.tmod x y = x - Int.tdiv x y * y := by have := Int.mul_tdiv_add_tmod x y; rw [Int.mul_comm] at this; omega
  rw [e, Int32.ofInt_sub, Int32.ofInt_mul, i_div hx hy]
theorem l_mod {x y : Int} (hx : inL x) (hy : inL y) : Int64.ofInt (Int.tmod x y) = Int64.ofInt x - Int64.ofInt x / Int64.ofInt y * Int64.ofInt y := by
  have e : Int.tmod x y = x - Int.tdiv x y * y := by have := Int.mul_tdiv_add_tmod x y; rw [Int.mul_comm] at this; omega
  rw [e, Int64.ofInt_sub, Int64.ofInt_mul, l_div hx hy]
theorem i_ne0 {y : Int} (hy : inI y) (h : y ≠ 0) : ¬ Int32.ofInt y = 0 := fun q => h ((i_eq hy i_0).mp q)
theorem l_0 : inL 0 := ⟨by omega, by omega⟩
theorem l_ne0 {y : Int} (hy : inL y) (h : y ≠ 0) : ¬ Int64.ofInt y = 0 := fun q => h ((l_eq hy l_0).mp q)
theorem i_l {x : Int} (h : inI x) : (Int32.ofInt x).toInt64 = Int64.ofInt x := Int32.toInt64_ofInt h.1 (by have := h.2; show x ≤ 2147483647; omega)
theorem l_i (x : Int) : (Int64.ofInt x).toInt32 = Int32.ofInt x := Int64.toInt32_ofInt
theorem i_ix {i : Int} {n : Nat} (h0 : 0 ≤ i) (h1 : i < n) (hn : (n : Int) < 2147483648) : vp_in (Int32.ofInt i) n ∧ (Int32.ofInt i).toNatClampNeg = i.toNat := by
  have hi : inI i := ⟨by omega, by omega⟩
  refine ⟨vp_in_iff.mpr ?_, ?_⟩
  · rw [i_in hi]; exact ⟨h0, h1⟩
  · show (Int32.ofInt i).toInt.toNat = i.toNat
    rw [i_in hi]
def WFr (p : Program) (l : Launch) (e : Env) (R : Room) (s : State) (m : MethodId) (args : Array Value) (below : List Frame) (meth : Method) (c : Code) (Z : State → Prop) : Heap → List Loc → Nat → Nat → JFrame → Prop := fun H locs cells slots g => W p l e R s m args below meth c H locs cells slots Z g
def Go (z t u : Nat) (D : va_G) (I : aI) (Wf : Heap → List Loc → Nat → Nat → JFrame → Prop) (s : State) (m : MethodId) (mi : Nat) (n0 : Int) (S : aT) : Prop :=
  ∀ (H : Heap) (locs : List Loc) (cells slots : Nat) (ls : Array Slot), Rel z t u D I S.2.2.2 H → va_S (AAz z) s.heap H locs → s.heap.size + cells = z + (szS S.2.2.2).toNat → (slots : Int) = nsS S.2.2.2 - n0 → LR z t u (mxl_ mi) S.2.1 ls → Wf H locs cells slots (F0 m S.1 ls (S.2.2.1.map (cv z t u)))
def St (z t u : Nat) (D : va_G) (I : aI) (Wf : Heap → List Loc → Nat → Nat → JFrame → Prop) (s : State) (R : Room) (m : MethodId) (mi : Nat) (n0 : Int) (S T : aT) : Prop :=
  szS S.2.2.2 ≤ szS T.2.2.2 ∧ nsS S.2.2.2 ≤ nsS T.2.2.2 ∧ (cl_ mi = false → T.2.2.2.2.1 = S.2.2.2.2.1) ∧
  (z + (szS T.2.2.2).toNat ≤ s.heap.size + R.cells → nsS T.2.2.2 - n0 ≤ R.slots → Go z t u D I Wf s m mi n0 T → Go z t u D I Wf s m mi n0 S)
theorem St.pure {z t u : Nat} {D : va_G} {I : aI} {Wf : Heap → List Loc → Nat → Nat → JFrame → Prop} {s : State} {R : Room} {m : MethodId} {mi : Nat} {n0 : Int} {S T : aT} (hs : T.2.2.2 = S.2.2.2)
    (h : ∀ (H : Heap) (locs : List Loc) (cells slots : Nat) (ls : Array Slot), LR z t u (mxl_ mi) S.2.1 ls → (∀ ls' : Array Slot, LR z t u (mxl_ mi) T.2.1 ls' → Wf H locs cells slots (F0 m T.1 ls' (T.2.2.1.map (cv z t u)))) → Wf H locs cells slots (F0 m S.1 ls (S.2.2.1.map (cv z t u)))) : St z t u D I Wf s R m mi n0 S T := by
  refine ⟨by rw [hs]; exact Int.le_refl _, by rw [hs]; exact Int.le_refl _, fun _ => by rw [hs], fun _ _ k H locs cells slots ls hR hS h1 h2 hl => ?_⟩
  exact h H locs cells slots ls hl (fun ls' hl' => k H locs cells slots ls' (by rw [hs]; exact hR) hS (by rw [hs]; exact h1) (by rw [hs]; exact h2) hl')
theorem St.stk {z t u : Nat} {D : va_G} {I : aI} {Wf : Heap → List Loc → Nat → Nat → JFrame → Prop} {s : State} {R : Room} {m : MethodId} {mi : Nat} {n0 : Int} {S T : aT} (hs : T.2.2.2 = S.2.2.2) (hL : T.2.1 = S.2.1)
    (h : ∀ (H : Heap) (locs : List Loc) (cells slots : Nat) (ls : Array Slot), LR z t u (mxl_ mi) S.2.1 ls → Wf H locs cells slots (F0 m T.1 ls (T.2.2.1.map (cv z t u))) → Wf H locs cells slots (F0 m S.1 ls (S.2.2.1.map (cv z t u)))) : St z t u D I Wf s R m mi n0 S T :=
  St.pure hs (fun H locs cells slots ls hl k => h H locs cells slots ls hl (k ls (by rw [hL]; exact hl)))
/-- a state of the world that reads it -/
theorem St.read {z t u : Nat} {D : va_G} {I : aI} {Wf : Heap → List Loc → Nat → Nat → JFrame → Prop} {s : State} {R : Room} {m : MethodId} {mi : Nat} {n0 : Int} {S T : aT} (hs : T.2.2.2 = S.2.2.2) (hL : T.2.1 = S.2.1)
    (h : ∀ (H : Heap) (locs : List Loc) (cells slots : Nat) (ls : Array Slot), Rel z t u D I S.2.2.2 H → va_S (AAz z) s.heap H locs → LR z t u (mxl_ mi) S.2.1 ls → Wf H locs cells slots (F0 m T.1 ls (T.2.2.1.map (cv z t u))) → Wf H locs cells slots (F0 m S.1 ls (S.2.2.1.map (cv z t u)))) : St z t u D I Wf s R m mi n0 S T := by
  refine ⟨by rw [hs]; exact Int.le_refl _, by rw [hs]; exact Int.le_refl _, fun _ => by rw [hs], fun _ _ k H locs cells slots ls hR hS h1 h2 hl => ?_⟩
  exact h H locs cells slots ls hR hS hl (k H locs cells slots ls (by rw [hs]; exact hR) hS (by rw [hs]; exact h1) (by rw [hs]; exact h2) (by rw [hL]; exact hl))
theorem W.sized {p : Program} {l : Launch} {e : Env} {R : Room} {s : State} {m : MethodId} {args : Array Value} {below : List Frame} {meth : Method} {c : Code} {H : Heap} {locs : List Loc} {cells slots : Nat} {Q : State → Prop} {g : JFrame} (h : H.size ≤ s.heap.size + cells → W p l e R s m args below meth c H locs cells slots Q g) : W p l e R s m args below meth c H locs cells slots Q g := fun T hT X => h (by rw [← hT]; exact X.heapSize) T hT X
def Cx (z t u : Nat) (D : va_G) (I : aI) (p : Program) (R : Room) (s : State) (m : MethodId) (args : Array Value) (meth : Method) (c : Code) (mi : Nat) : Prop :=
  p.tables.exec = Jvm.exec ∧ c.code = bts_ mi ∧ c.maxLocals = mxl_ mi ∧ s.vm.findClass (cn_ (oc_ mi)) = some m.cls ∧ (∀ w ∈ ww_, w.before args s = true) ∧ meth.sig.returnType = rt_ mi ∧ meth.locks = false ∧ (is_ mi = 2 → meth.name = "<init>") ∧ KK z t u D I s s.heap ∧ z ≤ s.heap.size ∧ fr_ mi ≤ R.frames ∧ lo_ mi ≤ R.locals
def gW (w : Prop → Prop) : Prop := w True
/-- what is to be shown of an instruction's outcome -/
def OK (ST : aT → Prop) (RT : Option aV → Prop) (CL : Nat → List aV → Nat → List aV → Prop) (BR : Prop → aT → aT → Prop) (SW : Int → List (Int × aT) → aT → Prop) (r : aR) : Prop := match r with
  | .inl (g, T) => gP g → ST T
  | .inr (.inl (g, x, f)) => gP g → ST (f x)
  | .inr (.inr (.inl (g, M, f))) => gP g → ST (f M)
  | .inr (.inr (.inr (.inl (g, c, T1, T2)))) => gP g → BR c T1 T2
  | .inr (.inr (.inr (.inr (.inl (g, v))))) => gP g → RT v
  | .inr (.inr (.inr (.inr (.inr (.inl (g, mj, as, rt, rest)))))) => gP g → CL mj as rt rest
  | .inr (.inr (.inr (.inr (.inr (.inr (.inl (g, x, l, d))))))) => gP g → SW x l d
  | .inr (.inr (.inr (.inr (.inr (.inr (.inr _)))))) => True
section SIMD
variable {z t u : Nat} {D : va_G} {I : aI} {p : Program} {l : Launch} {e : Env} {R : Room} {s : State} {m : MethodId} {args : Array Value} {below : List Frame} {meth : Method} {c : Code} {Z : State → Prop} {mi : Nat} {n0 : Int}
variable {RT : Option aV → Prop} {CL : Nat → List aV → Nat → List aV → Prop} {BR : Prop → aT → aT → Prop} {SW : Int → List (Int × aT) → aT → Prop} {ST : aT → Prop}
variable {B : Int} {pc : Nat} {L : List aL} {st : List aV} {s0 : aS} {r : List Int}
theorem ok_aload {k : Nat} (C : Cx z t u D I p R s m args meth c mi) (hd : decode (bts_ mi) pc = .ok (.aload k, 2)) : OK (St z t u D I (WFr p l e R s m args below meth c Z) s R m mi n0 (pc, L, st, s0)) RT CL BR SW (act B (.aload k, 2, r) (pc, L, st, s0)) := by
  show OK _ _ _ _ _ (match nL_ L k with
    | some (some (.inr (.inr a))) => rN none (pushA (.aload k, 2, r) (pc, L, st, s0) (vR a))
    | _ => rX)
  rcases hq : nL_ L k with _ | _ | x | x | x <;> try exact True.intro
  intro _
  refine St.stk rfl rfl (fun H locs cells slots ls hl kk => ?_)
  have hv : ls[k]? = some (.val (cvR z t u x)) := hl.get (by unfold asv; rw [hq])
  change W p l e R s m args below meth c H locs cells slots Z (F0 m (pc + 2) ls (cvR z t u x :: st.map (cv z t u))) at kk
  change W p l e R s m args below meth c H locs cells slots Z (F0 m pc ls (st.map (cv z t u)))
  unfold cvR at hv kk
  split at hv
  · rw [if_pos (by assumption)] at kk; exact lv_aload C.1 C.2.1 hd hv kk
  · rw [if_neg (by assumption)] at kk
    split at hv
    · rw [if_pos (by assumption)] at kk; exact lv_aload C.1 C.2.1 hd hv kk
    · rw [if_neg (by assumption)] at kk
      split at hv
      · rw [if_pos (by assumption)] at kk; exact lv_aloadN C.1 C.2.1 hd hv kk
      · rw [if_neg (by assumption)] at kk; exact lv_aload C.1 C.2.1 hd hv kk
theorem ok_aload_n {k : Fin 4} (C : Cx z t u D I p R s m args meth c mi) (hd : decode (bts_ mi) pc = .ok (.aload_n k, 1)) : OK (St z t u D I (WFr p l e R s m args below meth c Z) s R m mi n0 (pc, L, st, s0)) RT CL BR SW (act B (.aload_n k, 1, r) (pc, L, st, s0)) := by
  show OK _ _ _ _ _ (match nL_ L k.val with
    | some (some (.inr (.inr a))) => rN none (pushA (.aload_n k, 1, r) (pc, L, st, s0) (vR a))
    | _ => rX)
  rcases hq : nL_ L k.val with _ | _ | x | x | x <;> try exact True.intro
  intro _
  refine St.stk rfl rfl (fun H locs cells slots ls hl kk => ?_)
  have hv : ls[k.val]? = some (.val (cvR z t u x)) := hl.get (by unfold asv; rw [hq])
  change W p l e R s m args below meth c H locs cells slots Z (F0 m (pc + 1) ls (cvR z t u x :: st.map (cv z t u))) at kk
  change W p l e R s m args below meth c H locs cells slots Z (F0 m pc ls (st.map (cv z t u)))
  unfold cvR at hv kk
  split at hv
  · rw [if_pos (by assumption)] at kk; exact lv_aload_n C.1 C.2.1 hd rfl hv kk
  · rw [if_neg (by assumption)] at kk
    split at hv
    · rw [if_pos (by assumption)] at kk; exact lv_aload_n C.1 C.2.1 hd rfl hv kk
    · rw [if_neg (by assumption)] at kk
      split at hv
      · rw [if_pos (by assumption)] at kk; exact lv_aload_nN C.1 C.2.1 hd rfl hv kk
      · rw [if_neg (by assumption)] at kk; exact lv_aload_n C.1 C.2.1 hd rfl hv kk
theorem ok_iload {k : Nat} (C : Cx z t u D I p R s m args meth c mi) (hd : decode (bts_ mi) pc = .ok (.iload k, 2)) : OK (St z t u D I (WFr p l e R s m args below meth c Z) s R m mi n0 (pc, L, st, s0)) RT CL BR SW (act B (.iload k, 2, r) (pc, L, st, s0)) := by
  show OK _ _ _ _ _ (match nL_ L k with
    | some (some (.inl x)) => rN none (pushA (.iload k, 2, r) (pc, L, st, s0) (vI x))
    | _ => rX)
  rcases hq : nL_ L k with _ | _ | x | x | x <;> try exact True.intro
  intro _
  exact St.stk rfl rfl (fun H locs cells slots ls hl kk => lv_iload C.1 C.2.1 hd (hl.get (by unfold asv; rw [hq])) kk)
theorem ok_iload_n {k : Fin 4} (C : Cx z t u D I p R s m args meth c mi) (hd : decode (bts_ mi) pc = .ok (.iload_n k, 1)) : OK (St z t u D I (WFr p l e R s m args below meth c Z) s R m mi n0 (pc, L, st, s0)) RT CL BR SW (act B (.iload_n k, 1, r) (pc, L, st, s0)) := by
  show OK _ _ _ _ _ (match nL_ L k.val with
    | some (some (.inl x)) => rN none (pushA (.iload_n k, 1, r) (pc, L, st, s0) (vI x))
    | _ => rX)
  rcases hq : nL_ L k.val with _ | _ | x | x | x <;> try exact True.intro
  intro _
  exact St.stk rfl rfl (fun H locs cells slots ls hl kk => lv_iload_n C.1 C.2.1 hd rfl (hl.get (by unfold asv; rw [hq])) kk)
theorem ok_lload {k : Nat} (C : Cx z t u D I p R s m args meth c mi) (hd : decode (bts_ mi) pc = .ok (.lload k, 2)) : OK (St z t u D I (WFr p l e R s m args below meth c Z) s R m mi n0 (pc, L, st, s0)) RT CL BR SW (act B (.lload k, 2, r) (pc, L, st, s0)) := by
  show OK _ _ _ _ _ (match nL_ L k, nL_ L (k + 1) with
    | some (some (.inr (.inl x))), some none => rN none (pushA (.lload k, 2, r) (pc, L, st, s0) (vL x))
    | _, _ => rX)
  rcases hq : nL_ L k with _ | _ | x | x | x <;> rcases hq2 : nL_ L (k + 1) with _ | _ | y | y | y <;> try exact True.intro
  intro _
  exact St.stk rfl rfl (fun H locs cells slots ls hl kk => lv_lload C.1 C.2.1 hd (hl.get (by unfold asv; rw [hq]; show (match nL_ L (k + 1) with | some none => some (Value.long (Int64.ofInt x)) | _ => none) = _; rw [hq2])) kk)
theorem ok_lload_n {k : Fin 4} (C : Cx z t u D I p R s m args meth c mi) (hd : decode (bts_ mi) pc = .ok (.lload_n k, 1)) : OK (St z t u D I (WFr p l e R s m args below meth c Z) s R m mi n0 (pc, L, st, s0)) RT CL BR SW (act B (.lload_n k, 1, r) (pc, L, st, s0)) := by
  show OK _ _ _ _ _ (match nL_ L k.val, nL_ L (k.val + 1) with
    | some (some (.inr (.inl x))), some none => rN none (pushA (.lload_n k, 1, r) (pc, L, st, s0) (vL x))
    | _, _ => rX)
  rcases hq : nL_ L k.val with _ | _ | x | x | x <;> rcases hq2 : nL_ L (k.val + 1) with _ | _ | y | y | y <;> try exact True.intro
  intro _
  exact St.stk rfl rfl (fun H locs cells slots ls hl kk => lv_lload_n C.1 C.2.1 hd rfl (hl.get (by unfold asv; rw [hq]; show (match nL_ L (k.val + 1) with | some none => some (Value.long (Int64.ofInt x)) | _ => none) = _; rw [hq2])) kk)
theorem st_istore {k : Nat} {x : Int} {n : Nat} {i : Instr} (C : Cx z t u D I p R s m args meth c mi) (h : ∀ (H : Heap) (locs : List Loc) (cells slots : Nat) (ls : Array Slot) (lv' : List (Nat × Value)), lv_has ls (mxl_ mi) (lvl z t u L) → (k, Value.int (Int32.ofInt x)) :: (lvl z t u L).filter (fun q => !(q.1 == k) && !(q.1 + 1 == k && q.2.category == 2)) = lv' → (∀ ls' : Array Slot, lv_has ls' (mxl_ mi) lv' → W p l e R s m args below meth c H locs cells slots Z (F0 m (pc + n) ls' (st.map (cv z t u)))) → W p l e R s m args below meth c H locs cells slots Z (F0 m pc ls (.int (Int32.ofInt x) :: st.map (cv z t u)))) (hk : k < mxl_ mi) :
    St z t u D I (WFr p l e R s m args below meth c Z) s R m mi n0 (pc, L, .inl x :: st, s0) (locTo (i, n, r) (pc, L, .inl x :: st, s0) (st1 L k (vI x)) st) := by
  refine St.pure rfl (fun H locs cells slots ls hl kk => ?_)
  exact h H locs cells slots ls _ hl.has rfl (fun ls' h' => kk ls' (hl.put1 hk (fun y q => by cases q) h'))
theorem ok_istore {k : Nat} (C : Cx z t u D I p R s m args meth c mi) (hd : decode (bts_ mi) pc = .ok (.istore k, 2)) (hk : k < mxl_ mi) : OK (St z t u D I (WFr p l e R s m args below meth c Z) s R m mi n0 (pc, L, st, s0)) RT CL BR SW (act B (.istore k, 2, r) (pc, L, st, s0)) := by
  rcases st with _ | ⟨x | x | x, st⟩ <;> try exact True.intro
  have key : St z t u D I (WFr p l e R s m args below meth c Z) s R m mi n0 (pc, L, .inl x :: st, s0) (locTo (.istore k, 2, r) (pc, L, .inl x :: st, s0) (st1 L k (vI x)) st) := st_istore C (fun H locs cells slots ls lv' h1 h2 h3 => lv_istore C.1 C.2.1 hd h1 hk h2 h3) hk
  show OK _ _ _ _ _ (if r = [1] then rE none x (fun x => locTo (.istore k, 2, r) (pc, L, .inl _ :: st, s0) (st1 L k (vI x)) st) else rN none (locTo (.istore k, 2, r) (pc, L, .inl x :: st, s0) (st1 L k (vI x)) st))
  split <;> exact fun _ => key
theorem ok_istore_n {k : Fin 4} (C : Cx z t u D I p R s m args meth c mi) (hd : decode (bts_ mi) pc = .ok (.istore_n k, 1)) (hk : k.val < mxl_ mi) : OK (St z t u D I (WFr p l e R s m args below meth c Z) s R m mi n0 (pc, L, st, s0)) RT CL BR SW (act B (.istore_n k, 1, r) (pc, L, st, s0)) := by
  rcases st with _ | ⟨x | x | x, st⟩ <;> try exact True.intro
  have key : St z t u D I (WFr p l e R s m args below meth c Z) s R m mi n0 (pc, L, .inl x :: st, s0) (locTo (.istore_n k, 1, r) (pc, L, .inl x :: st, s0) (st1 L k.val (vI x)) st) := st_istore C (fun H locs cells slots ls lv' h1 h2 h3 => lv_istore_n C.1 C.2.1 hd rfl h1 hk h2 h3) hk
  show OK _ _ _ _ _ (if r = [1] then rE none x (fun x => locTo (.istore_n k, 1, r) (pc, L, .inl _ :: st, s0) (st1 L k.val (vI x)) st) else rN none (locTo (.istore_n k, 1, r) (pc, L, .inl x :: st, s0) (st1 L k.val (vI x)) st))
  split <;> exact fun _ => key
theorem st_lstore {k : Nat} {x : Int} {n : Nat} {i : Instr} (C : Cx z t u D I p R s m args meth c mi) (h : ∀ (H : Heap) (locs : List Loc) (cells slots : Nat) (ls : Array Slot) (lv' : List (Nat × Value)), lv_has ls (mxl_ mi) (lvl z t u L) → (k, Value.long (Int64.ofInt x)) :: (lvl z t u L).filter (fun q => !(q.1 == k) && (!(q.1 == k + 1) && !(q.1 + 1 == k && q.2.category == 2))) = lv' → (∀ ls' : Array Slot, lv_has ls' (mxl_ mi) lv' → W p l e R s m args below meth c H locs cells slots Z (F0 m (pc + n) ls' (st.map (cv z t u)))) → W p l e R s m args below meth c H locs cells slots Z (F0 m pc ls (.long (Int64.ofInt x) :: st.map (cv z t u)))) (hk : k + 1 < mxl_ mi) :
    St z t u D I (WFr p l e R s m args below meth c Z) s R m mi n0 (pc, L, .inr (.inl x) :: st, s0) (locTo (i, n, r) (pc, L, .inr (.inl x) :: st, s0) (st2 L k (vL x)) st) := by
  refine St.pure rfl (fun H locs cells slots ls hl kk => ?_)
  exact h H locs cells slots ls _ hl.has rfl (fun ls' h' => kk ls' (hl.put2 hk h'))
theorem ok_lstore {k : Nat} (C : Cx z t u D I p R s m args meth c mi) (hd : decode (bts_ mi) pc = .ok (.lstore k, 2)) (hk : k + 1 < mxl_ mi) : OK (St z t u D I (WFr p l e R s m args below meth c Z) s R m mi n0 (pc, L, st, s0)) RT CL BR SW (act B (.lstore k, 2, r) (pc, L, st, s0)) := by
  rcases st with _ | ⟨x | x | x, st⟩ <;> try exact True.intro
  have key : St z t u D I (WFr p l e R s m args below meth c Z) s R m mi n0 (pc, L, .inr (.inl x) :: st, s0) (locTo (.lstore k, 2, r) (pc, L, .inr (.inl x) :: st, s0) (st2 L k (vL x)) st) := st_lstore C (fun H locs cells slots ls lv' h1 h2 h3 => lv_lstore C.1 C.2.1 hd h1 hk h2 h3) hk
  show OK _ _ _ _ _ (if r = [1] then rE none x (fun x => locTo (.lstore k, 2, r) (pc, L, .inr (.inl _) :: st, s0) (st2 L k (vL x)) st) else rN none (locTo (.lstore k, 2, r) (pc, L, .inr (.inl x) :: st, s0) (st2 L k (vL x)) st))
  split <;> exact fun _ => key
theorem ok_lstore_n {k : Fin 4} (C : Cx z t u D I p R s m args meth c mi) (hd : decode (bts_ mi) pc = .ok (.lstore_n k, 1)) (hk : k.val + 1 < mxl_ mi) : OK (St z t u D I (WFr p l e R s m args below meth c Z) s R m mi n0 (pc, L, st, s0)) RT CL BR SW (act B (.lstore_n k, 1, r) (pc, L, st, s0)) := by
  rcases st with _ | ⟨x | x | x, st⟩ <;> try exact True.intro
  have key : St z t u D I (WFr p l e R s m args below meth c Z) s R m mi n0 (pc, L, .inr (.inl x) :: st, s0) (locTo (.lstore_n k, 1, r) (pc, L, .inr (.inl x) :: st, s0) (st2 L k.val (vL x)) st) := st_lstore C (fun H locs cells slots ls lv' h1 h2 h3 => lv_lstore_n C.1 C.2.1 hd rfl h1 hk h2 h3) hk
  show OK _ _ _ _ _ (if r = [1] then rE none x (fun x => locTo (.lstore_n k, 1, r) (pc, L, .inr (.inl _) :: st, s0) (st2 L k.val (vL x)) st) else rN none (locTo (.lstore_n k, 1, r) (pc, L, .inr (.inl x) :: st, s0) (st2 L k.val (vL x)) st))
  split <;> exact fun _ => key
theorem st_astore {k : Nat} {x : Int} {n : Nat} {i : Instr} (C : Cx z t u D I p R s m args meth c mi) (hk : k < mxl_ mi)
    (h : ∀ (H : Heap) (locs : List Loc) (cells slots : Nat) (ls : Array Slot) (lv' : List (Nat × Value)) (a : Nat), lv_has ls (mxl_ mi) (lvl z t u L) → (k, Value.ref a) :: (lvl z t u L).filter (fun q => !(q.1 == k) && !(q.1 + 1 == k && q.2.category == 2)) = lv' → (∀ ls' : Array Slot, lv_has ls' (mxl_ mi) lv' → W p l e R s m args below meth c H locs cells slots Z (F0 m (pc + n) ls' (st.map (cv z t u)))) → W p l e R s m args below meth c H locs cells slots Z (F0 m pc ls (.ref a :: st.map (cv z t u))))
    (hN : ∀ (H : Heap) (locs : List Loc) (cells slots : Nat) (ls : Array Slot) (lv' : List (Nat × Value)), lv_has ls (mxl_ mi) (lvl z t u L) → (k, Value.null) :: (lvl z t u L).filter (fun q => !(q.1 == k) && !(q.1 + 1 == k && q.2.category == 2)) = lv' → (∀ ls' : Array Slot, lv_has ls' (mxl_ mi) lv' → W p l e R s m args below meth c H locs cells slots Z (F0 m (pc + n) ls' (st.map (cv z t u)))) → W p l e R s m args below meth c H locs cells slots Z (F0 m pc ls (.null :: st.map (cv z t u)))) :
    St z t u D I (WFr p l e R s m args below meth c Z) s R m mi n0 (pc, L, .inr (.inr x) :: st, s0) (locTo (i, n, r) (pc, L, .inr (.inr x) :: st, s0) (st1 L k (vR x)) st) := by
  refine St.pure rfl (fun H locs cells slots ls hl kk => ?_)
  have key : ∀ ls' : Array Slot, lv_has ls' (mxl_ mi) ((k, cvR z t u x) :: (lvl z t u L).filter (fun q => !(q.1 == k) && !(q.1 + 1 == k && q.2.category == 2))) → W p l e R s m args below meth c H locs cells slots Z (F0 m (pc + n) ls' (st.map (cv z t u))) := fun ls' h' => kk ls' (hl.put1 hk (fun y q => by cases q) h')
  change W p l e R s m args below meth c H locs cells slots Z (F0 m pc ls (cvR z t u x :: st.map (cv z t u)))
  rcases hx : cvR z t u x with _ | _ | _ | _ | _ | a | _
  · unfold cvR at hx; split at hx <;> (try cases hx); split at hx <;> (try cases hx); split at hx <;> cases hx
  · unfold cvR at hx; split at hx <;> (try cases hx); split at hx <;> (try cases hx); split at hx <;> cases hx
  · unfold cvR at hx; split at hx <;> (try cases hx); split at hx <;> (try cases hx); split at hx <;> cases hx
  · unfold cvR at hx; split at hx <;> (try cases hx); split at hx <;> (try cases hx); split at hx <;> cases hx
  · rw [hx] at key; exact hN H locs cells slots ls _ hl.has rfl key
  · rw [hx] at key; exact h H locs cells slots ls _ a hl.has rfl key
  · unfold cvR at hx; split at hx <;> (try cases hx); split at hx <;> (try cases hx); split at hx <;> cases hx
theorem ok_astore {k : Nat} (C : Cx z t u D I p R s m args meth c mi) (hd : decode (bts_ mi) pc = .ok (.astore k, 2)) (hk : k < mxl_ mi) : OK (St z t u D I (WFr p l e R s m args below meth c Z) s R m mi n0 (pc, L, st, s0)) RT CL BR SW (act B (.astore k, 2, r) (pc, L, st, s0)) := by
  rcases st with _ | ⟨x | x | x, st⟩ <;> try exact True.intro
  exact fun _ => st_astore C hk (fun H locs cells slots ls lv' a h1 h2 h3 => lv_astore C.1 C.2.1 hd h1 hk h2 h3) (fun H locs cells slots ls lv' h1 h2 h3 => lv_astoreN C.1 C.2.1 hd h1 hk h2 h3)
theorem ok_astore_n {k : Fin 4} (C : Cx z t u D I p R s m args meth c mi) (hd : decode (bts_ mi) pc = .ok (.astore_n k, 1)) (hk : k.val < mxl_ mi) : OK (St z t u D I (WFr p l e R s m args below meth c Z) s R m mi n0 (pc, L, st, s0)) RT CL BR SW (act B (.astore_n k, 1, r) (pc, L, st, s0)) := by
  rcases st with _ | ⟨x | x | x, st⟩ <;> try exact True.intro
  exact fun _ => st_astore C hk (fun H locs cells slots ls lv' a h1 h2 h3 => lv_astore_n C.1 C.2.1 hd rfl h1 hk h2 h3) (fun H locs cells slots ls lv' h1 h2 h3 => lv_astore_nN C.1 C.2.1 hd rfl h1 hk h2 h3)
theorem ok_iinc {k : Nat} {n : Int} (C : Cx z t u D I p R s m args meth c mi) (hd : decode (bts_ mi) pc = .ok (.iinc k n, 3)) (hk : k < mxl_ mi) : OK (St z t u D I (WFr p l e R s m args below meth c Z) s R m mi n0 (pc, L, st, s0)) RT CL BR SW (act B (.iinc k n, 3, r) (pc, L, st, s0)) := by
  show OK _ _ _ _ _ (match nL_ L k with
    | some (some (.inl x)) => rN none (locTo (.iinc k n, 3, r) (pc, L, st, s0) (st1 L k (vI (x + n))) st)
    | _ => rX)
  rcases hq : nL_ L k with _ | _ | x | x | x <;> try exact True.intro
  intro _
  refine St.pure rfl (fun H locs cells slots ls hl kk => ?_)
  have hm : (k, Value.int (Int32.ofInt x)) ∈ lvl z t u L := mem_lvl.mpr (by unfold asv; rw [hq])
  obtain ⟨j, hj⟩ := List.getElem?_of_mem hm
  exact lv_iinc C.1 C.2.1 hd hl.has hj (v := Int32.ofInt (x + n)) (by rw [Int32.ofInt_add]) hk rfl (fun ls' h' => kk ls' (hl.put1 hk (fun y q => by cases q) h'))
theorem ok_iconst {n : Int} (C : Cx z t u D I p R s m args meth c mi) (hd : decode (bts_ mi) pc = .ok (.iconst n, 1)) : OK (St z t u D I (WFr p l e R s m args below meth c Z) s R m mi n0 (pc, L, st, s0)) RT CL BR SW (act B (.iconst n, 1, r) (pc, L, st, s0)) :=
  fun _ => St.stk rfl rfl (fun H locs cells slots ls hl kk => lv_iconst C.1 C.2.1 hd rfl kk)
theorem ok_bipush {n : Int} (C : Cx z t u D I p R s m args meth c mi) (hd : decode (bts_ mi) pc = .ok (.bipush n, 2)) (hn : (Int8.ofInt n).toInt32 = Int32.ofInt n) : OK (St z t u D I (WFr p l e R s m args below meth c Z) s R m mi n0 (pc, L, st, s0)) RT CL BR SW (act B (.bipush n, 2, r) (pc, L, st, s0)) :=
  fun _ => St.stk rfl rfl (fun H locs cells slots ls hl kk => lv_bipush C.1 C.2.1 hd hn kk)
theorem ok_sipush {n : Int} (C : Cx z t u D I p R s m args meth c mi) (hd : decode (bts_ mi) pc = .ok (.sipush n, 3)) (hn : (Int16.ofInt n).toInt32 = Int32.ofInt n) : OK (St z t u D I (WFr p l e R s m args below meth c Z) s R m mi n0 (pc, L, st, s0)) RT CL BR SW (act B (.sipush n, 3, r) (pc, L, st, s0)) :=
  fun _ => St.stk rfl rfl (fun H locs cells slots ls hl kk => lv_sipush C.1 C.2.1 hd hn kk)
theorem ok_lconst {n : Fin 2} (C : Cx z t u D I p R s m args meth c mi) (hd : decode (bts_ mi) pc = .ok (.lconst n, 1)) : OK (St z t u D I (WFr p l e R s m args below meth c Z) s R m mi n0 (pc, L, st, s0)) RT CL BR SW (act B (.lconst n, 1, r) (pc, L, st, s0)) :=
  fun _ => St.stk rfl rfl (fun H locs cells slots ls hl kk => lv_lconst C.1 C.2.1 hd rfl kk)
theorem ok_iadd (C : Cx z t u D I p R s m args meth c mi) (hd : decode (bts_ mi) pc = .ok (.iadd, 1)) : OK (St z t u D I (WFr p l e R s m args below meth c Z) s R m mi n0 (pc, L, st, s0)) RT CL BR SW (act B (.iadd, 1, r) (pc, L, st, s0)) := by
  rcases st with _ | ⟨y | y | y, _ | ⟨x | x | x, st⟩⟩ <;> try exact True.intro
  refine fun _ => St.stk rfl rfl (fun H locs cells slots ls hl kk => ?_)
  change W p l e R s m args below meth c H locs cells slots Z (F0 m (pc + 1) ls (.int (Int32.ofInt (x + y)) :: st.map (cv z t u))) at kk
  exact lv_iadd C.1 C.2.1 hd (by rw [Int32.ofInt_add] at kk; exact kk)
theorem ok_isub (C : Cx z t u D I p R s m args meth c mi) (hd : decode (bts_ mi) pc = .ok (.isub, 1)) : OK (St z t u D I (WFr p l e R s m args below meth c Z) s R m mi n0 (pc, L, st, s0)) RT CL BR SW (act B (.isub, 1, r) (pc, L, st, s0)) := by
  rcases st with _ | ⟨y | y | y, _ | ⟨x | x | x, st⟩⟩ <;> try exact True.intro
  refine fun _ => St.stk rfl rfl (fun H locs cells slots ls hl kk => ?_)
  change W p l e R s m args below meth c H locs cells slots Z (F0 m (pc + 1) ls (.int (Int32.ofInt (x - y)) :: st.map (cv z t u))) at kk
  exact lv_isub C.1 C.2.1 hd (by rw [Int32.ofInt_sub] at kk; exact kk)
theorem ok_imul (C : Cx z t u D I p R s m args meth c mi) (hd : decode (bts_ mi) pc = .ok (.imul, 1)) : OK (St z t u D I (WFr p l e R s m args below meth c Z) s R m mi n0 (pc, L, st, s0)) RT CL BR SW (act B (.imul, 1, r) (pc, L, st, s0)) := by
  rcases st with _ | ⟨y | y | y, _ | ⟨x | x | x, st⟩⟩ <;> try exact True.intro
  refine fun _ => St.stk rfl rfl (fun H locs cells slots ls hl kk => ?_)
  change W p l e R s m args below meth c H locs cells slots Z (F0 m (pc + 1) ls (.int (Int32.ofInt (x * y)) :: st.map (cv z t u))) at kk
  exact lv_imul C.1 C.2.1 hd (by rw [Int32.ofInt_mul] at kk; exact kk)
theorem ok_iand (C : Cx z t u D I p R s m args meth c mi) (hd : decode (bts_ mi) pc = .ok (.iand, 1)) : OK (St z t u D I (WFr p l e R s m args below meth c Z) s R m mi n0 (pc, L, st, s0)) RT CL BR SW (act B (.iand, 1, r) (pc, L, st, s0)) := by
  rcases st with _ | ⟨y | y | y, _ | ⟨x | x | x, st⟩⟩ <;> try exact True.intro
  refine fun _ => St.stk rfl rfl (fun H locs cells slots ls hl kk => ?_)
  change W p l e R s m args below meth c H locs cells slots Z (F0 m (pc + 1) ls (.int (Int32.ofInt (and_ x y)) :: st.map (cv z t u))) at kk
  exact lv_iand C.1 C.2.1 hd (by unfold and_ at kk; rw [Int32.ofInt_toInt] at kk; exact kk)
theorem ok_ior (C : Cx z t u D I p R s m args meth c mi) (hd : decode (bts_ mi) pc = .ok (.ior, 1)) : OK (St z t u D I (WFr p l e R s m args below meth c Z) s R m mi n0 (pc, L, st, s0)) RT CL BR SW (act B (.ior, 1, r) (pc, L, st, s0)) := by
  rcases st with _ | ⟨y | y | y, _ | ⟨x | x | x, st⟩⟩ <;> try exact True.intro
  refine fun _ => St.stk rfl rfl (fun H locs cells slots ls hl kk => ?_)
  change W p l e R s m args below meth c H locs cells slots Z (F0 m (pc + 1) ls (.int (Int32.ofInt (or_ x y)) :: st.map (cv z t u))) at kk
  exact lv_ior C.1 C.2.1 hd (by unfold or_ at kk; rw [Int32.ofInt_toInt] at kk; exact kk)
theorem ok_ixor (C : Cx z t u D I p R s m args meth c mi) (hd : decode (bts_ mi) pc = .ok (.ixor, 1)) : OK (St z t u D I (WFr p l e R s m args below meth c Z) s R m mi n0 (pc, L, st, s0)) RT CL BR SW (act B (.ixor, 1, r) (pc, L, st, s0)) := by
  rcases st with _ | ⟨y | y | y, _ | ⟨x | x | x, st⟩⟩ <;> try exact True.intro
  refine fun _ => St.stk rfl rfl (fun H locs cells slots ls hl kk => ?_)
  change W p l e R s m args below meth c H locs cells slots Z (F0 m (pc + 1) ls (.int (Int32.ofInt (xor_ x y)) :: st.map (cv z t u))) at kk
  exact lv_ixor C.1 C.2.1 hd (by unfold xor_ at kk; rw [Int32.ofInt_toInt] at kk; exact kk)
theorem ok_ishl (C : Cx z t u D I p R s m args meth c mi) (hd : decode (bts_ mi) pc = .ok (.ishl, 1)) : OK (St z t u D I (WFr p l e R s m args below meth c Z) s R m mi n0 (pc, L, st, s0)) RT CL BR SW (act B (.ishl, 1, r) (pc, L, st, s0)) := by
  rcases st with _ | ⟨y | y | y, _ | ⟨x | x | x, st⟩⟩ <;> try exact True.intro
  refine fun _ => St.stk rfl rfl (fun H locs cells slots ls hl kk => ?_)
  change W p l e R s m args below meth c H locs cells slots Z (F0 m (pc + 1) ls (.int (Int32.ofInt (shl_ x y)) :: st.map (cv z t u))) at kk
  exact lv_ishl C.1 C.2.1 hd (by unfold shl_ at kk; rw [Int32.ofInt_toInt] at kk; exact kk)
theorem ok_ishr (C : Cx z t u D I p R s m args meth c mi) (hd : decode (bts_ mi) pc = .ok (.ishr, 1)) : OK (St z t u D I (WFr p l e R s m args below meth c Z) s R m mi n0 (pc, L, st, s0)) RT CL BR SW (act B (.ishr, 1, r) (pc, L, st, s0)) := by
  rcases st with _ | ⟨y | y | y, _ | ⟨x | x | x, st⟩⟩ <;> try exact True.intro
  refine fun _ => St.stk rfl rfl (fun H locs cells slots ls hl kk => ?_)
  change W p l e R s m args below meth c H locs cells slots Z (F0 m (pc + 1) ls (.int (Int32.ofInt (shr_ x y)) :: st.map (cv z t u))) at kk
  exact lv_ishr C.1 C.2.1 hd (by unfold shr_ at kk; rw [Int32.ofInt_toInt] at kk; exact kk)
theorem ok_ladd (C : Cx z t u D I p R s m args meth c mi) (hd : decode (bts_ mi) pc = .ok (.ladd, 1)) : OK (St z t u D I (WFr p l e R s m args below meth c Z) s R m mi n0 (pc, L, st, s0)) RT CL BR SW (act B (.ladd, 1, r) (pc, L, st, s0)) := by
  rcases st with _ | ⟨y | y | y, _ | ⟨x | x | x, st⟩⟩ <;> try exact True.intro
  refine fun _ => St.stk rfl rfl (fun H locs cells slots ls hl kk => ?_)
  change W p l e R s m args below meth c H locs cells slots Z (F0 m (pc + 1) ls (.long (Int64.ofInt (x + y)) :: st.map (cv z t u))) at kk
  exact lv_ladd C.1 C.2.1 hd (by rw [Int64.ofInt_add] at kk; exact kk)
theorem ok_lsub (C : Cx z t u D I p R s m args meth c mi) (hd : decode (bts_ mi) pc = .ok (.lsub, 1)) : OK (St z t u D I (WFr p l e R s m args below meth c Z) s R m mi n0 (pc, L, st, s0)) RT CL BR SW (act B (.lsub, 1, r) (pc, L, st, s0)) := by
  rcases st with _ | ⟨y | y | y, _ | ⟨x | x | x, st⟩⟩ <;> try exact True.intro
  refine fun _ => St.stk rfl rfl (fun H locs cells slots ls hl kk => ?_)
  change W p l e R s m args below meth c H locs cells slots Z (F0 m (pc + 1) ls (.long (Int64.ofInt (x - y)) :: st.map (cv z t u))) at kk
  exact lv_lsub C.1 C.2.1 hd (by rw [Int64.ofInt_sub] at kk; exact kk)
theorem ok_lmul (C : Cx z t u D I p R s m args meth c mi) (hd : decode (bts_ mi) pc = .ok (.lmul, 1)) : OK (St z t u D I (WFr p l e R s m args below meth c Z) s R m mi n0 (pc, L, st, s0)) RT CL BR SW (act B (.lmul, 1, r) (pc, L, st, s0)) := by
  rcases st with _ | ⟨y | y | y, _ | ⟨x | x | x, st⟩⟩ <;> try exact True.intro
  refine fun _ => St.stk rfl rfl (fun H locs cells slots ls hl kk => ?_)
  change W p l e R s m args below meth c H locs cells slots Z (F0 m (pc + 1) ls (.long (Int64.ofInt (x * y)) :: st.map (cv z t u))) at kk
  exact lv_lmul C.1 C.2.1 hd (by rw [Int64.ofInt_mul] at kk; exact kk)
theorem ok_land (C : Cx z t u D I p R s m args meth c mi) (hd : decode (bts_ mi) pc = .ok (.land, 1)) : OK (St z t u D I (WFr p l e R s m args below meth c Z) s R m mi n0 (pc, L, st, s0)) RT CL BR SW (act B (.land, 1, r) (pc, L, st, s0)) := by
  rcases st with _ | ⟨y | y | y, _ | ⟨x | x | x, st⟩⟩ <;> try exact True.intro
  refine fun _ => St.stk rfl rfl (fun H locs cells slots ls hl kk => ?_)
  change W p l e R s m args below meth c H locs cells slots Z (F0 m (pc + 1) ls (.long (Int64.ofInt (land_ x y)) :: st.map (cv z t u))) at kk
  exact lv_land C.1 C.2.1 hd (by unfold land_ at kk; rw [Int64.ofInt_toInt] at kk; exact kk)
theorem ok_idiv (C : Cx z t u D I p R s m args meth c mi) (hd : decode (bts_ mi) pc = .ok (.idiv, 1)) : OK (St z t u D I (WFr p l e R s m args below meth c Z) s R m mi n0 (pc, L, st, s0)) RT CL BR SW (act B (.idiv, 1, r) (pc, L, st, s0)) := by
  rcases st with _ | ⟨y | y | y, _ | ⟨x | x | x, st⟩⟩ <;> try exact True.intro
  refine fun g => St.stk rfl rfl (fun H locs cells slots ls hl kk => ?_)
  change W p l e R s m args below meth c H locs cells slots Z (F0 m (pc + 1) ls (.int (Int32.ofInt (Int.tdiv x y)) :: st.map (cv z t u))) at kk
  rw [i_div g.1 g.2.1] at kk
  exact lv_idiv C.1 C.2.1 hd (i_ne0 g.2.1 g.2.2) kk
theorem ok_irem (C : Cx z t u D I p R s m args meth c mi) (hd : decode (bts_ mi) pc = .ok (.irem, 1)) : OK (St z t u D I (WFr p l e R s m args below meth c Z) s R m mi n0 (pc, L, st, s0)) RT CL BR SW (act B (.irem, 1, r) (pc, L, st, s0)) := by
  rcases st with _ | ⟨y | y | y, _ | ⟨x | x | x, st⟩⟩ <;> try exact True.intro
  refine fun g => St.stk rfl rfl (fun H locs cells slots ls hl kk => ?_)
  change W p l e R s m args below meth c H locs cells slots Z (F0 m (pc + 1) ls (.int (Int32.ofInt (Int.tmod x y)) :: st.map (cv z t u))) at kk
  rw [i_mod g.1 g.2.1] at kk
  exact lv_irem C.1 C.2.1 hd (i_ne0 g.2.1 g.2.2) kk
theorem ok_ldiv (C : Cx z t u D I p R s m args meth c mi) (hd : decode (bts_ mi) pc = .ok (.ldiv, 1)) : OK (St z t u D I (WFr p l e R s m args below meth c Z) s R m mi n0 (pc, L, st, s0)) RT CL BR SW (act B (.ldiv, 1, r) (pc, L, st, s0)) := by
  rcases st with _ | ⟨y | y | y, _ | ⟨x | x | x, st⟩⟩ <;> try exact True.intro
  refine fun g => St.stk rfl rfl (fun H locs cells slots ls hl kk => ?_)
  change W p l e R s m args below meth c H locs cells slots Z (F0 m (pc + 1) ls (.long (Int64.ofInt (Int.tdiv x y)) :: st.map (cv z t u))) at kk
  rw [l_div g.1 g.2.1] at kk
  exact lv_ldiv C.1 C.2.1 hd (l_ne0 g.2.1 g.2.2) kk
theorem ok_lrem (C : Cx z t u D I p R s m args meth c mi) (hd : decode (bts_ mi) pc = .ok (.lrem, 1)) : OK (St z t u D I (WFr p l e R s m args below meth c Z) s R m mi n0 (pc, L, st, s0)) RT CL BR SW (act B (.lrem, 1, r) (pc, L, st, s0)) := by
  rcases st with _ | ⟨y | y | y, _ | ⟨x | x | x, st⟩⟩ <;> try exact True.intro
  refine fun g => St.stk rfl rfl (fun H locs cells slots ls hl kk => ?_)
  change W p l e R s m args below meth c H locs cells slots Z (F0 m (pc + 1) ls (.long (Int64.ofInt (Int.tmod x y)) :: st.map (cv z t u))) at kk
  rw [l_mod g.1 g.2.1] at kk
  exact lv_lrem C.1 C.2.1 hd (l_ne0 g.2.1 g.2.2) kk
theorem ok_i2b (C : Cx z t u D I p R s m args meth c mi) (hd : decode (bts_ mi) pc = .ok (.i2b, 1)) : OK (St z t u D I (WFr p l e R s m args below meth c Z) s R m mi n0 (pc, L, st, s0)) RT CL BR SW (act B (.i2b, 1, r) (pc, L, st, s0)) := by
  rcases st with _ | ⟨x | x | x, st⟩ <;> try exact True.intro
  refine fun _ => St.stk rfl rfl (fun H locs cells slots ls hl kk => ?_)
  change W p l e R s m args below meth c H locs cells slots Z (F0 m (pc + 1) ls (.int (Int32.ofInt (b8_ x)) :: st.map (cv z t u))) at kk
  exact lv_i2b C.1 C.2.1 hd rfl (by unfold b8_ at kk; rw [Int32.ofInt_toInt] at kk; exact kk)
theorem ok_i2l (C : Cx z t u D I p R s m args meth c mi) (hd : decode (bts_ mi) pc = .ok (.i2l, 1)) : OK (St z t u D I (WFr p l e R s m args below meth c Z) s R m mi n0 (pc, L, st, s0)) RT CL BR SW (act B (.i2l, 1, r) (pc, L, st, s0)) := by
  rcases st with _ | ⟨x | x | x, st⟩ <;> try exact True.intro
  refine fun g => St.stk rfl rfl (fun H locs cells slots ls hl kk => ?_)
  change W p l e R s m args below meth c H locs cells slots Z (F0 m (pc + 1) ls (.long (Int64.ofInt (x)) :: st.map (cv z t u))) at kk
  exact lv_i2l C.1 C.2.1 hd (i_l g) (kk)
theorem ok_l2i (C : Cx z t u D I p R s m args meth c mi) (hd : decode (bts_ mi) pc = .ok (.l2i, 1)) : OK (St z t u D I (WFr p l e R s m args below meth c Z) s R m mi n0 (pc, L, st, s0)) RT CL BR SW (act B (.l2i, 1, r) (pc, L, st, s0)) := by
  rcases st with _ | ⟨x | x | x, st⟩ <;> try exact True.intro
  refine fun _ => St.stk rfl rfl (fun H locs cells slots ls hl kk => ?_)
  change W p l e R s m args below meth c H locs cells slots Z (F0 m (pc + 1) ls (.int (Int32.ofInt (x)) :: st.map (cv z t u))) at kk
  exact lv_l2i C.1 C.2.1 hd (l_i x) (kk)
theorem ok_iushr (C : Cx z t u D I p R s m args meth c mi) (hd : decode (bts_ mi) pc = .ok (.iushr, 1)) : OK (St z t u D I (WFr p l e R s m args below meth c Z) s R m mi n0 (pc, L, st, s0)) RT CL BR SW (act B (.iushr, 1, r) (pc, L, st, s0)) := by
  rcases st with _ | ⟨y | y | y, _ | ⟨x | x | x, st⟩⟩ <;> try exact True.intro
  refine fun _ => St.stk rfl rfl (fun H locs cells slots ls hl kk => ?_)
  change W p l e R s m args below meth c H locs cells slots Z (F0 m (pc + 1) ls (.int (Int32.ofInt (ushr_ x y)) :: st.map (cv z t u))) at kk
  exact lv_iushr C.1 C.2.1 hd rfl (by unfold ushr_ at kk; rw [Int32.ofInt_toInt] at kk; exact kk)
theorem ok_lneg (C : Cx z t u D I p R s m args meth c mi) (hd : decode (bts_ mi) pc = .ok (.lneg, 1)) : OK (St z t u D I (WFr p l e R s m args below meth c Z) s R m mi n0 (pc, L, st, s0)) RT CL BR SW (act B (.lneg, 1, r) (pc, L, st, s0)) := by
  rcases st with _ | ⟨x | x | x, st⟩ <;> try exact True.intro
  refine fun _ => St.stk rfl rfl (fun H locs cells slots ls hl kk => ?_)
  change W p l e R s m args below meth c H locs cells slots Z (F0 m (pc + 1) ls (.long (Int64.ofInt (-x)) :: st.map (cv z t u))) at kk
  exact lv_lneg C.1 C.2.1 hd (by rw [Int64.ofInt_neg] at kk; exact kk)
theorem ok_dup (C : Cx z t u D I p R s m args meth c mi) (hd : decode (bts_ mi) pc = .ok (.dup, 1)) : OK (St z t u D I (WFr p l e R s m args below meth c Z) s R m mi n0 (pc, L, st, s0)) RT CL BR SW (act B (.dup, 1, r) (pc, L, st, s0)) := by
  rcases st with _ | ⟨x | x | x, st⟩ <;> try exact True.intro
  · exact fun _ => St.stk rfl rfl (fun H locs cells slots ls hl kk => lv_dup C.1 C.2.1 hd rfl kk)
  · exact fun _ => St.stk rfl rfl (fun H locs cells slots ls hl kk => lv_dup C.1 C.2.1 hd (cvR_cat z t u x) kk)
theorem ok_dup2 (C : Cx z t u D I p R s m args meth c mi) (hd : decode (bts_ mi) pc = .ok (.dup2, 1)) : OK (St z t u D I (WFr p l e R s m args below meth c Z) s R m mi n0 (pc, L, st, s0)) RT CL BR SW (act B (.dup2, 1, r) (pc, L, st, s0)) := by
  rcases st with _ | ⟨x | x | x, _ | ⟨y | y | y, st⟩⟩ <;> try exact True.intro
  · exact fun _ => St.stk rfl rfl (fun H locs cells slots ls hl kk => lv_dup2_11 C.1 C.2.1 hd rfl (cvR_cat z t u y) kk)
  · exact fun _ => St.stk rfl rfl (fun H locs cells slots ls hl kk => lv_dup2_2 C.1 C.2.1 hd rfl kk)
  · exact fun _ => St.stk rfl rfl (fun H locs cells slots ls hl kk => lv_dup2_2 C.1 C.2.1 hd rfl kk)
  · exact fun _ => St.stk rfl rfl (fun H locs cells slots ls hl kk => lv_dup2_2 C.1 C.2.1 hd rfl kk)
  · exact fun _ => St.stk rfl rfl (fun H locs cells slots ls hl kk => lv_dup2_2 C.1 C.2.1 hd rfl kk)
theorem ok_pop (C : Cx z t u D I p R s m args meth c mi) (hd : decode (bts_ mi) pc = .ok (.pop, 1)) : OK (St z t u D I (WFr p l e R s m args below meth c Z) s R m mi n0 (pc, L, st, s0)) RT CL BR SW (act B (.pop, 1, r) (pc, L, st, s0)) := by
  rcases st with _ | ⟨x | x | x, st⟩ <;> try exact True.intro
  exact fun _ => St.stk rfl rfl (fun H locs cells slots ls hl kk => lv_pop C.1 C.2.1 hd rfl kk)
end SIMD
