section SIMK
variable {z t u : Nat} {D : va_G} {I : aI} {p : Program} {l : Launch} {e : Env} {R : Room} {s : State} {m : MethodId} {args : Array Value} {below : List Frame} {meth : Method} {c : Code} {Z : State → Prop} {mi : Nat} {n0 : Int}
variable {ST : aT → Prop} {RT : Option aV → Prop} {CL : Nat → List aV → Nat → List aV → Prop} {BR : Prop → aT → aT → Prop} {SW : Int → List (Int × aT) → aT → Prop}
variable {B : Int} {pc : Nat} {L : List aL} {st : List aV} {s0 : aS} {r : List Int}
def Br (z t u : Nat) (D : va_G) (I : aI) (Wf : Heap → List Loc → Nat → Nat → JFrame → Prop) (s : State) (m : MethodId) (mi : Nat) (n0 : Int) (S : aT) (c : Prop) (T1 T2 : aT) : Prop :=
  T1.2.2.2 = S.2.2.2 ∧ T2.2.2.2 = S.2.2.2 ∧ ((c → Go z t u D I Wf s m mi n0 T1) → (¬ c → Go z t u D I Wf s m mi n0 T2) → Go z t u D I Wf s m mi n0 S)
theorem Br.of {S T1 T2 : aT} {cnd : Prop} (h1 : T1.2.2.2 = S.2.2.2) (h2 : T2.2.2.2 = S.2.2.2) (g1 : T1.2.1 = S.2.1) (g2 : T2.2.1 = S.2.1)
    (h : ∀ (H : Heap) (locs : List Loc) (cells slots : Nat) (ls : Array Slot), (cnd → W p l e R s m args below meth c H locs cells slots Z (F0 m T1.1 ls (T1.2.2.1.map (cv z t u)))) → (¬ cnd → W p l e R s m args below meth c H locs cells slots Z (F0 m T2.1 ls (T2.2.2.1.map (cv z t u)))) → W p l e R s m args below meth c H locs cells slots Z (F0 m S.1 ls (S.2.2.1.map (cv z t u)))) :
    Br z t u D I (WFr p l e R s m args below meth c Z) s m mi n0 S cnd T1 T2 := by
  refine ⟨h1, h2, fun k1 k2 H locs cells slots ls hR hS e1 e2 hl => ?_⟩
  exact h H locs cells slots ls (fun q => k1 q H locs cells slots ls (by rw [h1]; exact hR) hS (by rw [h1]; exact e1) (by rw [h1]; exact e2) (by rw [g1]; exact hl)) (fun q => k2 q H locs cells slots ls (by rw [h2]; exact hR) hS (by rw [h2]; exact e1) (by rw [h2]; exact e2) (by rw [g2]; exact hl))
theorem gI_ok {f x y : Int} {S : Option Prop → aR} (h : inI x → inI y → ∀ g : Option Prop, (gP g → True) → OK ST RT CL BR SW (S g)) (hn : ∀ g : Option Prop, ¬ gP g → OK ST RT CL BR SW (S g)) : OK ST RT CL BR SW (gI f x y S) := by
  unfold gI
  split
  · by_cases q : inI x ∧ inI y
    · exact h q.1 q.2 _ (fun _ => trivial)
    · exact hn _ q
  · split
    · cases hb : inIb x with
      | false => exact True.intro
      | true =>
        by_cases q : inI y
        · exact h (inIb_ok hb) q _ (fun _ => trivial)
        · exact hn _ q
    · split
      · cases hb : inIb y with
        | false => exact True.intro
        | true =>
          by_cases q : inI x
          · exact h q (inIb_ok hb) _ (fun _ => trivial)
          · exact hn _ q
      · cases hb : (inIb x && inIb y) with
        | false => exact True.intro
        | true =>
          rw [Bool.and_eq_true] at hb
          exact h (inIb_ok hb.1) (inIb_ok hb.2) _ (fun _ => trivial)
theorem ok_ifCond {cd : ClassFile.Cond} {off : Int} (C : Cx z t u D I p R s m args meth c mi) (hd : decode (bts_ mi) pc = .ok (.ifCond cd off, 3)) (hr : ckR mi pc (.ifCond cd off, 3, r) = true) : OK ST RT CL (Br z t u D I (WFr p l e R s m args below meth c Z) s m mi n0 (pc, L, st, s0)) SW (act B (.ifCond cd off, 3, r) (pc, L, st, s0)) := by
  rcases st with _ | ⟨x | x | x, st⟩ <;> try exact True.intro
  rcases r with _ | ⟨f, _ | ⟨tg, _ | ⟨_, _⟩⟩⟩ <;> try exact True.intro
  simp only [ckR, Bool.and_eq_true, decide_eq_true_eq] at hr
  have ht : (pc : Int) + off = (tg.toNat : Int) := by rw [Int.toNat_of_nonneg hr.2]; exact hr.1
  show OK _ _ _ _ _ (gI f x 0 (fun g => rB g (cP cd x 0) (tg.toNat, L, st, s0) (popTo (.ifCond cd off, 3, [f, tg]) (pc, L, .inl x :: st, s0) st)))
  refine gI_ok (fun hx h0 g _ => ?_) (fun g hg q => absurd q hg)
  intro _
  have z0 : (0 : Int32) = Int32.ofInt 0 := rfl
  refine Br.of rfl rfl rfl rfl (fun H locs cells slots ls k1 k2 => ?_)
  change W p l e R s m args below meth c H locs cells slots Z (F0 m pc ls (.int (Int32.ofInt x) :: st.map (cv z t u)))
  cases cd with
  | eq => exact lv_if_eq C.1 C.2.1 hd ht (fun q => k1 ((i_eq hx i_0).mp q)) (fun q => k2 (fun w => q ((i_eq hx i_0).mpr w)))
  | ne => exact lv_if_ne C.1 C.2.1 hd ht (fun q => k1 (fun w => q ((i_eq hx i_0).mpr w))) (fun q => k2 (fun w => w ((i_eq hx i_0).mp q)))
  | lt => exact lv_if_lt C.1 C.2.1 hd ht (fun q => k1 ((i_lt hx i_0).mp q)) (fun q => k2 (fun w => q ((i_lt hx i_0).mpr w)))
  | ge => exact lv_if_ge C.1 C.2.1 hd ht (fun q => k1 ((i_le i_0 hx).mp q)) (fun q => k2 (fun w => q ((i_le i_0 hx).mpr w)))
  | gt => exact lv_if_gt C.1 C.2.1 hd ht (fun q => k1 ((i_lt i_0 hx).mp q)) (fun q => k2 (fun w => q ((i_lt i_0 hx).mpr w)))
  | le => exact lv_if_le C.1 C.2.1 hd ht (fun q => k1 ((i_le hx i_0).mp q)) (fun q => k2 (fun w => q ((i_le hx i_0).mpr w)))
theorem ok_if_icmp {cd : ClassFile.Cond} {off : Int} (C : Cx z t u D I p R s m args meth c mi) (hd : decode (bts_ mi) pc = .ok (.if_icmp cd off, 3)) (hr : ckR mi pc (.if_icmp cd off, 3, r) = true) : OK ST RT CL (Br z t u D I (WFr p l e R s m args below meth c Z) s m mi n0 (pc, L, st, s0)) SW (act B (.if_icmp cd off, 3, r) (pc, L, st, s0)) := by
  rcases st with _ | ⟨y | y | y, _ | ⟨x | x | x, st⟩⟩ <;> try exact True.intro
  rcases r with _ | ⟨f, _ | ⟨tg, _ | ⟨_, _⟩⟩⟩ <;> try exact True.intro
  simp only [ckR, Bool.and_eq_true, decide_eq_true_eq] at hr
  have ht : (pc : Int) + off = (tg.toNat : Int) := by rw [Int.toNat_of_nonneg hr.2]; exact hr.1
  show OK _ _ _ _ _ (gI f x y (fun g => rB g (cP cd x y) (tg.toNat, L, st, s0) (popTo (.if_icmp cd off, 3, [f, tg]) (pc, L, .inl y :: .inl x :: st, s0) st)))
  refine gI_ok (fun hx hy g _ => ?_) (fun g hg q => absurd q hg)
  intro _
  refine Br.of rfl rfl rfl rfl (fun H locs cells slots ls k1 k2 => ?_)
  change W p l e R s m args below meth c H locs cells slots Z (F0 m pc ls (.int (Int32.ofInt y) :: .int (Int32.ofInt x) :: st.map (cv z t u)))
  cases cd with
  | eq => exact lv_icmp_eq C.1 C.2.1 hd ht (fun q => k1 ((i_eq hx hy).mp q)) (fun q => k2 (fun w => q ((i_eq hx hy).mpr w)))
  | ne => exact lv_icmp_ne C.1 C.2.1 hd ht (fun q => k1 (fun w => q ((i_eq hx hy).mpr w))) (fun q => k2 (fun w => w ((i_eq hx hy).mp q)))
  | lt => exact lv_icmp_lt C.1 C.2.1 hd ht (fun q => k1 ((i_lt hx hy).mp q)) (fun q => k2 (fun w => q ((i_lt hx hy).mpr w)))
  | ge => exact lv_icmp_ge C.1 C.2.1 hd ht (fun q => k1 ((i_le hy hx).mp q)) (fun q => k2 (fun w => q ((i_le hy hx).mpr w)))
  | gt => exact lv_icmp_gt C.1 C.2.1 hd ht (fun q => k1 ((i_lt hy hx).mp q)) (fun q => k2 (fun w => q ((i_lt hy hx).mpr w)))
  | le => exact lv_icmp_le C.1 C.2.1 hd ht (fun q => k1 ((i_le hx hy).mp q)) (fun q => k2 (fun w => q ((i_le hx hy).mpr w)))
theorem ok_lcmp (C : Cx z t u D I p R s m args meth c mi) (hd : decode (bts_ mi) pc = .ok (.lcmp, 1)) (hr : ckR mi pc (.lcmp, 1, r) = true) : OK ST RT CL (Br z t u D I (WFr p l e R s m args below meth c Z) s m mi n0 (pc, L, st, s0)) SW (act B (.lcmp, 1, r) (pc, L, st, s0)) := by
  rcases st with _ | ⟨y | y | y, _ | ⟨x | x | x, st⟩⟩ <;> try exact True.intro
  rcases r with _ | ⟨tg, _ | ⟨nx, _ | ⟨cc, _ | ⟨_, _⟩⟩⟩⟩ <;> try exact True.intro
  simp only [ckR, Bool.and_eq_true, decide_eq_true_eq] at hr
  obtain ⟨⟨⟨⟨hd2, hnx⟩, ht0⟩, hc0⟩, hc1⟩ := hr
  have ht : ((pc + 1 : Nat) : Int) + (tg - ((pc : Int) + 1)) = (tg.toNat : Int) := by rw [Int.toNat_of_nonneg ht0]; omega
  have hn2 : nx.toNat = pc + 4 := by omega
  have key : ∀ cnd : Prop, (inL x → inL y → ∀ (H : Heap) (locs : List Loc) (cells slots : Nat) (ls : Array Slot), (cnd → W p l e R s m args below meth c H locs cells slots Z (F0 m tg.toNat ls (st.map (cv z t u)))) → (¬ cnd → W p l e R s m args below meth c H locs cells slots Z (F0 m (pc + 1 + 3) ls (st.map (cv z t u)))) → W p l e R s m args below meth c H locs cells slots Z (F0 m (pc + 1) ls (.int (lg_cmp (Int64.ofInt x) (Int64.ofInt y)) :: st.map (cv z t u)))) →
      OK ST RT CL (Br z t u D I (WFr p l e R s m args below meth c Z) s m mi n0 (pc, L, .inr (.inl y) :: .inr (.inl x) :: st, s0)) SW (rB (some (inL x ∧ inL y)) cnd (tg.toNat, L, st, s0) (nx.toNat, L, st, s0)) := by
    intro cnd hk ⟨hx, hy⟩
    refine Br.of rfl rfl rfl rfl (fun H locs cells slots ls k1 k2 => ?_)
    change W p l e R s m args below meth c H locs cells slots Z (F0 m pc ls (.long (Int64.ofInt y) :: .long (Int64.ofInt x) :: st.map (cv z t u)))
    refine W.lcmp C.1 C.2.1 hd ?_
    refine hk hx hy H locs cells slots ls k1 (fun q => ?_)
    have := k2 q
    change W p l e R s m args below meth c H locs cells slots Z (F0 m nx.toNat ls (st.map (cv z t u))) at this
    rw [hn2] at this
    exact this
  show OK _ _ _ _ _ (if cc = 0 then rB (some (inL x ∧ inL y)) (x = y) (tg.toNat, L, st, s0) (nx.toNat, L, st, s0) else if cc = 1 then rB (some (inL x ∧ inL y)) (x ≠ y) (tg.toNat, L, st, s0) (nx.toNat, L, st, s0) else if cc = 2 then rB (some (inL x ∧ inL y)) (x < y) (tg.toNat, L, st, s0) (nx.toNat, L, st, s0) else if cc = 3 then rB (some (inL x ∧ inL y)) (x ≥ y) (tg.toNat, L, st, s0) (nx.toNat, L, st, s0) else if cc = 4 then rB (some (inL x ∧ inL y)) (x > y) (tg.toNat, L, st, s0) (nx.toNat, L, st, s0) else rB (some (inL x ∧ inL y)) (x ≤ y) (tg.toNat, L, st, s0) (nx.toNat, L, st, s0))
  have hcc : cc = 0 ∨ cc = 1 ∨ cc = 2 ∨ cc = 3 ∨ cc = 4 ∨ cc = 5 := by omega
  rcases hcc with rfl | rfl | rfl | rfl | rfl | rfl
  · exact key _ (fun hx hy H locs cells slots ls k1 k2 => lv_if_eq C.1 C.2.1 hd2 ht (fun q => k1 ((l_eq hx hy).mp ((lg_cmp_eq _ _).mp q))) (fun q => k2 (fun w => q ((lg_cmp_eq _ _).mpr ((l_eq hx hy).mpr w)))))
  · exact key _ (fun hx hy H locs cells slots ls k1 k2 => lv_if_ne C.1 C.2.1 hd2 ht (fun q => k1 (fun w => q ((lg_cmp_eq _ _).mpr ((l_eq hx hy).mpr w)))) (fun q => k2 (fun w => w ((l_eq hx hy).mp ((lg_cmp_eq _ _).mp q)))))
  · exact key _ (fun hx hy H locs cells slots ls k1 k2 => lv_if_lt C.1 C.2.1 hd2 ht (fun q => k1 ((l_lt hx hy).mp ((lg_cmp_lt _ _).mp q))) (fun q => k2 (fun w => q ((lg_cmp_lt _ _).mpr ((l_lt hx hy).mpr w)))))
  · exact key _ (fun hx hy H locs cells slots ls k1 k2 => lv_if_ge C.1 C.2.1 hd2 ht (fun q => k1 ((l_le hy hx).mp ((lg_cmp_ge _ _).mp q))) (fun q => k2 (fun w => q ((lg_cmp_ge _ _).mpr ((l_le hy hx).mpr w)))))
  · exact key _ (fun hx hy H locs cells slots ls k1 k2 => lv_if_gt C.1 C.2.1 hd2 ht (fun q => k1 ((l_lt hy hx).mp ((lg_cmp_gt _ _).mp q))) (fun q => k2 (fun w => q ((lg_cmp_gt _ _).mpr ((l_lt hy hx).mpr w)))))
  · exact key _ (fun hx hy H locs cells slots ls k1 k2 => lv_if_le C.1 C.2.1 hd2 ht (fun q => k1 ((l_le hx hy).mp ((lg_cmp_le _ _).mp q))) (fun q => k2 (fun w => q ((lg_cmp_le _ _).mpr ((l_le hx hy).mpr w)))))
def Sw (z t u : Nat) (D : va_G) (I : aI) (Wf : Heap → List Loc → Nat → Nat → JFrame → Prop) (s : State) (m : MethodId) (mi : Nat) (n0 : Int) (S : aT) (x : Int) (l : List (Int × aT)) (d : aT) : Prop :=
  (pick_ x l d).2.2.2 = S.2.2.2 ∧ (Go z t u D I Wf s m mi n0 (pick_ x l d) → Go z t u D I Wf s m mi n0 S)
theorem pick_sw {F : Nat → aT} {x : Int} {d : aT} : ∀ (lo : Int) (os : List Int), pick_ x (swL (swO pc lo os) F) d = if lo ≤ x ∧ x < lo + os.length then F ((pc : Int) + os.getD (x - lo).toNat 0).toNat else d
  | lo, [] => by
    rw [if_neg (by simp)]
    rfl
  | lo, o :: os => by
    show (if x = lo then F ((pc : Int) + o).toNat else pick_ x (swL (swO pc (lo + 1) os) F) d) = _
    by_cases hx : x = lo
    · rw [if_pos hx, if_pos (by simp; omega), hx, show (lo - lo).toNat = 0 by omega]
      rfl
    · rw [if_neg hx, pick_sw (lo + 1) os]
      by_cases h2 : lo + 1 ≤ x ∧ x < lo + 1 + os.length
      · rw [if_pos h2, if_pos (by simp; omega), show (x - lo).toNat = (x - (lo + 1)).toNat + 1 by omega]
        rfl
      · rw [if_neg h2, if_neg (by simp; omega)]
theorem pick_lk {F : Nat → aT} {x d : Int} : ∀ (ps : List (Int × Int)), pick_ x (swL (swP pc ps) F) (F ((pc : Int) + d).toNat) = F ((pc : Int) + Op.lookupswitch.offset ps d x).toNat
  | [] => rfl
  | q :: ps => by
    obtain ⟨a, o⟩ := q
    show (if x = a then F ((pc : Int) + o).toNat else pick_ x (swL (swP pc ps) F) (F ((pc : Int) + d).toNat)) = _
    rw [Op.lookupswitch.offset_cons]
    by_cases hx : x = a
    · rw [if_pos hx, if_pos hx.symm]
    · rw [if_neg hx, if_neg (fun q => hx q.symm), pick_lk ps]
theorem allPos_sw : ∀ (lo : Int) (os : List Int), allPos (swO pc lo os) = true → ∀ i, i < os.length → 0 ≤ (pc : Int) + os.getD i 0
  | lo, [], _, i, h => by simp at h
  | lo, o :: os, h, i, hi => by
    simp only [swO, allPos, Bool.and_eq_true, decide_eq_true_eq] at h
    cases i with
    | zero => exact h.1
    | succ i => exact allPos_sw (lo + 1) os h.2 i (by simpa using hi)
theorem allPos_lk : ∀ (ps : List (Int × Int)) (d x : Int), allPos (swP pc ps) = true → 0 ≤ (pc : Int) + d → 0 ≤ (pc : Int) + Op.lookupswitch.offset ps d x
  | [], d, x, _, h => h
  | q :: ps, d, x, h, hd => by
    obtain ⟨a, o⟩ := q
    simp only [swP, allPos, Bool.and_eq_true, decide_eq_true_eq] at h
    rw [Op.lookupswitch.offset_cons]
    split
    · exact h.1
    · exact allPos_lk ps d x h.2 hd
theorem ok_tableswitch {d lo hi : Int} {offs : Array Int} {len : Nat} (C : Cx z t u D I p R s m args meth c mi) (hd : decode (bts_ mi) pc = .ok (.tableswitch d lo hi offs, len)) (hr : ckR mi pc (.tableswitch d lo hi offs, len, r) = true) : OK ST RT CL BR (Sw z t u D I (WFr p l e R s m args below meth c Z) s m mi n0 (pc, L, st, s0)) (act B (.tableswitch d lo hi offs, len, r) (pc, L, st, s0)) := by
  rcases st with _ | ⟨x | x | x, st⟩ <;> try exact True.intro
  rcases r with _ | ⟨d', rl⟩ <;> try exact True.intro
  simp only [ckR, Bool.and_eq_true, decide_eq_true_eq] at hr
  obtain ⟨⟨⟨⟨⟨⟨hd1, hd0⟩, hl⟩, hp⟩, hsz⟩, hlo⟩, hhi⟩ := hr
  subst hl
  intro hx
  have hx : inI x := hx
  have hpk := pick_sw (pc := pc) (F := fun tg => ((tg, L, st, s0) : aT)) (x := x) (d := (d'.toNat, L, st, s0)) lo offs.toList
  have hlen : (offs.toList.length : Int) = hi - lo + 1 := by rw [Array.length_toList]; exact hsz
  show Sw z t u D I (WFr p l e R s m args below meth c Z) s m mi n0 (pc, L, .inl x :: st, s0) x (swL (swO pc lo offs.toList) (fun tg => ((tg, L, st, s0) : aT))) (d'.toNat, L, st, s0)
  unfold Sw
  rw [hpk]
  by_cases hin : lo ≤ x ∧ x < lo + offs.toList.length
  · rw [if_pos hin]
    refine ⟨rfl, fun k H locs cells slots ls hR hS e1 e2 hl2 => ?_⟩
    have := k H locs cells slots ls hR hS e1 e2 hl2
    change W p l e R s m args below meth c H locs cells slots Z (F0 m pc ls (.int (Int32.ofInt x) :: st.map (cv z t u)))
    refine lv_tableIn C.1 C.2.1 hd (off := offs.toList.getD (x - lo).toNat 0) (tgt := ((pc : Int) + offs.toList.getD (x - lo).toNat 0).toNat) (by rw [i_in hx]; omega) (by rw [i_in hx]; omega) ?_ ?_ this
    · rw [i_in hx, ← Array.getElem?_toList, List.getD_eq_getElem?_getD, List.getElem?_eq_getElem (by omega)]
      rfl
    · rw [Int.toNat_of_nonneg (allPos_sw lo offs.toList hp _ (by omega))]
  · rw [if_neg hin]
    refine ⟨rfl, fun k H locs cells slots ls hR hS e1 e2 hl2 => ?_⟩
    have := k H locs cells slots ls hR hS e1 e2 hl2
    change W p l e R s m args below meth c H locs cells slots Z (F0 m pc ls (.int (Int32.ofInt x) :: st.map (cv z t u)))
    exact lv_tableOut C.1 C.2.1 hd (tgt := d'.toNat) (by rw [i_in hx]; omega) (by rw [Int.toNat_of_nonneg hd0]; exact hd1) this
theorem ok_lookupswitch {d : Int} {ps : Array (Int × Int)} {len : Nat} (C : Cx z t u D I p R s m args meth c mi) (hd : decode (bts_ mi) pc = .ok (.lookupswitch d ps, len)) (hr : ckR mi pc (.lookupswitch d ps, len, r) = true) : OK ST RT CL BR (Sw z t u D I (WFr p l e R s m args below meth c Z) s m mi n0 (pc, L, st, s0)) (act B (.lookupswitch d ps, len, r) (pc, L, st, s0)) := by
  rcases st with _ | ⟨x | x | x, st⟩ <;> try exact True.intro
  rcases r with _ | ⟨d', rl⟩ <;> try exact True.intro
  simp only [ckR, Bool.and_eq_true, decide_eq_true_eq] at hr
  obtain ⟨⟨⟨⟨hd1, hd0⟩, hl⟩, hp⟩, hsort⟩ := hr
  subst hl
  subst hd1
  intro hx
  have hx : inI x := hx
  have hpk := pick_lk (pc := pc) (F := fun tg => ((tg, L, st, s0) : aT)) (x := x) (d := d) ps.toList
  show Sw z t u D I (WFr p l e R s m args below meth c Z) s m mi n0 (pc, L, .inl x :: st, s0) x (swL (swP pc ps.toList) (fun tg => ((tg, L, st, s0) : aT))) (((pc : Int) + d).toNat, L, st, s0)
  unfold Sw
  rw [hpk]
  refine ⟨rfl, fun k H locs cells slots ls hR hS e1 e2 hl2 => ?_⟩
  have := k H locs cells slots ls hR hS e1 e2 hl2
  change W p l e R s m args below meth c H locs cells slots Z (F0 m pc ls (.int (Int32.ofInt x) :: st.map (cv z t u)))
  refine lv_lookup C.1 C.2.1 hd hsort (off := Op.lookupswitch.offset ps.toList d x) (by rw [i_in hx]) ?_ this
  rw [Int.toNat_of_nonneg (allPos_lk ps.toList d x hp hd0)]
/-- the end of a method -/
def Rt (z t u : Nat) (p : Program) (l : Launch) (e : Env) (R : Room) (s : State) (m : MethodId) (args : Array Value) (below : List Frame) (meth : Method) (c : Code) (S : aT) (v : Option aV) : Prop :=
  ∀ (Qc : Array Value → State → Outcome → State → Prop) (mc ms : Nat) (H : Heap) (locs : List Loc) (cells slots : Nat) (ls : Array Slot), va_S (AAz z) s.heap H locs → (∀ T : State, T.heap = H → s.WarmedH T.vm → Qc args s (.returned (v.map (cv z t u))) T) → cells ≤ mc → slots ≤ ms → W p l e R s m args below meth c H locs cells slots (MQ below Qc args s mc ms (AAz z)) (F0 m S.1 ls (S.2.2.1.map (cv z t u)))
theorem ok_ireturn (C : Cx z t u D I p R s m args meth c mi) (hd : decode (bts_ mi) pc = .ok (.ireturn, 1)) (hr : ckR mi pc (.ireturn, 1, r) = true) : OK ST (Rt z t u p l e R s m args below meth c (pc, L, st, s0)) CL BR SW (act B (.ireturn, 1, r) (pc, L, st, s0)) := by
  rcases st with _ | ⟨x | x | x, _ | ⟨_, _⟩⟩ <;> try exact True.intro
  rcases r with _ | ⟨f, _ | ⟨_, _⟩⟩ <;> try exact True.intro
  simp only [ckR, Bool.or_eq_true, Bool.and_eq_true, decide_eq_true_eq] at hr
  have hret := C.2.2.2.2.2.1
  have hlocks := C.2.2.2.2.2.2.1
  have zz : (x = 0 ∨ x = 1) → rt_ mi = some .boolean → Rt z t u p l e R s m args below meth c (pc, L, [.inl x], s0) (some (vI x)) := by
    intro hx hb Qc mc ms H locs cells slots ls hS hq h1 h2
    refine W.widen h1 h2 ?_
    exact W.zret C.1 C.2.1 (hret.trans hb) (bool_nar hx).1 hq hS.2.2 hd hlocks
  show OK _ _ _ _ _ (if f = 0 then rR none (some (vI x)) else if f = 1 then (bif decide (x = 0) || decide (x = 1) then rR none (some (vI x)) else rX) else rR (some (x = 0 ∨ x = 1)) (some (vI x)))
  split
  · rename_i h0
    intro _ Qc mc ms H locs cells slots ls hS hq h1 h2
    refine W.widen h1 h2 ?_
    refine W.iret C.1 C.2.1 (hret.trans ?_) hq hS.2.2 hd hlocks
    rcases hr with hr | hr
    · exact hr.2
    · exfalso; omega
  · split
    · cases hb : (decide (x = 0) || decide (x = 1)) with
      | false => exact True.intro
      | true =>
        have hx : x = 0 ∨ x = 1 := by simpa only [Bool.or_eq_true, decide_eq_true_eq] using hb
        refine fun _ => zz hx ?_
        rcases hr with hr | hr
        · exfalso; omega
        · exact hr.2
    · refine fun hx => zz hx ?_
      rcases hr with hr | hr
      · exfalso; omega
      · exact hr.2
theorem ok_lreturn (C : Cx z t u D I p R s m args meth c mi) (hd : decode (bts_ mi) pc = .ok (.lreturn, 1)) (hr : ckR mi pc (.lreturn, 1, r) = true) : OK ST (Rt z t u p l e R s m args below meth c (pc, L, st, s0)) CL BR SW (act B (.lreturn, 1, r) (pc, L, st, s0)) := by
  rcases st with _ | ⟨x | x | x, _ | ⟨_, _⟩⟩ <;> try exact True.intro
  simp only [ckR, decide_eq_true_eq] at hr
  intro _ Qc mc ms H locs cells slots ls hS hq h1 h2
  refine W.widen h1 h2 ?_
  exact W.lret C.1 C.2.1 (C.2.2.2.2.2.1.trans hr) hq hS.2.2 hd C.2.2.2.2.2.2.1
theorem ok_return (C : Cx z t u D I p R s m args meth c mi) (hd : decode (bts_ mi) pc = .ok (.return_, 1)) (hr : ckR mi pc (.return_, 1, r) = true) : OK ST (Rt z t u p l e R s m args below meth c (pc, L, st, s0)) CL BR SW (act B (.return_, 1, r) (pc, L, st, s0)) := by
  rcases st with _ | ⟨x, _⟩ <;> try exact True.intro
  simp only [ckR, decide_eq_true_eq] at hr
  intro _ Qc mc ms H locs cells slots ls hS hq h1 h2
  refine W.widen h1 h2 ?_
  exact W.vret C.1 C.2.1 (C.2.2.2.2.2.1.trans hr) hq hS.2.2 hd C.2.2.2.2.2.2.1
end SIMK
