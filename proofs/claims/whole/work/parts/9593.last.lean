/-! The law's long row is written; a world that may have grown by a dead cell -/
section LST
variable {p : Program} {l : Launch} {e : Env} {R : Room} {s : State} {m : MethodId} {args : Array Value} {below : List Frame} {meth : Method} {c : Code} {H : Heap} {locs : List Loc} {cells slots : Nat} {Z : State → Prop}
variable {z t u : Nat} {D : va_G} {I : aI} {cc : ByteArray} {s0 : aS}
set_option maxRecDepth 20000 in
theorem gen_last {pc : Nat} {v : Int} {ls : Array Slot} {st : List Value} (hx : p.tables.exec = Jvm.exec) (hb : c.code = cc) (hKK : KK z t u D I s s.heap) (hR : Rel z t u D I s0 H) (h126 : 126 ≤ szS s0) (hS : va_S (AAz z) s.heap H locs) (hd : decode cc pc = .ok (.lastore, 1))
    (kk : ∀ (H1 : Heap) (locs1 : List Loc), Rel z t u D I (up_ s0.1 125 0 v, s0.2) H1 → va_S (AAz z) s.heap H1 locs1 → W p l e R s m args below meth c H1 locs1 cells slots Z (F0 m (pc + 1) ls st)) :
    W p l e R s m args below meth c H locs cells slots Z (F0 m pc ls (.long (Int64.ofInt v) :: .int 0 :: .ref (z + 125) :: st)) := by
  have h3 : kD_ s0.2.2.1 125 = 21 := rfl
  obtain ⟨kx, hkx⟩ := hR.at (a := 125) (by decide) (by omega) (by rw [h3]; decide)
  have hkx0 := hkx
  rw [en_21 h3] at hkx
  have hP := hR.P
  refine W.last hx hb (hP kx _ hkx) ((hKK.1.2 1 _ rfl).1 _ (fun j => .long ((fun j : Nat => Int64.ofInt (s0.1 125 j)) j))) (fun q => by cases q) (by show ¬ ((0 : Int32) < 0 ∨ (arrV _ _ _).slots.size ≤ _); rw [arrV_size]; show ¬ ((0 : Int32) < 0 ∨ 1 ≤ 0); decide) rfl rfl hd fun H1 e9 zz oq => ?_
  have hP1 : va_P D vwCl ((wl z t u I s0).set kx (z + 125, .inl (I.2.1, ((lD_ s0.2.2.1 125).toNat, .inr (.inl (vp_updL (fun j : Nat => Int64.ofInt (s0.1 125 j)) 0 (Int64.ofInt v))))))) H1 := by
    refine hP.set wl_D hkx ?_ oq
    show H1[z + 125]? = some (vp_cell _ _)
    refine Eq.trans e9 ?_
    rw [vp_cell_l, vp_cell_l, arrV_store]
    congr 2
    funext q
    by_cases hq : q = 0
    · subst hq
      simp [updV, vp_updL]
    · simp [updV, vp_updL, hq]
  have fJ : (fun j : Nat => Int64.ofInt (up_ s0.1 125 0 v 125 j)) = vp_updL (fun j : Nat => Int64.ofInt (s0.1 125 j)) 0 (Int64.ofInt v) := by
    funext j
    unfold vp_updL
    by_cases hj : j = 0
    · rw [if_pos hj, hj]; exact congrArg _ (up_s s0.1 125 0 v)
    · rw [if_neg hj, up_j _ _ _ (show (j : Int) ≠ 0 by omega)]
  refine kk H1 _ (hR.set (a := 125) hkx0 hP1 zz rfl rfl ?_ (fun b hb hb2 => en_other rfl (fun j => up_b _ _ _ _ (by omega)) (fun _ => rfl))) (hS.put zz oq (wl_D.2 kx _ hkx))
  show en z t u I (up_ s0.1 125 0 v, s0.2) 125 = _
  rw [en_21 (s0 := (up_ s0.1 125 0 v, s0.2)) h3]
  show Sum.inl _ = Sum.inl _
  rw [← fJ]
/-- the state, or the state with a dead cell behind -/
def dd_ (s0 st : aS) : Prop := st = s0 ∨ st = (s0.1, (s0.2.1, up1 s0.2.2.1 (szS s0) (-1), szS s0 + 1, nsS s0))
set_option maxRecDepth 20000 in
theorem RelX.dd {s0 : aS} (h : RelX z t u D I s0 H) (h126 : 126 ≤ szS s0) (hdl : ∀ a : Int, s0.2.2.1 a ≤ 100000000) (h1 : H.size ≤ z + (szS s0).toNat + 1) : ∃ st, dd_ s0 st ∧ Rel z t u D I st H := by
  obtain ⟨g1, g2⟩ := h
  by_cases hq : H.size = z + (szS s0).toNat
  · exact ⟨s0, Or.inl rfl, by omega, hq, g2, hdl⟩
  · refine ⟨_, Or.inr rfl, by show 0 ≤ szS s0 + 1; omega, by show H.size = z + (szS s0 + 1).toNat; omega, fun a a1 a2 => ?_, fun a => ?_⟩
    · have a1 : (a : Int) < szS s0 + 1 := a1
      by_cases ha : (a : Int) = szS s0
      · exfalso
        refine a2 ?_
        show kD_ (up1 s0.2.2.1 (szS s0) (-1)) (a : Int) = 99
        unfold kD_ up1
        rw [ha, if_pos rfl, decide_eq_false (show ¬ szS s0 < nid_ from by show ¬ szS s0 < (126 : Int); omega)]
        rfl
      · have ek : kD_ (up1 s0.2.2.1 (szS s0) (-1)) (a : Int) = kD_ s0.2.2.1 (a : Int) := kD_up ha
        have el : lD_ (up1 s0.2.2.1 (szS s0) (-1)) (a : Int) = lD_ s0.2.2.1 (a : Int) := lD_up ha
        have a2 : kD_ (up1 s0.2.2.1 (szS s0) (-1)) (a : Int) ≠ 99 := a2
        rw [ek] at a2
        have := g2 a (by omega) a2
        have ee : en z t u I (s0.1, (s0.2.1, up1 s0.2.2.1 (szS s0) (-1), szS s0 + 1, nsS s0)) (a : Int) = en z t u I s0 (a : Int) := by
          unfold en oe
          simp only [ek, el]
        rw [ee]
        exact this
    · show up1 s0.2.2.1 (szS s0) (-1) a ≤ 100000000
      unfold up1
      split
      · omega
      · exact hdl a
end LST
