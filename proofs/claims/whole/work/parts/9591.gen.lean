/-! A field read and a call, from a frame of any class -/
section GEN
variable {p : Program} {l : Launch} {e : Env} {R : Room} {s : State} {m : MethodId} {args : Array Value} {below : List Frame} {meth : Method} {c : Code} {H : Heap} {locs : List Loc} {cells slots : Nat} {Z : State → Prop}
variable {z t u : Nat} {D : va_G} {I : aI} {own : String} {cc : ByteArray} {nL : Nat}
set_option maxRecDepth 20000 in
theorem gen_fld {ix pc : Nat} {s0 : aS} {a : Int} {cl k : Nat} {ls : Array Slot} {st : List Value} (hx : p.tables.exec = Jvm.exec) (hb : c.code = cc) (hown : s.vm.findClass own = some m.cls) (hts : ∀ w ∈ ww_, w.before args s = true) (hKK : KK z t u D I s s.heap) (hR : Rel z t u D I s0 H) (hcl : cl < 13) (a0 : 0 ≤ a) (a1 : a < szS s0) (a2 : kD_ s0.2.2.1 a = (cl : Int)) (hk : (k : Int) < nC_ (cl : Int)) (hnf : (fT_ cl k).2.2.2 = false) (hw : Cond.fieldLink own ix (fT_ cl k).1 (fT_ cl k).2.1 (fT_ cl k).2.2.1 ∈ ww_) (hd : decode cc pc = .ok (.getfield ix, 3))
    (kk : W p l e R s m args below meth c H locs cells slots Z (F0 m (pc + 3) ls (fv z t u (ty_ cl k) (s0.1 a (k : Int)) :: st))) : W p l e R s m args below meth c H locs cells slots Z (F0 m pc ls (.ref (z + a.toNat) :: st)) := by
  obtain ⟨q, hq, hqn, hqf, hqz⟩ := cl_of hcl
  obtain ⟨hin, -, -⟩ := clw_ok cl hcl q hq
  obtain ⟨qn, qT, qN⟩ := q
  dsimp only at hqn hqf hqz hin
  have hP := hR.cell a0 a1 (by rw [a2]; omega)
  rw [en_obj a2 (by omega) (by omega), Int.toNat_natCast] at hP
  refine va_get (ws := [(z + a.toNat, .inr (cl, oe z t u s0 cl (nC_ (cl : Int)).toNat a))]) hx hb hts hin hown hKK.1 hP 0 rfl hq k (by rw [hqz]; omega) ?_ (fun _ h => h) (v := fv z t u (ty_ cl k) (s0.1 a (k : Int))) ?_ hd kk
  · rw [hqf]
    exact hts _ hw
  · unfold oe
    rw [List.getElem?_map, List.getElem?_range (by omega)]
    show some (fv z t u (ty_ cl k) (if (fT_ cl k).2.2.2 = true then s0.2.1 a (k : Int) else s0.1 a (k : Int))) = _
    rw [hnf, if_neg (by decide)]
theorem gen_run {n mj ix P : Nat} {as' : List aV} {a : Int} {s0 s1 : aS} {rr : Option aV} {ls : Array Slot} {rest : List aV} (hx : p.tables.exec = Jvm.exec) (hb : c.code = cc) (hml : c.maxLocals = nL) (hown : s.vm.findClass own = some m.cls) (hts : ∀ w ∈ ww_, w.before args s = true) (hKK : KK z t u D I s s.heap) (hck : ckY mj = true) (his : is_ mj = 1) (hfr : fr_ mj + 1 ≤ R.frames) (hlo : 8 + (mxl_ mj + 11) + lo_ mj ≤ R.locals) (hlink : Cond.methodLink own ix (yn_ mj) ∈ ww_) (hd : decode cc P = .ok (.invokevirtual ix, 3)) (hex : exec n mj (ent_ mj (vR a :: as') s0) = some (rr, s1)) (hbl : bld_ (bnd_ mj) s0)
    (hcat : cats (vR a :: as') ≤ mxl_ mj) (hlen : as'.length = np_ mj) (hrest : cats rest ≤ 8) (a0 : 0 ≤ a) (a1 : a < szS s0) (a2 : kD_ s0.2.2.1 a = (oc_ mj : Int)) (hR : Rel z t u D I s0 H) (hSS : va_S (AAz z) s.heap H locs) (hls : ls.size = nL) (hc : cells + (szS s1 - szS s0).toNat ≤ R.cells) (hsl : slots + (nsS s1 - nsS s0).toNat ≤ R.slots) :
    va_Run p l e R s m args below meth c H locs cells slots (szS s1 - szS s0).toNat (nsS s1 - nsS s0).toNat (F0 m P ls ((as'.map (cv z t u)).reverse ++ .ref (z + a.toNat) :: rest.map (cv z t u))) (rest.map (cv z t u)) (QcR z t u D I rr s1 (((vR a :: as') : List aV).map (cv z t u)).toArray) (AAz z) := by
  obtain ⟨⟨hz1, hn1, hF1⟩, -⟩ := simA n mj (ent_ mj (vR a :: as') s0) rr s1 hex
  have hz1 : szS s0 ≤ szS s1 := hz1
  have hn1 : nsS s0 ≤ nsS s1 := hn1
  have h0 : 0 ≤ szS s0 := hR.1
  have hM := met_of hck (simA n) hex hbl hcat z t u D I l (mc := (szS s1 - szS s0).toNat) (ms := (nsS s1 - nsS s0).toNat) h0 (by omega) (by omega)
  simp only [ckY, Bool.and_eq_true, decide_eq_true_eq] at hck
  obtain ⟨⟨⟨⟨⟨⟨⟨⟨⟨hcode, hini⟩, hcls⟩, hnm1⟩, hnm2⟩, hnp⟩, -⟩, -⟩, -⟩, hinst⟩ := hck
  have hcode := hw_ok hcode
  have hini := hw_ok hini
  have good : ∀ w ∈ (Cond.code (yn_ mj) (bts_ mj) (mxl_ mj) (rt_ mj) :: ww_), w ∈ ww_ ∧ ((w.onTables && w.keeps) = true ∨ ∃ ty, w = .arrayClass ty) := by
    intro w hw
    have hw2 : w ∈ ww_ := by
      rcases List.mem_cons.mp hw with h | h
      · rw [h]; exact hcode
      · exact h
    exact ⟨hw2, good_of_word (List.mem_filter.mp hw2).2⟩
  have hpc : ∀ U : State, U.heap = H → s.WarmedH U.vm → va_Pc (((vR a :: as') : List aV).map (cv z t u)) (fun U => Rel z t u D I s0 U.heap ∧ KK z t u D I U U.heap) (((vR a :: as') : List aV).map (cv z t u)).toArray U := by
    intro U hU hW
    refine ⟨rfl, by rw [hU]; exact hR, ?_⟩
    have := hKK.moved (V := U) (H1 := H) hW (fun a q1 q2 => hSS.2.1 a q1 q2)
    rw [hU]
    exact this
  have blind : FrameBlind (va_Pc (((vR a :: as') : List aV).map (cv z t u)) (fun U => Rel z t u D I s0 U.heap ∧ KK z t u D I U U.heap)) := by
    intro a U g mk q
    obtain ⟨q0, q1, q2⟩ := q
    exact ⟨q0, q1, q2.moved (V := U.calling g mk a) (State.WarmedH.refl U) (fun _ _ _ => rfl)⟩
  have base : CallB R s args own ix (yn_ mj) (bts_ mj) (mxl_ mj) (rt_ mj) (.code (yn_ mj) (bts_ mj) (mxl_ mj) (rt_ mj) :: ww_) { frames := fr_ mj, cells := (szS s1 - szS s0).toNat, slots := (nsS s1 - nsS s0).toNat, locals := lo_ mj } (szS s1 - szS s0).toNat (nsS s1 - nsS s0).toNat (np_ mj) :=
    callB_of (np_ mj) hts good rfl rfl rfl (hts _ hini) (hts _ hlink) ⟨hnm1, hnm2, hnp⟩ ⟨hfr, hlo⟩
  have fixT : CallFix p m c cc nL s args ww_ own := ⟨hx, hb, hml, hown, hts⟩
  have hcatm : ((rest.map (cv z t u)).map fun v => v.category).sum ≤ 8 := by rw [cats_map]; exact hrest
  rw [if_neg (by omega), Bool.and_eq_true, if_neg (by omega)] at hinst
  have hin := hts _ (hw_ok hinst.1)
  have hse := hts _ (hw_ok hinst.2)
  have hocl : oc_ mj < 13 := oc_small (by omega)
  obtain ⟨q, hq, hqn, -, -⟩ := cl_of hocl
  have hP := hR.cell a0 a1 (by rw [a2]; omega)
  rw [en_obj a2 (by omega) (by omega), Int.toNat_natCast] at hP
  have hrv := va_recv hKK.1 hP hq (q0 := 0) rfl
  have hcv : cv z t u (vR a) = .ref (z + a.toNat) := cvR_p a0
  rw [List.map_cons, hcv] at hM hpc blind ⊢
  refine va_runV (As := as'.map (cv z t u)) (n := np_ mj) (C := (yn_ mj).cls) fixT hM ⟨base, hin, hse⟩ ⟨blind, ?_, hpc⟩ rfl ?_ hls rfl (lv_room hcatm) hd ⟨hc, hsl⟩
  · rw [hcls, ← hqn]; exact hrv
  · rw [List.length_map]; exact hlen
end GEN
