/-! THE LAW: a number of the script; a call of the class or of the reference -/
section LAW1
variable {p : Program} {l : Launch} {e : Env} {s : State} {m : MethodId} {below : List Frame} {meth : Method} {c : Code} {b L : Nat} {xs : Nat → Int32} {H : Heap} {locs : List Loc} {cells slots : Nat} {Z : State → Prop}
variable {z t u : Nat} {D : va_G} {I : aI}
/-- the law's locals at its loop -/
abbrev lwV (b z i : Nat) : List (Nat × Value) := [(0, .ref b), (1, .ref z), (2, .ref (z + 86)), (3, .ref (z + 125)), (4, .int (nI i))]
theorem law_push (C0 : lw_At p s m meth c b L xs) (hL : L ≤ 3072) (hz : z = s.heap.size) (hS : va_S (AAz z) s.heap H locs) {ls : Array Slot} {i k P : Nat} (hl : lv_has ls 7 (lwV b z i)) (hk : k ≤ 5) (hi : i + k < L) {st : List Value} (d0 : decode code P = .ok (.aload_n 0, 1)) (d1 : decode code (P + 1) = .ok (.iload 4, 2)) (d3 : decode code (P + 3) = .ok (.iconst (k : Int), 1)) (d4 : decode code (P + 4) = .ok (.iadd, 1)) (d5 : decode code (P + 5) = .ok (.iaload, 1))
    (kk : W p l e room_1 s m #[Value.ref b] below meth c H locs cells slots Z (F0 m (P + 6) ls (.int (xs (i + k)) :: st))) : W p l e room_1 s m #[Value.ref b] below meth c H locs cells slots Z (F0 m P ls st) := by
  obtain ⟨hx, hb, hr, hml, hown, hts, hX, hbl, hlocks, hgv⟩ := C0
  have hbA : ¬ AAz z b := fun q => by
    have q : z ≤ b := q
    omega
  refine lv_aload_n hx hb d0 rfl (lv_at hl 0 rfl) ?_
  refine lv_iload hx hb d1 (lv_at hl 4 rfl) ?_
  refine lv_iconst (v := nI k) hx hb d3 rfl ?_
  refine lv_iadd hx hb d4 ?_
  rw [nI_add]
  refine va_sld hx hb hX hbl hbA hS (vp_in_nI hi (by omega)) d5 ?_
  rw [nI_clamp (by omega)]
  exact kk
/-- what a call needs of its method -/
def lwM (mj ix : Nat) (_ : Option FieldType) : Prop := ckY mj = true ∧ is_ mj = 1 ∧ fr_ mj + 1 ≤ 14 ∧ 8 + (mxl_ mj + 11) + lo_ mj ≤ 588 ∧ Cond.methodLink R_law ix (yn_ mj) ∈ lw_tbl
theorem law_run {n mj ix P : Nat} {as' : List aV} {a : Int} {s0 s1 : aS} {rr : Option aV} {ls : Array Slot} {rest : List aV} (C0 : lw_At p s m meth c b L xs) (hz : z = s.heap.size) (hKK : KK z t u D I s s.heap) {rt : Option FieldType} (hM : lwM mj ix rt) (hd : decode code P = .ok (.invokevirtual ix, 3)) (hex : exec n mj (ent_ mj (vR a :: as') s0) = some (rr, s1)) (hbl : bld_ (bnd_ mj) s0)
    (hcat : cats (vR a :: as') ≤ mxl_ mj) (hlen : as'.length = np_ mj) (hrest : cats rest ≤ 8) (a0 : 0 ≤ a) (a1 : a < szS s0) (a2 : kD_ s0.2.2.1 a = (oc_ mj : Int)) (hR : Rel z t u D I s0 H) (hSS : va_S (AAz z) s.heap H locs) (hls : ls.size = 7) (hc : cells + (szS s1 - szS s0).toNat ≤ 601024) (hsl : slots + (nsS s1 - nsS s0).toNat ≤ 7293034) :
    va_Run p l e room_1 s m #[Value.ref b] below meth c H locs cells slots (szS s1 - szS s0).toNat (nsS s1 - nsS s0).toNat (F0 m P ls ((as'.map (cv z t u)).reverse ++ .ref (z + a.toNat) :: rest.map (cv z t u))) (rest.map (cv z t u)) (QcR z t u D I rr s1 (((vR a :: as') : List aV).map (cv z t u)).toArray) (AAz z) := by
  obtain ⟨hx, hb, hr, hml, hown, hts, hX, hbl2, hlocks, hgv⟩ := C0
  obtain ⟨hck, his, hfr, hlo, hlink⟩ := hM
  obtain ⟨⟨hz1, hn1, hF1⟩, -⟩ := simA n mj (ent_ mj (vR a :: as') s0) rr s1 hex
  have hz1 : szS s0 ≤ szS s1 := hz1
  have hn1 : nsS s0 ≤ nsS s1 := hn1
  have h0 : 0 ≤ szS s0 := hR.1
  have hM := met_of hck (simA n) hex hbl hcat z t u D I l (mc := (szS s1 - szS s0).toNat) (ms := (nsS s1 - nsS s0).toNat) h0 (by omega) (by omega)
  simp only [ckY, Bool.and_eq_true, decide_eq_true_eq] at hck
  obtain ⟨⟨⟨⟨⟨⟨⟨⟨⟨hcode, hini⟩, hcls⟩, hnm1⟩, hnm2⟩, hnp⟩, -⟩, -⟩, -⟩, hinst⟩ := hck
  have hww : ∀ w ∈ ww_, w ∈ lw_tbl := fun w hw => (List.mem_filter.mp hw).1
  have hcode := hw_ok hcode
  have hini := hw_ok hini
  have good : ∀ w ∈ (Cond.code (yn_ mj) (bts_ mj) (mxl_ mj) (rt_ mj) :: ww_), w ∈ lw_tbl ∧ ((w.onTables && w.keeps) = true ∨ ∃ ty, w = .arrayClass ty) := by
    intro w hw
    have hw2 : w ∈ ww_ := by
      rcases List.mem_cons.mp hw with h | h
      · rw [h]; exact hcode
      · exact h
    exact ⟨hww w hw2, good_of_word (List.mem_filter.mp hw2).2⟩
  have hpc : ∀ U : State, U.heap = H → s.WarmedH U.vm → va_Pc (((vR a :: as') : List aV).map (cv z t u)) (fun U => Rel z t u D I s0 U.heap ∧ KK z t u D I U U.heap) (((vR a :: as') : List aV).map (cv z t u)).toArray U := by
    intro U hU hW
    refine ⟨rfl, by rw [hU]; exact hR, ?_⟩
    have := hKK.moved (V := U) (H1 := H) hW (fun a q1 q2 => hSS.2.1 a q1 q2)
    rw [hU]
    exact this
  have blind : FrameBlind (va_Pc (((vR a :: as') : List aV).map (cv z t u)) (fun U => Rel z t u D I s0 U.heap ∧ KK z t u D I U U.heap)) := by
    intro a U g mk q
    obtain ⟨q0, q1, q2⟩ := q
    exact ⟨q0, q1, q2.moved (V := U.calling g mk a) (State.WarmedH.refl U) (fun _ _ _ => rfl)⟩
  have base : CallB room_1 s #[Value.ref b] R_law ix (yn_ mj) (bts_ mj) (mxl_ mj) (rt_ mj) (.code (yn_ mj) (bts_ mj) (mxl_ mj) (rt_ mj) :: ww_) { frames := fr_ mj, cells := (szS s1 - szS s0).toNat, slots := (nsS s1 - nsS s0).toNat, locals := lo_ mj } (szS s1 - szS s0).toNat (nsS s1 - nsS s0).toNat (np_ mj) :=
    callB_of (np_ mj) hts good rfl rfl rfl (hts _ (hww _ hini)) (hts _ hlink) ⟨hnm1, hnm2, hnp⟩ ⟨hfr, hlo⟩
  have fixT : CallFix p m c code 7 s #[Value.ref b] lw_tbl R_law := ⟨hx, hb, hml, hown, hts⟩
  have hcatm : ((rest.map (cv z t u)).map fun v => v.category).sum ≤ 8 := by rw [cats_map]; exact hrest
  rw [if_neg (by omega), Bool.and_eq_true, if_neg (by omega)] at hinst
  have hin := hts _ (hww _ (hw_ok hinst.1))
  have hse := hts _ (hww _ (hw_ok hinst.2))
  have hocl : oc_ mj < 13 := oc_small (by omega)
  obtain ⟨q, hq, hqn, -, -⟩ := cl_of hocl
  have hP := hR.cell a0 a1 (by rw [a2]; omega)
  rw [en_obj a2 (by omega) (by omega), Int.toNat_natCast] at hP
  have hrv := va_recv hKK.1 hP hq (q0 := 0) rfl
  have hcv : cv z t u (vR a) = .ref (z + a.toNat) := cvR_p a0
  rw [List.map_cons, hcv] at hM hpc blind ⊢
  refine va_runV (As := as'.map (cv z t u)) (n := np_ mj) (C := (yn_ mj).cls) fixT hM ⟨base, hin, hse⟩ ⟨blind, ?_, hpc⟩ rfl ?_ hls rfl (lv_room hcatm) hd ⟨hc, hsl⟩
  · rw [hcls, ← hqn]; exact hrv
  · rw [List.length_map]; exact hlen
theorem law_I {mj ix P : Nat} {as' : List aV} {a : Int} {s0 : aS} {ls : Array Slot} {rest : List aV} {Q : Int → aM → aW → Prop} (C0 : lw_At p s m meth c b L xs) (hz : z = s.heap.size) (hKK : KK z t u D I s s.heap) (hM : lwM mj ix (some .int)) (hd : decode code P = .ok (.invokevirtual ix, 3)) (hex : CallI mj (vR a :: as') s0 Q) (hbl : bld_ (bnd_ mj) s0)
    (hcat : cats (vR a :: as') ≤ mxl_ mj) (hlen : as'.length = np_ mj) (hrest : cats rest ≤ 8) (a0 : 0 ≤ a) (a1 : a < szS s0) (a2 : kD_ s0.2.2.1 a = (oc_ mj : Int)) (hR : Rel z t u D I s0 H) (hSS : va_S (AAz z) s.heap H locs) (hls : ls.size = 7)
    (hrm : ∀ r N W1, Q r N W1 → cells + (W1.2.2.1 - szS s0).toNat ≤ 601024 ∧ slots + (W1.2.2.2 - nsS s0).toNat ≤ 7293034)
    (kk : ∀ r N W1 H1 locs1, Q r N W1 → szS s0 ≤ W1.2.2.1 → nsS s0 ≤ W1.2.2.2 → Rel z t u D I (N, W1) H1 → va_S (AAz z) s.heap H1 locs1 → W p l e room_1 s m #[Value.ref b] below meth c H1 locs1 (cells + (W1.2.2.1 - szS s0).toNat) (slots + (W1.2.2.2 - nsS s0).toNat) Z (F0 m (P + 3) ls (.int (Int32.ofInt r) :: rest.map (cv z t u)))) :
    W p l e room_1 s m #[Value.ref b] below meth c H locs cells slots Z (F0 m P ls ((as'.map (cv z t u)).reverse ++ .ref (z + a.toNat) :: rest.map (cv z t u))) := by
  obtain ⟨n, rr, s1, hex, hq⟩ := hex
  rcases rr with _ | x | x | x
  · exact absurd hq id
  · have hq : Q x s1.1 s1.2 := hq
    obtain ⟨⟨hz1, hn1, -⟩, -⟩ := simA n mj (ent_ mj (vR a :: as') s0) _ s1 hex
    obtain ⟨r1, r2⟩ := hrm x s1.1 s1.2 hq
    refine va_calli (a := (((vR a :: as') : List aV).map (cv z t u)).toArray) (law_run C0 hz hKK hM hd hex hbl hcat hlen hrest a0 a1 a2 hR hSS hls r1 r2) hSS (fun q _ h => h) (fun q h => h) (fun v u' T H1 locs1 q1 q2 q3 q4 q5 q6 q7 => ?_)
    rw [q3]
    exact kk x s1.1 s1.2 H1 locs1 hq hz1 hn1 (by rw [← q1]; exact q4) q7
  · exact absurd hq id
  · exact absurd hq id
theorem law_L {mj ix P : Nat} {as' : List aV} {a : Int} {s0 : aS} {ls : Array Slot} {rest : List aV} {Q : Int → aM → aW → Prop} (C0 : lw_At p s m meth c b L xs) (hz : z = s.heap.size) (hKK : KK z t u D I s s.heap) (hM : lwM mj ix (some .long)) (hd : decode code P = .ok (.invokevirtual ix, 3)) (hex : CallL mj (vR a :: as') s0 Q) (hbl : bld_ (bnd_ mj) s0)
    (hcat : cats (vR a :: as') ≤ mxl_ mj) (hlen : as'.length = np_ mj) (hrest : cats rest ≤ 8) (a0 : 0 ≤ a) (a1 : a < szS s0) (a2 : kD_ s0.2.2.1 a = (oc_ mj : Int)) (hR : Rel z t u D I s0 H) (hSS : va_S (AAz z) s.heap H locs) (hls : ls.size = 7)
    (hrm : ∀ r N W1, Q r N W1 → cells + (W1.2.2.1 - szS s0).toNat ≤ 601024 ∧ slots + (W1.2.2.2 - nsS s0).toNat ≤ 7293034)
    (kk : ∀ r N W1 H1 locs1, Q r N W1 → szS s0 ≤ W1.2.2.1 → nsS s0 ≤ W1.2.2.2 → Rel z t u D I (N, W1) H1 → va_S (AAz z) s.heap H1 locs1 → W p l e room_1 s m #[Value.ref b] below meth c H1 locs1 (cells + (W1.2.2.1 - szS s0).toNat) (slots + (W1.2.2.2 - nsS s0).toNat) Z (F0 m (P + 3) ls (.long (Int64.ofInt r) :: rest.map (cv z t u)))) :
    W p l e room_1 s m #[Value.ref b] below meth c H locs cells slots Z (F0 m P ls ((as'.map (cv z t u)).reverse ++ .ref (z + a.toNat) :: rest.map (cv z t u))) := by
  obtain ⟨n, rr, s1, hex, hq⟩ := hex
  rcases rr with _ | x | x | x
  · exact absurd hq id
  · exact absurd hq id
  · have hq : Q x s1.1 s1.2 := hq
    obtain ⟨⟨hz1, hn1, -⟩, -⟩ := simA n mj (ent_ mj (vR a :: as') s0) _ s1 hex
    obtain ⟨r1, r2⟩ := hrm x s1.1 s1.2 hq
    refine va_calll (a := (((vR a :: as') : List aV).map (cv z t u)).toArray) (law_run C0 hz hKK hM hd hex hbl hcat hlen hrest a0 a1 a2 hR hSS hls r1 r2) hSS (fun q _ h => h) (fun q h => h) (fun v u' T H1 locs1 q1 q2 q3 q4 q5 q6 q7 => ?_)
    rw [q3]
    exact kk x s1.1 s1.2 H1 locs1 hq hz1 hn1 (by rw [← q1]; exact q4) q7
  · exact absurd hq id
end LAW1
