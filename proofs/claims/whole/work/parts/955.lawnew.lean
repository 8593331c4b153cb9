/-! THE LAW: what it makes itself -/
section LAWN
variable {p : Program} {l : Launch} {e : Env} {s : State} {m : MethodId} {below : List Frame} {meth : Method} {c : Code} {b L : Nat} {xs : Nat → Int32} {H : Heap} {locs : List Loc} {cells slots : Nat} {Z : State → Prop}
variable {z t u : Nat} {D : va_G} {I : aI} {ls : Array Slot} {P : Nat} {st : List Value} {s0 : aS}
set_option maxRecDepth 20000 in
theorem rel_made {s2 : aS} {H1 : Heap} {ev : va_E} (hR : Rel z t u D I s0 H) (hz2 : szS s2 = szS s0 + 1) (hdl : ∀ a, s2.2.2.1 a ≤ 100000000) (hkd : ∀ b : Int, b < szS s0 → kD_ s2.2.2.1 b = kD_ s0.2.2.1 b) (he : en z t u I s2 (szS s0) = ev) (ho : ∀ b : Int, 0 ≤ b → b < szS s0 → en z t u I s2 b = en z t u I s0 b)
    (g1 : va_at D vwCl (z + (szS s0).toNat, ev) H1) (g2 : H1.size = H.size + 1) (g3 : ∀ q, q < H.size → H1[q]? = H[q]?) : Rel z t u D I s2 H1 := by
  have h0 := hR.1
  have hsz := hR.2.1
  refine ⟨by omega, by rw [g2, hsz, hz2]; omega, fun a ha1 ha2 => ?_, hdl⟩
  by_cases hq : (a : Int) < szS s0
  · rw [ho a (by omega) hq]
    rw [hkd a hq] at ha2
    have h1 := hR.2.2.1 a hq ha2
    exact h1.kept (g3 _ h1.lt)
  · have hq2 : (a : Int) = szS s0 := by omega
    rw [hq2, he]
    have : a = (szS s0).toNat := by omega
    rw [this]
    exact g1
set_option maxRecDepth 20000 in
theorem vaS_made {H1 : Heap} (hS : va_S (AAz z) s.heap H locs) (g2 : H1.size = H.size + 1) (g3 : ∀ q, q < H.size → H1[q]? = H[q]?) : va_S (AAz z) s.heap H1 locs := ⟨by have := hS.1; omega, fun q q1 q2 => (g3 q (Nat.lt_of_lt_of_le q1 hS.1)).trans (hS.2.1 q q1 q2), hS.2.2⟩
set_option maxRecDepth 20000 in
theorem law_new {ix cc : Nat} (C0 : lw_At p s m meth c b L xs) (hKK : KK z t u D I s s.heap) (hcc : cc < 13) (hd : decode code P = .ok (.new ix, 3)) (w1 : Cond.classLink R_law ix (cn_ cc) ∈ lw_tbl) (w3 : Cond.initialized (cn_ cc) ∈ lw_tbl) (hk : knd (szS s0) = (cc : Int)) (hlt : szS s0 < 126) (hR : Rel z t u D I s0 H) (hSS : va_S (AAz z) s.heap H locs) (q1 : cells + 1 ≤ 601024) (q2 : slots + (nC_ (cc : Int)).toNat ≤ 7293034)
    (kk : ∀ H1 : Heap, Rel z t u D I (ce_ s0.1 (szS s0) (dfl_ (cc : Int)), (ce_ s0.2.1 (szS s0) (fun _ => -1), s0.2.2.1, szS s0 + 1, nsS s0 + nC_ (cc : Int))) H1 → va_S (AAz z) s.heap H1 locs → W p l e room_1 s m #[Value.ref b] below meth c H1 locs (cells + 1) (slots + (nC_ (cc : Int)).toNat) Z (F0 m (P + 3) ls (.ref (z + (szS s0).toNat) :: st))) :
    W p l e room_1 s m #[Value.ref b] below meth c H locs cells slots Z (F0 m P ls st) := by
  obtain ⟨hx, hb, hr, hml, hown, hts, hX, hbl2, hlocks, hgv⟩ := C0
  have hww : ∀ w ∈ ww_, w ∈ lw_tbl := fun w hw => (List.mem_filter.mp hw).1
  obtain ⟨q, hq, hqn, hqf, hqz⟩ := cl_of hcc
  obtain ⟨hin, hty, hnm⟩ := clw_ok cc hcc q hq
  have h0 := hR.1
  have hkd : kD_ s0.2.2.1 (szS s0) = (cc : Int) := by rw [kD_small hlt]; exact hk
  have hceM : ∀ b j, b ≠ szS s0 → ce_ s0.1 (szS s0) (dfl_ (cc : Int)) b j = s0.1 b j := fun b j hb => by unfold ce_; rw [if_neg hb]
  have hceF : ∀ b j, b ≠ szS s0 → ce_ s0.2.1 (szS s0) (fun _ => -1) b j = s0.2.1 b j := fun b j hb => by unfold ce_; rw [if_neg hb]
  have hKn := hKK.1.1 _ _ hq
  refine W.newcK hx hb (own := R_law) (C := q.1) (n := (nC_ (cc : Int)).toNat) hown (by rw [hqn]; exact hts _ w1) (by rw [hqn]; exact hts _ (hww _ (hw_ok (inst_ok cc hcc)))) (by rw [hqn]; exact hts _ w3) rfl hd q1 q2 hKn.2.1 hR.2.1 (fun H1 kC hkC e1 z1 o1 => ?_)
  have hborn := u_born (fun k => ty_ cc k) hts (fun w hw => hww w (hin w hw)) hKn hkC e1 hty
  have g2 : H1.size = H.size + 1 := by rw [z1, hR.2.1]
  have g3 : ∀ x, x < H.size → H1[x]? = H[x]? := by rw [hR.2.1]; exact o1
  refine kk H1 (rel_made (ev := .inr (cc, (List.range (nC_ (cc : Int)).toNat).map (fun k => defaultValue (ty_ cc k)))) hR rfl hR.2.2.2 (fun b _ => rfl) ?_ ?_ ⟨q, hq, hborn.to (fun j hj => ?_)⟩ g2 g3) (vaS_made hSS g2 g3)
  · rw [en_obj (s0 := (ce_ s0.1 (szS s0) (dfl_ (cc : Int)), ce_ s0.2.1 (szS s0) (fun _ => -1), s0.2.2.1, szS s0 + 1, nsS s0 + nC_ (cc : Int))) hkd (by omega) (by omega)]
    unfold oe
    rw [Int.toNat_natCast]
    congr 2
    refine List.map_congr_left (fun k hk => ?_)
    have hk2 := List.mem_range.mp hk
    rw [← dfl_ok (z := z) (t := t) (u := u) (cc := cc) (k := k) hcc (by omega)]
    unfold ce_
    simp only [if_true]
  · intro b _ hb
    have hbn : b ≠ szS s0 := by omega
    exact en_other (s0 := s0) (s2 := (ce_ s0.1 (szS s0) (dfl_ (cc : Int)), ce_ s0.2.1 (szS s0) (fun _ => -1), s0.2.2.1, szS s0 + 1, nsS s0 + nC_ (cc : Int))) rfl (fun j => hceM b j hbn) (fun j => hceF b j hbn)
  · rw [hqz] at hj
    show _ = ((List.range (nC_ (cc : Int)).toNat).map (fun k => defaultValue (ty_ cc k))).getD j .null
    rw [List.getD_eq_getElem?_getD, List.getElem?_map, List.getElem?_range hj]
    rfl
set_option maxRecDepth 20000 in
theorem law_long (C0 : lw_At p s m meth c b L xs) (hKK : KK z t u D I s s.heap) (hd : decode code P = .ok (.newarray .long, 2)) (h125 : szS s0 = 125) (hR : Rel z t u D I s0 H) (hSS : va_S (AAz z) s.heap H locs) (q1 : cells + 1 ≤ 601024) (q2 : slots + 1 ≤ 7293034)
    (kk : ∀ H1 : Heap, Rel z t u D I (ce_ s0.1 125 (fun _ => 0), (s0.2.1, s0.2.2.1, 126, nsS s0 + 1)) H1 → va_S (AAz z) s.heap H1 locs → W p l e room_1 s m #[Value.ref b] below meth c H1 locs (cells + 1) (slots + 1) Z (F0 m (P + 2) ls (.ref (z + 125) :: st))) :
    W p l e room_1 s m #[Value.ref b] below meth c H locs cells slots Z (F0 m P ls (.int 1 :: st)) := by
  obtain ⟨hx, hb, hr, hml, hown, hts, hX, hbl2, hlocks, hgv⟩ := C0
  have tysK := hKK.1.2
  have hz : H.size = z + 125 := by rw [hR.2.1, h125]; rfl
  refine va_newaK hx hb (atype := .long) (hts _ (tw_ 325 rfl)) (N := 1) rfl hd rfl (by decide) (by decide) (Nat.le_of_ble_eq_true rfl) q1 q2 hz (fun H' cA g1 g2 g3 g4 g5 => ?_)
  have hcA : cA = I.2.1 := by
    have h5 := (tysK 1 _ rfl).2
    exact Option.some.inj (g5.symm.trans h5)
  subst hcA
  have g2' : H'.size = H.size + 1 := by rw [g2, hz]
  have g3' : ∀ x, x < H.size → H'[x]? = H[x]? := by rw [hz]; exact g3
  refine kk H' (rel_made (ev := .inl (I.2.1, (1, .inr (.inl (fun _ => 0))))) hR (by show (126 : Int) = szS s0 + 1; omega) hR.2.2.2 (fun b _ => rfl) ?_ ?_ ?_ g2' g3') (vaS_made hSS g2' g3')
  · rw [h125]
    rw [en_21 (s0 := (ce_ s0.1 125 (fun _ => 0), (s0.2.1, s0.2.2.1, 126, nsS s0 + 1))) (show kD_ s0.2.2.1 125 = 21 from rfl)]
    rfl
  · intro b b0 hb
    have hbn : b ≠ 125 := by omega
    have hce : ∀ j, ce_ s0.1 125 (fun _ => 0) b j = s0.1 b j := fun j => by unfold ce_; rw [if_neg hbn]
    exact en_other (s0 := s0) (s2 := (ce_ s0.1 125 (fun _ => 0), (s0.2.1, s0.2.2.1, 126, nsS s0 + 1))) rfl hce (fun j => rfl)
  · rw [h125]
    exact g1
def lwI (mj ix : Nat) : Prop := ckY mj = true ∧ is_ mj = 2 ∧ np_ mj = 0 ∧ fr_ mj + 1 ≤ 14 ∧ 8 + (mxl_ mj + 11) + lo_ mj ≤ 588 ∧ 1 ≤ mxl_ mj ∧ bnd_ mj = 0 ∧ Cond.methodLink R_law ix (yn_ mj) ∈ lw_tbl
set_option maxRecDepth 20000 in
theorem law_V {mj ix : Nat} {a : Int} {rest : List aV} {Q : aM → aW → Prop} (C0 : lw_At p s m meth c b L xs) (hz : z = s.heap.size) (hKK : KK z t u D I s s.heap) (hM : lwI mj ix) (hd : decode code P = .ok (.invokespecial ix, 3)) (hex : CallV mj [vR a] s0 Q) (hbl : bld_ 0 s0) (hrest : cats rest ≤ 8) (a0 : 0 ≤ a) (hR : Rel z t u D I s0 H) (hSS : va_S (AAz z) s.heap H locs) (hls : ls.size = 7)
    (hrm : ∀ N W1, Q N W1 → cells + (W1.2.2.1 - szS s0).toNat ≤ 601024 ∧ slots + (W1.2.2.2 - nsS s0).toNat ≤ 7293034)
    (kk : ∀ N W1 H1 locs1, Q N W1 → szS s0 ≤ W1.2.2.1 → nsS s0 ≤ W1.2.2.2 → Rel z t u D I (N, W1) H1 → va_S (AAz z) s.heap H1 locs1 → W p l e room_1 s m #[Value.ref b] below meth c H1 locs1 (cells + (W1.2.2.1 - szS s0).toNat) (slots + (W1.2.2.2 - nsS s0).toNat) Z (F0 m (P + 3) ls (rest.map (cv z t u)))) :
    W p l e room_1 s m #[Value.ref b] below meth c H locs cells slots Z (F0 m P ls (.ref (z + a.toNat) :: rest.map (cv z t u))) := by
  obtain ⟨n, rr, s1, hex, hq⟩ := hex
  rcases rr with _ | x
  · have hq : Q s1.1 s1.2 := hq
    obtain ⟨hx, hb, hr, hml, hown, hts, hX, hbl2, hlocks, hgv⟩ := C0
    obtain ⟨hck, his, hnpz, hfr, hlo, hmx, hbz, hlink⟩ := hM
    obtain ⟨⟨hz1, hn1, -⟩, -⟩ := simA n mj (ent_ mj [vR a] s0) _ s1 hex
    have hz1 : szS s0 ≤ szS s1 := hz1
    have hn1 : nsS s0 ≤ nsS s1 := hn1
    have h0 : 0 ≤ szS s0 := hR.1
    obtain ⟨r1, r2⟩ := hrm s1.1 s1.2 hq
    have hM := met_of hck (simA n) hex (by rw [hbz]; exact hbl) hmx z t u D I l (mc := (szS s1 - szS s0).toNat) (ms := (nsS s1 - nsS s0).toNat) h0 (by omega) (by omega)
    simp only [ckY, Bool.and_eq_true, decide_eq_true_eq] at hck
    obtain ⟨⟨⟨⟨⟨⟨⟨⟨⟨hcode, hini⟩, hcls⟩, hnm1⟩, hnm2⟩, hnp⟩, -⟩, -⟩, -⟩, hinst⟩ := hck
    have hww : ∀ w ∈ ww_, w ∈ lw_tbl := fun w hw => (List.mem_filter.mp hw).1
    have hcode := hw_ok hcode
    have hini := hw_ok hini
    have good : ∀ w ∈ (Cond.code (yn_ mj) (bts_ mj) (mxl_ mj) (rt_ mj) :: ww_), w ∈ lw_tbl ∧ ((w.onTables && w.keeps) = true ∨ ∃ ty, w = .arrayClass ty) := by
      intro w hw
      have hw2 : w ∈ ww_ := by
        rcases List.mem_cons.mp hw with h | h
        · rw [h]; exact hcode
        · exact h
      exact ⟨hww w hw2, good_of_word (List.mem_filter.mp hw2).2⟩
    have hcv : cv z t u (vR a) = .ref (z + a.toNat) := cvR_p a0
    have hpc : ∀ U : State, U.heap = H → s.WarmedH U.vm → va_Pc (([vR a] : List aV).map (cv z t u)) (fun U => Rel z t u D I s0 U.heap ∧ KK z t u D I U U.heap) (([vR a] : List aV).map (cv z t u)).toArray U := by
      intro U hU hW
      refine ⟨rfl, by rw [hU]; exact hR, ?_⟩
      have := hKK.moved (V := U) (H1 := H) hW (fun a q1 q2 => hSS.2.1 a q1 q2)
      rw [hU]
      exact this
    have blind : FrameBlind (va_Pc (([vR a] : List aV).map (cv z t u)) (fun U => Rel z t u D I s0 U.heap ∧ KK z t u D I U U.heap)) := by
      intro a U g mk q
      obtain ⟨q0, q1, q2⟩ := q
      exact ⟨q0, q1, q2.moved (V := U.calling g mk a) (State.WarmedH.refl U) (fun _ _ _ => rfl)⟩
    have base : CallB room_1 s #[Value.ref b] R_law ix (yn_ mj) (bts_ mj) (mxl_ mj) (rt_ mj) (.code (yn_ mj) (bts_ mj) (mxl_ mj) (rt_ mj) :: ww_) { frames := fr_ mj, cells := (szS s1 - szS s0).toNat, slots := (nsS s1 - nsS s0).toNat, locals := lo_ mj } (szS s1 - szS s0).toNat (nsS s1 - nsS s0).toNat (np_ mj) :=
      callB_of (np_ mj) hts good rfl rfl rfl (hts _ (hww _ hini)) (hts _ hlink) ⟨hnm1, hnm2, hnp⟩ ⟨hfr, hlo⟩
    have fixT : CallFix p m c code 7 s #[Value.ref b] lw_tbl R_law := ⟨hx, hb, hml, hown, hts⟩
    have hcatm : ((rest.map (cv z t u)).map fun v => v.category).sum ≤ 8 := by rw [cats_map]; exact hrest
    rw [if_neg (by omega), Bool.and_eq_true, if_pos his, decide_eq_true_eq] at hinst
    have hin := hts _ (hww _ (hw_ok hinst.1))
    rw [rt_ctor his] at hM base good hcode
    rw [List.map_cons, hcv] at hM hpc blind
    refine va_callv (a := ([.ref (z + a.toNat)] : List Value).toArray) (va_runI (As := []) (n := np_ mj) fixT hM ⟨base, hinst.2, hin⟩ ⟨blind, hpc⟩ rfl hnpz.symm hls rfl (lv_room hcatm) hd ⟨r1, r2⟩) hSS (fun q _ h => h) (fun q h => h) (fun u' T H1 locs1 q1 q2 q3 q4 q5 q6 q7 => ?_)
    exact kk s1.1 s1.2 H1 locs1 hq hz1 hn1 (by rw [← q1]; exact q4) q7
  · exact absurd hq (by rcases x with x | x | x <;> exact id)
end LAWN
