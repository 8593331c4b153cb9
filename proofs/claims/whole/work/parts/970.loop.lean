/-! THE LAW: its loop -/
section LOOP
variable {p : Program} {l : Launch} {e : Env} {s : State} {m : MethodId} {below : List Frame} {meth : Method} {c : Code} {b L : Nat} {xs : Nat → Int32}
variable {z t u : Nat} {D : va_G} {I : aI}
theorem nI_ofInt (a : Nat) : nI a = Int32.ofInt (a : Int) := rfl
theorem nI_add6 (k : Nat) : nI (6 * k) + Int32.ofInt 6 = nI (6 * (k + 1)) := by
  rw [show Int32.ofInt 6 = nI 6 from rfl, nI_add]
  rfl
set_option maxHeartbeats 4000000 in
set_option maxRecDepth 20000 in
theorem law_loop (hlt : l.stackTraces = false) (C0 : lw_At p s m meth c b L xs) (hL : L ≤ 3072) (hz : z = s.heap.size) (hKK : KK z t u D I s s.heap) (hXW : XW z s s.heap) (hNc : va_Nc xN xI s) :
    ∀ (n k : Nat), L < 6 * (k + n) → 6 * k ≤ L → ∀ (ls : Array Slot) (H : Heap) (locs : List Loc) (cells slots : Nat) (M : aM) (Wd : aW) (L2 : Int), lv_has ls 7 (lwV b z (6 * k)) → PS L2 M Wd → bld_ 126 (M, Wd) → bud L2 k cells slots → Rel z t u D I (M, Wd) H → va_S (AAz z) s.heap H locs →
      W p l e room_1 s m #[Value.ref b] below meth c H locs cells slots (lw_Z below #[Value.ref b] s) (F0 m 23 ls []) := by
  obtain ⟨hx, hb, hr, hml, hown, hts, hX, hbl, hlocks, hgv⟩ := id C0
  have hbA : ¬ AAz z b := fun q => by
    have q : z ≤ b := q
    omega
  intro n
  induction n with
  | zero => intro k h1 h2; omega
  | succ n ih =>
    intro k h1 h2 ls H locs cells slots M Wd L2 hl hPS hbd hbud hR hS
    have tl : ∀ (ls1 : Array Slot) (H1 : Heap) (locs1 : List Loc) (e1 e2 : Nat) (M1 : aM) (W1 : aW) (L3 : Int), 6 * k + 6 ≤ L → lv_has ls1 7 (lwV b z (6 * k)) → PS L3 M1 W1 → bld_ 126 (M1, W1) → bud L3 (k + 1) e1 e2 → Rel z t u D I (M1, W1) H1 → va_S (AAz z) s.heap H1 locs1 → W p l e room_1 s m #[Value.ref b] below meth c H1 locs1 e1 e2 (lw_Z below #[Value.ref b] s) (F0 m 1123 ls1 []) := fun ls1 H1 locs1 e1 e2 M1 W1 L3 a0 a1 a2 a3 a4 a5 a6 => by
      refine lv_iinc (v := nI (6 * (k + 1))) (lv' := [(4, .int (nI (6 * (k + 1)))), (0, .ref b), (1, .ref z), (2, .ref (z + 86)), (3, .ref (z + 125))]) hx hb dl_1123 a1 (k := 4) rfl (nI_add6 k) (by decide) rfl (fun ls2 hl2 => ?_)
      refine lv_goto (tgt := 23) hx hb dl_1126 (by decide) ?_
      exact ih (k + 1) (by omega) (by omega) ls2 H1 locs1 e1 e2 M1 W1 L3 (lv_sub hl2 [1, 2, 3, 4, 0] rfl) a2 a3 a4 a5 a6
    refine lv_iload hx hb dl_23 (lv_at hl 4 rfl) ?_
    refine lv_aload_n hx hb dl_25 rfl (lv_at hl 0 rfl) ?_
    refine va_slen hx hb hX hbl hbA hS dl_26 ?_
    refine lv_bipush (v := Int32.ofInt 6) hx hb dl_27 rfl ?_
    refine lv_isub hx hb dl_29 ?_
    have eL : nI L - Int32.ofInt 6 = Int32.ofInt ((L : Int) - 6) := by rw [Int32.ofInt_sub]; rfl
    rw [show Int32.ofNat L = nI L from rfl, eL, nI_ofInt]
    refine lv_icmp_gt (tgt := 1129) hx hb dl_30 (by decide) (fun _ => ?_) (fun hc => ?_)
    · refine lv_iconst (v := 1) hx hb dl_1129 (by decide) ?_
      refine va_forget (fun q hq => by have := hS.2.2 q hq; rw [← hz]; exact this) ?_
      have hrm := bud_room hbud (by omega)
      refine W.widen (k := 601024) (n := 7293034) (by omega) (by omega) ?_
      exact lw_ret hx hb hr hlocks dl_1130
    · have hle : 6 * k + 6 ≤ L := by
        have hc2 : ¬ Int32.ofInt ((L : Int) - 6) < Int32.ofInt ((6 * k : Nat) : Int) := hc
        rw [i_lt ⟨by omega, by omega⟩ ⟨by omega, by omega⟩] at hc2
        omega
      refine lv_aload_n hx hb dl_33 rfl (lv_at hl 0 rfl) ?_
      refine lv_iload hx hb dl_34 (lv_at hl 4 rfl) ?_
      refine va_sld hx hb hX hbl hbA hS (vp_in_nI (n := 6 * k) (by omega) (by omega)) dl_36 ?_
      refine lv_bipush (v := Int32.ofInt 31) hx hb dl_37 rfl ?_
      refine lv_iand hx hb dl_39 ?_
      refine lv_topi (fun x ex => ?_)
      by_cases g1 : x.toInt < 0
      · refine lv_tableOut (tgt := 1123) hx hb dl_40 (Or.inl g1) (by decide) ?_
        exact tl ls H locs cells slots M Wd L2 hle hl hPS hbd (bud_k hbud) hR hS
      by_cases g2 : 29 < x.toInt
      · refine lv_tableOut (tgt := 1123) hx hb dl_40 (Or.inr g2) (by decide) ?_
        exact tl ls H locs cells slots M Wd L2 hle hl hPS hbd (bud_k hbud) hR hS
      rcases (show x.toInt = 0 ∨ x.toInt = 1 ∨ x.toInt = 2 ∨ x.toInt = 3 ∨ x.toInt = 4 ∨ x.toInt = 5 ∨ x.toInt = 6 ∨ x.toInt = 7 ∨ x.toInt = 8 ∨ x.toInt = 9 ∨ x.toInt = 10 ∨ x.toInt = 11 ∨ x.toInt = 12 ∨ x.toInt = 13 ∨ x.toInt = 14 ∨ x.toInt = 15 ∨ x.toInt = 16 ∨ x.toInt = 17 ∨ x.toInt = 18 ∨ x.toInt = 19 ∨ x.toInt = 20 ∨ x.toInt = 21 ∨ x.toInt = 22 ∨ x.toInt = 23 ∨ x.toInt = 24 ∨ x.toInt = 25 ∨ x.toInt = 26 ∨ x.toInt = 27 ∨ x.toInt = 28 ∨ x.toInt = 29 by omega) with hq | hq | hq | hq | hq | hq | hq | hq | hq | hq | hq | hq | hq | hq | hq | hq | hq | hq | hq | hq | hq | hq | hq | hq | hq | hq | hq | hq | hq | hq
      · refine lv_tableIn (off := 136) (tgt := 176) hx hb dl_40 g1 g2 (by rw [hq]; rfl) (by decide) ?_
        exact case_feed C0 hL hz hKK hl (by omega) hPS hbd hbud (by omega) hR hS (fun H1 locs1 e1 e2 M1 W1 L3 a2 a3 a4 a5 a6 => tl ls H1 locs1 e1 e2 M1 W1 L3 hle hl a2 a3 (bud_k a4) a5 a6)
      · refine lv_tableIn (off := 209) (tgt := 249) hx hb dl_40 g1 g2 (by rw [hq]; rfl) (by decide) ?_
        exact case_land C0 hL hz hKK hl (by omega) hPS hbd hbud (by omega) hR hS (fun H1 locs1 e1 e2 M1 W1 L3 a2 a3 a4 a5 a6 => tl ls H1 locs1 e1 e2 M1 W1 L3 hle hl a2 a3 (bud_k a4) a5 a6)
      · refine lv_tableIn (off := 234) (tgt := 274) hx hb dl_40 g1 g2 (by rw [hq]; rfl) (by decide) ?_
        exact case_fault C0 hL hz hKK hl (by omega) hPS hbd hbud (by omega) hR hS (fun H1 locs1 e1 e2 M1 W1 L3 a2 a3 a4 a5 a6 => tl ls H1 locs1 e1 e2 M1 W1 L3 hle hl a2 a3 (bud_k a4) a5 a6)
      · refine lv_tableIn (off := 259) (tgt := 299) hx hb dl_40 g1 g2 (by rw [hq]; rfl) (by decide) ?_
        exact case_look hlt C0 hL hz hKK hXW hNc hl (by omega) hPS hbd hbud (by omega) hR hS (fun ls1 H1 locs1 e1 e2 M1 W1 L3 a1 a2 a3 a4 a5 a6 => tl ls1 H1 locs1 e1 e2 M1 W1 L3 hle a1 a2 a3 a4 a5 a6)
      · refine lv_tableIn (off := 327) (tgt := 367) hx hb dl_40 g1 g2 (by rw [hq]; rfl) (by decide) ?_
        exact case_weight C0 hL hz hKK hl (by omega) hPS hbd hbud (by omega) hR hS (fun H1 locs1 e1 e2 M1 W1 L3 a2 a3 a4 a5 a6 => tl ls H1 locs1 e1 e2 M1 W1 L3 hle hl a2 a3 (bud_k a4) a5 a6)
      · refine lv_tableIn (off := 353) (tgt := 393) hx hb dl_40 g1 g2 (by rw [hq]; rfl) (by decide) ?_
        exact case_likely C0 hL hz hKK hl (by omega) hPS hbd hbud (by omega) hR hS (fun H1 locs1 e1 e2 M1 W1 L3 a2 a3 a4 a5 a6 => tl ls H1 locs1 e1 e2 M1 W1 L3 hle hl a2 a3 (bud_k a4) a5 a6)
      · refine lv_tableIn (off := 379) (tgt := 419) hx hb dl_40 g1 g2 (by rw [hq]; rfl) (by decide) ?_
        exact case_shut C0 hL hz hKK hl (by omega) hPS hbd hbud (by omega) hR hS (fun H1 locs1 e1 e2 M1 W1 L3 a2 a3 a4 a5 a6 => tl ls H1 locs1 e1 e2 M1 W1 L3 hle hl a2 a3 (bud_k a4) a5 a6)
      · refine lv_tableIn (off := 417) (tgt := 457) hx hb dl_40 g1 g2 (by rw [hq]; rfl) (by decide) ?_
        exact case_knowing C0 hL hz hKK hl (by omega) hPS hbd hbud (by omega) hR hS (fun H1 locs1 e1 e2 M1 W1 L3 a2 a3 a4 a5 a6 => tl ls H1 locs1 e1 e2 M1 W1 L3 hle hl a2 a3 (bud_k a4) a5 a6)
      · refine lv_tableIn (off := 442) (tgt := 482) hx hb dl_40 g1 g2 (by rw [hq]; rfl) (by decide) ?_
        exact case_mean C0 hL hz hKK hl (by omega) hPS hbd hbud (by omega) hR hS (fun H1 locs1 e1 e2 M1 W1 L3 a2 a3 a4 a5 a6 => tl ls H1 locs1 e1 e2 M1 W1 L3 hle hl a2 a3 (bud_k a4) a5 a6)
      · refine lv_tableIn (off := 468) (tgt := 508) hx hb dl_40 g1 g2 (by rw [hq]; rfl) (by decide) ?_
        exact case_worst C0 hL hz hKK hl (by omega) hPS hbd hbud (by omega) hR hS (fun H1 locs1 e1 e2 M1 W1 L3 a2 a3 a4 a5 a6 => tl ls H1 locs1 e1 e2 M1 W1 L3 hle hl a2 a3 (bud_k a4) a5 a6)
      · refine lv_tableIn (off := 493) (tgt := 533) hx hb dl_40 g1 g2 (by rw [hq]; rfl) (by decide) ?_
        exact case_hours C0 hL hz hKK hl (by omega) hPS hbd hbud (by omega) hR hS (fun H1 locs1 e1 e2 M1 W1 L3 a2 a3 a4 a5 a6 => tl ls H1 locs1 e1 e2 M1 W1 L3 hle hl a2 a3 (bud_k a4) a5 a6)
      · refine lv_tableIn (off := 530) (tgt := 570) hx hb dl_40 g1 g2 (by rw [hq]; rfl) (by decide) ?_
        exact case_times C0 hL hz hKK hl (by omega) hPS hbd hbud (by omega) hR hS (fun H1 locs1 e1 e2 M1 W1 L3 a2 a3 a4 a5 a6 => tl ls H1 locs1 e1 e2 M1 W1 L3 hle hl a2 a3 (bud_k a4) a5 a6)
      · refine lv_tableIn (off := 567) (tgt := 607) hx hb dl_40 g1 g2 (by rw [hq]; rfl) (by decide) ?_
        exact case_next C0 hL hz hKK hl (by omega) hPS hbd hbud (by omega) hR hS (fun H1 locs1 e1 e2 M1 W1 L3 a2 a3 a4 a5 a6 => tl ls H1 locs1 e1 e2 M1 W1 L3 hle hl a2 a3 (bud_k a4) a5 a6)
      · refine lv_tableIn (off := 616) (tgt := 656) hx hb dl_40 g1 g2 (by rw [hq]; rfl) (by decide) ?_
        exact case_from C0 hL hz hKK hl (by omega) hPS hbd hbud (by omega) hR hS (fun H1 locs1 e1 e2 M1 W1 L3 a2 a3 a4 a5 a6 => tl ls H1 locs1 e1 e2 M1 W1 L3 hle hl a2 a3 (bud_k a4) a5 a6)
      · refine lv_tableIn (off := 654) (tgt := 694) hx hb dl_40 g1 g2 (by rw [hq]; rfl) (by decide) ?_
        exact case_row C0 hL hz hKK hl (by omega) hPS hbd hbud (by omega) hR hS (fun H1 locs1 e1 e2 M1 W1 L3 a2 a3 a4 a5 a6 => tl ls H1 locs1 e1 e2 M1 W1 L3 hle hl a2 a3 (bud_k a4) a5 a6)
      · refine lv_tableIn (off := 679) (tgt := 719) hx hb dl_40 g1 g2 (by rw [hq]; rfl) (by decide) ?_
        exact case_clear C0 hL hz hKK hl (by omega) hPS hbd hbud (by omega) hR hS (fun H1 locs1 e1 e2 M1 W1 L3 a2 a3 a4 a5 a6 => tl ls H1 locs1 e1 e2 M1 W1 L3 hle hl a2 a3 (bud_k a4) a5 a6)
      · refine lv_tableIn (off := 692) (tgt := 732) hx hb dl_40 g1 g2 (by rw [hq]; rfl) (by decide) ?_
        exact case_rows C0 hL hz hKK hl (by omega) hPS hbd hbud (by omega) hR hS (fun H1 locs1 e1 e2 M1 W1 L3 a2 a3 a4 a5 a6 => tl ls H1 locs1 e1 e2 M1 W1 L3 hle hl a2 a3 (bud_k a4) a5 a6)
      · refine lv_tableIn (off := 718) (tgt := 758) hx hb dl_40 g1 g2 (by rw [hq]; rfl) (by decide) ?_
        exact case_rule C0 hL hz hKK hl (by omega) hPS hbd hbud (by omega) hR hS (fun H1 locs1 e1 e2 M1 W1 L3 a2 a3 a4 a5 a6 => tl ls H1 locs1 e1 e2 M1 W1 L3 hle hl a2 a3 (bud_k a4) a5 a6)
      · refine lv_tableIn (off := 779) (tgt := 819) hx hb dl_40 g1 g2 (by rw [hq]; rfl) (by decide) ?_
        exact case_ring C0 hL hz hKK hl (by omega) hPS hbd hbud (by omega) hR hS (fun H1 locs1 e1 e2 M1 W1 L3 a2 a3 a4 a5 a6 => tl ls H1 locs1 e1 e2 M1 W1 L3 hle hl a2 a3 (bud_k a4) a5 a6)
      · refine lv_tableIn (off := 804) (tgt := 844) hx hb dl_40 g1 g2 (by rw [hq]; rfl) (by decide) ?_
        exact case_bell C0 hL hz hKK hl (by omega) hPS hbd hbud (by omega) hR hS (fun H1 locs1 e1 e2 M1 W1 L3 a2 a3 a4 a5 a6 => tl ls H1 locs1 e1 e2 M1 W1 L3 hle hl a2 a3 (bud_k a4) a5 a6)
      · refine lv_tableIn (off := 830) (tgt := 870) hx hb dl_40 g1 g2 (by rw [hq]; rfl) (by decide) ?_
        exact case_worth C0 hL hz hKK hl (by omega) hPS hbd hbud (by omega) hR hS (fun H1 locs1 e1 e2 M1 W1 L3 a2 a3 a4 a5 a6 => tl ls H1 locs1 e1 e2 M1 W1 L3 hle hl a2 a3 (bud_k a4) a5 a6)
      · refine lv_tableIn (off := 856) (tgt := 896) hx hb dl_40 g1 g2 (by rw [hq]; rfl) (by decide) ?_
        exact case_scout C0 hL hz hKK hl (by omega) hPS hbd hbud (by omega) hR hS (fun H1 locs1 e1 e2 M1 W1 L3 a2 a3 a4 a5 a6 => tl ls H1 locs1 e1 e2 M1 W1 L3 hle hl a2 a3 (bud_k a4) a5 a6)
      · refine lv_tableIn (off := 894) (tgt := 934) hx hb dl_40 g1 g2 (by rw [hq]; rfl) (by decide) ?_
        exact case_keep C0 hL hz hKK hl (by omega) hPS hbd hbud (by omega) hR hS (fun H1 locs1 e1 e2 M1 W1 L3 a2 a3 a4 a5 a6 => tl ls H1 locs1 e1 e2 M1 W1 L3 hle hl a2 a3 (bud_k a4) a5 a6)
      · refine lv_tableIn (off := 920) (tgt := 960) hx hb dl_40 g1 g2 (by rw [hq]; rfl) (by decide) ?_
        exact case_edge C0 hL hz hKK hl (by omega) hPS hbd hbud (by omega) hR hS (fun H1 locs1 e1 e2 M1 W1 L3 a2 a3 a4 a5 a6 => tl ls H1 locs1 e1 e2 M1 W1 L3 hle hl a2 a3 (bud_k a4) a5 a6)
      · refine lv_tableIn (off := 945) (tgt := 985) hx hb dl_40 g1 g2 (by rw [hq]; rfl) (by decide) ?_
        exact case_begin C0 hL hz hKK hl (by omega) hPS hbd hbud (by omega) hR hS (fun H1 locs1 e1 e2 M1 W1 L3 a2 a3 a4 a5 a6 => tl ls H1 locs1 e1 e2 M1 W1 L3 hle hl a2 a3 (bud_k a4) a5 a6)
      · refine lv_tableIn (off := 970) (tgt := 1010) hx hb dl_40 g1 g2 (by rw [hq]; rfl) (by decide) ?_
        exact case_go C0 hL hz hKK hl (by omega) hPS hbd hbud (by omega) hR hS (fun H1 locs1 e1 e2 M1 W1 L3 a2 a3 a4 a5 a6 => tl ls H1 locs1 e1 e2 M1 W1 L3 hle hl a2 a3 (bud_k a4) a5 a6)
      · refine lv_tableIn (off := 995) (tgt := 1035) hx hb dl_40 g1 g2 (by rw [hq]; rfl) (by decide) ?_
        exact case_buy C0 hL hz hKK hl (by omega) hPS hbd hbud (by omega) hR hS (fun H1 locs1 e1 e2 M1 W1 L3 a2 a3 a4 a5 a6 => tl ls H1 locs1 e1 e2 M1 W1 L3 hle hl a2 a3 (bud_k a4) a5 a6)
      · refine lv_tableIn (off := 1020) (tgt := 1060) hx hb dl_40 g1 g2 (by rw [hq]; rfl) (by decide) ?_
        exact case_back C0 hL hz hKK hl (by omega) hPS hbd hbud (by omega) hR hS (fun H1 locs1 e1 e2 M1 W1 L3 a2 a3 a4 a5 a6 => tl ls H1 locs1 e1 e2 M1 W1 L3 hle hl a2 a3 (bud_k a4) a5 a6)
      · refine lv_tableIn (off := 1033) (tgt := 1073) hx hb dl_40 g1 g2 (by rw [hq]; rfl) (by decide) ?_
        exact case_walk C0 hL hz hKK hl (by omega) hPS hbd hbud (by omega) hR hS (fun H1 locs1 e1 e2 M1 W1 L3 a2 a3 a4 a5 a6 => tl ls H1 locs1 e1 e2 M1 W1 L3 hle hl a2 a3 (bud_k a4) a5 a6)
      · refine lv_tableIn (off := 1058) (tgt := 1098) hx hb dl_40 g1 g2 (by rw [hq]; rfl) (by decide) ?_
        exact case_count C0 hL hz hKK hl (by omega) hPS hbd hbud (by omega) hR hS (fun H1 locs1 e1 e2 M1 W1 L3 a2 a3 a4 a5 a6 => tl ls H1 locs1 e1 e2 M1 W1 L3 hle hl a2 a3 (bud_k a4) a5 a6)
end LOOP
