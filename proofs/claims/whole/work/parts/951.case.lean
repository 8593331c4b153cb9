/-! THE LAW: its cases -/
section LAWC
variable {p : Program} {l : Launch} {e : Env} {s : State} {m : MethodId} {below : List Frame} {meth : Method} {c : Code} {b L : Nat} {xs : Nat → Int32} {H : Heap} {locs : List Loc} {cells slots : Nat} {Z : State → Prop}
variable {z t u : Nat} {D : va_G} {I : aI} {ls : Array Slot} {i k : Nat} {M : aM} {Wd : aW} {L2 : Int}
theorem case_times (C0 : lw_At p s m meth c b L xs) (hL : L ≤ 3072) (hz : z = s.heap.size) (hKK : KK z t u D I s s.heap) (hl : lv_has ls 7 (lwV b z i)) (hi : i + 5 < L) (hPS : PS L2 M Wd) (hb : bld_ 126 (M, Wd)) (hbud : bud L2 k cells slots) (hk : k ≤ 512) (hR : Rel z t u D I (M, Wd) H) (hSS : va_S (AAz z) s.heap H locs)
    (tail : ∀ (H1 : Heap) (locs1 : List Loc) (e1 e2 : Nat) (M1 : aM) (W1 : aW) (L3 : Int), PS L3 M1 W1 → bld_ 126 (M1, W1) → bud L3 k e1 e2 → Rel z t u D I (M1, W1) H1 → va_S (AAz z) s.heap H1 locs1 → W p l e room_1 s m #[Value.ref b] below meth c H1 locs1 e1 e2 Z (F0 m 1123 ls [])) : W p l e room_1 s m #[Value.ref b] below meth c H locs cells slots Z (F0 m 570 ls []) := by
  refine lv_aload_n C0.1 C0.2.1 dl_570 rfl (lv_at hl 1 rfl) ?_
  refine law_push2 C0 hL hz hSS hl (k := 1) (P := 571) (by decide) (by omega) dl_571 dl_572 dl_574 dl_575 dl_576 ?_
  refine law_push2 C0 hL hz hSS hl (k := 2) (P := 577) (by decide) (by omega) dl_577 dl_578 dl_580 dl_581 dl_582 ?_
  refine law_two_I (P := 583) (Pm := 599) (as' := [vI (xs (i + 1)).toInt, vI (xs (i + 2)).toInt]) C0 hz hKK mth_129 mth_237 rfl rfl dl_583 dl_599 dl_602 (by decide) (Nat.le_of_ble_eq_true rfl) (Nat.le_of_ble_eq_true rfl) rfl rfl (p_times hPS (y_in _) (y_in _)) hb hbud hk hR hSS hl.1 (fun H1 locs1 e1 e2 r hS1 kk => ?_) tail
  refine lv_aload_n C0.1 C0.2.1 dl_586 rfl (lv_at hl 2 rfl) ?_
  refine law_push2 C0 hL hz hS1 hl (k := 1) (P := 587) (by decide) (by omega) dl_587 dl_588 dl_590 dl_591 dl_592 ?_
  refine law_push2 C0 hL hz hS1 hl (k := 2) (P := 593) (by decide) (by omega) dl_593 dl_594 dl_596 dl_597 dl_598 ?_
  exact kk
theorem case_next (C0 : lw_At p s m meth c b L xs) (hL : L ≤ 3072) (hz : z = s.heap.size) (hKK : KK z t u D I s s.heap) (hl : lv_has ls 7 (lwV b z i)) (hi : i + 5 < L) (hPS : PS L2 M Wd) (hb : bld_ 126 (M, Wd)) (hbud : bud L2 k cells slots) (hk : k ≤ 512) (hR : Rel z t u D I (M, Wd) H) (hSS : va_S (AAz z) s.heap H locs)
    (tail : ∀ (H1 : Heap) (locs1 : List Loc) (e1 e2 : Nat) (M1 : aM) (W1 : aW) (L3 : Int), PS L3 M1 W1 → bld_ 126 (M1, W1) → bud L3 k e1 e2 → Rel z t u D I (M1, W1) H1 → va_S (AAz z) s.heap H1 locs1 → W p l e room_1 s m #[Value.ref b] below meth c H1 locs1 e1 e2 Z (F0 m 1123 ls [])) : W p l e room_1 s m #[Value.ref b] below meth c H locs cells slots Z (F0 m 607 ls []) := by
  refine lv_aload_n C0.1 C0.2.1 dl_607 rfl (lv_at hl 1 rfl) ?_
  refine law_push2 C0 hL hz hSS hl (k := 1) (P := 608) (by decide) (by omega) dl_608 dl_609 dl_611 dl_612 dl_613 ?_
  refine law_push2 C0 hL hz hSS hl (k := 2) (P := 614) (by decide) (by omega) dl_614 dl_615 dl_617 dl_618 dl_619 ?_
  refine law_push2 C0 hL hz hSS hl (k := 3) (P := 620) (by decide) (by omega) dl_620 dl_621 dl_623 dl_624 dl_625 ?_
  refine law_two_I (P := 626) (Pm := 648) (as' := [vI (xs (i + 1)).toInt, vI (xs (i + 2)).toInt, vI (xs (i + 3)).toInt]) C0 hz hKK mth_130 mth_238 rfl rfl dl_626 dl_648 dl_651 (by decide) (Nat.le_of_ble_eq_true rfl) (Nat.le_of_ble_eq_true rfl) rfl rfl (p_next hPS (y_in _) (y_in _) (y_in _)) hb hbud hk hR hSS hl.1 (fun H1 locs1 e1 e2 r hS1 kk => ?_) tail
  refine lv_aload_n C0.1 C0.2.1 dl_629 rfl (lv_at hl 2 rfl) ?_
  refine law_push2 C0 hL hz hS1 hl (k := 1) (P := 630) (by decide) (by omega) dl_630 dl_631 dl_633 dl_634 dl_635 ?_
  refine law_push2 C0 hL hz hS1 hl (k := 2) (P := 636) (by decide) (by omega) dl_636 dl_637 dl_639 dl_640 dl_641 ?_
  refine law_push2 C0 hL hz hS1 hl (k := 3) (P := 642) (by decide) (by omega) dl_642 dl_643 dl_645 dl_646 dl_647 ?_
  exact kk
theorem case_from (C0 : lw_At p s m meth c b L xs) (hL : L ≤ 3072) (hz : z = s.heap.size) (hKK : KK z t u D I s s.heap) (hl : lv_has ls 7 (lwV b z i)) (hi : i + 5 < L) (hPS : PS L2 M Wd) (hb : bld_ 126 (M, Wd)) (hbud : bud L2 k cells slots) (hk : k ≤ 512) (hR : Rel z t u D I (M, Wd) H) (hSS : va_S (AAz z) s.heap H locs)
    (tail : ∀ (H1 : Heap) (locs1 : List Loc) (e1 e2 : Nat) (M1 : aM) (W1 : aW) (L3 : Int), PS L3 M1 W1 → bld_ 126 (M1, W1) → bud L3 k e1 e2 → Rel z t u D I (M1, W1) H1 → va_S (AAz z) s.heap H1 locs1 → W p l e room_1 s m #[Value.ref b] below meth c H1 locs1 e1 e2 Z (F0 m 1123 ls [])) : W p l e room_1 s m #[Value.ref b] below meth c H locs cells slots Z (F0 m 656 ls []) := by
  refine lv_aload_n C0.1 C0.2.1 dl_656 rfl (lv_at hl 1 rfl) ?_
  refine law_push2 C0 hL hz hSS hl (k := 1) (P := 657) (by decide) (by omega) dl_657 dl_658 dl_660 dl_661 dl_662 ?_
  refine law_push2 C0 hL hz hSS hl (k := 2) (P := 663) (by decide) (by omega) dl_663 dl_664 dl_666 dl_667 dl_668 ?_
  refine law_two_L (P := 669) (Pm := 685) (as' := [vI (xs (i + 1)).toInt, vI (xs (i + 2)).toInt]) C0 hz hKK mth_131 mth_240 rfl rfl dl_669 dl_685 dl_688 dl_689 (by decide) (Nat.le_of_ble_eq_true rfl) (Nat.le_of_ble_eq_true rfl) rfl rfl (p_from hPS (y_in _) (y_in _)) hb hbud hk hR hSS hl.1 (fun H1 locs1 e1 e2 r hS1 kk => ?_) tail
  refine lv_aload_n C0.1 C0.2.1 dl_672 rfl (lv_at hl 2 rfl) ?_
  refine law_push2 C0 hL hz hS1 hl (k := 1) (P := 673) (by decide) (by omega) dl_673 dl_674 dl_676 dl_677 dl_678 ?_
  refine law_push2 C0 hL hz hS1 hl (k := 2) (P := 679) (by decide) (by omega) dl_679 dl_680 dl_682 dl_683 dl_684 ?_
  exact kk
theorem case_row (C0 : lw_At p s m meth c b L xs) (hL : L ≤ 3072) (hz : z = s.heap.size) (hKK : KK z t u D I s s.heap) (hl : lv_has ls 7 (lwV b z i)) (hi : i + 5 < L) (hPS : PS L2 M Wd) (hb : bld_ 126 (M, Wd)) (hbud : bud L2 k cells slots) (hk : k ≤ 512) (hR : Rel z t u D I (M, Wd) H) (hSS : va_S (AAz z) s.heap H locs)
    (tail : ∀ (H1 : Heap) (locs1 : List Loc) (e1 e2 : Nat) (M1 : aM) (W1 : aW) (L3 : Int), PS L3 M1 W1 → bld_ 126 (M1, W1) → bud L3 k e1 e2 → Rel z t u D I (M1, W1) H1 → va_S (AAz z) s.heap H1 locs1 → W p l e room_1 s m #[Value.ref b] below meth c H1 locs1 e1 e2 Z (F0 m 1123 ls [])) : W p l e room_1 s m #[Value.ref b] below meth c H locs cells slots Z (F0 m 694 ls []) := by
  refine lv_aload_n C0.1 C0.2.1 dl_694 rfl (lv_at hl 1 rfl) ?_
  refine law_push2 C0 hL hz hSS hl (k := 1) (P := 695) (by decide) (by omega) dl_695 dl_696 dl_698 dl_699 dl_700 ?_
  refine law_two_I (P := 701) (Pm := 711) (as' := [vI (xs (i + 1)).toInt]) C0 hz hKK mth_132 mth_241 rfl rfl dl_701 dl_711 dl_714 (by decide) (Nat.le_of_ble_eq_true rfl) (Nat.le_of_ble_eq_true rfl) rfl rfl (p_row hPS (y_in _)) hb hbud hk hR hSS hl.1 (fun H1 locs1 e1 e2 r hS1 kk => ?_) tail
  refine lv_aload_n C0.1 C0.2.1 dl_704 rfl (lv_at hl 2 rfl) ?_
  refine law_push2 C0 hL hz hS1 hl (k := 1) (P := 705) (by decide) (by omega) dl_705 dl_706 dl_708 dl_709 dl_710 ?_
  exact kk
theorem case_clear (C0 : lw_At p s m meth c b L xs) (hL : L ≤ 3072) (hz : z = s.heap.size) (hKK : KK z t u D I s s.heap) (hl : lv_has ls 7 (lwV b z i)) (hi : i + 5 < L) (hPS : PS L2 M Wd) (hb : bld_ 126 (M, Wd)) (hbud : bud L2 k cells slots) (hk : k ≤ 512) (hR : Rel z t u D I (M, Wd) H) (hSS : va_S (AAz z) s.heap H locs)
    (tail : ∀ (H1 : Heap) (locs1 : List Loc) (e1 e2 : Nat) (M1 : aM) (W1 : aW) (L3 : Int), PS L3 M1 W1 → bld_ 126 (M1, W1) → bud L3 k e1 e2 → Rel z t u D I (M1, W1) H1 → va_S (AAz z) s.heap H1 locs1 → W p l e room_1 s m #[Value.ref b] below meth c H1 locs1 e1 e2 Z (F0 m 1123 ls [])) : W p l e room_1 s m #[Value.ref b] below meth c H locs cells slots Z (F0 m 719 ls []) := by
  refine lv_aload_n C0.1 C0.2.1 dl_719 rfl (lv_at hl 1 rfl) ?_
  refine law_two_I (P := 720) (Pm := 724) (as' := []) C0 hz hKK mth_133 mth_242 rfl rfl dl_720 dl_724 dl_727 (by decide) (Nat.le_of_ble_eq_true rfl) (Nat.le_of_ble_eq_true rfl) rfl rfl (p_clear hPS ) hb hbud hk hR hSS hl.1 (fun H1 locs1 e1 e2 r hS1 kk => ?_) tail
  refine lv_aload_n C0.1 C0.2.1 dl_723 rfl (lv_at hl 2 rfl) ?_
  exact kk
theorem case_rows (C0 : lw_At p s m meth c b L xs) (hL : L ≤ 3072) (hz : z = s.heap.size) (hKK : KK z t u D I s s.heap) (hl : lv_has ls 7 (lwV b z i)) (hi : i + 5 < L) (hPS : PS L2 M Wd) (hb : bld_ 126 (M, Wd)) (hbud : bud L2 k cells slots) (hk : k ≤ 512) (hR : Rel z t u D I (M, Wd) H) (hSS : va_S (AAz z) s.heap H locs)
    (tail : ∀ (H1 : Heap) (locs1 : List Loc) (e1 e2 : Nat) (M1 : aM) (W1 : aW) (L3 : Int), PS L3 M1 W1 → bld_ 126 (M1, W1) → bud L3 k e1 e2 → Rel z t u D I (M1, W1) H1 → va_S (AAz z) s.heap H1 locs1 → W p l e room_1 s m #[Value.ref b] below meth c H1 locs1 e1 e2 Z (F0 m 1123 ls [])) : W p l e room_1 s m #[Value.ref b] below meth c H locs cells slots Z (F0 m 732 ls []) := by
  refine lv_aload_n C0.1 C0.2.1 dl_732 rfl (lv_at hl 1 rfl) ?_
  refine law_push2 C0 hL hz hSS hl (k := 1) (P := 733) (by decide) (by omega) dl_733 dl_734 dl_736 dl_737 dl_738 ?_
  refine law_two_L (P := 739) (Pm := 749) (as' := [vI (xs (i + 1)).toInt]) C0 hz hKK mth_134 mth_245 rfl rfl dl_739 dl_749 dl_752 dl_753 (by decide) (Nat.le_of_ble_eq_true rfl) (Nat.le_of_ble_eq_true rfl) rfl rfl (p_rows hPS (y_in _)) hb hbud hk hR hSS hl.1 (fun H1 locs1 e1 e2 r hS1 kk => ?_) tail
  refine lv_aload_n C0.1 C0.2.1 dl_742 rfl (lv_at hl 2 rfl) ?_
  refine law_push2 C0 hL hz hS1 hl (k := 1) (P := 743) (by decide) (by omega) dl_743 dl_744 dl_746 dl_747 dl_748 ?_
  exact kk
theorem case_rule (C0 : lw_At p s m meth c b L xs) (hL : L ≤ 3072) (hz : z = s.heap.size) (hKK : KK z t u D I s s.heap) (hl : lv_has ls 7 (lwV b z i)) (hi : i + 5 < L) (hPS : PS L2 M Wd) (hb : bld_ 126 (M, Wd)) (hbud : bud L2 k cells slots) (hk : k ≤ 512) (hR : Rel z t u D I (M, Wd) H) (hSS : va_S (AAz z) s.heap H locs)
    (tail : ∀ (H1 : Heap) (locs1 : List Loc) (e1 e2 : Nat) (M1 : aM) (W1 : aW) (L3 : Int), PS L3 M1 W1 → bld_ 126 (M1, W1) → bud L3 k e1 e2 → Rel z t u D I (M1, W1) H1 → va_S (AAz z) s.heap H1 locs1 → W p l e room_1 s m #[Value.ref b] below meth c H1 locs1 e1 e2 Z (F0 m 1123 ls [])) : W p l e room_1 s m #[Value.ref b] below meth c H locs cells slots Z (F0 m 758 ls []) := by
  refine lv_aload_n C0.1 C0.2.1 dl_758 rfl (lv_at hl 1 rfl) ?_
  refine law_push2 C0 hL hz hSS hl (k := 1) (P := 759) (by decide) (by omega) dl_759 dl_760 dl_762 dl_763 dl_764 ?_
  refine law_push2 C0 hL hz hSS hl (k := 2) (P := 765) (by decide) (by omega) dl_765 dl_766 dl_768 dl_769 dl_770 ?_
  refine law_push2 C0 hL hz hSS hl (k := 3) (P := 771) (by decide) (by omega) dl_771 dl_772 dl_774 dl_775 dl_776 ?_
  refine law_push2 C0 hL hz hSS hl (k := 4) (P := 777) (by decide) (by omega) dl_777 dl_778 dl_780 dl_781 dl_782 ?_
  refine law_two_I (P := 783) (Pm := 811) (as' := [vI (xs (i + 1)).toInt, vI (xs (i + 2)).toInt, vI (xs (i + 3)).toInt, vI (xs (i + 4)).toInt]) C0 hz hKK mth_135 mth_246 rfl rfl dl_783 dl_811 dl_814 (by decide) (Nat.le_of_ble_eq_true rfl) (Nat.le_of_ble_eq_true rfl) rfl rfl (p_rule hPS (y_in _) (y_in _) (y_in _) (y_in _)) hb hbud hk hR hSS hl.1 (fun H1 locs1 e1 e2 r hS1 kk => ?_) tail
  refine lv_aload_n C0.1 C0.2.1 dl_786 rfl (lv_at hl 2 rfl) ?_
  refine law_push2 C0 hL hz hS1 hl (k := 1) (P := 787) (by decide) (by omega) dl_787 dl_788 dl_790 dl_791 dl_792 ?_
  refine law_push2 C0 hL hz hS1 hl (k := 2) (P := 793) (by decide) (by omega) dl_793 dl_794 dl_796 dl_797 dl_798 ?_
  refine law_push2 C0 hL hz hS1 hl (k := 3) (P := 799) (by decide) (by omega) dl_799 dl_800 dl_802 dl_803 dl_804 ?_
  refine law_push2 C0 hL hz hS1 hl (k := 4) (P := 805) (by decide) (by omega) dl_805 dl_806 dl_808 dl_809 dl_810 ?_
  exact kk
theorem case_ring (C0 : lw_At p s m meth c b L xs) (hL : L ≤ 3072) (hz : z = s.heap.size) (hKK : KK z t u D I s s.heap) (hl : lv_has ls 7 (lwV b z i)) (hi : i + 5 < L) (hPS : PS L2 M Wd) (hb : bld_ 126 (M, Wd)) (hbud : bud L2 k cells slots) (hk : k ≤ 512) (hR : Rel z t u D I (M, Wd) H) (hSS : va_S (AAz z) s.heap H locs)
    (tail : ∀ (H1 : Heap) (locs1 : List Loc) (e1 e2 : Nat) (M1 : aM) (W1 : aW) (L3 : Int), PS L3 M1 W1 → bld_ 126 (M1, W1) → bud L3 k e1 e2 → Rel z t u D I (M1, W1) H1 → va_S (AAz z) s.heap H1 locs1 → W p l e room_1 s m #[Value.ref b] below meth c H1 locs1 e1 e2 Z (F0 m 1123 ls [])) : W p l e room_1 s m #[Value.ref b] below meth c H locs cells slots Z (F0 m 819 ls []) := by
  refine lv_aload_n C0.1 C0.2.1 dl_819 rfl (lv_at hl 1 rfl) ?_
  refine law_push2 C0 hL hz hSS hl (k := 1) (P := 820) (by decide) (by omega) dl_820 dl_821 dl_823 dl_824 dl_825 ?_
  refine law_two_I (P := 826) (Pm := 836) (as' := [vI (xs (i + 1)).toInt]) C0 hz hKK mth_136 mth_247 rfl rfl dl_826 dl_836 dl_839 (by decide) (Nat.le_of_ble_eq_true rfl) (Nat.le_of_ble_eq_true rfl) rfl rfl (p_ring hPS (y_in _)) hb hbud hk hR hSS hl.1 (fun H1 locs1 e1 e2 r hS1 kk => ?_) tail
  refine lv_aload_n C0.1 C0.2.1 dl_829 rfl (lv_at hl 2 rfl) ?_
  refine law_push2 C0 hL hz hS1 hl (k := 1) (P := 830) (by decide) (by omega) dl_830 dl_831 dl_833 dl_834 dl_835 ?_
  exact kk
theorem case_bell (C0 : lw_At p s m meth c b L xs) (hL : L ≤ 3072) (hz : z = s.heap.size) (hKK : KK z t u D I s s.heap) (hl : lv_has ls 7 (lwV b z i)) (hi : i + 5 < L) (hPS : PS L2 M Wd) (hb : bld_ 126 (M, Wd)) (hbud : bud L2 k cells slots) (hk : k ≤ 512) (hR : Rel z t u D I (M, Wd) H) (hSS : va_S (AAz z) s.heap H locs)
    (tail : ∀ (H1 : Heap) (locs1 : List Loc) (e1 e2 : Nat) (M1 : aM) (W1 : aW) (L3 : Int), PS L3 M1 W1 → bld_ 126 (M1, W1) → bud L3 k e1 e2 → Rel z t u D I (M1, W1) H1 → va_S (AAz z) s.heap H1 locs1 → W p l e room_1 s m #[Value.ref b] below meth c H1 locs1 e1 e2 Z (F0 m 1123 ls [])) : W p l e room_1 s m #[Value.ref b] below meth c H locs cells slots Z (F0 m 844 ls []) := by
  refine lv_aload_n C0.1 C0.2.1 dl_844 rfl (lv_at hl 1 rfl) ?_
  refine law_push2 C0 hL hz hSS hl (k := 1) (P := 845) (by decide) (by omega) dl_845 dl_846 dl_848 dl_849 dl_850 ?_
  refine law_two_L (P := 851) (Pm := 861) (as' := [vI (xs (i + 1)).toInt]) C0 hz hKK mth_137 mth_249 rfl rfl dl_851 dl_861 dl_864 dl_865 (by decide) (Nat.le_of_ble_eq_true rfl) (Nat.le_of_ble_eq_true rfl) rfl rfl (p_bell hPS (y_in _)) hb hbud hk hR hSS hl.1 (fun H1 locs1 e1 e2 r hS1 kk => ?_) tail
  refine lv_aload_n C0.1 C0.2.1 dl_854 rfl (lv_at hl 2 rfl) ?_
  refine law_push2 C0 hL hz hS1 hl (k := 1) (P := 855) (by decide) (by omega) dl_855 dl_856 dl_858 dl_859 dl_860 ?_
  exact kk
theorem case_worth (C0 : lw_At p s m meth c b L xs) (hL : L ≤ 3072) (hz : z = s.heap.size) (hKK : KK z t u D I s s.heap) (hl : lv_has ls 7 (lwV b z i)) (hi : i + 5 < L) (hPS : PS L2 M Wd) (hb : bld_ 126 (M, Wd)) (hbud : bud L2 k cells slots) (hk : k ≤ 512) (hR : Rel z t u D I (M, Wd) H) (hSS : va_S (AAz z) s.heap H locs)
    (tail : ∀ (H1 : Heap) (locs1 : List Loc) (e1 e2 : Nat) (M1 : aM) (W1 : aW) (L3 : Int), PS L3 M1 W1 → bld_ 126 (M1, W1) → bud L3 k e1 e2 → Rel z t u D I (M1, W1) H1 → va_S (AAz z) s.heap H1 locs1 → W p l e room_1 s m #[Value.ref b] below meth c H1 locs1 e1 e2 Z (F0 m 1123 ls [])) : W p l e room_1 s m #[Value.ref b] below meth c H locs cells slots Z (F0 m 870 ls []) := by
  refine lv_aload_n C0.1 C0.2.1 dl_870 rfl (lv_at hl 1 rfl) ?_
  refine law_push2 C0 hL hz hSS hl (k := 1) (P := 871) (by decide) (by omega) dl_871 dl_872 dl_874 dl_875 dl_876 ?_
  refine law_two_L (P := 877) (Pm := 887) (as' := [vI (xs (i + 1)).toInt]) C0 hz hKK mth_138 mth_254 rfl rfl dl_877 dl_887 dl_890 dl_891 (by decide) (Nat.le_of_ble_eq_true rfl) (Nat.le_of_ble_eq_true rfl) rfl rfl (p_worth hPS (y_in _)) hb hbud hk hR hSS hl.1 (fun H1 locs1 e1 e2 r hS1 kk => ?_) tail
  refine lv_aload_n C0.1 C0.2.1 dl_880 rfl (lv_at hl 2 rfl) ?_
  refine law_push2 C0 hL hz hS1 hl (k := 1) (P := 881) (by decide) (by omega) dl_881 dl_882 dl_884 dl_885 dl_886 ?_
  exact kk
end LAWC
