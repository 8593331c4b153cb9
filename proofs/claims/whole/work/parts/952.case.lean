/-! THE LAW: its cases -/
section LAWC
variable {p : Program} {l : Launch} {e : Env} {s : State} {m : MethodId} {below : List Frame} {meth : Method} {c : Code} {b L : Nat} {xs : Nat → Int32} {H : Heap} {locs : List Loc} {cells slots : Nat} {Z : State → Prop}
variable {z t u : Nat} {D : va_G} {I : aI} {ls : Array Slot} {i k : Nat} {M : aM} {Wd : aW} {L2 : Int}
theorem case_scout (C0 : lw_At p s m meth c b L xs) (hL : L ≤ 3072) (hz : z = s.heap.size) (hKK : KK z t u D I s s.heap) (hl : lv_has ls 7 (lwV b z i)) (hi : i + 5 < L) (hPS : PS L2 M Wd) (hb : bld_ 126 (M, Wd)) (hbud : bud L2 k cells slots) (hk : k ≤ 512) (hR : Rel z t u D I (M, Wd) H) (hSS : va_S (AAz z) s.heap H locs)
    (tail : ∀ (H1 : Heap) (locs1 : List Loc) (e1 e2 : Nat) (M1 : aM) (W1 : aW) (L3 : Int), PS L3 M1 W1 → bld_ 126 (M1, W1) → bud L3 k e1 e2 → Rel z t u D I (M1, W1) H1 → va_S (AAz z) s.heap H1 locs1 → W p l e room_1 s m #[Value.ref b] below meth c H1 locs1 e1 e2 Z (F0 m 1123 ls [])) : W p l e room_1 s m #[Value.ref b] below meth c H locs cells slots Z (F0 m 896 ls []) := by
  refine lv_aload_n C0.1 C0.2.1 dl_896 rfl (lv_at hl 1 rfl) ?_
  refine law_push2 C0 hL hz hSS hl (k := 1) (P := 897) (by decide) (by omega) dl_897 dl_898 dl_900 dl_901 dl_902 ?_
  refine law_push2 C0 hL hz hSS hl (k := 2) (P := 903) (by decide) (by omega) dl_903 dl_904 dl_906 dl_907 dl_908 ?_
  refine law_two_L (P := 909) (Pm := 925) (as' := [vI (xs (i + 1)).toInt, vI (xs (i + 2)).toInt]) C0 hz hKK mth_139 mth_255 rfl rfl dl_909 dl_925 dl_928 dl_929 (by decide) (Nat.le_of_ble_eq_true rfl) (Nat.le_of_ble_eq_true rfl) rfl rfl (p_scout hPS (y_in _) (y_in _)) hb hbud hk hR hSS hl.1 (fun H1 locs1 e1 e2 r hS1 kk => ?_) tail
  refine lv_aload_n C0.1 C0.2.1 dl_912 rfl (lv_at hl 2 rfl) ?_
  refine law_push2 C0 hL hz hS1 hl (k := 1) (P := 913) (by decide) (by omega) dl_913 dl_914 dl_916 dl_917 dl_918 ?_
  refine law_push2 C0 hL hz hS1 hl (k := 2) (P := 919) (by decide) (by omega) dl_919 dl_920 dl_922 dl_923 dl_924 ?_
  exact kk
theorem case_keep (C0 : lw_At p s m meth c b L xs) (hL : L ≤ 3072) (hz : z = s.heap.size) (hKK : KK z t u D I s s.heap) (hl : lv_has ls 7 (lwV b z i)) (hi : i + 5 < L) (hPS : PS L2 M Wd) (hb : bld_ 126 (M, Wd)) (hbud : bud L2 k cells slots) (hk : k ≤ 512) (hR : Rel z t u D I (M, Wd) H) (hSS : va_S (AAz z) s.heap H locs)
    (tail : ∀ (H1 : Heap) (locs1 : List Loc) (e1 e2 : Nat) (M1 : aM) (W1 : aW) (L3 : Int), PS L3 M1 W1 → bld_ 126 (M1, W1) → bud L3 k e1 e2 → Rel z t u D I (M1, W1) H1 → va_S (AAz z) s.heap H1 locs1 → W p l e room_1 s m #[Value.ref b] below meth c H1 locs1 e1 e2 Z (F0 m 1123 ls [])) : W p l e room_1 s m #[Value.ref b] below meth c H locs cells slots Z (F0 m 934 ls []) := by
  refine lv_aload_n C0.1 C0.2.1 dl_934 rfl (lv_at hl 1 rfl) ?_
  refine law_push2 C0 hL hz hSS hl (k := 1) (P := 935) (by decide) (by omega) dl_935 dl_936 dl_938 dl_939 dl_940 ?_
  refine law_two_L (P := 941) (Pm := 951) (as' := [vI (xs (i + 1)).toInt]) C0 hz hKK mth_140 mth_256 rfl rfl dl_941 dl_951 dl_954 dl_955 (by decide) (Nat.le_of_ble_eq_true rfl) (Nat.le_of_ble_eq_true rfl) rfl rfl (p_keep hPS (y_in _)) hb hbud hk hR hSS hl.1 (fun H1 locs1 e1 e2 r hS1 kk => ?_) tail
  refine lv_aload_n C0.1 C0.2.1 dl_944 rfl (lv_at hl 2 rfl) ?_
  refine law_push2 C0 hL hz hS1 hl (k := 1) (P := 945) (by decide) (by omega) dl_945 dl_946 dl_948 dl_949 dl_950 ?_
  exact kk
theorem case_edge (C0 : lw_At p s m meth c b L xs) (hL : L ≤ 3072) (hz : z = s.heap.size) (hKK : KK z t u D I s s.heap) (hl : lv_has ls 7 (lwV b z i)) (hi : i + 5 < L) (hPS : PS L2 M Wd) (hb : bld_ 126 (M, Wd)) (hbud : bud L2 k cells slots) (hk : k ≤ 512) (hR : Rel z t u D I (M, Wd) H) (hSS : va_S (AAz z) s.heap H locs)
    (tail : ∀ (H1 : Heap) (locs1 : List Loc) (e1 e2 : Nat) (M1 : aM) (W1 : aW) (L3 : Int), PS L3 M1 W1 → bld_ 126 (M1, W1) → bud L3 k e1 e2 → Rel z t u D I (M1, W1) H1 → va_S (AAz z) s.heap H1 locs1 → W p l e room_1 s m #[Value.ref b] below meth c H1 locs1 e1 e2 Z (F0 m 1123 ls [])) : W p l e room_1 s m #[Value.ref b] below meth c H locs cells slots Z (F0 m 960 ls []) := by
  refine lv_aload_n C0.1 C0.2.1 dl_960 rfl (lv_at hl 1 rfl) ?_
  refine law_push2 C0 hL hz hSS hl (k := 1) (P := 961) (by decide) (by omega) dl_961 dl_962 dl_964 dl_965 dl_966 ?_
  refine law_two_I (P := 967) (Pm := 977) (as' := [vI (xs (i + 1)).toInt]) C0 hz hKK mth_141 mth_257 rfl rfl dl_967 dl_977 dl_980 (by decide) (Nat.le_of_ble_eq_true rfl) (Nat.le_of_ble_eq_true rfl) rfl rfl (p_edge hPS (y_in _)) hb hbud hk hR hSS hl.1 (fun H1 locs1 e1 e2 r hS1 kk => ?_) tail
  refine lv_aload_n C0.1 C0.2.1 dl_970 rfl (lv_at hl 2 rfl) ?_
  refine law_push2 C0 hL hz hS1 hl (k := 1) (P := 971) (by decide) (by omega) dl_971 dl_972 dl_974 dl_975 dl_976 ?_
  exact kk
theorem case_begin (C0 : lw_At p s m meth c b L xs) (hL : L ≤ 3072) (hz : z = s.heap.size) (hKK : KK z t u D I s s.heap) (hl : lv_has ls 7 (lwV b z i)) (hi : i + 5 < L) (hPS : PS L2 M Wd) (hb : bld_ 126 (M, Wd)) (hbud : bud L2 k cells slots) (hk : k ≤ 512) (hR : Rel z t u D I (M, Wd) H) (hSS : va_S (AAz z) s.heap H locs)
    (tail : ∀ (H1 : Heap) (locs1 : List Loc) (e1 e2 : Nat) (M1 : aM) (W1 : aW) (L3 : Int), PS L3 M1 W1 → bld_ 126 (M1, W1) → bud L3 k e1 e2 → Rel z t u D I (M1, W1) H1 → va_S (AAz z) s.heap H1 locs1 → W p l e room_1 s m #[Value.ref b] below meth c H1 locs1 e1 e2 Z (F0 m 1123 ls [])) : W p l e room_1 s m #[Value.ref b] below meth c H locs cells slots Z (F0 m 985 ls []) := by
  refine lv_aload_n C0.1 C0.2.1 dl_985 rfl (lv_at hl 1 rfl) ?_
  refine law_push2 C0 hL hz hSS hl (k := 1) (P := 986) (by decide) (by omega) dl_986 dl_987 dl_989 dl_990 dl_991 ?_
  refine law_two_I (P := 992) (Pm := 1002) (as' := [vI (xs (i + 1)).toInt]) C0 hz hKK mth_142 mth_258 rfl rfl dl_992 dl_1002 dl_1005 (by decide) (Nat.le_of_ble_eq_true rfl) (Nat.le_of_ble_eq_true rfl) rfl rfl (p_begin hPS (y_in _)) hb hbud hk hR hSS hl.1 (fun H1 locs1 e1 e2 r hS1 kk => ?_) tail
  refine lv_aload_n C0.1 C0.2.1 dl_995 rfl (lv_at hl 2 rfl) ?_
  refine law_push2 C0 hL hz hS1 hl (k := 1) (P := 996) (by decide) (by omega) dl_996 dl_997 dl_999 dl_1000 dl_1001 ?_
  exact kk
theorem case_go (C0 : lw_At p s m meth c b L xs) (hL : L ≤ 3072) (hz : z = s.heap.size) (hKK : KK z t u D I s s.heap) (hl : lv_has ls 7 (lwV b z i)) (hi : i + 5 < L) (hPS : PS L2 M Wd) (hb : bld_ 126 (M, Wd)) (hbud : bud L2 k cells slots) (hk : k ≤ 512) (hR : Rel z t u D I (M, Wd) H) (hSS : va_S (AAz z) s.heap H locs)
    (tail : ∀ (H1 : Heap) (locs1 : List Loc) (e1 e2 : Nat) (M1 : aM) (W1 : aW) (L3 : Int), PS L3 M1 W1 → bld_ 126 (M1, W1) → bud L3 k e1 e2 → Rel z t u D I (M1, W1) H1 → va_S (AAz z) s.heap H1 locs1 → W p l e room_1 s m #[Value.ref b] below meth c H1 locs1 e1 e2 Z (F0 m 1123 ls [])) : W p l e room_1 s m #[Value.ref b] below meth c H locs cells slots Z (F0 m 1010 ls []) := by
  refine lv_aload_n C0.1 C0.2.1 dl_1010 rfl (lv_at hl 1 rfl) ?_
  refine law_push2 C0 hL hz hSS hl (k := 1) (P := 1011) (by decide) (by omega) dl_1011 dl_1012 dl_1014 dl_1015 dl_1016 ?_
  refine law_two_I (P := 1017) (Pm := 1027) (as' := [vI (xs (i + 1)).toInt]) C0 hz hKK mth_143 mth_260 rfl rfl dl_1017 dl_1027 dl_1030 (by decide) (Nat.le_of_ble_eq_true rfl) (Nat.le_of_ble_eq_true rfl) rfl rfl (p_go hPS (y_in _)) hb hbud hk hR hSS hl.1 (fun H1 locs1 e1 e2 r hS1 kk => ?_) tail
  refine lv_aload_n C0.1 C0.2.1 dl_1020 rfl (lv_at hl 2 rfl) ?_
  refine law_push2 C0 hL hz hS1 hl (k := 1) (P := 1021) (by decide) (by omega) dl_1021 dl_1022 dl_1024 dl_1025 dl_1026 ?_
  exact kk
theorem case_buy (C0 : lw_At p s m meth c b L xs) (hL : L ≤ 3072) (hz : z = s.heap.size) (hKK : KK z t u D I s s.heap) (hl : lv_has ls 7 (lwV b z i)) (hi : i + 5 < L) (hPS : PS L2 M Wd) (hb : bld_ 126 (M, Wd)) (hbud : bud L2 k cells slots) (hk : k ≤ 512) (hR : Rel z t u D I (M, Wd) H) (hSS : va_S (AAz z) s.heap H locs)
    (tail : ∀ (H1 : Heap) (locs1 : List Loc) (e1 e2 : Nat) (M1 : aM) (W1 : aW) (L3 : Int), PS L3 M1 W1 → bld_ 126 (M1, W1) → bud L3 k e1 e2 → Rel z t u D I (M1, W1) H1 → va_S (AAz z) s.heap H1 locs1 → W p l e room_1 s m #[Value.ref b] below meth c H1 locs1 e1 e2 Z (F0 m 1123 ls [])) : W p l e room_1 s m #[Value.ref b] below meth c H locs cells slots Z (F0 m 1035 ls []) := by
  refine lv_aload_n C0.1 C0.2.1 dl_1035 rfl (lv_at hl 1 rfl) ?_
  refine law_push2 C0 hL hz hSS hl (k := 1) (P := 1036) (by decide) (by omega) dl_1036 dl_1037 dl_1039 dl_1040 dl_1041 ?_
  refine law_two_I (P := 1042) (Pm := 1052) (as' := [vI (xs (i + 1)).toInt]) C0 hz hKK mth_144 mth_261 rfl rfl dl_1042 dl_1052 dl_1055 (by decide) (Nat.le_of_ble_eq_true rfl) (Nat.le_of_ble_eq_true rfl) rfl rfl (p_buy hPS (y_in _)) hb hbud hk hR hSS hl.1 (fun H1 locs1 e1 e2 r hS1 kk => ?_) tail
  refine lv_aload_n C0.1 C0.2.1 dl_1045 rfl (lv_at hl 2 rfl) ?_
  refine law_push2 C0 hL hz hS1 hl (k := 1) (P := 1046) (by decide) (by omega) dl_1046 dl_1047 dl_1049 dl_1050 dl_1051 ?_
  exact kk
theorem case_back (C0 : lw_At p s m meth c b L xs) (hL : L ≤ 3072) (hz : z = s.heap.size) (hKK : KK z t u D I s s.heap) (hl : lv_has ls 7 (lwV b z i)) (hi : i + 5 < L) (hPS : PS L2 M Wd) (hb : bld_ 126 (M, Wd)) (hbud : bud L2 k cells slots) (hk : k ≤ 512) (hR : Rel z t u D I (M, Wd) H) (hSS : va_S (AAz z) s.heap H locs)
    (tail : ∀ (H1 : Heap) (locs1 : List Loc) (e1 e2 : Nat) (M1 : aM) (W1 : aW) (L3 : Int), PS L3 M1 W1 → bld_ 126 (M1, W1) → bud L3 k e1 e2 → Rel z t u D I (M1, W1) H1 → va_S (AAz z) s.heap H1 locs1 → W p l e room_1 s m #[Value.ref b] below meth c H1 locs1 e1 e2 Z (F0 m 1123 ls [])) : W p l e room_1 s m #[Value.ref b] below meth c H locs cells slots Z (F0 m 1060 ls []) := by
  refine lv_aload_n C0.1 C0.2.1 dl_1060 rfl (lv_at hl 1 rfl) ?_
  refine law_two_I (P := 1061) (Pm := 1065) (as' := []) C0 hz hKK mth_145 mth_262 rfl rfl dl_1061 dl_1065 dl_1068 (by decide) (Nat.le_of_ble_eq_true rfl) (Nat.le_of_ble_eq_true rfl) rfl rfl (p_back hPS ) hb hbud hk hR hSS hl.1 (fun H1 locs1 e1 e2 r hS1 kk => ?_) tail
  refine lv_aload_n C0.1 C0.2.1 dl_1064 rfl (lv_at hl 2 rfl) ?_
  exact kk
theorem case_walk (C0 : lw_At p s m meth c b L xs) (hL : L ≤ 3072) (hz : z = s.heap.size) (hKK : KK z t u D I s s.heap) (hl : lv_has ls 7 (lwV b z i)) (hi : i + 5 < L) (hPS : PS L2 M Wd) (hb : bld_ 126 (M, Wd)) (hbud : bud L2 k cells slots) (hk : k ≤ 512) (hR : Rel z t u D I (M, Wd) H) (hSS : va_S (AAz z) s.heap H locs)
    (tail : ∀ (H1 : Heap) (locs1 : List Loc) (e1 e2 : Nat) (M1 : aM) (W1 : aW) (L3 : Int), PS L3 M1 W1 → bld_ 126 (M1, W1) → bud L3 k e1 e2 → Rel z t u D I (M1, W1) H1 → va_S (AAz z) s.heap H1 locs1 → W p l e room_1 s m #[Value.ref b] below meth c H1 locs1 e1 e2 Z (F0 m 1123 ls [])) : W p l e room_1 s m #[Value.ref b] below meth c H locs cells slots Z (F0 m 1073 ls []) := by
  refine lv_aload_n C0.1 C0.2.1 dl_1073 rfl (lv_at hl 1 rfl) ?_
  refine law_push2 C0 hL hz hSS hl (k := 1) (P := 1074) (by decide) (by omega) dl_1074 dl_1075 dl_1077 dl_1078 dl_1079 ?_
  refine law_two_I (P := 1080) (Pm := 1090) (as' := [vI (xs (i + 1)).toInt]) C0 hz hKK mth_146 mth_263 rfl rfl dl_1080 dl_1090 dl_1093 (by decide) (Nat.le_of_ble_eq_true rfl) (Nat.le_of_ble_eq_true rfl) rfl rfl (p_walk hPS (y_in _)) hb hbud hk hR hSS hl.1 (fun H1 locs1 e1 e2 r hS1 kk => ?_) tail
  refine lv_aload_n C0.1 C0.2.1 dl_1083 rfl (lv_at hl 2 rfl) ?_
  refine law_push2 C0 hL hz hS1 hl (k := 1) (P := 1084) (by decide) (by omega) dl_1084 dl_1085 dl_1087 dl_1088 dl_1089 ?_
  exact kk
theorem case_count (C0 : lw_At p s m meth c b L xs) (hL : L ≤ 3072) (hz : z = s.heap.size) (hKK : KK z t u D I s s.heap) (hl : lv_has ls 7 (lwV b z i)) (hi : i + 5 < L) (hPS : PS L2 M Wd) (hb : bld_ 126 (M, Wd)) (hbud : bud L2 k cells slots) (hk : k ≤ 512) (hR : Rel z t u D I (M, Wd) H) (hSS : va_S (AAz z) s.heap H locs)
    (tail : ∀ (H1 : Heap) (locs1 : List Loc) (e1 e2 : Nat) (M1 : aM) (W1 : aW) (L3 : Int), PS L3 M1 W1 → bld_ 126 (M1, W1) → bud L3 k e1 e2 → Rel z t u D I (M1, W1) H1 → va_S (AAz z) s.heap H1 locs1 → W p l e room_1 s m #[Value.ref b] below meth c H1 locs1 e1 e2 Z (F0 m 1123 ls [])) : W p l e room_1 s m #[Value.ref b] below meth c H locs cells slots Z (F0 m 1098 ls []) := by
  refine lv_aload_n C0.1 C0.2.1 dl_1098 rfl (lv_at hl 1 rfl) ?_
  refine law_push2 C0 hL hz hSS hl (k := 1) (P := 1099) (by decide) (by omega) dl_1099 dl_1100 dl_1102 dl_1103 dl_1104 ?_
  refine law_two_I (P := 1105) (Pm := 1115) (as' := [vI (xs (i + 1)).toInt]) C0 hz hKK mth_147 mth_264 rfl rfl dl_1105 dl_1115 dl_1118 (by decide) (Nat.le_of_ble_eq_true rfl) (Nat.le_of_ble_eq_true rfl) rfl rfl (p_count hPS (y_in _)) hb hbud hk hR hSS hl.1 (fun H1 locs1 e1 e2 r hS1 kk => ?_) tail
  refine lv_aload_n C0.1 C0.2.1 dl_1108 rfl (lv_at hl 2 rfl) ?_
  refine law_push2 C0 hL hz hS1 hl (k := 1) (P := 1109) (by decide) (by omega) dl_1109 dl_1110 dl_1112 dl_1113 dl_1114 ?_
  exact kk
end LAWC
