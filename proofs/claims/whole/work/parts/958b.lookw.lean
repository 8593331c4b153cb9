/-! the words of the two throws -/
abbrev lkI : List Cond := (nx_atoms RX11 112 xI 7 prog_19_method_2_code "java/lang/RuntimeException" ["java/lang/Exception"]).filter vx_no
abbrev lkN : List Cond := (nx_atoms RX11 119 xN 13 prog_30_method_4_code "java/lang/RuntimeException" ["java/lang/Exception"]).filter vx_no
theorem in_ww {w : List Cond} (h : w.all (fun x => lw_tbl.contains x && goodWord x) = true) : ∀ x ∈ w, x ∈ ww_ := by
  intro x hx
  have h1 := List.all_eq_true.mp h x hx
  rw [Bool.and_eq_true] at h1
  exact List.mem_filter.mpr ⟨List.contains_iff_mem.mp h1.1, h1.2⟩
set_option maxRecDepth 20000 in
theorem lkI_ww : ∀ x ∈ lkI.filter goodWord, x ∈ ww_ := in_ww (by decide +kernel)
set_option maxRecDepth 20000 in
theorem lkN_ww : ∀ x ∈ lkN.filter goodWord, x ∈ ww_ := in_ww (by decide +kernel)
/-- the words that go their own way -/
def lkB : List Cond := [.castable xI xI, .castable xN xN, .declares (Bundle.initS "java/lang/RuntimeException"), .declares (Bundle.initS "java/lang/Exception"), .declares (Bundle.initS Bundle.tN)]
set_option maxRecDepth 20000 in
theorem lkI_bad : ∀ w ∈ lkI.filter (fun w => !goodWord w), w ∈ lkB := by decide +kernel
set_option maxRecDepth 20000 in
theorem lkN_bad : ∀ w ∈ lkN.filter (fun w => !goodWord w), w ∈ lkB := by decide +kernel
set_option maxRecDepth 20000 in
theorem lkI_ot : ∀ w ∈ Cond.classLink RX11 108 xI :: Cond.initialized xI :: lkI, vx_ot w = true := by decide +kernel
set_option maxRecDepth 20000 in
theorem lkN_ot : ∀ w ∈ Cond.classLink RX11 115 xN :: Cond.initialized xN :: lkN, vx_ot w = true := by decide +kernel
set_option maxRecDepth 20000 in
theorem lkB_tbl : ∀ w ∈ lkB, w ∈ lw_tbl := by decide +kernel
theorem lkB_ot : ∀ w ∈ lkB, w.onTables = true := by decide +kernel
theorem ww_cI : Cond.classLink RX11 108 xI ∈ ww_ := hw_ok (i := 1218) (by decide +kernel)
theorem ww_cN : Cond.classLink RX11 115 xN ∈ ww_ := hw_ok (i := 1284) (by decide +kernel)
theorem ww_iI : Cond.initialized xI ∈ ww_ := hw_ok (i := 21) (by decide +kernel)
theorem ww_iN : Cond.initialized xN ∈ ww_ := hw_ok (i := 22) (by decide +kernel)
theorem fitI : Bundle.fit xI = true := by decide +kernel
theorem fitN : Bundle.fit xN = true := by decide +kernel
theorem fitR : Bundle.fit "java/lang/RuntimeException" = true := by decide +kernel
theorem fitE : ∀ n ∈ ["java/lang/Exception"], Bundle.fit n = true := by decide +kernel
