theorem ckc_152 : hw_ (cw_ 152) (.code (yn_ 152) (bts_ 152) (mxl_ 152) (rt_ 152)) = true := by
  have h : (ch_ (cw_ 152 / 240))[cw_ 152 % 240]? = some (Cond.code (yn_ 152) (bts_ 152) (mxl_ 152) (rt_ 152)) := by
    exact (Eq.refl _ : (ch_ (cw_ 152 / 240))[cw_ 152 % 240]? = _)
  unfold hw_
  rw [decide_eq_true h]
  rfl
theorem cky_152 : ckY 152 = true := by
  unfold ckY
  simp only [ckc_152, Bool.true_and]
  decide +kernel
set_option maxRecDepth 100000 in
theorem ckm_152_0 : ckP 152 0 64 = true := by decide +kernel
set_option maxRecDepth 100000 in
theorem ckm_152_1 : ckP 152 64 64 = true := by decide +kernel
set_option maxRecDepth 100000 in
theorem ckm_152_2 : ckP 152 128 64 = true := by decide +kernel
set_option maxRecDepth 100000 in
theorem ckm_152_3 : ckP 152 192 64 = true := by decide +kernel
set_option maxRecDepth 100000 in
theorem ckm_152_4 : ckP 152 256 64 = true := by decide +kernel
set_option maxRecDepth 100000 in
theorem ckm_152_5 : ckP 152 320 64 = true := by decide +kernel
set_option maxRecDepth 100000 in
theorem ckm_152_6 : ckP 152 384 64 = true := by decide +kernel
set_option maxRecDepth 100000 in
theorem ckm_152_7 : ckP 152 448 64 = true := by decide +kernel
set_option maxRecDepth 100000 in
theorem ckm_152_8 : ckP 152 512 64 = true := by decide +kernel
set_option maxRecDepth 100000 in
theorem ckm_152_9 : ckP 152 576 32 = true := by decide +kernel
theorem cka_152 (pc : Nat) (e : aE) (h : code_ 152 pc = some e) : ckE 152 pc e = true := by
  have h0 : pc < 608 := by
    refine Nat.not_le.mp (fun hq => ?_)
    have : code_ 152 pc = none := by
      show cd_152 pc = none
      unfold cd_152
      rw [Nat.ble_eq_true_of_le hq]; rfl
    rw [this] at h; cases h
  by_cases h1 : pc < 64
  · exact ckP_ok ckm_152_0 (by omega) (by omega) h
  by_cases h2 : pc < 128
  · exact ckP_ok ckm_152_1 (by omega) (by omega) h
  by_cases h3 : pc < 192
  · exact ckP_ok ckm_152_2 (by omega) (by omega) h
  by_cases h4 : pc < 256
  · exact ckP_ok ckm_152_3 (by omega) (by omega) h
  by_cases h5 : pc < 320
  · exact ckP_ok ckm_152_4 (by omega) (by omega) h
  by_cases h6 : pc < 384
  · exact ckP_ok ckm_152_5 (by omega) (by omega) h
  by_cases h7 : pc < 448
  · exact ckP_ok ckm_152_6 (by omega) (by omega) h
  by_cases h8 : pc < 512
  · exact ckP_ok ckm_152_7 (by omega) (by omega) h
  by_cases h9 : pc < 576
  · exact ckP_ok ckm_152_8 (by omega) (by omega) h
  by_cases h10 : pc < 608
  · exact ckP_ok ckm_152_9 (by omega) (by omega) h
  omega
