theorem ckc_263 : hw_ (cw_ 263) (.code (yn_ 263) (bts_ 263) (mxl_ 263) (rt_ 263)) = true := by
  have h : (ch_ (cw_ 263 / 240))[cw_ 263 % 240]? = some (Cond.code (yn_ 263) (bts_ 263) (mxl_ 263) (rt_ 263)) := by
    exact (Eq.refl _ : (ch_ (cw_ 263 / 240))[cw_ 263 % 240]? = _)
  unfold hw_
  rw [decide_eq_true h]
  rfl
theorem cky_263 : ckY 263 = true := by
  unfold ckY
  simp only [ckc_263, Bool.true_and]
  decide +kernel
set_option maxRecDepth 100000 in
theorem ckm_263_0 : ckP 263 0 64 = true := by decide +kernel
set_option maxRecDepth 100000 in
theorem ckm_263_1 : ckP 263 64 55 = true := by decide +kernel
theorem cka_263 (pc : Nat) (e : aE) (h : code_ 263 pc = some e) : ckE 263 pc e = true := by
  have h0 : pc < 119 := by
    refine Nat.not_le.mp (fun hq => ?_)
    have : code_ 263 pc = none := by
      show cd_263 pc = none
      unfold cd_263
      rw [Nat.ble_eq_true_of_le hq]; rfl
    rw [this] at h; cases h
  by_cases h1 : pc < 64
  · exact ckP_ok ckm_263_0 (by omega) (by omega) h
  by_cases h2 : pc < 119
  · exact ckP_ok ckm_263_1 (by omega) (by omega) h
  omega
theorem ckc_264 : hw_ (cw_ 264) (.code (yn_ 264) (bts_ 264) (mxl_ 264) (rt_ 264)) = true := by
  have h : (ch_ (cw_ 264 / 240))[cw_ 264 % 240]? = some (Cond.code (yn_ 264) (bts_ 264) (mxl_ 264) (rt_ 264)) := by
    exact (Eq.refl _ : (ch_ (cw_ 264 / 240))[cw_ 264 % 240]? = _)
  unfold hw_
  rw [decide_eq_true h]
  rfl
theorem cky_264 : ckY 264 = true := by
  unfold ckY
  simp only [ckc_264, Bool.true_and]
  decide +kernel
set_option maxRecDepth 100000 in
theorem ckm_264_0 : ckP 264 0 64 = true := by decide +kernel
set_option maxRecDepth 100000 in
theorem ckm_264_1 : ckP 264 64 55 = true := by decide +kernel
theorem cka_264 (pc : Nat) (e : aE) (h : code_ 264 pc = some e) : ckE 264 pc e = true := by
  have h0 : pc < 119 := by
    refine Nat.not_le.mp (fun hq => ?_)
    have : code_ 264 pc = none := by
      show cd_264 pc = none
      unfold cd_264
      rw [Nat.ble_eq_true_of_le hq]; rfl
    rw [this] at h; cases h
  by_cases h1 : pc < 64
  · exact ckP_ok ckm_264_0 (by omega) (by omega) h
  by_cases h2 : pc < 119
  · exact ckP_ok ckm_264_1 (by omega) (by omega) h
  omega
theorem ckc_265 : hw_ (cw_ 265) (.code (yn_ 265) (bts_ 265) (mxl_ 265) (rt_ 265)) = true := by
  have h : (ch_ (cw_ 265 / 240))[cw_ 265 % 240]? = some (Cond.code (yn_ 265) (bts_ 265) (mxl_ 265) (rt_ 265)) := by
    exact (Eq.refl _ : (ch_ (cw_ 265 / 240))[cw_ 265 % 240]? = _)
  unfold hw_
  rw [decide_eq_true h]
  rfl
theorem cky_265 : ckY 265 = true := by
  unfold ckY
  simp only [ckc_265, Bool.true_and]
  decide +kernel
set_option maxRecDepth 100000 in
theorem ckm_265_0 : ckP 265 0 53 = true := by decide +kernel
theorem cka_265 (pc : Nat) (e : aE) (h : code_ 265 pc = some e) : ckE 265 pc e = true := by
  have h0 : pc < 53 := by
    refine Nat.not_le.mp (fun hq => ?_)
    have : code_ 265 pc = none := by
      show cd_265 pc = none
      unfold cd_265
      rw [Nat.ble_eq_true_of_le hq]; rfl
    rw [this] at h; cases h
  by_cases h1 : pc < 53
  · exact ckP_ok ckm_265_0 (by omega) (by omega) h
  omega
theorem ckc_266 : hw_ (cw_ 266) (.code (yn_ 266) (bts_ 266) (mxl_ 266) (rt_ 266)) = true := by
  have h : (ch_ (cw_ 266 / 240))[cw_ 266 % 240]? = some (Cond.code (yn_ 266) (bts_ 266) (mxl_ 266) (rt_ 266)) := by
    exact (Eq.refl _ : (ch_ (cw_ 266 / 240))[cw_ 266 % 240]? = _)
  unfold hw_
  rw [decide_eq_true h]
  rfl
theorem cky_266 : ckY 266 = true := by
  unfold ckY
  simp only [ckc_266, Bool.true_and]
  decide +kernel
set_option maxRecDepth 100000 in
theorem ckm_266_0 : ckP 266 0 64 = true := by decide +kernel
set_option maxRecDepth 100000 in
theorem ckm_266_1 : ckP 266 64 25 = true := by decide +kernel
theorem cka_266 (pc : Nat) (e : aE) (h : code_ 266 pc = some e) : ckE 266 pc e = true := by
  have h0 : pc < 89 := by
    refine Nat.not_le.mp (fun hq => ?_)
    have : code_ 266 pc = none := by
      show cd_266 pc = none
      unfold cd_266
      rw [Nat.ble_eq_true_of_le hq]; rfl
    rw [this] at h; cases h
  by_cases h1 : pc < 64
  · exact ckP_ok ckm_266_0 (by omega) (by omega) h
  by_cases h2 : pc < 89
  · exact ckP_ok ckm_266_1 (by omega) (by omega) h
  omega
