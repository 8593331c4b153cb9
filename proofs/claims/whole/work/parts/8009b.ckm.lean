theorem ckc_247 : hw_ (cw_ 247) (.code (yn_ 247) (bts_ 247) (mxl_ 247) (rt_ 247)) = true := by
  have h : (ch_ (cw_ 247 / 240))[cw_ 247 % 240]? = some (Cond.code (yn_ 247) (bts_ 247) (mxl_ 247) (rt_ 247)) := by
    exact (Eq.refl _ : (ch_ (cw_ 247 / 240))[cw_ 247 % 240]? = _)
  unfold hw_
  rw [decide_eq_true h]
  rfl
theorem cky_247 : ckY 247 = true := by
  unfold ckY
  simp only [ckc_247, Bool.true_and]
  decide +kernel
set_option maxRecDepth 100000 in
theorem ckm_247_0 : ckP 247 0 64 = true := by decide +kernel
set_option maxRecDepth 100000 in
theorem ckm_247_1 : ckP 247 64 2 = true := by decide +kernel
theorem cka_247 (pc : Nat) (e : aE) (h : code_ 247 pc = some e) : ckE 247 pc e = true := by
  have h0 : pc < 66 := by
    refine Nat.not_le.mp (fun hq => ?_)
    have : code_ 247 pc = none := by
      show cd_247 pc = none
      unfold cd_247
      rw [Nat.ble_eq_true_of_le hq]; rfl
    rw [this] at h; cases h
  by_cases h1 : pc < 64
  · exact ckP_ok ckm_247_0 (by omega) (by omega) h
  by_cases h2 : pc < 66
  · exact ckP_ok ckm_247_1 (by omega) (by omega) h
  omega
theorem ckc_248 : hw_ (cw_ 248) (.code (yn_ 248) (bts_ 248) (mxl_ 248) (rt_ 248)) = true := by
  have h : (ch_ (cw_ 248 / 240))[cw_ 248 % 240]? = some (Cond.code (yn_ 248) (bts_ 248) (mxl_ 248) (rt_ 248)) := by
    exact (Eq.refl _ : (ch_ (cw_ 248 / 240))[cw_ 248 % 240]? = _)
  unfold hw_
  rw [decide_eq_true h]
  rfl
theorem cky_248 : ckY 248 = true := by
  unfold ckY
  simp only [ckc_248, Bool.true_and]
  decide +kernel
set_option maxRecDepth 100000 in
theorem ckm_248_0 : ckP 248 0 64 = true := by decide +kernel
set_option maxRecDepth 100000 in
theorem ckm_248_1 : ckP 248 64 54 = true := by decide +kernel
theorem cka_248 (pc : Nat) (e : aE) (h : code_ 248 pc = some e) : ckE 248 pc e = true := by
  have h0 : pc < 118 := by
    refine Nat.not_le.mp (fun hq => ?_)
    have : code_ 248 pc = none := by
      show cd_248 pc = none
      unfold cd_248
      rw [Nat.ble_eq_true_of_le hq]; rfl
    rw [this] at h; cases h
  by_cases h1 : pc < 64
  · exact ckP_ok ckm_248_0 (by omega) (by omega) h
  by_cases h2 : pc < 118
  · exact ckP_ok ckm_248_1 (by omega) (by omega) h
  omega
theorem ckc_249 : hw_ (cw_ 249) (.code (yn_ 249) (bts_ 249) (mxl_ 249) (rt_ 249)) = true := by
  have h : (ch_ (cw_ 249 / 240))[cw_ 249 % 240]? = some (Cond.code (yn_ 249) (bts_ 249) (mxl_ 249) (rt_ 249)) := by
    exact (Eq.refl _ : (ch_ (cw_ 249 / 240))[cw_ 249 % 240]? = _)
  unfold hw_
  rw [decide_eq_true h]
  rfl
theorem cky_249 : ckY 249 = true := by
  unfold ckY
  simp only [ckc_249, Bool.true_and]
  decide +kernel
set_option maxRecDepth 100000 in
theorem ckm_249_0 : ckP 249 0 64 = true := by decide +kernel
set_option maxRecDepth 100000 in
theorem ckm_249_1 : ckP 249 64 20 = true := by decide +kernel
theorem cka_249 (pc : Nat) (e : aE) (h : code_ 249 pc = some e) : ckE 249 pc e = true := by
  have h0 : pc < 84 := by
    refine Nat.not_le.mp (fun hq => ?_)
    have : code_ 249 pc = none := by
      show cd_249 pc = none
      unfold cd_249
      rw [Nat.ble_eq_true_of_le hq]; rfl
    rw [this] at h; cases h
  by_cases h1 : pc < 64
  · exact ckP_ok ckm_249_0 (by omega) (by omega) h
  by_cases h2 : pc < 84
  · exact ckP_ok ckm_249_1 (by omega) (by omega) h
  omega
theorem ckc_250 : hw_ (cw_ 250) (.code (yn_ 250) (bts_ 250) (mxl_ 250) (rt_ 250)) = true := by
  have h : (ch_ (cw_ 250 / 240))[cw_ 250 % 240]? = some (Cond.code (yn_ 250) (bts_ 250) (mxl_ 250) (rt_ 250)) := by
    exact (Eq.refl _ : (ch_ (cw_ 250 / 240))[cw_ 250 % 240]? = _)
  unfold hw_
  rw [decide_eq_true h]
  rfl
theorem cky_250 : ckY 250 = true := by
  unfold ckY
  simp only [ckc_250, Bool.true_and]
  decide +kernel
set_option maxRecDepth 100000 in
theorem ckm_250_0 : ckP 250 0 64 = true := by decide +kernel
set_option maxRecDepth 100000 in
theorem ckm_250_1 : ckP 250 64 29 = true := by decide +kernel
theorem cka_250 (pc : Nat) (e : aE) (h : code_ 250 pc = some e) : ckE 250 pc e = true := by
  have h0 : pc < 93 := by
    refine Nat.not_le.mp (fun hq => ?_)
    have : code_ 250 pc = none := by
      show cd_250 pc = none
      unfold cd_250
      rw [Nat.ble_eq_true_of_le hq]; rfl
    rw [this] at h; cases h
  by_cases h1 : pc < 64
  · exact ckP_ok ckm_250_0 (by omega) (by omega) h
  by_cases h2 : pc < 93
  · exact ckP_ok ckm_250_1 (by omega) (by omega) h
  omega
theorem ckc_251 : hw_ (cw_ 251) (.code (yn_ 251) (bts_ 251) (mxl_ 251) (rt_ 251)) = true := by
  have h : (ch_ (cw_ 251 / 240))[cw_ 251 % 240]? = some (Cond.code (yn_ 251) (bts_ 251) (mxl_ 251) (rt_ 251)) := by
    exact (Eq.refl _ : (ch_ (cw_ 251 / 240))[cw_ 251 % 240]? = _)
  unfold hw_
  rw [decide_eq_true h]
  rfl
theorem cky_251 : ckY 251 = true := by
  unfold ckY
  simp only [ckc_251, Bool.true_and]
  decide +kernel
set_option maxRecDepth 100000 in
theorem ckm_251_0 : ckP 251 0 64 = true := by decide +kernel
set_option maxRecDepth 100000 in
theorem ckm_251_1 : ckP 251 64 64 = true := by decide +kernel
set_option maxRecDepth 100000 in
theorem ckm_251_2 : ckP 251 128 64 = true := by decide +kernel
set_option maxRecDepth 100000 in
theorem ckm_251_3 : ckP 251 192 60 = true := by decide +kernel
theorem cka_251 (pc : Nat) (e : aE) (h : code_ 251 pc = some e) : ckE 251 pc e = true := by
  have h0 : pc < 252 := by
    refine Nat.not_le.mp (fun hq => ?_)
    have : code_ 251 pc = none := by
      show cd_251 pc = none
      unfold cd_251
      rw [Nat.ble_eq_true_of_le hq]; rfl
    rw [this] at h; cases h
  by_cases h1 : pc < 64
  · exact ckP_ok ckm_251_0 (by omega) (by omega) h
  by_cases h2 : pc < 128
  · exact ckP_ok ckm_251_1 (by omega) (by omega) h
  by_cases h3 : pc < 192
  · exact ckP_ok ckm_251_2 (by omega) (by omega) h
  by_cases h4 : pc < 252
  · exact ckP_ok ckm_251_3 (by omega) (by omega) h
  omega
theorem ckc_252 : hw_ (cw_ 252) (.code (yn_ 252) (bts_ 252) (mxl_ 252) (rt_ 252)) = true := by
  have h : (ch_ (cw_ 252 / 240))[cw_ 252 % 240]? = some (Cond.code (yn_ 252) (bts_ 252) (mxl_ 252) (rt_ 252)) := by
    exact (Eq.refl _ : (ch_ (cw_ 252 / 240))[cw_ 252 % 240]? = _)
  unfold hw_
  rw [decide_eq_true h]
  rfl
theorem cky_252 : ckY 252 = true := by
  unfold ckY
  simp only [ckc_252, Bool.true_and]
  decide +kernel
set_option maxRecDepth 100000 in
theorem ckm_252_0 : ckP 252 0 64 = true := by decide +kernel
set_option maxRecDepth 100000 in
theorem ckm_252_1 : ckP 252 64 64 = true := by decide +kernel
set_option maxRecDepth 100000 in
theorem ckm_252_2 : ckP 252 128 57 = true := by decide +kernel
theorem cka_252 (pc : Nat) (e : aE) (h : code_ 252 pc = some e) : ckE 252 pc e = true := by
  have h0 : pc < 185 := by
    refine Nat.not_le.mp (fun hq => ?_)
    have : code_ 252 pc = none := by
      show cd_252 pc = none
      unfold cd_252
      rw [Nat.ble_eq_true_of_le hq]; rfl
    rw [this] at h; cases h
  by_cases h1 : pc < 64
  · exact ckP_ok ckm_252_0 (by omega) (by omega) h
  by_cases h2 : pc < 128
  · exact ckP_ok ckm_252_1 (by omega) (by omega) h
  by_cases h3 : pc < 185
  · exact ckP_ok ckm_252_2 (by omega) (by omega) h
  omega
