theorem ckc_231 : hw_ (cw_ 231) (.code (yn_ 231) (bts_ 231) (mxl_ 231) (rt_ 231)) = true := by
  have h : (ch_ (cw_ 231 / 240))[cw_ 231 % 240]? = some (Cond.code (yn_ 231) (bts_ 231) (mxl_ 231) (rt_ 231)) := by
    exact (Eq.refl _ : (ch_ (cw_ 231 / 240))[cw_ 231 % 240]? = _)
  unfold hw_
  rw [decide_eq_true h]
  rfl
theorem cky_231 : ckY 231 = true := by
  unfold ckY
  simp only [ckc_231, Bool.true_and]
  decide +kernel
set_option maxRecDepth 100000 in
theorem ckm_231_0 : ckP 231 0 64 = true := by decide +kernel
set_option maxRecDepth 100000 in
theorem ckm_231_1 : ckP 231 64 11 = true := by decide +kernel
theorem cka_231 (pc : Nat) (e : aE) (h : code_ 231 pc = some e) : ckE 231 pc e = true := by
  have h0 : pc < 75 := by
    refine Nat.not_le.mp (fun hq => ?_)
    have : code_ 231 pc = none := by
      show cd_231 pc = none
      unfold cd_231
      rw [Nat.ble_eq_true_of_le hq]; rfl
    rw [this] at h; cases h
  by_cases h1 : pc < 64
  · exact ckP_ok ckm_231_0 (by omega) (by omega) h
  by_cases h2 : pc < 75
  · exact ckP_ok ckm_231_1 (by omega) (by omega) h
  omega
theorem ckc_232 : hw_ (cw_ 232) (.code (yn_ 232) (bts_ 232) (mxl_ 232) (rt_ 232)) = true := by
  have h : (ch_ (cw_ 232 / 240))[cw_ 232 % 240]? = some (Cond.code (yn_ 232) (bts_ 232) (mxl_ 232) (rt_ 232)) := by
    exact (Eq.refl _ : (ch_ (cw_ 232 / 240))[cw_ 232 % 240]? = _)
  unfold hw_
  rw [decide_eq_true h]
  rfl
theorem cky_232 : ckY 232 = true := by
  unfold ckY
  simp only [ckc_232, Bool.true_and]
  decide +kernel
set_option maxRecDepth 100000 in
theorem ckm_232_0 : ckP 232 0 16 = true := by decide +kernel
theorem cka_232 (pc : Nat) (e : aE) (h : code_ 232 pc = some e) : ckE 232 pc e = true := by
  have h0 : pc < 16 := by
    refine Nat.not_le.mp (fun hq => ?_)
    have : code_ 232 pc = none := by
      show cd_232 pc = none
      unfold cd_232
      rw [Nat.ble_eq_true_of_le hq]; rfl
    rw [this] at h; cases h
  by_cases h1 : pc < 16
  · exact ckP_ok ckm_232_0 (by omega) (by omega) h
  omega
theorem ckc_233 : hw_ (cw_ 233) (.code (yn_ 233) (bts_ 233) (mxl_ 233) (rt_ 233)) = true := by
  have h : (ch_ (cw_ 233 / 240))[cw_ 233 % 240]? = some (Cond.code (yn_ 233) (bts_ 233) (mxl_ 233) (rt_ 233)) := by
    exact (Eq.refl _ : (ch_ (cw_ 233 / 240))[cw_ 233 % 240]? = _)
  unfold hw_
  rw [decide_eq_true h]
  rfl
theorem cky_233 : ckY 233 = true := by
  unfold ckY
  simp only [ckc_233, Bool.true_and]
  decide +kernel
set_option maxRecDepth 100000 in
theorem ckm_233_0 : ckP 233 0 64 = true := by decide +kernel
set_option maxRecDepth 100000 in
theorem ckm_233_1 : ckP 233 64 6 = true := by decide +kernel
theorem cka_233 (pc : Nat) (e : aE) (h : code_ 233 pc = some e) : ckE 233 pc e = true := by
  have h0 : pc < 70 := by
    refine Nat.not_le.mp (fun hq => ?_)
    have : code_ 233 pc = none := by
      show cd_233 pc = none
      unfold cd_233
      rw [Nat.ble_eq_true_of_le hq]; rfl
    rw [this] at h; cases h
  by_cases h1 : pc < 64
  · exact ckP_ok ckm_233_0 (by omega) (by omega) h
  by_cases h2 : pc < 70
  · exact ckP_ok ckm_233_1 (by omega) (by omega) h
  omega
theorem ckc_234 : hw_ (cw_ 234) (.code (yn_ 234) (bts_ 234) (mxl_ 234) (rt_ 234)) = true := by
  have h : (ch_ (cw_ 234 / 240))[cw_ 234 % 240]? = some (Cond.code (yn_ 234) (bts_ 234) (mxl_ 234) (rt_ 234)) := by
    exact (Eq.refl _ : (ch_ (cw_ 234 / 240))[cw_ 234 % 240]? = _)
  unfold hw_
  rw [decide_eq_true h]
  rfl
theorem cky_234 : ckY 234 = true := by
  unfold ckY
  simp only [ckc_234, Bool.true_and]
  decide +kernel
set_option maxRecDepth 100000 in
theorem ckm_234_0 : ckP 234 0 34 = true := by decide +kernel
theorem cka_234 (pc : Nat) (e : aE) (h : code_ 234 pc = some e) : ckE 234 pc e = true := by
  have h0 : pc < 34 := by
    refine Nat.not_le.mp (fun hq => ?_)
    have : code_ 234 pc = none := by
      show cd_234 pc = none
      unfold cd_234
      rw [Nat.ble_eq_true_of_le hq]; rfl
    rw [this] at h; cases h
  by_cases h1 : pc < 34
  · exact ckP_ok ckm_234_0 (by omega) (by omega) h
  omega
theorem ckc_235 : hw_ (cw_ 235) (.code (yn_ 235) (bts_ 235) (mxl_ 235) (rt_ 235)) = true := by
  have h : (ch_ (cw_ 235 / 240))[cw_ 235 % 240]? = some (Cond.code (yn_ 235) (bts_ 235) (mxl_ 235) (rt_ 235)) := by
    exact (Eq.refl _ : (ch_ (cw_ 235 / 240))[cw_ 235 % 240]? = _)
  unfold hw_
  rw [decide_eq_true h]
  rfl
theorem cky_235 : ckY 235 = true := by
  unfold ckY
  simp only [ckc_235, Bool.true_and]
  decide +kernel
set_option maxRecDepth 100000 in
theorem ckm_235_0 : ckP 235 0 64 = true := by decide +kernel
set_option maxRecDepth 100000 in
theorem ckm_235_1 : ckP 235 64 33 = true := by decide +kernel
theorem cka_235 (pc : Nat) (e : aE) (h : code_ 235 pc = some e) : ckE 235 pc e = true := by
  have h0 : pc < 97 := by
    refine Nat.not_le.mp (fun hq => ?_)
    have : code_ 235 pc = none := by
      show cd_235 pc = none
      unfold cd_235
      rw [Nat.ble_eq_true_of_le hq]; rfl
    rw [this] at h; cases h
  by_cases h1 : pc < 64
  · exact ckP_ok ckm_235_0 (by omega) (by omega) h
  by_cases h2 : pc < 97
  · exact ckP_ok ckm_235_1 (by omega) (by omega) h
  omega
theorem ckc_236 : hw_ (cw_ 236) (.code (yn_ 236) (bts_ 236) (mxl_ 236) (rt_ 236)) = true := by
  have h : (ch_ (cw_ 236 / 240))[cw_ 236 % 240]? = some (Cond.code (yn_ 236) (bts_ 236) (mxl_ 236) (rt_ 236)) := by
    exact (Eq.refl _ : (ch_ (cw_ 236 / 240))[cw_ 236 % 240]? = _)
  unfold hw_
  rw [decide_eq_true h]
  rfl
theorem cky_236 : ckY 236 = true := by
  unfold ckY
  simp only [ckc_236, Bool.true_and]
  decide +kernel
set_option maxRecDepth 100000 in
theorem ckm_236_0 : ckP 236 0 53 = true := by decide +kernel
theorem cka_236 (pc : Nat) (e : aE) (h : code_ 236 pc = some e) : ckE 236 pc e = true := by
  have h0 : pc < 53 := by
    refine Nat.not_le.mp (fun hq => ?_)
    have : code_ 236 pc = none := by
      show cd_236 pc = none
      unfold cd_236
      rw [Nat.ble_eq_true_of_le hq]; rfl
    rw [this] at h; cases h
  by_cases h1 : pc < 53
  · exact ckP_ok ckm_236_0 (by omega) (by omega) h
  omega
theorem ckc_237 : hw_ (cw_ 237) (.code (yn_ 237) (bts_ 237) (mxl_ 237) (rt_ 237)) = true := by
  have h : (ch_ (cw_ 237 / 240))[cw_ 237 % 240]? = some (Cond.code (yn_ 237) (bts_ 237) (mxl_ 237) (rt_ 237)) := by
    exact (Eq.refl _ : (ch_ (cw_ 237 / 240))[cw_ 237 % 240]? = _)
  unfold hw_
  rw [decide_eq_true h]
  rfl
theorem cky_237 : ckY 237 = true := by
  unfold ckY
  simp only [ckc_237, Bool.true_and]
  decide +kernel
set_option maxRecDepth 100000 in
theorem ckm_237_0 : ckP 237 0 63 = true := by decide +kernel
theorem cka_237 (pc : Nat) (e : aE) (h : code_ 237 pc = some e) : ckE 237 pc e = true := by
  have h0 : pc < 63 := by
    refine Nat.not_le.mp (fun hq => ?_)
    have : code_ 237 pc = none := by
      show cd_237 pc = none
      unfold cd_237
      rw [Nat.ble_eq_true_of_le hq]; rfl
    rw [this] at h; cases h
  by_cases h1 : pc < 63
  · exact ckP_ok ckm_237_0 (by omega) (by omega) h
  omega
theorem ckc_238 : hw_ (cw_ 238) (.code (yn_ 238) (bts_ 238) (mxl_ 238) (rt_ 238)) = true := by
  have h : (ch_ (cw_ 238 / 240))[cw_ 238 % 240]? = some (Cond.code (yn_ 238) (bts_ 238) (mxl_ 238) (rt_ 238)) := by
    exact (Eq.refl _ : (ch_ (cw_ 238 / 240))[cw_ 238 % 240]? = _)
  unfold hw_
  rw [decide_eq_true h]
  rfl
theorem cky_238 : ckY 238 = true := by
  unfold ckY
  simp only [ckc_238, Bool.true_and]
  decide +kernel
set_option maxRecDepth 100000 in
theorem ckm_238_0 : ckP 238 0 64 = true := by decide +kernel
set_option maxRecDepth 100000 in
theorem ckm_238_1 : ckP 238 64 22 = true := by decide +kernel
theorem cka_238 (pc : Nat) (e : aE) (h : code_ 238 pc = some e) : ckE 238 pc e = true := by
  have h0 : pc < 86 := by
    refine Nat.not_le.mp (fun hq => ?_)
    have : code_ 238 pc = none := by
      show cd_238 pc = none
      unfold cd_238
      rw [Nat.ble_eq_true_of_le hq]; rfl
    rw [this] at h; cases h
  by_cases h1 : pc < 64
  · exact ckP_ok ckm_238_0 (by omega) (by omega) h
  by_cases h2 : pc < 86
  · exact ckP_ok ckm_238_1 (by omega) (by omega) h
  omega
theorem ckc_239 : hw_ (cw_ 239) (.code (yn_ 239) (bts_ 239) (mxl_ 239) (rt_ 239)) = true := by
  have h : (ch_ (cw_ 239 / 240))[cw_ 239 % 240]? = some (Cond.code (yn_ 239) (bts_ 239) (mxl_ 239) (rt_ 239)) := by
    exact (Eq.refl _ : (ch_ (cw_ 239 / 240))[cw_ 239 % 240]? = _)
  unfold hw_
  rw [decide_eq_true h]
  rfl
theorem cky_239 : ckY 239 = true := by
  unfold ckY
  simp only [ckc_239, Bool.true_and]
  decide +kernel
set_option maxRecDepth 100000 in
theorem ckm_239_0 : ckP 239 0 16 = true := by decide +kernel
theorem cka_239 (pc : Nat) (e : aE) (h : code_ 239 pc = some e) : ckE 239 pc e = true := by
  have h0 : pc < 16 := by
    refine Nat.not_le.mp (fun hq => ?_)
    have : code_ 239 pc = none := by
      show cd_239 pc = none
      unfold cd_239
      rw [Nat.ble_eq_true_of_le hq]; rfl
    rw [this] at h; cases h
  by_cases h1 : pc < 16
  · exact ckP_ok ckm_239_0 (by omega) (by omega) h
  omega
