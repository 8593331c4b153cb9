theorem ckc_259 : hw_ (cw_ 259) (.code (yn_ 259) (bts_ 259) (mxl_ 259) (rt_ 259)) = true := by
  have h : (ch_ (cw_ 259 / 240))[cw_ 259 % 240]? = some (Cond.code (yn_ 259) (bts_ 259) (mxl_ 259) (rt_ 259)) := by
    exact (Eq.refl _ : (ch_ (cw_ 259 / 240))[cw_ 259 % 240]? = _)
  unfold hw_
  rw [decide_eq_true h]
  rfl
theorem cky_259 : ckY 259 = true := by
  unfold ckY
  simp only [ckc_259, Bool.true_and]
  decide +kernel
set_option maxRecDepth 100000 in
theorem ckm_259_0 : ckP 259 0 41 = true := by decide +kernel
theorem cka_259 (pc : Nat) (e : aE) (h : code_ 259 pc = some e) : ckE 259 pc e = true := by
  have h0 : pc < 41 := by
    refine Nat.not_le.mp (fun hq => ?_)
    have : code_ 259 pc = none := by
      show cd_259 pc = none
      unfold cd_259
      rw [Nat.ble_eq_true_of_le hq]; rfl
    rw [this] at h; cases h
  by_cases h1 : pc < 41
  · exact ckP_ok ckm_259_0 (by omega) (by omega) h
  omega
theorem ckc_260 : hw_ (cw_ 260) (.code (yn_ 260) (bts_ 260) (mxl_ 260) (rt_ 260)) = true := by
  have h : (ch_ (cw_ 260 / 240))[cw_ 260 % 240]? = some (Cond.code (yn_ 260) (bts_ 260) (mxl_ 260) (rt_ 260)) := by
    exact (Eq.refl _ : (ch_ (cw_ 260 / 240))[cw_ 260 % 240]? = _)
  unfold hw_
  rw [decide_eq_true h]
  rfl
theorem cky_260 : ckY 260 = true := by
  unfold ckY
  simp only [ckc_260, Bool.true_and]
  decide +kernel
set_option maxRecDepth 100000 in
theorem ckm_260_0 : ckP 260 0 64 = true := by decide +kernel
set_option maxRecDepth 100000 in
theorem ckm_260_1 : ckP 260 64 64 = true := by decide +kernel
set_option maxRecDepth 100000 in
theorem ckm_260_2 : ckP 260 128 26 = true := by decide +kernel
theorem cka_260 (pc : Nat) (e : aE) (h : code_ 260 pc = some e) : ckE 260 pc e = true := by
  have h0 : pc < 154 := by
    refine Nat.not_le.mp (fun hq => ?_)
    have : code_ 260 pc = none := by
      show cd_260 pc = none
      unfold cd_260
      rw [Nat.ble_eq_true_of_le hq]; rfl
    rw [this] at h; cases h
  by_cases h1 : pc < 64
  · exact ckP_ok ckm_260_0 (by omega) (by omega) h
  by_cases h2 : pc < 128
  · exact ckP_ok ckm_260_1 (by omega) (by omega) h
  by_cases h3 : pc < 154
  · exact ckP_ok ckm_260_2 (by omega) (by omega) h
  omega
theorem ckc_261 : hw_ (cw_ 261) (.code (yn_ 261) (bts_ 261) (mxl_ 261) (rt_ 261)) = true := by
  have h : (ch_ (cw_ 261 / 240))[cw_ 261 % 240]? = some (Cond.code (yn_ 261) (bts_ 261) (mxl_ 261) (rt_ 261)) := by
    exact (Eq.refl _ : (ch_ (cw_ 261 / 240))[cw_ 261 % 240]? = _)
  unfold hw_
  rw [decide_eq_true h]
  rfl
theorem cky_261 : ckY 261 = true := by
  unfold ckY
  simp only [ckc_261, Bool.true_and]
  decide +kernel
set_option maxRecDepth 100000 in
theorem ckm_261_0 : ckP 261 0 64 = true := by decide +kernel
set_option maxRecDepth 100000 in
theorem ckm_261_1 : ckP 261 64 64 = true := by decide +kernel
set_option maxRecDepth 100000 in
theorem ckm_261_2 : ckP 261 128 40 = true := by decide +kernel
theorem cka_261 (pc : Nat) (e : aE) (h : code_ 261 pc = some e) : ckE 261 pc e = true := by
  have h0 : pc < 168 := by
    refine Nat.not_le.mp (fun hq => ?_)
    have : code_ 261 pc = none := by
      show cd_261 pc = none
      unfold cd_261
      rw [Nat.ble_eq_true_of_le hq]; rfl
    rw [this] at h; cases h
  by_cases h1 : pc < 64
  · exact ckP_ok ckm_261_0 (by omega) (by omega) h
  by_cases h2 : pc < 128
  · exact ckP_ok ckm_261_1 (by omega) (by omega) h
  by_cases h3 : pc < 168
  · exact ckP_ok ckm_261_2 (by omega) (by omega) h
  omega
theorem ckc_262 : hw_ (cw_ 262) (.code (yn_ 262) (bts_ 262) (mxl_ 262) (rt_ 262)) = true := by
  have h : (ch_ (cw_ 262 / 240))[cw_ 262 % 240]? = some (Cond.code (yn_ 262) (bts_ 262) (mxl_ 262) (rt_ 262)) := by
    exact (Eq.refl _ : (ch_ (cw_ 262 / 240))[cw_ 262 % 240]? = _)
  unfold hw_
  rw [decide_eq_true h]
  rfl
theorem cky_262 : ckY 262 = true := by
  unfold ckY
  simp only [ckc_262, Bool.true_and]
  decide +kernel
set_option maxRecDepth 100000 in
theorem ckm_262_0 : ckP 262 0 36 = true := by decide +kernel
theorem cka_262 (pc : Nat) (e : aE) (h : code_ 262 pc = some e) : ckE 262 pc e = true := by
  have h0 : pc < 36 := by
    refine Nat.not_le.mp (fun hq => ?_)
    have : code_ 262 pc = none := by
      show cd_262 pc = none
      unfold cd_262
      rw [Nat.ble_eq_true_of_le hq]; rfl
    rw [this] at h; cases h
  by_cases h1 : pc < 36
  · exact ckP_ok ckm_262_0 (by omega) (by omega) h
  omega
