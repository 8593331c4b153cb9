theorem ckc_240 : hw_ (cw_ 240) (.code (yn_ 240) (bts_ 240) (mxl_ 240) (rt_ 240)) = true := by
  have h : (ch_ (cw_ 240 / 240))[cw_ 240 % 240]? = some (Cond.code (yn_ 240) (bts_ 240) (mxl_ 240) (rt_ 240)) := by
    exact (Eq.refl _ : (ch_ (cw_ 240 / 240))[cw_ 240 % 240]? = _)
  unfold hw_
  rw [decide_eq_true h]
  rfl
theorem cky_240 : ckY 240 = true := by
  unfold ckY
  simp only [ckc_240, Bool.true_and]
  decide +kernel
set_option maxRecDepth 100000 in
theorem ckm_240_0 : ckP 240 0 64 = true := by decide +kernel
theorem cka_240 (pc : Nat) (e : aE) (h : code_ 240 pc = some e) : ckE 240 pc e = true := by
  have h0 : pc < 64 := by
    refine Nat.not_le.mp (fun hq => ?_)
    have : code_ 240 pc = none := by
      show cd_240 pc = none
      unfold cd_240
      rw [Nat.ble_eq_true_of_le hq]; rfl
    rw [this] at h; cases h
  by_cases h1 : pc < 64
  · exact ckP_ok ckm_240_0 (by omega) (by omega) h
  omega
theorem ckc_241 : hw_ (cw_ 241) (.code (yn_ 241) (bts_ 241) (mxl_ 241) (rt_ 241)) = true := by
  have h : (ch_ (cw_ 241 / 240))[cw_ 241 % 240]? = some (Cond.code (yn_ 241) (bts_ 241) (mxl_ 241) (rt_ 241)) := by
    exact (Eq.refl _ : (ch_ (cw_ 241 / 240))[cw_ 241 % 240]? = _)
  unfold hw_
  rw [decide_eq_true h]
  rfl
theorem cky_241 : ckY 241 = true := by
  unfold ckY
  simp only [ckc_241, Bool.true_and]
  decide +kernel
set_option maxRecDepth 100000 in
theorem ckm_241_0 : ckP 241 0 64 = true := by decide +kernel
set_option maxRecDepth 100000 in
theorem ckm_241_1 : ckP 241 64 4 = true := by decide +kernel
theorem cka_241 (pc : Nat) (e : aE) (h : code_ 241 pc = some e) : ckE 241 pc e = true := by
  have h0 : pc < 68 := by
    refine Nat.not_le.mp (fun hq => ?_)
    have : code_ 241 pc = none := by
      show cd_241 pc = none
      unfold cd_241
      rw [Nat.ble_eq_true_of_le hq]; rfl
    rw [this] at h; cases h
  by_cases h1 : pc < 64
  · exact ckP_ok ckm_241_0 (by omega) (by omega) h
  by_cases h2 : pc < 68
  · exact ckP_ok ckm_241_1 (by omega) (by omega) h
  omega
theorem ckc_242 : hw_ (cw_ 242) (.code (yn_ 242) (bts_ 242) (mxl_ 242) (rt_ 242)) = true := by
  have h : (ch_ (cw_ 242 / 240))[cw_ 242 % 240]? = some (Cond.code (yn_ 242) (bts_ 242) (mxl_ 242) (rt_ 242)) := by
    exact (Eq.refl _ : (ch_ (cw_ 242 / 240))[cw_ 242 % 240]? = _)
  unfold hw_
  rw [decide_eq_true h]
  rfl
theorem cky_242 : ckY 242 = true := by
  unfold ckY
  simp only [ckc_242, Bool.true_and]
  decide +kernel
set_option maxRecDepth 100000 in
theorem ckm_242_0 : ckP 242 0 17 = true := by decide +kernel
theorem cka_242 (pc : Nat) (e : aE) (h : code_ 242 pc = some e) : ckE 242 pc e = true := by
  have h0 : pc < 17 := by
    refine Nat.not_le.mp (fun hq => ?_)
    have : code_ 242 pc = none := by
      show cd_242 pc = none
      unfold cd_242
      rw [Nat.ble_eq_true_of_le hq]; rfl
    rw [this] at h; cases h
  by_cases h1 : pc < 17
  · exact ckP_ok ckm_242_0 (by omega) (by omega) h
  omega
theorem ckc_243 : hw_ (cw_ 243) (.code (yn_ 243) (bts_ 243) (mxl_ 243) (rt_ 243)) = true := by
  have h : (ch_ (cw_ 243 / 240))[cw_ 243 % 240]? = some (Cond.code (yn_ 243) (bts_ 243) (mxl_ 243) (rt_ 243)) := by
    exact (Eq.refl _ : (ch_ (cw_ 243 / 240))[cw_ 243 % 240]? = _)
  unfold hw_
  rw [decide_eq_true h]
  rfl
theorem cky_243 : ckY 243 = true := by
  unfold ckY
  simp only [ckc_243, Bool.true_and]
  decide +kernel
set_option maxRecDepth 100000 in
theorem ckm_243_0 : ckP 243 0 64 = true := by decide +kernel
set_option maxRecDepth 100000 in
theorem ckm_243_1 : ckP 243 64 46 = true := by decide +kernel
theorem cka_243 (pc : Nat) (e : aE) (h : code_ 243 pc = some e) : ckE 243 pc e = true := by
  have h0 : pc < 110 := by
    refine Nat.not_le.mp (fun hq => ?_)
    have : code_ 243 pc = none := by
      show cd_243 pc = none
      unfold cd_243
      rw [Nat.ble_eq_true_of_le hq]; rfl
    rw [this] at h; cases h
  by_cases h1 : pc < 64
  · exact ckP_ok ckm_243_0 (by omega) (by omega) h
  by_cases h2 : pc < 110
  · exact ckP_ok ckm_243_1 (by omega) (by omega) h
  omega
theorem ckc_244 : hw_ (cw_ 244) (.code (yn_ 244) (bts_ 244) (mxl_ 244) (rt_ 244)) = true := by
  have h : (ch_ (cw_ 244 / 240))[cw_ 244 % 240]? = some (Cond.code (yn_ 244) (bts_ 244) (mxl_ 244) (rt_ 244)) := by
    exact (Eq.refl _ : (ch_ (cw_ 244 / 240))[cw_ 244 % 240]? = _)
  unfold hw_
  rw [decide_eq_true h]
  rfl
theorem cky_244 : ckY 244 = true := by
  unfold ckY
  simp only [ckc_244, Bool.true_and]
  decide +kernel
set_option maxRecDepth 100000 in
theorem ckm_244_0 : ckP 244 0 27 = true := by decide +kernel
theorem cka_244 (pc : Nat) (e : aE) (h : code_ 244 pc = some e) : ckE 244 pc e = true := by
  have h0 : pc < 27 := by
    refine Nat.not_le.mp (fun hq => ?_)
    have : code_ 244 pc = none := by
      show cd_244 pc = none
      unfold cd_244
      rw [Nat.ble_eq_true_of_le hq]; rfl
    rw [this] at h; cases h
  by_cases h1 : pc < 27
  · exact ckP_ok ckm_244_0 (by omega) (by omega) h
  omega
theorem ckc_245 : hw_ (cw_ 245) (.code (yn_ 245) (bts_ 245) (mxl_ 245) (rt_ 245)) = true := by
  have h : (ch_ (cw_ 245 / 240))[cw_ 245 % 240]? = some (Cond.code (yn_ 245) (bts_ 245) (mxl_ 245) (rt_ 245)) := by
    exact (Eq.refl _ : (ch_ (cw_ 245 / 240))[cw_ 245 % 240]? = _)
  unfold hw_
  rw [decide_eq_true h]
  rfl
theorem cky_245 : ckY 245 = true := by
  unfold ckY
  simp only [ckc_245, Bool.true_and]
  decide +kernel
set_option maxRecDepth 100000 in
theorem ckm_245_0 : ckP 245 0 64 = true := by decide +kernel
set_option maxRecDepth 100000 in
theorem ckm_245_1 : ckP 245 64 64 = true := by decide +kernel
set_option maxRecDepth 100000 in
theorem ckm_245_2 : ckP 245 128 64 = true := by decide +kernel
set_option maxRecDepth 100000 in
theorem ckm_245_3 : ckP 245 192 43 = true := by decide +kernel
theorem cka_245 (pc : Nat) (e : aE) (h : code_ 245 pc = some e) : ckE 245 pc e = true := by
  have h0 : pc < 235 := by
    refine Nat.not_le.mp (fun hq => ?_)
    have : code_ 245 pc = none := by
      show cd_245 pc = none
      unfold cd_245
      rw [Nat.ble_eq_true_of_le hq]; rfl
    rw [this] at h; cases h
  by_cases h1 : pc < 64
  · exact ckP_ok ckm_245_0 (by omega) (by omega) h
  by_cases h2 : pc < 128
  · exact ckP_ok ckm_245_1 (by omega) (by omega) h
  by_cases h3 : pc < 192
  · exact ckP_ok ckm_245_2 (by omega) (by omega) h
  by_cases h4 : pc < 235
  · exact ckP_ok ckm_245_3 (by omega) (by omega) h
  omega
theorem ckc_246 : hw_ (cw_ 246) (.code (yn_ 246) (bts_ 246) (mxl_ 246) (rt_ 246)) = true := by
  have h : (ch_ (cw_ 246 / 240))[cw_ 246 % 240]? = some (Cond.code (yn_ 246) (bts_ 246) (mxl_ 246) (rt_ 246)) := by
    exact (Eq.refl _ : (ch_ (cw_ 246 / 240))[cw_ 246 % 240]? = _)
  unfold hw_
  rw [decide_eq_true h]
  rfl
theorem cky_246 : ckY 246 = true := by
  unfold ckY
  simp only [ckc_246, Bool.true_and]
  decide +kernel
set_option maxRecDepth 100000 in
theorem ckm_246_0 : ckP 246 0 64 = true := by decide +kernel
set_option maxRecDepth 100000 in
theorem ckm_246_1 : ckP 246 64 63 = true := by decide +kernel
theorem cka_246 (pc : Nat) (e : aE) (h : code_ 246 pc = some e) : ckE 246 pc e = true := by
  have h0 : pc < 127 := by
    refine Nat.not_le.mp (fun hq => ?_)
    have : code_ 246 pc = none := by
      show cd_246 pc = none
      unfold cd_246
      rw [Nat.ble_eq_true_of_le hq]; rfl
    rw [this] at h; cases h
  by_cases h1 : pc < 64
  · exact ckP_ok ckm_246_0 (by omega) (by omega) h
  by_cases h2 : pc < 127
  · exact ckP_ok ckm_246_1 (by omega) (by omega) h
  omega
