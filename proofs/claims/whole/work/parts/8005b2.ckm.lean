theorem ckc_153 : hw_ (cw_ 153) (.code (yn_ 153) (bts_ 153) (mxl_ 153) (rt_ 153)) = true := by
  have h : (ch_ (cw_ 153 / 240))[cw_ 153 % 240]? = some (Cond.code (yn_ 153) (bts_ 153) (mxl_ 153) (rt_ 153)) := by
    exact (Eq.refl _ : (ch_ (cw_ 153 / 240))[cw_ 153 % 240]? = _)
  unfold hw_
  rw [decide_eq_true h]
  rfl
theorem cky_153 : ckY 153 = true := by
  unfold ckY
  simp only [ckc_153, Bool.true_and]
  decide +kernel
set_option maxRecDepth 100000 in
theorem ckm_153_0 : ckP 153 0 5 = true := by decide +kernel
theorem cka_153 (pc : Nat) (e : aE) (h : code_ 153 pc = some e) : ckE 153 pc e = true := by
  have h0 : pc < 5 := by
    refine Nat.not_le.mp (fun hq => ?_)
    have : code_ 153 pc = none := by
      show cd_153 pc = none
      unfold cd_153
      rw [Nat.ble_eq_true_of_le hq]; rfl
    rw [this] at h; cases h
  by_cases h1 : pc < 5
  · exact ckP_ok ckm_153_0 (by omega) (by omega) h
  omega
theorem ckc_154 : hw_ (cw_ 154) (.code (yn_ 154) (bts_ 154) (mxl_ 154) (rt_ 154)) = true := by
  have h : (ch_ (cw_ 154 / 240))[cw_ 154 % 240]? = some (Cond.code (yn_ 154) (bts_ 154) (mxl_ 154) (rt_ 154)) := by
    exact (Eq.refl _ : (ch_ (cw_ 154 / 240))[cw_ 154 % 240]? = _)
  unfold hw_
  rw [decide_eq_true h]
  rfl
theorem cky_154 : ckY 154 = true := by
  unfold ckY
  simp only [ckc_154, Bool.true_and]
  decide +kernel
set_option maxRecDepth 100000 in
theorem ckm_154_0 : ckP 154 0 64 = true := by decide +kernel
set_option maxRecDepth 100000 in
theorem ckm_154_1 : ckP 154 64 64 = true := by decide +kernel
set_option maxRecDepth 100000 in
theorem ckm_154_2 : ckP 154 128 1 = true := by decide +kernel
theorem cka_154 (pc : Nat) (e : aE) (h : code_ 154 pc = some e) : ckE 154 pc e = true := by
  have h0 : pc < 129 := by
    refine Nat.not_le.mp (fun hq => ?_)
    have : code_ 154 pc = none := by
      show cd_154 pc = none
      unfold cd_154
      rw [Nat.ble_eq_true_of_le hq]; rfl
    rw [this] at h; cases h
  by_cases h1 : pc < 64
  · exact ckP_ok ckm_154_0 (by omega) (by omega) h
  by_cases h2 : pc < 128
  · exact ckP_ok ckm_154_1 (by omega) (by omega) h
  by_cases h3 : pc < 129
  · exact ckP_ok ckm_154_2 (by omega) (by omega) h
  omega
theorem ckc_155 : hw_ (cw_ 155) (.code (yn_ 155) (bts_ 155) (mxl_ 155) (rt_ 155)) = true := by
  have h : (ch_ (cw_ 155 / 240))[cw_ 155 % 240]? = some (Cond.code (yn_ 155) (bts_ 155) (mxl_ 155) (rt_ 155)) := by
    exact (Eq.refl _ : (ch_ (cw_ 155 / 240))[cw_ 155 % 240]? = _)
  unfold hw_
  rw [decide_eq_true h]
  rfl
theorem cky_155 : ckY 155 = true := by
  unfold ckY
  simp only [ckc_155, Bool.true_and]
  decide +kernel
set_option maxRecDepth 100000 in
theorem ckm_155_0 : ckP 155 0 16 = true := by decide +kernel
theorem cka_155 (pc : Nat) (e : aE) (h : code_ 155 pc = some e) : ckE 155 pc e = true := by
  have h0 : pc < 16 := by
    refine Nat.not_le.mp (fun hq => ?_)
    have : code_ 155 pc = none := by
      show cd_155 pc = none
      unfold cd_155
      rw [Nat.ble_eq_true_of_le hq]; rfl
    rw [this] at h; cases h
  by_cases h1 : pc < 16
  · exact ckP_ok ckm_155_0 (by omega) (by omega) h
  omega
