theorem ckc_148 : hw_ (cw_ 148) (.code (yn_ 148) (bts_ 148) (mxl_ 148) (rt_ 148)) = true := by
  have h : (ch_ (cw_ 148 / 240))[cw_ 148 % 240]? = some (Cond.code (yn_ 148) (bts_ 148) (mxl_ 148) (rt_ 148)) := by
    exact (Eq.refl _ : (ch_ (cw_ 148 / 240))[cw_ 148 % 240]? = _)
  unfold hw_
  rw [decide_eq_true h]
  rfl
theorem cky_148 : ckY 148 = true := by
  unfold ckY
  simp only [ckc_148, Bool.true_and]
  decide +kernel
set_option maxRecDepth 100000 in
theorem ckm_148_0 : ckP 148 0 47 = true := by decide +kernel
theorem cka_148 (pc : Nat) (e : aE) (h : code_ 148 pc = some e) : ckE 148 pc e = true := by
  have h0 : pc < 47 := by
    refine Nat.not_le.mp (fun hq => ?_)
    have : code_ 148 pc = none := by
      show cd_148 pc = none
      unfold cd_148
      rw [Nat.ble_eq_true_of_le hq]; rfl
    rw [this] at h; cases h
  by_cases h1 : pc < 47
  · exact ckP_ok ckm_148_0 (by omega) (by omega) h
  omega
theorem ckc_149 : hw_ (cw_ 149) (.code (yn_ 149) (bts_ 149) (mxl_ 149) (rt_ 149)) = true := by
  have h : (ch_ (cw_ 149 / 240))[cw_ 149 % 240]? = some (Cond.code (yn_ 149) (bts_ 149) (mxl_ 149) (rt_ 149)) := by
    exact (Eq.refl _ : (ch_ (cw_ 149 / 240))[cw_ 149 % 240]? = _)
  unfold hw_
  rw [decide_eq_true h]
  rfl
theorem cky_149 : ckY 149 = true := by
  unfold ckY
  simp only [ckc_149, Bool.true_and]
  decide +kernel
set_option maxRecDepth 100000 in
theorem ckm_149_0 : ckP 149 0 47 = true := by decide +kernel
theorem cka_149 (pc : Nat) (e : aE) (h : code_ 149 pc = some e) : ckE 149 pc e = true := by
  have h0 : pc < 47 := by
    refine Nat.not_le.mp (fun hq => ?_)
    have : code_ 149 pc = none := by
      show cd_149 pc = none
      unfold cd_149
      rw [Nat.ble_eq_true_of_le hq]; rfl
    rw [this] at h; cases h
  by_cases h1 : pc < 47
  · exact ckP_ok ckm_149_0 (by omega) (by omega) h
  omega
theorem ckc_150 : hw_ (cw_ 150) (.code (yn_ 150) (bts_ 150) (mxl_ 150) (rt_ 150)) = true := by
  have h : (ch_ (cw_ 150 / 240))[cw_ 150 % 240]? = some (Cond.code (yn_ 150) (bts_ 150) (mxl_ 150) (rt_ 150)) := by
    exact (Eq.refl _ : (ch_ (cw_ 150 / 240))[cw_ 150 % 240]? = _)
  unfold hw_
  rw [decide_eq_true h]
  rfl
theorem cky_150 : ckY 150 = true := by
  unfold ckY
  simp only [ckc_150, Bool.true_and]
  decide +kernel
set_option maxRecDepth 100000 in
theorem ckm_150_0 : ckP 150 0 26 = true := by decide +kernel
theorem cka_150 (pc : Nat) (e : aE) (h : code_ 150 pc = some e) : ckE 150 pc e = true := by
  have h0 : pc < 26 := by
    refine Nat.not_le.mp (fun hq => ?_)
    have : code_ 150 pc = none := by
      show cd_150 pc = none
      unfold cd_150
      rw [Nat.ble_eq_true_of_le hq]; rfl
    rw [this] at h; cases h
  by_cases h1 : pc < 26
  · exact ckP_ok ckm_150_0 (by omega) (by omega) h
  omega
theorem ckc_151 : hw_ (cw_ 151) (.code (yn_ 151) (bts_ 151) (mxl_ 151) (rt_ 151)) = true := by
  have h : (ch_ (cw_ 151 / 240))[cw_ 151 % 240]? = some (Cond.code (yn_ 151) (bts_ 151) (mxl_ 151) (rt_ 151)) := by
    exact (Eq.refl _ : (ch_ (cw_ 151 / 240))[cw_ 151 % 240]? = _)
  unfold hw_
  rw [decide_eq_true h]
  rfl
theorem cky_151 : ckY 151 = true := by
  unfold ckY
  simp only [ckc_151, Bool.true_and]
  decide +kernel
set_option maxRecDepth 100000 in
theorem ckm_151_0 : ckP 151 0 34 = true := by decide +kernel
theorem cka_151 (pc : Nat) (e : aE) (h : code_ 151 pc = some e) : ckE 151 pc e = true := by
  have h0 : pc < 34 := by
    refine Nat.not_le.mp (fun hq => ?_)
    have : code_ 151 pc = none := by
      show cd_151 pc = none
      unfold cd_151
      rw [Nat.ble_eq_true_of_le hq]; rfl
    rw [this] at h; cases h
  by_cases h1 : pc < 34
  · exact ckP_ok ckm_151_0 (by omega) (by omega) h
  omega
