theorem ckc_156 : hw_ (cw_ 156) (.code (yn_ 156) (bts_ 156) (mxl_ 156) (rt_ 156)) = true := by
  have h : (ch_ (cw_ 156 / 240))[cw_ 156 % 240]? = some (Cond.code (yn_ 156) (bts_ 156) (mxl_ 156) (rt_ 156)) := by
    exact (Eq.refl _ : (ch_ (cw_ 156 / 240))[cw_ 156 % 240]? = _)
  unfold hw_
  rw [decide_eq_true h]
  rfl
theorem cky_156 : ckY 156 = true := by
  unfold ckY
  simp only [ckc_156, Bool.true_and]
  decide +kernel
set_option maxRecDepth 100000 in
theorem ckm_156_0 : ckP 156 0 15 = true := by decide +kernel
theorem cka_156 (pc : Nat) (e : aE) (h : code_ 156 pc = some e) : ckE 156 pc e = true := by
  have h0 : pc < 15 := by
    refine Nat.not_le.mp (fun hq => ?_)
    have : code_ 156 pc = none := by
      show cd_156 pc = none
      unfold cd_156
      rw [Nat.ble_eq_true_of_le hq]; rfl
    rw [this] at h; cases h
  by_cases h1 : pc < 15
  · exact ckP_ok ckm_156_0 (by omega) (by omega) h
  omega
theorem ckc_157 : hw_ (cw_ 157) (.code (yn_ 157) (bts_ 157) (mxl_ 157) (rt_ 157)) = true := by
  have h : (ch_ (cw_ 157 / 240))[cw_ 157 % 240]? = some (Cond.code (yn_ 157) (bts_ 157) (mxl_ 157) (rt_ 157)) := by
    exact (Eq.refl _ : (ch_ (cw_ 157 / 240))[cw_ 157 % 240]? = _)
  unfold hw_
  rw [decide_eq_true h]
  rfl
theorem cky_157 : ckY 157 = true := by
  unfold ckY
  simp only [ckc_157, Bool.true_and]
  decide +kernel
set_option maxRecDepth 100000 in
theorem ckm_157_0 : ckP 157 0 64 = true := by decide +kernel
set_option maxRecDepth 100000 in
theorem ckm_157_1 : ckP 157 64 64 = true := by decide +kernel
theorem cka_157 (pc : Nat) (e : aE) (h : code_ 157 pc = some e) : ckE 157 pc e = true := by
  have h0 : pc < 128 := by
    refine Nat.not_le.mp (fun hq => ?_)
    have : code_ 157 pc = none := by
      show cd_157 pc = none
      unfold cd_157
      rw [Nat.ble_eq_true_of_le hq]; rfl
    rw [this] at h; cases h
  by_cases h1 : pc < 64
  · exact ckP_ok ckm_157_0 (by omega) (by omega) h
  by_cases h2 : pc < 128
  · exact ckP_ok ckm_157_1 (by omega) (by omega) h
  omega
theorem ckc_158 : hw_ (cw_ 158) (.code (yn_ 158) (bts_ 158) (mxl_ 158) (rt_ 158)) = true := by
  have h : (ch_ (cw_ 158 / 240))[cw_ 158 % 240]? = some (Cond.code (yn_ 158) (bts_ 158) (mxl_ 158) (rt_ 158)) := by
    exact (Eq.refl _ : (ch_ (cw_ 158 / 240))[cw_ 158 % 240]? = _)
  unfold hw_
  rw [decide_eq_true h]
  rfl
theorem cky_158 : ckY 158 = true := by
  unfold ckY
  simp only [ckc_158, Bool.true_and]
  decide +kernel
set_option maxRecDepth 100000 in
theorem ckm_158_0 : ckP 158 0 36 = true := by decide +kernel
theorem cka_158 (pc : Nat) (e : aE) (h : code_ 158 pc = some e) : ckE 158 pc e = true := by
  have h0 : pc < 36 := by
    refine Nat.not_le.mp (fun hq => ?_)
    have : code_ 158 pc = none := by
      show cd_158 pc = none
      unfold cd_158
      rw [Nat.ble_eq_true_of_le hq]; rfl
    rw [this] at h; cases h
  by_cases h1 : pc < 36
  · exact ckP_ok ckm_158_0 (by omega) (by omega) h
  omega
theorem ckc_159 : hw_ (cw_ 159) (.code (yn_ 159) (bts_ 159) (mxl_ 159) (rt_ 159)) = true := by
  have h : (ch_ (cw_ 159 / 240))[cw_ 159 % 240]? = some (Cond.code (yn_ 159) (bts_ 159) (mxl_ 159) (rt_ 159)) := by
    exact (Eq.refl _ : (ch_ (cw_ 159 / 240))[cw_ 159 % 240]? = _)
  unfold hw_
  rw [decide_eq_true h]
  rfl
theorem cky_159 : ckY 159 = true := by
  unfold ckY
  simp only [ckc_159, Bool.true_and]
  decide +kernel
set_option maxRecDepth 100000 in
theorem ckm_159_0 : ckP 159 0 36 = true := by decide +kernel
theorem cka_159 (pc : Nat) (e : aE) (h : code_ 159 pc = some e) : ckE 159 pc e = true := by
  have h0 : pc < 36 := by
    refine Nat.not_le.mp (fun hq => ?_)
    have : code_ 159 pc = none := by
      show cd_159 pc = none
      unfold cd_159
      rw [Nat.ble_eq_true_of_le hq]; rfl
    rw [this] at h; cases h
  by_cases h1 : pc < 36
  · exact ckP_ok ckm_159_0 (by omega) (by omega) h
  omega
theorem ckc_160 : hw_ (cw_ 160) (.code (yn_ 160) (bts_ 160) (mxl_ 160) (rt_ 160)) = true := by
  have h : (ch_ (cw_ 160 / 240))[cw_ 160 % 240]? = some (Cond.code (yn_ 160) (bts_ 160) (mxl_ 160) (rt_ 160)) := by
    exact (Eq.refl _ : (ch_ (cw_ 160 / 240))[cw_ 160 % 240]? = _)
  unfold hw_
  rw [decide_eq_true h]
  rfl
theorem cky_160 : ckY 160 = true := by
  unfold ckY
  simp only [ckc_160, Bool.true_and]
  decide +kernel
set_option maxRecDepth 100000 in
theorem ckm_160_0 : ckP 160 0 64 = true := by decide +kernel
set_option maxRecDepth 100000 in
theorem ckm_160_1 : ckP 160 64 64 = true := by decide +kernel
set_option maxRecDepth 100000 in
theorem ckm_160_2 : ckP 160 128 64 = true := by decide +kernel
set_option maxRecDepth 100000 in
theorem ckm_160_3 : ckP 160 192 64 = true := by decide +kernel
set_option maxRecDepth 100000 in
theorem ckm_160_4 : ckP 160 256 54 = true := by decide +kernel
theorem cka_160 (pc : Nat) (e : aE) (h : code_ 160 pc = some e) : ckE 160 pc e = true := by
  have h0 : pc < 310 := by
    refine Nat.not_le.mp (fun hq => ?_)
    have : code_ 160 pc = none := by
      show cd_160 pc = none
      unfold cd_160
      rw [Nat.ble_eq_true_of_le hq]; rfl
    rw [this] at h; cases h
  by_cases h1 : pc < 64
  · exact ckP_ok ckm_160_0 (by omega) (by omega) h
  by_cases h2 : pc < 128
  · exact ckP_ok ckm_160_1 (by omega) (by omega) h
  by_cases h3 : pc < 192
  · exact ckP_ok ckm_160_2 (by omega) (by omega) h
  by_cases h4 : pc < 256
  · exact ckP_ok ckm_160_3 (by omega) (by omega) h
  by_cases h5 : pc < 310
  · exact ckP_ok ckm_160_4 (by omega) (by omega) h
  omega
theorem ckc_161 : hw_ (cw_ 161) (.code (yn_ 161) (bts_ 161) (mxl_ 161) (rt_ 161)) = true := by
  have h : (ch_ (cw_ 161 / 240))[cw_ 161 % 240]? = some (Cond.code (yn_ 161) (bts_ 161) (mxl_ 161) (rt_ 161)) := by
    exact (Eq.refl _ : (ch_ (cw_ 161 / 240))[cw_ 161 % 240]? = _)
  unfold hw_
  rw [decide_eq_true h]
  rfl
theorem cky_161 : ckY 161 = true := by
  unfold ckY
  simp only [ckc_161, Bool.true_and]
  decide +kernel
set_option maxRecDepth 100000 in
theorem ckm_161_0 : ckP 161 0 47 = true := by decide +kernel
theorem cka_161 (pc : Nat) (e : aE) (h : code_ 161 pc = some e) : ckE 161 pc e = true := by
  have h0 : pc < 47 := by
    refine Nat.not_le.mp (fun hq => ?_)
    have : code_ 161 pc = none := by
      show cd_161 pc = none
      unfold cd_161
      rw [Nat.ble_eq_true_of_le hq]; rfl
    rw [this] at h; cases h
  by_cases h1 : pc < 47
  · exact ckP_ok ckm_161_0 (by omega) (by omega) h
  omega
theorem ckc_162 : hw_ (cw_ 162) (.code (yn_ 162) (bts_ 162) (mxl_ 162) (rt_ 162)) = true := by
  have h : (ch_ (cw_ 162 / 240))[cw_ 162 % 240]? = some (Cond.code (yn_ 162) (bts_ 162) (mxl_ 162) (rt_ 162)) := by
    exact (Eq.refl _ : (ch_ (cw_ 162 / 240))[cw_ 162 % 240]? = _)
  unfold hw_
  rw [decide_eq_true h]
  rfl
theorem cky_162 : ckY 162 = true := by
  unfold ckY
  simp only [ckc_162, Bool.true_and]
  decide +kernel
set_option maxRecDepth 100000 in
theorem ckm_162_0 : ckP 162 0 22 = true := by decide +kernel
theorem cka_162 (pc : Nat) (e : aE) (h : code_ 162 pc = some e) : ckE 162 pc e = true := by
  have h0 : pc < 22 := by
    refine Nat.not_le.mp (fun hq => ?_)
    have : code_ 162 pc = none := by
      show cd_162 pc = none
      unfold cd_162
      rw [Nat.ble_eq_true_of_le hq]; rfl
    rw [this] at h; cases h
  by_cases h1 : pc < 22
  · exact ckP_ok ckm_162_0 (by omega) (by omega) h
  omega
theorem ckc_163 : hw_ (cw_ 163) (.code (yn_ 163) (bts_ 163) (mxl_ 163) (rt_ 163)) = true := by
  have h : (ch_ (cw_ 163 / 240))[cw_ 163 % 240]? = some (Cond.code (yn_ 163) (bts_ 163) (mxl_ 163) (rt_ 163)) := by
    exact (Eq.refl _ : (ch_ (cw_ 163 / 240))[cw_ 163 % 240]? = _)
  unfold hw_
  rw [decide_eq_true h]
  rfl
theorem cky_163 : ckY 163 = true := by
  unfold ckY
  simp only [ckc_163, Bool.true_and]
  decide +kernel
set_option maxRecDepth 100000 in
theorem ckm_163_0 : ckP 163 0 39 = true := by decide +kernel
theorem cka_163 (pc : Nat) (e : aE) (h : code_ 163 pc = some e) : ckE 163 pc e = true := by
  have h0 : pc < 39 := by
    refine Nat.not_le.mp (fun hq => ?_)
    have : code_ 163 pc = none := by
      show cd_163 pc = none
      unfold cd_163
      rw [Nat.ble_eq_true_of_le hq]; rfl
    rw [this] at h; cases h
  by_cases h1 : pc < 39
  · exact ckP_ok ckm_163_0 (by omega) (by omega) h
  omega
theorem ckc_164 : hw_ (cw_ 164) (.code (yn_ 164) (bts_ 164) (mxl_ 164) (rt_ 164)) = true := by
  have h : (ch_ (cw_ 164 / 240))[cw_ 164 % 240]? = some (Cond.code (yn_ 164) (bts_ 164) (mxl_ 164) (rt_ 164)) := by
    exact (Eq.refl _ : (ch_ (cw_ 164 / 240))[cw_ 164 % 240]? = _)
  unfold hw_
  rw [decide_eq_true h]
  rfl
theorem cky_164 : ckY 164 = true := by
  unfold ckY
  simp only [ckc_164, Bool.true_and]
  decide +kernel
set_option maxRecDepth 100000 in
theorem ckm_164_0 : ckP 164 0 44 = true := by decide +kernel
theorem cka_164 (pc : Nat) (e : aE) (h : code_ 164 pc = some e) : ckE 164 pc e = true := by
  have h0 : pc < 44 := by
    refine Nat.not_le.mp (fun hq => ?_)
    have : code_ 164 pc = none := by
      show cd_164 pc = none
      unfold cd_164
      rw [Nat.ble_eq_true_of_le hq]; rfl
    rw [this] at h; cases h
  by_cases h1 : pc < 44
  · exact ckP_ok ckm_164_0 (by omega) (by omega) h
  omega
