theorem ckc_165 : hw_ (cw_ 165) (.code (yn_ 165) (bts_ 165) (mxl_ 165) (rt_ 165)) = true := by
  have h : (ch_ (cw_ 165 / 240))[cw_ 165 % 240]? = some (Cond.code (yn_ 165) (bts_ 165) (mxl_ 165) (rt_ 165)) := by
    exact (Eq.refl _ : (ch_ (cw_ 165 / 240))[cw_ 165 % 240]? = _)
  unfold hw_
  rw [decide_eq_true h]
  rfl
theorem cky_165 : ckY 165 = true := by
  unfold ckY
  simp only [ckc_165, Bool.true_and]
  decide +kernel
set_option maxRecDepth 100000 in
theorem ckm_165_0 : ckP 165 0 36 = true := by decide +kernel
theorem cka_165 (pc : Nat) (e : aE) (h : code_ 165 pc = some e) : ckE 165 pc e = true := by
  have h0 : pc < 36 := by
    refine Nat.not_le.mp (fun hq => ?_)
    have : code_ 165 pc = none := by
      show cd_165 pc = none
      unfold cd_165
      rw [Nat.ble_eq_true_of_le hq]; rfl
    rw [this] at h; cases h
  by_cases h1 : pc < 36
  · exact ckP_ok ckm_165_0 (by omega) (by omega) h
  omega
theorem ckc_166 : hw_ (cw_ 166) (.code (yn_ 166) (bts_ 166) (mxl_ 166) (rt_ 166)) = true := by
  have h : (ch_ (cw_ 166 / 240))[cw_ 166 % 240]? = some (Cond.code (yn_ 166) (bts_ 166) (mxl_ 166) (rt_ 166)) := by
    exact (Eq.refl _ : (ch_ (cw_ 166 / 240))[cw_ 166 % 240]? = _)
  unfold hw_
  rw [decide_eq_true h]
  rfl
theorem cky_166 : ckY 166 = true := by
  unfold ckY
  simp only [ckc_166, Bool.true_and]
  decide +kernel
set_option maxRecDepth 100000 in
theorem ckm_166_0 : ckP 166 0 35 = true := by decide +kernel
theorem cka_166 (pc : Nat) (e : aE) (h : code_ 166 pc = some e) : ckE 166 pc e = true := by
  have h0 : pc < 35 := by
    refine Nat.not_le.mp (fun hq => ?_)
    have : code_ 166 pc = none := by
      show cd_166 pc = none
      unfold cd_166
      rw [Nat.ble_eq_true_of_le hq]; rfl
    rw [this] at h; cases h
  by_cases h1 : pc < 35
  · exact ckP_ok ckm_166_0 (by omega) (by omega) h
  omega
theorem ckc_167 : hw_ (cw_ 167) (.code (yn_ 167) (bts_ 167) (mxl_ 167) (rt_ 167)) = true := by
  have h : (ch_ (cw_ 167 / 240))[cw_ 167 % 240]? = some (Cond.code (yn_ 167) (bts_ 167) (mxl_ 167) (rt_ 167)) := by
    exact (Eq.refl _ : (ch_ (cw_ 167 / 240))[cw_ 167 % 240]? = _)
  unfold hw_
  rw [decide_eq_true h]
  rfl
theorem cky_167 : ckY 167 = true := by
  unfold ckY
  simp only [ckc_167, Bool.true_and]
  decide +kernel
set_option maxRecDepth 100000 in
theorem ckm_167_0 : ckP 167 0 64 = true := by decide +kernel
set_option maxRecDepth 100000 in
theorem ckm_167_1 : ckP 167 64 17 = true := by decide +kernel
theorem cka_167 (pc : Nat) (e : aE) (h : code_ 167 pc = some e) : ckE 167 pc e = true := by
  have h0 : pc < 81 := by
    refine Nat.not_le.mp (fun hq => ?_)
    have : code_ 167 pc = none := by
      show cd_167 pc = none
      unfold cd_167
      rw [Nat.ble_eq_true_of_le hq]; rfl
    rw [this] at h; cases h
  by_cases h1 : pc < 64
  · exact ckP_ok ckm_167_0 (by omega) (by omega) h
  by_cases h2 : pc < 81
  · exact ckP_ok ckm_167_1 (by omega) (by omega) h
  omega
theorem ckc_168 : hw_ (cw_ 168) (.code (yn_ 168) (bts_ 168) (mxl_ 168) (rt_ 168)) = true := by
  have h : (ch_ (cw_ 168 / 240))[cw_ 168 % 240]? = some (Cond.code (yn_ 168) (bts_ 168) (mxl_ 168) (rt_ 168)) := by
    exact (Eq.refl _ : (ch_ (cw_ 168 / 240))[cw_ 168 % 240]? = _)
  unfold hw_
  rw [decide_eq_true h]
  rfl
theorem cky_168 : ckY 168 = true := by
  unfold ckY
  simp only [ckc_168, Bool.true_and]
  decide +kernel
set_option maxRecDepth 100000 in
theorem ckm_168_0 : ckP 168 0 47 = true := by decide +kernel
theorem cka_168 (pc : Nat) (e : aE) (h : code_ 168 pc = some e) : ckE 168 pc e = true := by
  have h0 : pc < 47 := by
    refine Nat.not_le.mp (fun hq => ?_)
    have : code_ 168 pc = none := by
      show cd_168 pc = none
      unfold cd_168
      rw [Nat.ble_eq_true_of_le hq]; rfl
    rw [this] at h; cases h
  by_cases h1 : pc < 47
  · exact ckP_ok ckm_168_0 (by omega) (by omega) h
  omega
theorem ckc_169 : hw_ (cw_ 169) (.code (yn_ 169) (bts_ 169) (mxl_ 169) (rt_ 169)) = true := by
  have h : (ch_ (cw_ 169 / 240))[cw_ 169 % 240]? = some (Cond.code (yn_ 169) (bts_ 169) (mxl_ 169) (rt_ 169)) := by
    exact (Eq.refl _ : (ch_ (cw_ 169 / 240))[cw_ 169 % 240]? = _)
  unfold hw_
  rw [decide_eq_true h]
  rfl
theorem cky_169 : ckY 169 = true := by
  unfold ckY
  simp only [ckc_169, Bool.true_and]
  decide +kernel
set_option maxRecDepth 100000 in
theorem ckm_169_0 : ckP 169 0 64 = true := by decide +kernel
set_option maxRecDepth 100000 in
theorem ckm_169_1 : ckP 169 64 36 = true := by decide +kernel
theorem cka_169 (pc : Nat) (e : aE) (h : code_ 169 pc = some e) : ckE 169 pc e = true := by
  have h0 : pc < 100 := by
    refine Nat.not_le.mp (fun hq => ?_)
    have : code_ 169 pc = none := by
      show cd_169 pc = none
      unfold cd_169
      rw [Nat.ble_eq_true_of_le hq]; rfl
    rw [this] at h; cases h
  by_cases h1 : pc < 64
  · exact ckP_ok ckm_169_0 (by omega) (by omega) h
  by_cases h2 : pc < 100
  · exact ckP_ok ckm_169_1 (by omega) (by omega) h
  omega
theorem ckc_170 : hw_ (cw_ 170) (.code (yn_ 170) (bts_ 170) (mxl_ 170) (rt_ 170)) = true := by
  have h : (ch_ (cw_ 170 / 240))[cw_ 170 % 240]? = some (Cond.code (yn_ 170) (bts_ 170) (mxl_ 170) (rt_ 170)) := by
    exact (Eq.refl _ : (ch_ (cw_ 170 / 240))[cw_ 170 % 240]? = _)
  unfold hw_
  rw [decide_eq_true h]
  rfl
theorem cky_170 : ckY 170 = true := by
  unfold ckY
  simp only [ckc_170, Bool.true_and]
  decide +kernel
set_option maxRecDepth 100000 in
theorem ckm_170_0 : ckP 170 0 64 = true := by decide +kernel
set_option maxRecDepth 100000 in
theorem ckm_170_1 : ckP 170 64 59 = true := by decide +kernel
theorem cka_170 (pc : Nat) (e : aE) (h : code_ 170 pc = some e) : ckE 170 pc e = true := by
  have h0 : pc < 123 := by
    refine Nat.not_le.mp (fun hq => ?_)
    have : code_ 170 pc = none := by
      show cd_170 pc = none
      unfold cd_170
      rw [Nat.ble_eq_true_of_le hq]; rfl
    rw [this] at h; cases h
  by_cases h1 : pc < 64
  · exact ckP_ok ckm_170_0 (by omega) (by omega) h
  by_cases h2 : pc < 123
  · exact ckP_ok ckm_170_1 (by omega) (by omega) h
  omega
theorem ckc_171 : hw_ (cw_ 171) (.code (yn_ 171) (bts_ 171) (mxl_ 171) (rt_ 171)) = true := by
  have h : (ch_ (cw_ 171 / 240))[cw_ 171 % 240]? = some (Cond.code (yn_ 171) (bts_ 171) (mxl_ 171) (rt_ 171)) := by
    exact (Eq.refl _ : (ch_ (cw_ 171 / 240))[cw_ 171 % 240]? = _)
  unfold hw_
  rw [decide_eq_true h]
  rfl
theorem cky_171 : ckY 171 = true := by
  unfold ckY
  simp only [ckc_171, Bool.true_and]
  decide +kernel
set_option maxRecDepth 100000 in
theorem ckm_171_0 : ckP 171 0 26 = true := by decide +kernel
theorem cka_171 (pc : Nat) (e : aE) (h : code_ 171 pc = some e) : ckE 171 pc e = true := by
  have h0 : pc < 26 := by
    refine Nat.not_le.mp (fun hq => ?_)
    have : code_ 171 pc = none := by
      show cd_171 pc = none
      unfold cd_171
      rw [Nat.ble_eq_true_of_le hq]; rfl
    rw [this] at h; cases h
  by_cases h1 : pc < 26
  · exact ckP_ok ckm_171_0 (by omega) (by omega) h
  omega
theorem ckc_172 : hw_ (cw_ 172) (.code (yn_ 172) (bts_ 172) (mxl_ 172) (rt_ 172)) = true := by
  have h : (ch_ (cw_ 172 / 240))[cw_ 172 % 240]? = some (Cond.code (yn_ 172) (bts_ 172) (mxl_ 172) (rt_ 172)) := by
    exact (Eq.refl _ : (ch_ (cw_ 172 / 240))[cw_ 172 % 240]? = _)
  unfold hw_
  rw [decide_eq_true h]
  rfl
theorem cky_172 : ckY 172 = true := by
  unfold ckY
  simp only [ckc_172, Bool.true_and]
  decide +kernel
set_option maxRecDepth 100000 in
theorem ckm_172_0 : ckP 172 0 64 = true := by decide +kernel
set_option maxRecDepth 100000 in
theorem ckm_172_1 : ckP 172 64 64 = true := by decide +kernel
set_option maxRecDepth 100000 in
theorem ckm_172_2 : ckP 172 128 64 = true := by decide +kernel
set_option maxRecDepth 100000 in
theorem ckm_172_3 : ckP 172 192 64 = true := by decide +kernel
set_option maxRecDepth 100000 in
theorem ckm_172_4 : ckP 172 256 64 = true := by decide +kernel
set_option maxRecDepth 100000 in
theorem ckm_172_5 : ckP 172 320 64 = true := by decide +kernel
set_option maxRecDepth 100000 in
theorem ckm_172_6 : ckP 172 384 35 = true := by decide +kernel
theorem cka_172 (pc : Nat) (e : aE) (h : code_ 172 pc = some e) : ckE 172 pc e = true := by
  have h0 : pc < 419 := by
    refine Nat.not_le.mp (fun hq => ?_)
    have : code_ 172 pc = none := by
      show cd_172 pc = none
      unfold cd_172
      rw [Nat.ble_eq_true_of_le hq]; rfl
    rw [this] at h; cases h
  by_cases h1 : pc < 64
  · exact ckP_ok ckm_172_0 (by omega) (by omega) h
  by_cases h2 : pc < 128
  · exact ckP_ok ckm_172_1 (by omega) (by omega) h
  by_cases h3 : pc < 192
  · exact ckP_ok ckm_172_2 (by omega) (by omega) h
  by_cases h4 : pc < 256
  · exact ckP_ok ckm_172_3 (by omega) (by omega) h
  by_cases h5 : pc < 320
  · exact ckP_ok ckm_172_4 (by omega) (by omega) h
  by_cases h6 : pc < 384
  · exact ckP_ok ckm_172_5 (by omega) (by omega) h
  by_cases h7 : pc < 419
  · exact ckP_ok ckm_172_6 (by omega) (by omega) h
  omega
