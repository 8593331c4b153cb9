theorem ckc_181 : hw_ (cw_ 181) (.code (yn_ 181) (bts_ 181) (mxl_ 181) (rt_ 181)) = true := by
  have h : (ch_ (cw_ 181 / 240))[cw_ 181 % 240]? = some (Cond.code (yn_ 181) (bts_ 181) (mxl_ 181) (rt_ 181)) := by
    exact (Eq.refl _ : (ch_ (cw_ 181 / 240))[cw_ 181 % 240]? = _)
  unfold hw_
  rw [decide_eq_true h]
  rfl
theorem cky_181 : ckY 181 = true := by
  unfold ckY
  simp only [ckc_181, Bool.true_and]
  decide +kernel
set_option maxRecDepth 100000 in
theorem ckm_181_0 : ckP 181 0 7 = true := by decide +kernel
theorem cka_181 (pc : Nat) (e : aE) (h : code_ 181 pc = some e) : ckE 181 pc e = true := by
  have h0 : pc < 7 := by
    refine Nat.not_le.mp (fun hq => ?_)
    have : code_ 181 pc = none := by
      show cd_181 pc = none
      unfold cd_181
      rw [Nat.ble_eq_true_of_le hq]; rfl
    rw [this] at h; cases h
  by_cases h1 : pc < 7
  · exact ckP_ok ckm_181_0 (by omega) (by omega) h
  omega
theorem ckc_182 : hw_ (cw_ 182) (.code (yn_ 182) (bts_ 182) (mxl_ 182) (rt_ 182)) = true := by
  have h : (ch_ (cw_ 182 / 240))[cw_ 182 % 240]? = some (Cond.code (yn_ 182) (bts_ 182) (mxl_ 182) (rt_ 182)) := by
    exact (Eq.refl _ : (ch_ (cw_ 182 / 240))[cw_ 182 % 240]? = _)
  unfold hw_
  rw [decide_eq_true h]
  rfl
theorem cky_182 : ckY 182 = true := by
  unfold ckY
  simp only [ckc_182, Bool.true_and]
  decide +kernel
set_option maxRecDepth 100000 in
theorem ckm_182_0 : ckP 182 0 64 = true := by decide +kernel
set_option maxRecDepth 100000 in
theorem ckm_182_1 : ckP 182 64 64 = true := by decide +kernel
set_option maxRecDepth 100000 in
theorem ckm_182_2 : ckP 182 128 64 = true := by decide +kernel
set_option maxRecDepth 100000 in
theorem ckm_182_3 : ckP 182 192 64 = true := by decide +kernel
set_option maxRecDepth 100000 in
theorem ckm_182_4 : ckP 182 256 64 = true := by decide +kernel
set_option maxRecDepth 100000 in
theorem ckm_182_5 : ckP 182 320 64 = true := by decide +kernel
set_option maxRecDepth 100000 in
theorem ckm_182_6 : ckP 182 384 64 = true := by decide +kernel
set_option maxRecDepth 100000 in
theorem ckm_182_7 : ckP 182 448 64 = true := by decide +kernel
set_option maxRecDepth 100000 in
theorem ckm_182_8 : ckP 182 512 64 = true := by decide +kernel
set_option maxRecDepth 100000 in
theorem ckm_182_9 : ckP 182 576 55 = true := by decide +kernel
theorem cka_182 (pc : Nat) (e : aE) (h : code_ 182 pc = some e) : ckE 182 pc e = true := by
  have h0 : pc < 631 := by
    refine Nat.not_le.mp (fun hq => ?_)
    have : code_ 182 pc = none := by
      show cd_182 pc = none
      unfold cd_182
      rw [Nat.ble_eq_true_of_le hq]; rfl
    rw [this] at h; cases h
  by_cases h1 : pc < 64
  · exact ckP_ok ckm_182_0 (by omega) (by omega) h
  by_cases h2 : pc < 128
  · exact ckP_ok ckm_182_1 (by omega) (by omega) h
  by_cases h3 : pc < 192
  · exact ckP_ok ckm_182_2 (by omega) (by omega) h
  by_cases h4 : pc < 256
  · exact ckP_ok ckm_182_3 (by omega) (by omega) h
  by_cases h5 : pc < 320
  · exact ckP_ok ckm_182_4 (by omega) (by omega) h
  by_cases h6 : pc < 384
  · exact ckP_ok ckm_182_5 (by omega) (by omega) h
  by_cases h7 : pc < 448
  · exact ckP_ok ckm_182_6 (by omega) (by omega) h
  by_cases h8 : pc < 512
  · exact ckP_ok ckm_182_7 (by omega) (by omega) h
  by_cases h9 : pc < 576
  · exact ckP_ok ckm_182_8 (by omega) (by omega) h
  by_cases h10 : pc < 631
  · exact ckP_ok ckm_182_9 (by omega) (by omega) h
  omega
theorem ckc_183 : hw_ (cw_ 183) (.code (yn_ 183) (bts_ 183) (mxl_ 183) (rt_ 183)) = true := by
  have h : (ch_ (cw_ 183 / 240))[cw_ 183 % 240]? = some (Cond.code (yn_ 183) (bts_ 183) (mxl_ 183) (rt_ 183)) := by
    exact (Eq.refl _ : (ch_ (cw_ 183 / 240))[cw_ 183 % 240]? = _)
  unfold hw_
  rw [decide_eq_true h]
  rfl
theorem cky_183 : ckY 183 = true := by
  unfold ckY
  simp only [ckc_183, Bool.true_and]
  decide +kernel
set_option maxRecDepth 100000 in
theorem ckm_183_0 : ckP 183 0 11 = true := by decide +kernel
theorem cka_183 (pc : Nat) (e : aE) (h : code_ 183 pc = some e) : ckE 183 pc e = true := by
  have h0 : pc < 11 := by
    refine Nat.not_le.mp (fun hq => ?_)
    have : code_ 183 pc = none := by
      show cd_183 pc = none
      unfold cd_183
      rw [Nat.ble_eq_true_of_le hq]; rfl
    rw [this] at h; cases h
  by_cases h1 : pc < 11
  · exact ckP_ok ckm_183_0 (by omega) (by omega) h
  omega
theorem ckc_184 : hw_ (cw_ 184) (.code (yn_ 184) (bts_ 184) (mxl_ 184) (rt_ 184)) = true := by
  have h : (ch_ (cw_ 184 / 240))[cw_ 184 % 240]? = some (Cond.code (yn_ 184) (bts_ 184) (mxl_ 184) (rt_ 184)) := by
    exact (Eq.refl _ : (ch_ (cw_ 184 / 240))[cw_ 184 % 240]? = _)
  unfold hw_
  rw [decide_eq_true h]
  rfl
theorem cky_184 : ckY 184 = true := by
  unfold ckY
  simp only [ckc_184, Bool.true_and]
  decide +kernel
set_option maxRecDepth 100000 in
theorem ckm_184_0 : ckP 184 0 37 = true := by decide +kernel
theorem cka_184 (pc : Nat) (e : aE) (h : code_ 184 pc = some e) : ckE 184 pc e = true := by
  have h0 : pc < 37 := by
    refine Nat.not_le.mp (fun hq => ?_)
    have : code_ 184 pc = none := by
      show cd_184 pc = none
      unfold cd_184
      rw [Nat.ble_eq_true_of_le hq]; rfl
    rw [this] at h; cases h
  by_cases h1 : pc < 37
  · exact ckP_ok ckm_184_0 (by omega) (by omega) h
  omega
theorem ckc_185 : hw_ (cw_ 185) (.code (yn_ 185) (bts_ 185) (mxl_ 185) (rt_ 185)) = true := by
  have h : (ch_ (cw_ 185 / 240))[cw_ 185 % 240]? = some (Cond.code (yn_ 185) (bts_ 185) (mxl_ 185) (rt_ 185)) := by
    exact (Eq.refl _ : (ch_ (cw_ 185 / 240))[cw_ 185 % 240]? = _)
  unfold hw_
  rw [decide_eq_true h]
  rfl
theorem cky_185 : ckY 185 = true := by
  unfold ckY
  simp only [ckc_185, Bool.true_and]
  decide +kernel
set_option maxRecDepth 100000 in
theorem ckm_185_0 : ckP 185 0 64 = true := by decide +kernel
set_option maxRecDepth 100000 in
theorem ckm_185_1 : ckP 185 64 64 = true := by decide +kernel
set_option maxRecDepth 100000 in
theorem ckm_185_2 : ckP 185 128 64 = true := by decide +kernel
set_option maxRecDepth 100000 in
theorem ckm_185_3 : ckP 185 192 64 = true := by decide +kernel
set_option maxRecDepth 100000 in
theorem ckm_185_4 : ckP 185 256 64 = true := by decide +kernel
theorem cka_185 (pc : Nat) (e : aE) (h : code_ 185 pc = some e) : ckE 185 pc e = true := by
  have h0 : pc < 320 := by
    refine Nat.not_le.mp (fun hq => ?_)
    have : code_ 185 pc = none := by
      show cd_185 pc = none
      unfold cd_185
      rw [Nat.ble_eq_true_of_le hq]; rfl
    rw [this] at h; cases h
  by_cases h1 : pc < 64
  · exact ckP_ok ckm_185_0 (by omega) (by omega) h
  by_cases h2 : pc < 128
  · exact ckP_ok ckm_185_1 (by omega) (by omega) h
  by_cases h3 : pc < 192
  · exact ckP_ok ckm_185_2 (by omega) (by omega) h
  by_cases h4 : pc < 256
  · exact ckP_ok ckm_185_3 (by omega) (by omega) h
  by_cases h5 : pc < 320
  · exact ckP_ok ckm_185_4 (by omega) (by omega) h
  omega
