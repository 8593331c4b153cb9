theorem ckc_207 : hw_ (cw_ 207) (.code (yn_ 207) (bts_ 207) (mxl_ 207) (rt_ 207)) = true := by
  have h : (ch_ (cw_ 207 / 240))[cw_ 207 % 240]? = some (Cond.code (yn_ 207) (bts_ 207) (mxl_ 207) (rt_ 207)) := by
    exact (Eq.refl _ : (ch_ (cw_ 207 / 240))[cw_ 207 % 240]? = _)
  unfold hw_
  rw [decide_eq_true h]
  rfl
theorem cky_207 : ckY 207 = true := by
  unfold ckY
  simp only [ckc_207, Bool.true_and]
  decide +kernel
set_option maxRecDepth 100000 in
theorem ckm_207_0 : ckP 207 0 43 = true := by decide +kernel
theorem cka_207 (pc : Nat) (e : aE) (h : code_ 207 pc = some e) : ckE 207 pc e = true := by
  have h0 : pc < 43 := by
    refine Nat.not_le.mp (fun hq => ?_)
    have : code_ 207 pc = none := by
      show cd_207 pc = none
      unfold cd_207
      rw [Nat.ble_eq_true_of_le hq]; rfl
    rw [this] at h; cases h
  by_cases h1 : pc < 43
  · exact ckP_ok ckm_207_0 (by omega) (by omega) h
  omega
theorem ckc_208 : hw_ (cw_ 208) (.code (yn_ 208) (bts_ 208) (mxl_ 208) (rt_ 208)) = true := by
  have h : (ch_ (cw_ 208 / 240))[cw_ 208 % 240]? = some (Cond.code (yn_ 208) (bts_ 208) (mxl_ 208) (rt_ 208)) := by
    exact (Eq.refl _ : (ch_ (cw_ 208 / 240))[cw_ 208 % 240]? = _)
  unfold hw_
  rw [decide_eq_true h]
  rfl
theorem cky_208 : ckY 208 = true := by
  unfold ckY
  simp only [ckc_208, Bool.true_and]
  decide +kernel
set_option maxRecDepth 100000 in
theorem ckm_208_0 : ckP 208 0 64 = true := by decide +kernel
set_option maxRecDepth 100000 in
theorem ckm_208_1 : ckP 208 64 64 = true := by decide +kernel
set_option maxRecDepth 100000 in
theorem ckm_208_2 : ckP 208 128 64 = true := by decide +kernel
set_option maxRecDepth 100000 in
theorem ckm_208_3 : ckP 208 192 54 = true := by decide +kernel
theorem cka_208 (pc : Nat) (e : aE) (h : code_ 208 pc = some e) : ckE 208 pc e = true := by
  have h0 : pc < 246 := by
    refine Nat.not_le.mp (fun hq => ?_)
    have : code_ 208 pc = none := by
      show cd_208 pc = none
      unfold cd_208
      rw [Nat.ble_eq_true_of_le hq]; rfl
    rw [this] at h; cases h
  by_cases h1 : pc < 64
  · exact ckP_ok ckm_208_0 (by omega) (by omega) h
  by_cases h2 : pc < 128
  · exact ckP_ok ckm_208_1 (by omega) (by omega) h
  by_cases h3 : pc < 192
  · exact ckP_ok ckm_208_2 (by omega) (by omega) h
  by_cases h4 : pc < 246
  · exact ckP_ok ckm_208_3 (by omega) (by omega) h
  omega
theorem ckc_209 : hw_ (cw_ 209) (.code (yn_ 209) (bts_ 209) (mxl_ 209) (rt_ 209)) = true := by
  have h : (ch_ (cw_ 209 / 240))[cw_ 209 % 240]? = some (Cond.code (yn_ 209) (bts_ 209) (mxl_ 209) (rt_ 209)) := by
    exact (Eq.refl _ : (ch_ (cw_ 209 / 240))[cw_ 209 % 240]? = _)
  unfold hw_
  rw [decide_eq_true h]
  rfl
theorem cky_209 : ckY 209 = true := by
  unfold ckY
  simp only [ckc_209, Bool.true_and]
  decide +kernel
set_option maxRecDepth 100000 in
theorem ckm_209_0 : ckP 209 0 64 = true := by decide +kernel
set_option maxRecDepth 100000 in
theorem ckm_209_1 : ckP 209 64 64 = true := by decide +kernel
set_option maxRecDepth 100000 in
theorem ckm_209_2 : ckP 209 128 14 = true := by decide +kernel
theorem cka_209 (pc : Nat) (e : aE) (h : code_ 209 pc = some e) : ckE 209 pc e = true := by
  have h0 : pc < 142 := by
    refine Nat.not_le.mp (fun hq => ?_)
    have : code_ 209 pc = none := by
      show cd_209 pc = none
      unfold cd_209
      rw [Nat.ble_eq_true_of_le hq]; rfl
    rw [this] at h; cases h
  by_cases h1 : pc < 64
  · exact ckP_ok ckm_209_0 (by omega) (by omega) h
  by_cases h2 : pc < 128
  · exact ckP_ok ckm_209_1 (by omega) (by omega) h
  by_cases h3 : pc < 142
  · exact ckP_ok ckm_209_2 (by omega) (by omega) h
  omega
theorem ckc_210 : hw_ (cw_ 210) (.code (yn_ 210) (bts_ 210) (mxl_ 210) (rt_ 210)) = true := by
  have h : (ch_ (cw_ 210 / 240))[cw_ 210 % 240]? = some (Cond.code (yn_ 210) (bts_ 210) (mxl_ 210) (rt_ 210)) := by
    exact (Eq.refl _ : (ch_ (cw_ 210 / 240))[cw_ 210 % 240]? = _)
  unfold hw_
  rw [decide_eq_true h]
  rfl
theorem cky_210 : ckY 210 = true := by
  unfold ckY
  simp only [ckc_210, Bool.true_and]
  decide +kernel
set_option maxRecDepth 100000 in
theorem ckm_210_0 : ckP 210 0 64 = true := by decide +kernel
set_option maxRecDepth 100000 in
theorem ckm_210_1 : ckP 210 64 64 = true := by decide +kernel
set_option maxRecDepth 100000 in
theorem ckm_210_2 : ckP 210 128 32 = true := by decide +kernel
theorem cka_210 (pc : Nat) (e : aE) (h : code_ 210 pc = some e) : ckE 210 pc e = true := by
  have h0 : pc < 160 := by
    refine Nat.not_le.mp (fun hq => ?_)
    have : code_ 210 pc = none := by
      show cd_210 pc = none
      unfold cd_210
      rw [Nat.ble_eq_true_of_le hq]; rfl
    rw [this] at h; cases h
  by_cases h1 : pc < 64
  · exact ckP_ok ckm_210_0 (by omega) (by omega) h
  by_cases h2 : pc < 128
  · exact ckP_ok ckm_210_1 (by omega) (by omega) h
  by_cases h3 : pc < 160
  · exact ckP_ok ckm_210_2 (by omega) (by omega) h
  omega
theorem ckc_211 : hw_ (cw_ 211) (.code (yn_ 211) (bts_ 211) (mxl_ 211) (rt_ 211)) = true := by
  have h : (ch_ (cw_ 211 / 240))[cw_ 211 % 240]? = some (Cond.code (yn_ 211) (bts_ 211) (mxl_ 211) (rt_ 211)) := by
    exact (Eq.refl _ : (ch_ (cw_ 211 / 240))[cw_ 211 % 240]? = _)
  unfold hw_
  rw [decide_eq_true h]
  rfl
theorem cky_211 : ckY 211 = true := by
  unfold ckY
  simp only [ckc_211, Bool.true_and]
  decide +kernel
set_option maxRecDepth 100000 in
theorem ckm_211_0 : ckP 211 0 36 = true := by decide +kernel
theorem cka_211 (pc : Nat) (e : aE) (h : code_ 211 pc = some e) : ckE 211 pc e = true := by
  have h0 : pc < 36 := by
    refine Nat.not_le.mp (fun hq => ?_)
    have : code_ 211 pc = none := by
      show cd_211 pc = none
      unfold cd_211
      rw [Nat.ble_eq_true_of_le hq]; rfl
    rw [this] at h; cases h
  by_cases h1 : pc < 36
  · exact ckP_ok ckm_211_0 (by omega) (by omega) h
  omega
theorem ckc_212 : hw_ (cw_ 212) (.code (yn_ 212) (bts_ 212) (mxl_ 212) (rt_ 212)) = true := by
  have h : (ch_ (cw_ 212 / 240))[cw_ 212 % 240]? = some (Cond.code (yn_ 212) (bts_ 212) (mxl_ 212) (rt_ 212)) := by
    exact (Eq.refl _ : (ch_ (cw_ 212 / 240))[cw_ 212 % 240]? = _)
  unfold hw_
  rw [decide_eq_true h]
  rfl
theorem cky_212 : ckY 212 = true := by
  unfold ckY
  simp only [ckc_212, Bool.true_and]
  decide +kernel
set_option maxRecDepth 100000 in
theorem ckm_212_0 : ckP 212 0 23 = true := by decide +kernel
theorem cka_212 (pc : Nat) (e : aE) (h : code_ 212 pc = some e) : ckE 212 pc e = true := by
  have h0 : pc < 23 := by
    refine Nat.not_le.mp (fun hq => ?_)
    have : code_ 212 pc = none := by
      show cd_212 pc = none
      unfold cd_212
      rw [Nat.ble_eq_true_of_le hq]; rfl
    rw [this] at h; cases h
  by_cases h1 : pc < 23
  · exact ckP_ok ckm_212_0 (by omega) (by omega) h
  omega
theorem ckc_213 : hw_ (cw_ 213) (.code (yn_ 213) (bts_ 213) (mxl_ 213) (rt_ 213)) = true := by
  have h : (ch_ (cw_ 213 / 240))[cw_ 213 % 240]? = some (Cond.code (yn_ 213) (bts_ 213) (mxl_ 213) (rt_ 213)) := by
    exact (Eq.refl _ : (ch_ (cw_ 213 / 240))[cw_ 213 % 240]? = _)
  unfold hw_
  rw [decide_eq_true h]
  rfl
theorem cky_213 : ckY 213 = true := by
  unfold ckY
  simp only [ckc_213, Bool.true_and]
  decide +kernel
set_option maxRecDepth 100000 in
theorem ckm_213_0 : ckP 213 0 64 = true := by decide +kernel
set_option maxRecDepth 100000 in
theorem ckm_213_1 : ckP 213 64 37 = true := by decide +kernel
theorem cka_213 (pc : Nat) (e : aE) (h : code_ 213 pc = some e) : ckE 213 pc e = true := by
  have h0 : pc < 101 := by
    refine Nat.not_le.mp (fun hq => ?_)
    have : code_ 213 pc = none := by
      show cd_213 pc = none
      unfold cd_213
      rw [Nat.ble_eq_true_of_le hq]; rfl
    rw [this] at h; cases h
  by_cases h1 : pc < 64
  · exact ckP_ok ckm_213_0 (by omega) (by omega) h
  by_cases h2 : pc < 101
  · exact ckP_ok ckm_213_1 (by omega) (by omega) h
  omega
theorem ckc_214 : hw_ (cw_ 214) (.code (yn_ 214) (bts_ 214) (mxl_ 214) (rt_ 214)) = true := by
  have h : (ch_ (cw_ 214 / 240))[cw_ 214 % 240]? = some (Cond.code (yn_ 214) (bts_ 214) (mxl_ 214) (rt_ 214)) := by
    exact (Eq.refl _ : (ch_ (cw_ 214 / 240))[cw_ 214 % 240]? = _)
  unfold hw_
  rw [decide_eq_true h]
  rfl
theorem cky_214 : ckY 214 = true := by
  unfold ckY
  simp only [ckc_214, Bool.true_and]
  decide +kernel
set_option maxRecDepth 100000 in
theorem ckm_214_0 : ckP 214 0 64 = true := by decide +kernel
set_option maxRecDepth 100000 in
theorem ckm_214_1 : ckP 214 64 64 = true := by decide +kernel
set_option maxRecDepth 100000 in
theorem ckm_214_2 : ckP 214 128 64 = true := by decide +kernel
set_option maxRecDepth 100000 in
theorem ckm_214_3 : ckP 214 192 64 = true := by decide +kernel
set_option maxRecDepth 100000 in
theorem ckm_214_4 : ckP 214 256 64 = true := by decide +kernel
set_option maxRecDepth 100000 in
theorem ckm_214_5 : ckP 214 320 64 = true := by decide +kernel
set_option maxRecDepth 100000 in
theorem ckm_214_6 : ckP 214 384 12 = true := by decide +kernel
theorem cka_214 (pc : Nat) (e : aE) (h : code_ 214 pc = some e) : ckE 214 pc e = true := by
  have h0 : pc < 396 := by
    refine Nat.not_le.mp (fun hq => ?_)
    have : code_ 214 pc = none := by
      show cd_214 pc = none
      unfold cd_214
      rw [Nat.ble_eq_true_of_le hq]; rfl
    rw [this] at h; cases h
  by_cases h1 : pc < 64
  · exact ckP_ok ckm_214_0 (by omega) (by omega) h
  by_cases h2 : pc < 128
  · exact ckP_ok ckm_214_1 (by omega) (by omega) h
  by_cases h3 : pc < 192
  · exact ckP_ok ckm_214_2 (by omega) (by omega) h
  by_cases h4 : pc < 256
  · exact ckP_ok ckm_214_3 (by omega) (by omega) h
  by_cases h5 : pc < 320
  · exact ckP_ok ckm_214_4 (by omega) (by omega) h
  by_cases h6 : pc < 384
  · exact ckP_ok ckm_214_5 (by omega) (by omega) h
  by_cases h7 : pc < 396
  · exact ckP_ok ckm_214_6 (by omega) (by omega) h
  omega
