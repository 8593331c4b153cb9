theorem ckc_215 : hw_ (cw_ 215) (.code (yn_ 215) (bts_ 215) (mxl_ 215) (rt_ 215)) = true := by
  have h : (ch_ (cw_ 215 / 240))[cw_ 215 % 240]? = some (Cond.code (yn_ 215) (bts_ 215) (mxl_ 215) (rt_ 215)) := by
    exact (Eq.refl _ : (ch_ (cw_ 215 / 240))[cw_ 215 % 240]? = _)
  unfold hw_
  rw [decide_eq_true h]
  rfl
theorem cky_215 : ckY 215 = true := by
  unfold ckY
  simp only [ckc_215, Bool.true_and]
  decide +kernel
set_option maxRecDepth 100000 in
theorem ckm_215_0 : ckP 215 0 64 = true := by decide +kernel
set_option maxRecDepth 100000 in
theorem ckm_215_1 : ckP 215 64 18 = true := by decide +kernel
theorem cka_215 (pc : Nat) (e : aE) (h : code_ 215 pc = some e) : ckE 215 pc e = true := by
  have h0 : pc < 82 := by
    refine Nat.not_le.mp (fun hq => ?_)
    have : code_ 215 pc = none := by
      show cd_215 pc = none
      unfold cd_215
      rw [Nat.ble_eq_true_of_le hq]; rfl
    rw [this] at h; cases h
  by_cases h1 : pc < 64
  · exact ckP_ok ckm_215_0 (by omega) (by omega) h
  by_cases h2 : pc < 82
  · exact ckP_ok ckm_215_1 (by omega) (by omega) h
  omega
theorem ckc_216 : hw_ (cw_ 216) (.code (yn_ 216) (bts_ 216) (mxl_ 216) (rt_ 216)) = true := by
  have h : (ch_ (cw_ 216 / 240))[cw_ 216 % 240]? = some (Cond.code (yn_ 216) (bts_ 216) (mxl_ 216) (rt_ 216)) := by
    exact (Eq.refl _ : (ch_ (cw_ 216 / 240))[cw_ 216 % 240]? = _)
  unfold hw_
  rw [decide_eq_true h]
  rfl
theorem cky_216 : ckY 216 = true := by
  unfold ckY
  simp only [ckc_216, Bool.true_and]
  decide +kernel
set_option maxRecDepth 100000 in
theorem ckm_216_0 : ckP 216 0 64 = true := by decide +kernel
set_option maxRecDepth 100000 in
theorem ckm_216_1 : ckP 216 64 64 = true := by decide +kernel
set_option maxRecDepth 100000 in
theorem ckm_216_2 : ckP 216 128 7 = true := by decide +kernel
theorem cka_216 (pc : Nat) (e : aE) (h : code_ 216 pc = some e) : ckE 216 pc e = true := by
  have h0 : pc < 135 := by
    refine Nat.not_le.mp (fun hq => ?_)
    have : code_ 216 pc = none := by
      show cd_216 pc = none
      unfold cd_216
      rw [Nat.ble_eq_true_of_le hq]; rfl
    rw [this] at h; cases h
  by_cases h1 : pc < 64
  · exact ckP_ok ckm_216_0 (by omega) (by omega) h
  by_cases h2 : pc < 128
  · exact ckP_ok ckm_216_1 (by omega) (by omega) h
  by_cases h3 : pc < 135
  · exact ckP_ok ckm_216_2 (by omega) (by omega) h
  omega
theorem ckc_217 : hw_ (cw_ 217) (.code (yn_ 217) (bts_ 217) (mxl_ 217) (rt_ 217)) = true := by
  have h : (ch_ (cw_ 217 / 240))[cw_ 217 % 240]? = some (Cond.code (yn_ 217) (bts_ 217) (mxl_ 217) (rt_ 217)) := by
    exact (Eq.refl _ : (ch_ (cw_ 217 / 240))[cw_ 217 % 240]? = _)
  unfold hw_
  rw [decide_eq_true h]
  rfl
theorem cky_217 : ckY 217 = true := by
  unfold ckY
  simp only [ckc_217, Bool.true_and]
  decide +kernel
set_option maxRecDepth 100000 in
theorem ckm_217_0 : ckP 217 0 64 = true := by decide +kernel
set_option maxRecDepth 100000 in
theorem ckm_217_1 : ckP 217 64 60 = true := by decide +kernel
theorem cka_217 (pc : Nat) (e : aE) (h : code_ 217 pc = some e) : ckE 217 pc e = true := by
  have h0 : pc < 124 := by
    refine Nat.not_le.mp (fun hq => ?_)
    have : code_ 217 pc = none := by
      show cd_217 pc = none
      unfold cd_217
      rw [Nat.ble_eq_true_of_le hq]; rfl
    rw [this] at h; cases h
  by_cases h1 : pc < 64
  · exact ckP_ok ckm_217_0 (by omega) (by omega) h
  by_cases h2 : pc < 124
  · exact ckP_ok ckm_217_1 (by omega) (by omega) h
  omega
theorem ckc_218 : hw_ (cw_ 218) (.code (yn_ 218) (bts_ 218) (mxl_ 218) (rt_ 218)) = true := by
  have h : (ch_ (cw_ 218 / 240))[cw_ 218 % 240]? = some (Cond.code (yn_ 218) (bts_ 218) (mxl_ 218) (rt_ 218)) := by
    exact (Eq.refl _ : (ch_ (cw_ 218 / 240))[cw_ 218 % 240]? = _)
  unfold hw_
  rw [decide_eq_true h]
  rfl
theorem cky_218 : ckY 218 = true := by
  unfold ckY
  simp only [ckc_218, Bool.true_and]
  decide +kernel
set_option maxRecDepth 100000 in
theorem ckm_218_0 : ckP 218 0 24 = true := by decide +kernel
theorem cka_218 (pc : Nat) (e : aE) (h : code_ 218 pc = some e) : ckE 218 pc e = true := by
  have h0 : pc < 24 := by
    refine Nat.not_le.mp (fun hq => ?_)
    have : code_ 218 pc = none := by
      show cd_218 pc = none
      unfold cd_218
      rw [Nat.ble_eq_true_of_le hq]; rfl
    rw [this] at h; cases h
  by_cases h1 : pc < 24
  · exact ckP_ok ckm_218_0 (by omega) (by omega) h
  omega
theorem ckc_219 : hw_ (cw_ 219) (.code (yn_ 219) (bts_ 219) (mxl_ 219) (rt_ 219)) = true := by
  have h : (ch_ (cw_ 219 / 240))[cw_ 219 % 240]? = some (Cond.code (yn_ 219) (bts_ 219) (mxl_ 219) (rt_ 219)) := by
    exact (Eq.refl _ : (ch_ (cw_ 219 / 240))[cw_ 219 % 240]? = _)
  unfold hw_
  rw [decide_eq_true h]
  rfl
theorem cky_219 : ckY 219 = true := by
  unfold ckY
  simp only [ckc_219, Bool.true_and]
  decide +kernel
set_option maxRecDepth 100000 in
theorem ckm_219_0 : ckP 219 0 51 = true := by decide +kernel
theorem cka_219 (pc : Nat) (e : aE) (h : code_ 219 pc = some e) : ckE 219 pc e = true := by
  have h0 : pc < 51 := by
    refine Nat.not_le.mp (fun hq => ?_)
    have : code_ 219 pc = none := by
      show cd_219 pc = none
      unfold cd_219
      rw [Nat.ble_eq_true_of_le hq]; rfl
    rw [this] at h; cases h
  by_cases h1 : pc < 51
  · exact ckP_ok ckm_219_0 (by omega) (by omega) h
  omega
theorem ckc_220 : hw_ (cw_ 220) (.code (yn_ 220) (bts_ 220) (mxl_ 220) (rt_ 220)) = true := by
  have h : (ch_ (cw_ 220 / 240))[cw_ 220 % 240]? = some (Cond.code (yn_ 220) (bts_ 220) (mxl_ 220) (rt_ 220)) := by
    exact (Eq.refl _ : (ch_ (cw_ 220 / 240))[cw_ 220 % 240]? = _)
  unfold hw_
  rw [decide_eq_true h]
  rfl
theorem cky_220 : ckY 220 = true := by
  unfold ckY
  simp only [ckc_220, Bool.true_and]
  decide +kernel
set_option maxRecDepth 100000 in
theorem ckm_220_0 : ckP 220 0 27 = true := by decide +kernel
theorem cka_220 (pc : Nat) (e : aE) (h : code_ 220 pc = some e) : ckE 220 pc e = true := by
  have h0 : pc < 27 := by
    refine Nat.not_le.mp (fun hq => ?_)
    have : code_ 220 pc = none := by
      show cd_220 pc = none
      unfold cd_220
      rw [Nat.ble_eq_true_of_le hq]; rfl
    rw [this] at h; cases h
  by_cases h1 : pc < 27
  · exact ckP_ok ckm_220_0 (by omega) (by omega) h
  omega
theorem ckc_221 : hw_ (cw_ 221) (.code (yn_ 221) (bts_ 221) (mxl_ 221) (rt_ 221)) = true := by
  have h : (ch_ (cw_ 221 / 240))[cw_ 221 % 240]? = some (Cond.code (yn_ 221) (bts_ 221) (mxl_ 221) (rt_ 221)) := by
    exact (Eq.refl _ : (ch_ (cw_ 221 / 240))[cw_ 221 % 240]? = _)
  unfold hw_
  rw [decide_eq_true h]
  rfl
theorem cky_221 : ckY 221 = true := by
  unfold ckY
  simp only [ckc_221, Bool.true_and]
  decide +kernel
set_option maxRecDepth 100000 in
theorem ckm_221_0 : ckP 221 0 64 = true := by decide +kernel
set_option maxRecDepth 100000 in
theorem ckm_221_1 : ckP 221 64 50 = true := by decide +kernel
theorem cka_221 (pc : Nat) (e : aE) (h : code_ 221 pc = some e) : ckE 221 pc e = true := by
  have h0 : pc < 114 := by
    refine Nat.not_le.mp (fun hq => ?_)
    have : code_ 221 pc = none := by
      show cd_221 pc = none
      unfold cd_221
      rw [Nat.ble_eq_true_of_le hq]; rfl
    rw [this] at h; cases h
  by_cases h1 : pc < 64
  · exact ckP_ok ckm_221_0 (by omega) (by omega) h
  by_cases h2 : pc < 114
  · exact ckP_ok ckm_221_1 (by omega) (by omega) h
  omega
theorem ckc_222 : hw_ (cw_ 222) (.code (yn_ 222) (bts_ 222) (mxl_ 222) (rt_ 222)) = true := by
  have h : (ch_ (cw_ 222 / 240))[cw_ 222 % 240]? = some (Cond.code (yn_ 222) (bts_ 222) (mxl_ 222) (rt_ 222)) := by
    exact (Eq.refl _ : (ch_ (cw_ 222 / 240))[cw_ 222 % 240]? = _)
  unfold hw_
  rw [decide_eq_true h]
  rfl
theorem cky_222 : ckY 222 = true := by
  unfold ckY
  simp only [ckc_222, Bool.true_and]
  decide +kernel
set_option maxRecDepth 100000 in
theorem ckm_222_0 : ckP 222 0 64 = true := by decide +kernel
set_option maxRecDepth 100000 in
theorem ckm_222_1 : ckP 222 64 64 = true := by decide +kernel
set_option maxRecDepth 100000 in
theorem ckm_222_2 : ckP 222 128 45 = true := by decide +kernel
theorem cka_222 (pc : Nat) (e : aE) (h : code_ 222 pc = some e) : ckE 222 pc e = true := by
  have h0 : pc < 173 := by
    refine Nat.not_le.mp (fun hq => ?_)
    have : code_ 222 pc = none := by
      show cd_222 pc = none
      unfold cd_222
      rw [Nat.ble_eq_true_of_le hq]; rfl
    rw [this] at h; cases h
  by_cases h1 : pc < 64
  · exact ckP_ok ckm_222_0 (by omega) (by omega) h
  by_cases h2 : pc < 128
  · exact ckP_ok ckm_222_1 (by omega) (by omega) h
  by_cases h3 : pc < 173
  · exact ckP_ok ckm_222_2 (by omega) (by omega) h
  omega
