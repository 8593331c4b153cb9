theorem ckc_197 : hw_ (cw_ 197) (.code (yn_ 197) (bts_ 197) (mxl_ 197) (rt_ 197)) = true := by
  have h : (ch_ (cw_ 197 / 240))[cw_ 197 % 240]? = some (Cond.code (yn_ 197) (bts_ 197) (mxl_ 197) (rt_ 197)) := by
    exact (Eq.refl _ : (ch_ (cw_ 197 / 240))[cw_ 197 % 240]? = _)
  unfold hw_
  rw [decide_eq_true h]
  rfl
theorem cky_197 : ckY 197 = true := by
  unfold ckY
  simp only [ckc_197, Bool.true_and]
  decide +kernel
set_option maxRecDepth 100000 in
theorem ckm_197_0 : ckP 197 0 64 = true := by decide +kernel
set_option maxRecDepth 100000 in
theorem ckm_197_1 : ckP 197 64 7 = true := by decide +kernel
theorem cka_197 (pc : Nat) (e : aE) (h : code_ 197 pc = some e) : ckE 197 pc e = true := by
  have h0 : pc < 71 := by
    refine Nat.not_le.mp (fun hq => ?_)
    have : code_ 197 pc = none := by
      show cd_197 pc = none
      unfold cd_197
      rw [Nat.ble_eq_true_of_le hq]; rfl
    rw [this] at h; cases h
  by_cases h1 : pc < 64
  · exact ckP_ok ckm_197_0 (by omega) (by omega) h
  by_cases h2 : pc < 71
  · exact ckP_ok ckm_197_1 (by omega) (by omega) h
  omega
theorem ckc_198 : hw_ (cw_ 198) (.code (yn_ 198) (bts_ 198) (mxl_ 198) (rt_ 198)) = true := by
  have h : (ch_ (cw_ 198 / 240))[cw_ 198 % 240]? = some (Cond.code (yn_ 198) (bts_ 198) (mxl_ 198) (rt_ 198)) := by
    exact (Eq.refl _ : (ch_ (cw_ 198 / 240))[cw_ 198 % 240]? = _)
  unfold hw_
  rw [decide_eq_true h]
  rfl
theorem cky_198 : ckY 198 = true := by
  unfold ckY
  simp only [ckc_198, Bool.true_and]
  decide +kernel
set_option maxRecDepth 100000 in
theorem ckm_198_0 : ckP 198 0 7 = true := by decide +kernel
theorem cka_198 (pc : Nat) (e : aE) (h : code_ 198 pc = some e) : ckE 198 pc e = true := by
  have h0 : pc < 7 := by
    refine Nat.not_le.mp (fun hq => ?_)
    have : code_ 198 pc = none := by
      show cd_198 pc = none
      unfold cd_198
      rw [Nat.ble_eq_true_of_le hq]; rfl
    rw [this] at h; cases h
  by_cases h1 : pc < 7
  · exact ckP_ok ckm_198_0 (by omega) (by omega) h
  omega
theorem ckc_199 : hw_ (cw_ 199) (.code (yn_ 199) (bts_ 199) (mxl_ 199) (rt_ 199)) = true := by
  have h : (ch_ (cw_ 199 / 240))[cw_ 199 % 240]? = some (Cond.code (yn_ 199) (bts_ 199) (mxl_ 199) (rt_ 199)) := by
    exact (Eq.refl _ : (ch_ (cw_ 199 / 240))[cw_ 199 % 240]? = _)
  unfold hw_
  rw [decide_eq_true h]
  rfl
theorem cky_199 : ckY 199 = true := by
  unfold ckY
  simp only [ckc_199, Bool.true_and]
  decide +kernel
set_option maxRecDepth 100000 in
theorem ckm_199_0 : ckP 199 0 55 = true := by decide +kernel
theorem cka_199 (pc : Nat) (e : aE) (h : code_ 199 pc = some e) : ckE 199 pc e = true := by
  have h0 : pc < 55 := by
    refine Nat.not_le.mp (fun hq => ?_)
    have : code_ 199 pc = none := by
      show cd_199 pc = none
      unfold cd_199
      rw [Nat.ble_eq_true_of_le hq]; rfl
    rw [this] at h; cases h
  by_cases h1 : pc < 55
  · exact ckP_ok ckm_199_0 (by omega) (by omega) h
  omega
theorem ckc_200 : hw_ (cw_ 200) (.code (yn_ 200) (bts_ 200) (mxl_ 200) (rt_ 200)) = true := by
  have h : (ch_ (cw_ 200 / 240))[cw_ 200 % 240]? = some (Cond.code (yn_ 200) (bts_ 200) (mxl_ 200) (rt_ 200)) := by
    exact (Eq.refl _ : (ch_ (cw_ 200 / 240))[cw_ 200 % 240]? = _)
  unfold hw_
  rw [decide_eq_true h]
  rfl
theorem cky_200 : ckY 200 = true := by
  unfold ckY
  simp only [ckc_200, Bool.true_and]
  decide +kernel
set_option maxRecDepth 100000 in
theorem ckm_200_0 : ckP 200 0 28 = true := by decide +kernel
theorem cka_200 (pc : Nat) (e : aE) (h : code_ 200 pc = some e) : ckE 200 pc e = true := by
  have h0 : pc < 28 := by
    refine Nat.not_le.mp (fun hq => ?_)
    have : code_ 200 pc = none := by
      show cd_200 pc = none
      unfold cd_200
      rw [Nat.ble_eq_true_of_le hq]; rfl
    rw [this] at h; cases h
  by_cases h1 : pc < 28
  · exact ckP_ok ckm_200_0 (by omega) (by omega) h
  omega
theorem ckc_201 : hw_ (cw_ 201) (.code (yn_ 201) (bts_ 201) (mxl_ 201) (rt_ 201)) = true := by
  have h : (ch_ (cw_ 201 / 240))[cw_ 201 % 240]? = some (Cond.code (yn_ 201) (bts_ 201) (mxl_ 201) (rt_ 201)) := by
    exact (Eq.refl _ : (ch_ (cw_ 201 / 240))[cw_ 201 % 240]? = _)
  unfold hw_
  rw [decide_eq_true h]
  rfl
theorem cky_201 : ckY 201 = true := by
  unfold ckY
  simp only [ckc_201, Bool.true_and]
  decide +kernel
set_option maxRecDepth 100000 in
theorem ckm_201_0 : ckP 201 0 64 = true := by decide +kernel
set_option maxRecDepth 100000 in
theorem ckm_201_1 : ckP 201 64 27 = true := by decide +kernel
theorem cka_201 (pc : Nat) (e : aE) (h : code_ 201 pc = some e) : ckE 201 pc e = true := by
  have h0 : pc < 91 := by
    refine Nat.not_le.mp (fun hq => ?_)
    have : code_ 201 pc = none := by
      show cd_201 pc = none
      unfold cd_201
      rw [Nat.ble_eq_true_of_le hq]; rfl
    rw [this] at h; cases h
  by_cases h1 : pc < 64
  · exact ckP_ok ckm_201_0 (by omega) (by omega) h
  by_cases h2 : pc < 91
  · exact ckP_ok ckm_201_1 (by omega) (by omega) h
  omega
theorem ckc_202 : hw_ (cw_ 202) (.code (yn_ 202) (bts_ 202) (mxl_ 202) (rt_ 202)) = true := by
  have h : (ch_ (cw_ 202 / 240))[cw_ 202 % 240]? = some (Cond.code (yn_ 202) (bts_ 202) (mxl_ 202) (rt_ 202)) := by
    exact (Eq.refl _ : (ch_ (cw_ 202 / 240))[cw_ 202 % 240]? = _)
  unfold hw_
  rw [decide_eq_true h]
  rfl
theorem cky_202 : ckY 202 = true := by
  unfold ckY
  simp only [ckc_202, Bool.true_and]
  decide +kernel
set_option maxRecDepth 100000 in
theorem ckm_202_0 : ckP 202 0 64 = true := by decide +kernel
set_option maxRecDepth 100000 in
theorem ckm_202_1 : ckP 202 64 38 = true := by decide +kernel
theorem cka_202 (pc : Nat) (e : aE) (h : code_ 202 pc = some e) : ckE 202 pc e = true := by
  have h0 : pc < 102 := by
    refine Nat.not_le.mp (fun hq => ?_)
    have : code_ 202 pc = none := by
      show cd_202 pc = none
      unfold cd_202
      rw [Nat.ble_eq_true_of_le hq]; rfl
    rw [this] at h; cases h
  by_cases h1 : pc < 64
  · exact ckP_ok ckm_202_0 (by omega) (by omega) h
  by_cases h2 : pc < 102
  · exact ckP_ok ckm_202_1 (by omega) (by omega) h
  omega
theorem ckc_203 : hw_ (cw_ 203) (.code (yn_ 203) (bts_ 203) (mxl_ 203) (rt_ 203)) = true := by
  have h : (ch_ (cw_ 203 / 240))[cw_ 203 % 240]? = some (Cond.code (yn_ 203) (bts_ 203) (mxl_ 203) (rt_ 203)) := by
    exact (Eq.refl _ : (ch_ (cw_ 203 / 240))[cw_ 203 % 240]? = _)
  unfold hw_
  rw [decide_eq_true h]
  rfl
theorem cky_203 : ckY 203 = true := by
  unfold ckY
  simp only [ckc_203, Bool.true_and]
  decide +kernel
set_option maxRecDepth 100000 in
theorem ckm_203_0 : ckP 203 0 64 = true := by decide +kernel
set_option maxRecDepth 100000 in
theorem ckm_203_1 : ckP 203 64 64 = true := by decide +kernel
set_option maxRecDepth 100000 in
theorem ckm_203_2 : ckP 203 128 64 = true := by decide +kernel
set_option maxRecDepth 100000 in
theorem ckm_203_3 : ckP 203 192 3 = true := by decide +kernel
theorem cka_203 (pc : Nat) (e : aE) (h : code_ 203 pc = some e) : ckE 203 pc e = true := by
  have h0 : pc < 195 := by
    refine Nat.not_le.mp (fun hq => ?_)
    have : code_ 203 pc = none := by
      show cd_203 pc = none
      unfold cd_203
      rw [Nat.ble_eq_true_of_le hq]; rfl
    rw [this] at h; cases h
  by_cases h1 : pc < 64
  · exact ckP_ok ckm_203_0 (by omega) (by omega) h
  by_cases h2 : pc < 128
  · exact ckP_ok ckm_203_1 (by omega) (by omega) h
  by_cases h3 : pc < 192
  · exact ckP_ok ckm_203_2 (by omega) (by omega) h
  by_cases h4 : pc < 195
  · exact ckP_ok ckm_203_3 (by omega) (by omega) h
  omega
theorem ckc_204 : hw_ (cw_ 204) (.code (yn_ 204) (bts_ 204) (mxl_ 204) (rt_ 204)) = true := by
  have h : (ch_ (cw_ 204 / 240))[cw_ 204 % 240]? = some (Cond.code (yn_ 204) (bts_ 204) (mxl_ 204) (rt_ 204)) := by
    exact (Eq.refl _ : (ch_ (cw_ 204 / 240))[cw_ 204 % 240]? = _)
  unfold hw_
  rw [decide_eq_true h]
  rfl
theorem cky_204 : ckY 204 = true := by
  unfold ckY
  simp only [ckc_204, Bool.true_and]
  decide +kernel
set_option maxRecDepth 100000 in
theorem ckm_204_0 : ckP 204 0 37 = true := by decide +kernel
theorem cka_204 (pc : Nat) (e : aE) (h : code_ 204 pc = some e) : ckE 204 pc e = true := by
  have h0 : pc < 37 := by
    refine Nat.not_le.mp (fun hq => ?_)
    have : code_ 204 pc = none := by
      show cd_204 pc = none
      unfold cd_204
      rw [Nat.ble_eq_true_of_le hq]; rfl
    rw [this] at h; cases h
  by_cases h1 : pc < 37
  · exact ckP_ok ckm_204_0 (by omega) (by omega) h
  omega
theorem ckc_205 : hw_ (cw_ 205) (.code (yn_ 205) (bts_ 205) (mxl_ 205) (rt_ 205)) = true := by
  have h : (ch_ (cw_ 205 / 240))[cw_ 205 % 240]? = some (Cond.code (yn_ 205) (bts_ 205) (mxl_ 205) (rt_ 205)) := by
    exact (Eq.refl _ : (ch_ (cw_ 205 / 240))[cw_ 205 % 240]? = _)
  unfold hw_
  rw [decide_eq_true h]
  rfl
theorem cky_205 : ckY 205 = true := by
  unfold ckY
  simp only [ckc_205, Bool.true_and]
  decide +kernel
set_option maxRecDepth 100000 in
theorem ckm_205_0 : ckP 205 0 46 = true := by decide +kernel
theorem cka_205 (pc : Nat) (e : aE) (h : code_ 205 pc = some e) : ckE 205 pc e = true := by
  have h0 : pc < 46 := by
    refine Nat.not_le.mp (fun hq => ?_)
    have : code_ 205 pc = none := by
      show cd_205 pc = none
      unfold cd_205
      rw [Nat.ble_eq_true_of_le hq]; rfl
    rw [this] at h; cases h
  by_cases h1 : pc < 46
  · exact ckP_ok ckm_205_0 (by omega) (by omega) h
  omega
theorem ckc_206 : hw_ (cw_ 206) (.code (yn_ 206) (bts_ 206) (mxl_ 206) (rt_ 206)) = true := by
  have h : (ch_ (cw_ 206 / 240))[cw_ 206 % 240]? = some (Cond.code (yn_ 206) (bts_ 206) (mxl_ 206) (rt_ 206)) := by
    exact (Eq.refl _ : (ch_ (cw_ 206 / 240))[cw_ 206 % 240]? = _)
  unfold hw_
  rw [decide_eq_true h]
  rfl
theorem cky_206 : ckY 206 = true := by
  unfold ckY
  simp only [ckc_206, Bool.true_and]
  decide +kernel
set_option maxRecDepth 100000 in
theorem ckm_206_0 : ckP 206 0 30 = true := by decide +kernel
theorem cka_206 (pc : Nat) (e : aE) (h : code_ 206 pc = some e) : ckE 206 pc e = true := by
  have h0 : pc < 30 := by
    refine Nat.not_le.mp (fun hq => ?_)
    have : code_ 206 pc = none := by
      show cd_206 pc = none
      unfold cd_206
      rw [Nat.ble_eq_true_of_le hq]; rfl
    rw [this] at h; cases h
  by_cases h1 : pc < 30
  · exact ckP_ok ckm_206_0 (by omega) (by omega) h
  omega
