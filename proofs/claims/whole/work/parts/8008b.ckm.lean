theorem ckc_223 : hw_ (cw_ 223) (.code (yn_ 223) (bts_ 223) (mxl_ 223) (rt_ 223)) = true := by
  have h : (ch_ (cw_ 223 / 240))[cw_ 223 % 240]? = some (Cond.code (yn_ 223) (bts_ 223) (mxl_ 223) (rt_ 223)) := by
    exact (Eq.refl _ : (ch_ (cw_ 223 / 240))[cw_ 223 % 240]? = _)
  unfold hw_
  rw [decide_eq_true h]
  rfl
theorem cky_223 : ckY 223 = true := by
  unfold ckY
  simp only [ckc_223, Bool.true_and]
  decide +kernel
set_option maxRecDepth 100000 in
theorem ckm_223_0 : ckP 223 0 64 = true := by decide +kernel
set_option maxRecDepth 100000 in
theorem ckm_223_1 : ckP 223 64 27 = true := by decide +kernel
theorem cka_223 (pc : Nat) (e : aE) (h : code_ 223 pc = some e) : ckE 223 pc e = true := by
  have h0 : pc < 91 := by
    refine Nat.not_le.mp (fun hq => ?_)
    have : code_ 223 pc = none := by
      show cd_223 pc = none
      unfold cd_223
      rw [Nat.ble_eq_true_of_le hq]; rfl
    rw [this] at h; cases h
  by_cases h1 : pc < 64
  · exact ckP_ok ckm_223_0 (by omega) (by omega) h
  by_cases h2 : pc < 91
  · exact ckP_ok ckm_223_1 (by omega) (by omega) h
  omega
theorem ckc_224 : hw_ (cw_ 224) (.code (yn_ 224) (bts_ 224) (mxl_ 224) (rt_ 224)) = true := by
  have h : (ch_ (cw_ 224 / 240))[cw_ 224 % 240]? = some (Cond.code (yn_ 224) (bts_ 224) (mxl_ 224) (rt_ 224)) := by
    exact (Eq.refl _ : (ch_ (cw_ 224 / 240))[cw_ 224 % 240]? = _)
  unfold hw_
  rw [decide_eq_true h]
  rfl
theorem cky_224 : ckY 224 = true := by
  unfold ckY
  simp only [ckc_224, Bool.true_and]
  decide +kernel
set_option maxRecDepth 100000 in
theorem ckm_224_0 : ckP 224 0 64 = true := by decide +kernel
set_option maxRecDepth 100000 in
theorem ckm_224_1 : ckP 224 64 64 = true := by decide +kernel
set_option maxRecDepth 100000 in
theorem ckm_224_2 : ckP 224 128 64 = true := by decide +kernel
set_option maxRecDepth 100000 in
theorem ckm_224_3 : ckP 224 192 15 = true := by decide +kernel
theorem cka_224 (pc : Nat) (e : aE) (h : code_ 224 pc = some e) : ckE 224 pc e = true := by
  have h0 : pc < 207 := by
    refine Nat.not_le.mp (fun hq => ?_)
    have : code_ 224 pc = none := by
      show cd_224 pc = none
      unfold cd_224
      rw [Nat.ble_eq_true_of_le hq]; rfl
    rw [this] at h; cases h
  by_cases h1 : pc < 64
  · exact ckP_ok ckm_224_0 (by omega) (by omega) h
  by_cases h2 : pc < 128
  · exact ckP_ok ckm_224_1 (by omega) (by omega) h
  by_cases h3 : pc < 192
  · exact ckP_ok ckm_224_2 (by omega) (by omega) h
  by_cases h4 : pc < 207
  · exact ckP_ok ckm_224_3 (by omega) (by omega) h
  omega
theorem ckc_225 : hw_ (cw_ 225) (.code (yn_ 225) (bts_ 225) (mxl_ 225) (rt_ 225)) = true := by
  have h : (ch_ (cw_ 225 / 240))[cw_ 225 % 240]? = some (Cond.code (yn_ 225) (bts_ 225) (mxl_ 225) (rt_ 225)) := by
    exact (Eq.refl _ : (ch_ (cw_ 225 / 240))[cw_ 225 % 240]? = _)
  unfold hw_
  rw [decide_eq_true h]
  rfl
theorem cky_225 : ckY 225 = true := by
  unfold ckY
  simp only [ckc_225, Bool.true_and]
  decide +kernel
set_option maxRecDepth 100000 in
theorem ckm_225_0 : ckP 225 0 39 = true := by decide +kernel
theorem cka_225 (pc : Nat) (e : aE) (h : code_ 225 pc = some e) : ckE 225 pc e = true := by
  have h0 : pc < 39 := by
    refine Nat.not_le.mp (fun hq => ?_)
    have : code_ 225 pc = none := by
      show cd_225 pc = none
      unfold cd_225
      rw [Nat.ble_eq_true_of_le hq]; rfl
    rw [this] at h; cases h
  by_cases h1 : pc < 39
  · exact ckP_ok ckm_225_0 (by omega) (by omega) h
  omega
theorem ckc_226 : hw_ (cw_ 226) (.code (yn_ 226) (bts_ 226) (mxl_ 226) (rt_ 226)) = true := by
  have h : (ch_ (cw_ 226 / 240))[cw_ 226 % 240]? = some (Cond.code (yn_ 226) (bts_ 226) (mxl_ 226) (rt_ 226)) := by
    exact (Eq.refl _ : (ch_ (cw_ 226 / 240))[cw_ 226 % 240]? = _)
  unfold hw_
  rw [decide_eq_true h]
  rfl
theorem cky_226 : ckY 226 = true := by
  unfold ckY
  simp only [ckc_226, Bool.true_and]
  decide +kernel
set_option maxRecDepth 100000 in
theorem ckm_226_0 : ckP 226 0 64 = true := by decide +kernel
set_option maxRecDepth 100000 in
theorem ckm_226_1 : ckP 226 64 56 = true := by decide +kernel
theorem cka_226 (pc : Nat) (e : aE) (h : code_ 226 pc = some e) : ckE 226 pc e = true := by
  have h0 : pc < 120 := by
    refine Nat.not_le.mp (fun hq => ?_)
    have : code_ 226 pc = none := by
      show cd_226 pc = none
      unfold cd_226
      rw [Nat.ble_eq_true_of_le hq]; rfl
    rw [this] at h; cases h
  by_cases h1 : pc < 64
  · exact ckP_ok ckm_226_0 (by omega) (by omega) h
  by_cases h2 : pc < 120
  · exact ckP_ok ckm_226_1 (by omega) (by omega) h
  omega
theorem ckc_227 : hw_ (cw_ 227) (.code (yn_ 227) (bts_ 227) (mxl_ 227) (rt_ 227)) = true := by
  have h : (ch_ (cw_ 227 / 240))[cw_ 227 % 240]? = some (Cond.code (yn_ 227) (bts_ 227) (mxl_ 227) (rt_ 227)) := by
    exact (Eq.refl _ : (ch_ (cw_ 227 / 240))[cw_ 227 % 240]? = _)
  unfold hw_
  rw [decide_eq_true h]
  rfl
theorem cky_227 : ckY 227 = true := by
  unfold ckY
  simp only [ckc_227, Bool.true_and]
  decide +kernel
set_option maxRecDepth 100000 in
theorem ckm_227_0 : ckP 227 0 64 = true := by decide +kernel
set_option maxRecDepth 100000 in
theorem ckm_227_1 : ckP 227 64 17 = true := by decide +kernel
theorem cka_227 (pc : Nat) (e : aE) (h : code_ 227 pc = some e) : ckE 227 pc e = true := by
  have h0 : pc < 81 := by
    refine Nat.not_le.mp (fun hq => ?_)
    have : code_ 227 pc = none := by
      show cd_227 pc = none
      unfold cd_227
      rw [Nat.ble_eq_true_of_le hq]; rfl
    rw [this] at h; cases h
  by_cases h1 : pc < 64
  · exact ckP_ok ckm_227_0 (by omega) (by omega) h
  by_cases h2 : pc < 81
  · exact ckP_ok ckm_227_1 (by omega) (by omega) h
  omega
theorem ckc_228 : hw_ (cw_ 228) (.code (yn_ 228) (bts_ 228) (mxl_ 228) (rt_ 228)) = true := by
  have h : (ch_ (cw_ 228 / 240))[cw_ 228 % 240]? = some (Cond.code (yn_ 228) (bts_ 228) (mxl_ 228) (rt_ 228)) := by
    exact (Eq.refl _ : (ch_ (cw_ 228 / 240))[cw_ 228 % 240]? = _)
  unfold hw_
  rw [decide_eq_true h]
  rfl
theorem cky_228 : ckY 228 = true := by
  unfold ckY
  simp only [ckc_228, Bool.true_and]
  decide +kernel
set_option maxRecDepth 100000 in
theorem ckm_228_0 : ckP 228 0 64 = true := by decide +kernel
set_option maxRecDepth 100000 in
theorem ckm_228_1 : ckP 228 64 7 = true := by decide +kernel
theorem cka_228 (pc : Nat) (e : aE) (h : code_ 228 pc = some e) : ckE 228 pc e = true := by
  have h0 : pc < 71 := by
    refine Nat.not_le.mp (fun hq => ?_)
    have : code_ 228 pc = none := by
      show cd_228 pc = none
      unfold cd_228
      rw [Nat.ble_eq_true_of_le hq]; rfl
    rw [this] at h; cases h
  by_cases h1 : pc < 64
  · exact ckP_ok ckm_228_0 (by omega) (by omega) h
  by_cases h2 : pc < 71
  · exact ckP_ok ckm_228_1 (by omega) (by omega) h
  omega
theorem ckc_229 : hw_ (cw_ 229) (.code (yn_ 229) (bts_ 229) (mxl_ 229) (rt_ 229)) = true := by
  have h : (ch_ (cw_ 229 / 240))[cw_ 229 % 240]? = some (Cond.code (yn_ 229) (bts_ 229) (mxl_ 229) (rt_ 229)) := by
    exact (Eq.refl _ : (ch_ (cw_ 229 / 240))[cw_ 229 % 240]? = _)
  unfold hw_
  rw [decide_eq_true h]
  rfl
theorem cky_229 : ckY 229 = true := by
  unfold ckY
  simp only [ckc_229, Bool.true_and]
  decide +kernel
set_option maxRecDepth 100000 in
theorem ckm_229_0 : ckP 229 0 64 = true := by decide +kernel
set_option maxRecDepth 100000 in
theorem ckm_229_1 : ckP 229 64 64 = true := by decide +kernel
set_option maxRecDepth 100000 in
theorem ckm_229_2 : ckP 229 128 17 = true := by decide +kernel
theorem cka_229 (pc : Nat) (e : aE) (h : code_ 229 pc = some e) : ckE 229 pc e = true := by
  have h0 : pc < 145 := by
    refine Nat.not_le.mp (fun hq => ?_)
    have : code_ 229 pc = none := by
      show cd_229 pc = none
      unfold cd_229
      rw [Nat.ble_eq_true_of_le hq]; rfl
    rw [this] at h; cases h
  by_cases h1 : pc < 64
  · exact ckP_ok ckm_229_0 (by omega) (by omega) h
  by_cases h2 : pc < 128
  · exact ckP_ok ckm_229_1 (by omega) (by omega) h
  by_cases h3 : pc < 145
  · exact ckP_ok ckm_229_2 (by omega) (by omega) h
  omega
theorem ckc_230 : hw_ (cw_ 230) (.code (yn_ 230) (bts_ 230) (mxl_ 230) (rt_ 230)) = true := by
  have h : (ch_ (cw_ 230 / 240))[cw_ 230 % 240]? = some (Cond.code (yn_ 230) (bts_ 230) (mxl_ 230) (rt_ 230)) := by
    exact (Eq.refl _ : (ch_ (cw_ 230 / 240))[cw_ 230 % 240]? = _)
  unfold hw_
  rw [decide_eq_true h]
  rfl
theorem cky_230 : ckY 230 = true := by
  unfold ckY
  simp only [ckc_230, Bool.true_and]
  decide +kernel
set_option maxRecDepth 100000 in
theorem ckm_230_0 : ckP 230 0 31 = true := by decide +kernel
theorem cka_230 (pc : Nat) (e : aE) (h : code_ 230 pc = some e) : ckE 230 pc e = true := by
  have h0 : pc < 31 := by
    refine Nat.not_le.mp (fun hq => ?_)
    have : code_ 230 pc = none := by
      show cd_230 pc = none
      unfold cd_230
      rw [Nat.ble_eq_true_of_le hq]; rfl
    rw [this] at h; cases h
  by_cases h1 : pc < 31
  · exact ckP_ok ckm_230_0 (by omega) (by omega) h
  omega
