theorem cky_259 : ckY 259 = true := by decide +kernel
set_option maxRecDepth 100000 in
theorem ckm_259_0 : ckP 259 0 41 = true := by decide +kernel
theorem cka_259 (pc : Nat) (e : aE) (h : code_ 259 pc = some e) : ckE 259 pc e = true := by
  have h0 : pc < 41 := by
    refine Nat.not_le.mp (fun hq => ?_)
    have : code_ 259 pc = none := by
      show cd_259 pc = none
      unfold cd_259
      rw [Nat.ble_eq_true_of_le hq]; rfl
    rw [this] at h; cases h
  by_cases h1 : pc < 41
  · exact ckP_ok ckm_259_0 (by omega) (by omega) h
  omega
theorem cky_260 : ckY 260 = true := by decide +kernel
set_option maxRecDepth 100000 in
theorem ckm_260_0 : ckP 260 0 64 = true := by decide +kernel
set_option maxRecDepth 100000 in
theorem ckm_260_1 : ckP 260 64 64 = true := by decide +kernel
set_option maxRecDepth 100000 in
theorem ckm_260_2 : ckP 260 128 26 = true := by decide +kernel
theorem cka_260 (pc : Nat) (e : aE) (h : code_ 260 pc = some e) : ckE 260 pc e = true := by
  have h0 : pc < 154 := by
    refine Nat.not_le.mp (fun hq => ?_)
    have : code_ 260 pc = none := by
      show cd_260 pc = none
      unfold cd_260
      rw [Nat.ble_eq_true_of_le hq]; rfl
    rw [this] at h; cases h
  by_cases h1 : pc < 64
  · exact ckP_ok ckm_260_0 (by omega) (by omega) h
  by_cases h2 : pc < 128
  · exact ckP_ok ckm_260_1 (by omega) (by omega) h
  by_cases h3 : pc < 154
  · exact ckP_ok ckm_260_2 (by omega) (by omega) h
  omega
theorem cky_261 : ckY 261 = true := by decide +kernel
set_option maxRecDepth 100000 in
theorem ckm_261_0 : ckP 261 0 64 = true := by decide +kernel
set_option maxRecDepth 100000 in
theorem ckm_261_1 : ckP 261 64 64 = true := by decide +kernel
set_option maxRecDepth 100000 in
theorem ckm_261_2 : ckP 261 128 40 = true := by decide +kernel
theorem cka_261 (pc : Nat) (e : aE) (h : code_ 261 pc = some e) : ckE 261 pc e = true := by
  have h0 : pc < 168 := by
    refine Nat.not_le.mp (fun hq => ?_)
    have : code_ 261 pc = none := by
      show cd_261 pc = none
      unfold cd_261
      rw [Nat.ble_eq_true_of_le hq]; rfl
    rw [this] at h; cases h
  by_cases h1 : pc < 64
  · exact ckP_ok ckm_261_0 (by omega) (by omega) h
  by_cases h2 : pc < 128
  · exact ckP_ok ckm_261_1 (by omega) (by omega) h
  by_cases h3 : pc < 168
  · exact ckP_ok ckm_261_2 (by omega) (by omega) h
  omega
theorem cky_262 : ckY 262 = true := by decide +kernel
set_option maxRecDepth 100000 in
theorem ckm_262_0 : ckP 262 0 36 = true := by decide +kernel
theorem cka_262 (pc : Nat) (e : aE) (h : code_ 262 pc = some e) : ckE 262 pc e = true := by
  have h0 : pc < 36 := by
    refine Nat.not_le.mp (fun hq => ?_)
    have : code_ 262 pc = none := by
      show cd_262 pc = none
      unfold cd_262
      rw [Nat.ble_eq_true_of_le hq]; rfl
    rw [this] at h; cases h
  by_cases h1 : pc < 36
  · exact ckP_ok ckm_262_0 (by omega) (by omega) h
  omega
