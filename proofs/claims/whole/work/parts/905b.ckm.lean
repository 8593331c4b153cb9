theorem cky_148 : ckY 148 = true := by decide +kernel
set_option maxRecDepth 100000 in
theorem ckm_148_0 : ckP 148 0 47 = true := by decide +kernel
theorem cka_148 (pc : Nat) (e : aE) (h : code_ 148 pc = some e) : ckE 148 pc e = true := by
  have h0 : pc < 47 := by
    refine Nat.not_le.mp (fun hq => ?_)
    have : code_ 148 pc = none := by
      show cd_148 pc = none
      unfold cd_148
      rw [Nat.ble_eq_true_of_le hq]; rfl
    rw [this] at h; cases h
  by_cases h1 : pc < 47
  · exact ckP_ok ckm_148_0 (by omega) (by omega) h
  omega
theorem cky_149 : ckY 149 = true := by decide +kernel
set_option maxRecDepth 100000 in
theorem ckm_149_0 : ckP 149 0 47 = true := by decide +kernel
theorem cka_149 (pc : Nat) (e : aE) (h : code_ 149 pc = some e) : ckE 149 pc e = true := by
  have h0 : pc < 47 := by
    refine Nat.not_le.mp (fun hq => ?_)
    have : code_ 149 pc = none := by
      show cd_149 pc = none
      unfold cd_149
      rw [Nat.ble_eq_true_of_le hq]; rfl
    rw [this] at h; cases h
  by_cases h1 : pc < 47
  · exact ckP_ok ckm_149_0 (by omega) (by omega) h
  omega
theorem cky_150 : ckY 150 = true := by decide +kernel
set_option maxRecDepth 100000 in
theorem ckm_150_0 : ckP 150 0 26 = true := by decide +kernel
theorem cka_150 (pc : Nat) (e : aE) (h : code_ 150 pc = some e) : ckE 150 pc e = true := by
  have h0 : pc < 26 := by
    refine Nat.not_le.mp (fun hq => ?_)
    have : code_ 150 pc = none := by
      show cd_150 pc = none
      unfold cd_150
      rw [Nat.ble_eq_true_of_le hq]; rfl
    rw [this] at h; cases h
  by_cases h1 : pc < 26
  · exact ckP_ok ckm_150_0 (by omega) (by omega) h
  omega
theorem cky_151 : ckY 151 = true := by decide +kernel
set_option maxRecDepth 100000 in
theorem ckm_151_0 : ckP 151 0 34 = true := by decide +kernel
theorem cka_151 (pc : Nat) (e : aE) (h : code_ 151 pc = some e) : ckE 151 pc e = true := by
  have h0 : pc < 34 := by
    refine Nat.not_le.mp (fun hq => ?_)
    have : code_ 151 pc = none := by
      show cd_151 pc = none
      unfold cd_151
      rw [Nat.ble_eq_true_of_le hq]; rfl
    rw [this] at h; cases h
  by_cases h1 : pc < 34
  · exact ckP_ok ckm_151_0 (by omega) (by omega) h
  omega
theorem cky_152 : ckY 152 = true := by decide +kernel
set_option maxRecDepth 100000 in
theorem ckm_152_0 : ckP 152 0 64 = true := by decide +kernel
set_option maxRecDepth 100000 in
theorem ckm_152_1 : ckP 152 64 64 = true := by decide +kernel
set_option maxRecDepth 100000 in
theorem ckm_152_2 : ckP 152 128 64 = true := by decide +kernel
set_option maxRecDepth 100000 in
theorem ckm_152_3 : ckP 152 192 64 = true := by decide +kernel
set_option maxRecDepth 100000 in
theorem ckm_152_4 : ckP 152 256 64 = true := by decide +kernel
set_option maxRecDepth 100000 in
theorem ckm_152_5 : ckP 152 320 64 = true := by decide +kernel
set_option maxRecDepth 100000 in
theorem ckm_152_6 : ckP 152 384 64 = true := by decide +kernel
set_option maxRecDepth 100000 in
theorem ckm_152_7 : ckP 152 448 64 = true := by decide +kernel
set_option maxRecDepth 100000 in
theorem ckm_152_8 : ckP 152 512 64 = true := by decide +kernel
set_option maxRecDepth 100000 in
theorem ckm_152_9 : ckP 152 576 32 = true := by decide +kernel
theorem cka_152 (pc : Nat) (e : aE) (h : code_ 152 pc = some e) : ckE 152 pc e = true := by
  have h0 : pc < 608 := by
    refine Nat.not_le.mp (fun hq => ?_)
    have : code_ 152 pc = none := by
      show cd_152 pc = none
      unfold cd_152
      rw [Nat.ble_eq_true_of_le hq]; rfl
    rw [this] at h; cases h
  by_cases h1 : pc < 64
  · exact ckP_ok ckm_152_0 (by omega) (by omega) h
  by_cases h2 : pc < 128
  · exact ckP_ok ckm_152_1 (by omega) (by omega) h
  by_cases h3 : pc < 192
  · exact ckP_ok ckm_152_2 (by omega) (by omega) h
  by_cases h4 : pc < 256
  · exact ckP_ok ckm_152_3 (by omega) (by omega) h
  by_cases h5 : pc < 320
  · exact ckP_ok ckm_152_4 (by omega) (by omega) h
  by_cases h6 : pc < 384
  · exact ckP_ok ckm_152_5 (by omega) (by omega) h
  by_cases h7 : pc < 448
  · exact ckP_ok ckm_152_6 (by omega) (by omega) h
  by_cases h8 : pc < 512
  · exact ckP_ok ckm_152_7 (by omega) (by omega) h
  by_cases h9 : pc < 576
  · exact ckP_ok ckm_152_8 (by omega) (by omega) h
  by_cases h10 : pc < 608
  · exact ckP_ok ckm_152_9 (by omega) (by omega) h
  omega
theorem cky_153 : ckY 153 = true := by decide +kernel
set_option maxRecDepth 100000 in
theorem ckm_153_0 : ckP 153 0 5 = true := by decide +kernel
theorem cka_153 (pc : Nat) (e : aE) (h : code_ 153 pc = some e) : ckE 153 pc e = true := by
  have h0 : pc < 5 := by
    refine Nat.not_le.mp (fun hq => ?_)
    have : code_ 153 pc = none := by
      show cd_153 pc = none
      unfold cd_153
      rw [Nat.ble_eq_true_of_le hq]; rfl
    rw [this] at h; cases h
  by_cases h1 : pc < 5
  · exact ckP_ok ckm_153_0 (by omega) (by omega) h
  omega
theorem cky_154 : ckY 154 = true := by decide +kernel
set_option maxRecDepth 100000 in
theorem ckm_154_0 : ckP 154 0 64 = true := by decide +kernel
set_option maxRecDepth 100000 in
theorem ckm_154_1 : ckP 154 64 64 = true := by decide +kernel
set_option maxRecDepth 100000 in
theorem ckm_154_2 : ckP 154 128 1 = true := by decide +kernel
theorem cka_154 (pc : Nat) (e : aE) (h : code_ 154 pc = some e) : ckE 154 pc e = true := by
  have h0 : pc < 129 := by
    refine Nat.not_le.mp (fun hq => ?_)
    have : code_ 154 pc = none := by
      show cd_154 pc = none
      unfold cd_154
      rw [Nat.ble_eq_true_of_le hq]; rfl
    rw [this] at h; cases h
  by_cases h1 : pc < 64
  · exact ckP_ok ckm_154_0 (by omega) (by omega) h
  by_cases h2 : pc < 128
  · exact ckP_ok ckm_154_1 (by omega) (by omega) h
  by_cases h3 : pc < 129
  · exact ckP_ok ckm_154_2 (by omega) (by omega) h
  omega
theorem cky_155 : ckY 155 = true := by decide +kernel
set_option maxRecDepth 100000 in
theorem ckm_155_0 : ckP 155 0 16 = true := by decide +kernel
theorem cka_155 (pc : Nat) (e : aE) (h : code_ 155 pc = some e) : ckE 155 pc e = true := by
  have h0 : pc < 16 := by
    refine Nat.not_le.mp (fun hq => ?_)
    have : code_ 155 pc = none := by
      show cd_155 pc = none
      unfold cd_155
      rw [Nat.ble_eq_true_of_le hq]; rfl
    rw [this] at h; cases h
  by_cases h1 : pc < 16
  · exact ckP_ok ckm_155_0 (by omega) (by omega) h
  omega
