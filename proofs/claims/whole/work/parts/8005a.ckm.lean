theorem ckc_137 : hw_ (cw_ 137) (.code (yn_ 137) (bts_ 137) (mxl_ 137) (rt_ 137)) = true := by
  have h : (ch_ (cw_ 137 / 240))[cw_ 137 % 240]? = some (Cond.code (yn_ 137) (bts_ 137) (mxl_ 137) (rt_ 137)) := by
    exact (Eq.refl _ : (ch_ (cw_ 137 / 240))[cw_ 137 % 240]? = _)
  unfold hw_
  rw [decide_eq_true h]
  rfl
theorem cky_137 : ckY 137 = true := by
  unfold ckY
  simp only [ckc_137, Bool.true_and]
  decide +kernel
set_option maxRecDepth 100000 in
theorem ckm_137_0 : ckP 137 0 47 = true := by decide +kernel
theorem cka_137 (pc : Nat) (e : aE) (h : code_ 137 pc = some e) : ckE 137 pc e = true := by
  have h0 : pc < 47 := by
    refine Nat.not_le.mp (fun hq => ?_)
    have : code_ 137 pc = none := by
      show cd_137 pc = none
      unfold cd_137
      rw [Nat.ble_eq_true_of_le hq]; rfl
    rw [this] at h; cases h
  by_cases h1 : pc < 47
  · exact ckP_ok ckm_137_0 (by omega) (by omega) h
  omega
theorem ckc_138 : hw_ (cw_ 138) (.code (yn_ 138) (bts_ 138) (mxl_ 138) (rt_ 138)) = true := by
  have h : (ch_ (cw_ 138 / 240))[cw_ 138 % 240]? = some (Cond.code (yn_ 138) (bts_ 138) (mxl_ 138) (rt_ 138)) := by
    exact (Eq.refl _ : (ch_ (cw_ 138 / 240))[cw_ 138 % 240]? = _)
  unfold hw_
  rw [decide_eq_true h]
  rfl
theorem cky_138 : ckY 138 = true := by
  unfold ckY
  simp only [ckc_138, Bool.true_and]
  decide +kernel
set_option maxRecDepth 100000 in
theorem ckm_138_0 : ckP 138 0 42 = true := by decide +kernel
theorem cka_138 (pc : Nat) (e : aE) (h : code_ 138 pc = some e) : ckE 138 pc e = true := by
  have h0 : pc < 42 := by
    refine Nat.not_le.mp (fun hq => ?_)
    have : code_ 138 pc = none := by
      show cd_138 pc = none
      unfold cd_138
      rw [Nat.ble_eq_true_of_le hq]; rfl
    rw [this] at h; cases h
  by_cases h1 : pc < 42
  · exact ckP_ok ckm_138_0 (by omega) (by omega) h
  omega
theorem ckc_139 : hw_ (cw_ 139) (.code (yn_ 139) (bts_ 139) (mxl_ 139) (rt_ 139)) = true := by
  have h : (ch_ (cw_ 139 / 240))[cw_ 139 % 240]? = some (Cond.code (yn_ 139) (bts_ 139) (mxl_ 139) (rt_ 139)) := by
    exact (Eq.refl _ : (ch_ (cw_ 139 / 240))[cw_ 139 % 240]? = _)
  unfold hw_
  rw [decide_eq_true h]
  rfl
theorem cky_139 : ckY 139 = true := by
  unfold ckY
  simp only [ckc_139, Bool.true_and]
  decide +kernel
set_option maxRecDepth 100000 in
theorem ckm_139_0 : ckP 139 0 51 = true := by decide +kernel
theorem cka_139 (pc : Nat) (e : aE) (h : code_ 139 pc = some e) : ckE 139 pc e = true := by
  have h0 : pc < 51 := by
    refine Nat.not_le.mp (fun hq => ?_)
    have : code_ 139 pc = none := by
      show cd_139 pc = none
      unfold cd_139
      rw [Nat.ble_eq_true_of_le hq]; rfl
    rw [this] at h; cases h
  by_cases h1 : pc < 51
  · exact ckP_ok ckm_139_0 (by omega) (by omega) h
  omega
theorem ckc_140 : hw_ (cw_ 140) (.code (yn_ 140) (bts_ 140) (mxl_ 140) (rt_ 140)) = true := by
  have h : (ch_ (cw_ 140 / 240))[cw_ 140 % 240]? = some (Cond.code (yn_ 140) (bts_ 140) (mxl_ 140) (rt_ 140)) := by
    exact (Eq.refl _ : (ch_ (cw_ 140 / 240))[cw_ 140 % 240]? = _)
  unfold hw_
  rw [decide_eq_true h]
  rfl
theorem cky_140 : ckY 140 = true := by
  unfold ckY
  simp only [ckc_140, Bool.true_and]
  decide +kernel
set_option maxRecDepth 100000 in
theorem ckm_140_0 : ckP 140 0 34 = true := by decide +kernel
theorem cka_140 (pc : Nat) (e : aE) (h : code_ 140 pc = some e) : ckE 140 pc e = true := by
  have h0 : pc < 34 := by
    refine Nat.not_le.mp (fun hq => ?_)
    have : code_ 140 pc = none := by
      show cd_140 pc = none
      unfold cd_140
      rw [Nat.ble_eq_true_of_le hq]; rfl
    rw [this] at h; cases h
  by_cases h1 : pc < 34
  · exact ckP_ok ckm_140_0 (by omega) (by omega) h
  omega
theorem ckc_141 : hw_ (cw_ 141) (.code (yn_ 141) (bts_ 141) (mxl_ 141) (rt_ 141)) = true := by
  have h : (ch_ (cw_ 141 / 240))[cw_ 141 % 240]? = some (Cond.code (yn_ 141) (bts_ 141) (mxl_ 141) (rt_ 141)) := by
    exact (Eq.refl _ : (ch_ (cw_ 141 / 240))[cw_ 141 % 240]? = _)
  unfold hw_
  rw [decide_eq_true h]
  rfl
theorem cky_141 : ckY 141 = true := by
  unfold ckY
  simp only [ckc_141, Bool.true_and]
  decide +kernel
set_option maxRecDepth 100000 in
theorem ckm_141_0 : ckP 141 0 51 = true := by decide +kernel
theorem cka_141 (pc : Nat) (e : aE) (h : code_ 141 pc = some e) : ckE 141 pc e = true := by
  have h0 : pc < 51 := by
    refine Nat.not_le.mp (fun hq => ?_)
    have : code_ 141 pc = none := by
      show cd_141 pc = none
      unfold cd_141
      rw [Nat.ble_eq_true_of_le hq]; rfl
    rw [this] at h; cases h
  by_cases h1 : pc < 51
  · exact ckP_ok ckm_141_0 (by omega) (by omega) h
  omega
theorem ckc_142 : hw_ (cw_ 142) (.code (yn_ 142) (bts_ 142) (mxl_ 142) (rt_ 142)) = true := by
  have h : (ch_ (cw_ 142 / 240))[cw_ 142 % 240]? = some (Cond.code (yn_ 142) (bts_ 142) (mxl_ 142) (rt_ 142)) := by
    exact (Eq.refl _ : (ch_ (cw_ 142 / 240))[cw_ 142 % 240]? = _)
  unfold hw_
  rw [decide_eq_true h]
  rfl
theorem cky_142 : ckY 142 = true := by
  unfold ckY
  simp only [ckc_142, Bool.true_and]
  decide +kernel
set_option maxRecDepth 100000 in
theorem ckm_142_0 : ckP 142 0 30 = true := by decide +kernel
theorem cka_142 (pc : Nat) (e : aE) (h : code_ 142 pc = some e) : ckE 142 pc e = true := by
  have h0 : pc < 30 := by
    refine Nat.not_le.mp (fun hq => ?_)
    have : code_ 142 pc = none := by
      show cd_142 pc = none
      unfold cd_142
      rw [Nat.ble_eq_true_of_le hq]; rfl
    rw [this] at h; cases h
  by_cases h1 : pc < 30
  · exact ckP_ok ckm_142_0 (by omega) (by omega) h
  omega
theorem ckc_143 : hw_ (cw_ 143) (.code (yn_ 143) (bts_ 143) (mxl_ 143) (rt_ 143)) = true := by
  have h : (ch_ (cw_ 143 / 240))[cw_ 143 % 240]? = some (Cond.code (yn_ 143) (bts_ 143) (mxl_ 143) (rt_ 143)) := by
    exact (Eq.refl _ : (ch_ (cw_ 143 / 240))[cw_ 143 % 240]? = _)
  unfold hw_
  rw [decide_eq_true h]
  rfl
theorem cky_143 : ckY 143 = true := by
  unfold ckY
  simp only [ckc_143, Bool.true_and]
  decide +kernel
set_option maxRecDepth 100000 in
theorem ckm_143_0 : ckP 143 0 28 = true := by decide +kernel
theorem cka_143 (pc : Nat) (e : aE) (h : code_ 143 pc = some e) : ckE 143 pc e = true := by
  have h0 : pc < 28 := by
    refine Nat.not_le.mp (fun hq => ?_)
    have : code_ 143 pc = none := by
      show cd_143 pc = none
      unfold cd_143
      rw [Nat.ble_eq_true_of_le hq]; rfl
    rw [this] at h; cases h
  by_cases h1 : pc < 28
  · exact ckP_ok ckm_143_0 (by omega) (by omega) h
  omega
theorem ckc_144 : hw_ (cw_ 144) (.code (yn_ 144) (bts_ 144) (mxl_ 144) (rt_ 144)) = true := by
  have h : (ch_ (cw_ 144 / 240))[cw_ 144 % 240]? = some (Cond.code (yn_ 144) (bts_ 144) (mxl_ 144) (rt_ 144)) := by
    exact (Eq.refl _ : (ch_ (cw_ 144 / 240))[cw_ 144 % 240]? = _)
  unfold hw_
  rw [decide_eq_true h]
  rfl
theorem cky_144 : ckY 144 = true := by
  unfold ckY
  simp only [ckc_144, Bool.true_and]
  decide +kernel
set_option maxRecDepth 100000 in
theorem ckm_144_0 : ckP 144 0 32 = true := by decide +kernel
theorem cka_144 (pc : Nat) (e : aE) (h : code_ 144 pc = some e) : ckE 144 pc e = true := by
  have h0 : pc < 32 := by
    refine Nat.not_le.mp (fun hq => ?_)
    have : code_ 144 pc = none := by
      show cd_144 pc = none
      unfold cd_144
      rw [Nat.ble_eq_true_of_le hq]; rfl
    rw [this] at h; cases h
  by_cases h1 : pc < 32
  · exact ckP_ok ckm_144_0 (by omega) (by omega) h
  omega
theorem ckc_145 : hw_ (cw_ 145) (.code (yn_ 145) (bts_ 145) (mxl_ 145) (rt_ 145)) = true := by
  have h : (ch_ (cw_ 145 / 240))[cw_ 145 % 240]? = some (Cond.code (yn_ 145) (bts_ 145) (mxl_ 145) (rt_ 145)) := by
    exact (Eq.refl _ : (ch_ (cw_ 145 / 240))[cw_ 145 % 240]? = _)
  unfold hw_
  rw [decide_eq_true h]
  rfl
theorem cky_145 : ckY 145 = true := by
  unfold ckY
  simp only [ckc_145, Bool.true_and]
  decide +kernel
set_option maxRecDepth 100000 in
theorem ckm_145_0 : ckP 145 0 8 = true := by decide +kernel
theorem cka_145 (pc : Nat) (e : aE) (h : code_ 145 pc = some e) : ckE 145 pc e = true := by
  have h0 : pc < 8 := by
    refine Nat.not_le.mp (fun hq => ?_)
    have : code_ 145 pc = none := by
      show cd_145 pc = none
      unfold cd_145
      rw [Nat.ble_eq_true_of_le hq]; rfl
    rw [this] at h; cases h
  by_cases h1 : pc < 8
  · exact ckP_ok ckm_145_0 (by omega) (by omega) h
  omega
theorem ckc_146 : hw_ (cw_ 146) (.code (yn_ 146) (bts_ 146) (mxl_ 146) (rt_ 146)) = true := by
  have h : (ch_ (cw_ 146 / 240))[cw_ 146 % 240]? = some (Cond.code (yn_ 146) (bts_ 146) (mxl_ 146) (rt_ 146)) := by
    exact (Eq.refl _ : (ch_ (cw_ 146 / 240))[cw_ 146 % 240]? = _)
  unfold hw_
  rw [decide_eq_true h]
  rfl
theorem cky_146 : ckY 146 = true := by
  unfold ckY
  simp only [ckc_146, Bool.true_and]
  decide +kernel
set_option maxRecDepth 100000 in
theorem ckm_146_0 : ckP 146 0 13 = true := by decide +kernel
theorem cka_146 (pc : Nat) (e : aE) (h : code_ 146 pc = some e) : ckE 146 pc e = true := by
  have h0 : pc < 13 := by
    refine Nat.not_le.mp (fun hq => ?_)
    have : code_ 146 pc = none := by
      show cd_146 pc = none
      unfold cd_146
      rw [Nat.ble_eq_true_of_le hq]; rfl
    rw [this] at h; cases h
  by_cases h1 : pc < 13
  · exact ckP_ok ckm_146_0 (by omega) (by omega) h
  omega
theorem ckc_147 : hw_ (cw_ 147) (.code (yn_ 147) (bts_ 147) (mxl_ 147) (rt_ 147)) = true := by
  have h : (ch_ (cw_ 147 / 240))[cw_ 147 % 240]? = some (Cond.code (yn_ 147) (bts_ 147) (mxl_ 147) (rt_ 147)) := by
    exact (Eq.refl _ : (ch_ (cw_ 147 / 240))[cw_ 147 % 240]? = _)
  unfold hw_
  rw [decide_eq_true h]
  rfl
theorem cky_147 : ckY 147 = true := by
  unfold ckY
  simp only [ckc_147, Bool.true_and]
  decide +kernel
set_option maxRecDepth 100000 in
theorem ckm_147_0 : ckP 147 0 64 = true := by decide +kernel
set_option maxRecDepth 100000 in
theorem ckm_147_1 : ckP 147 64 62 = true := by decide +kernel
theorem cka_147 (pc : Nat) (e : aE) (h : code_ 147 pc = some e) : ckE 147 pc e = true := by
  have h0 : pc < 126 := by
    refine Nat.not_le.mp (fun hq => ?_)
    have : code_ 147 pc = none := by
      show cd_147 pc = none
      unfold cd_147
      rw [Nat.ble_eq_true_of_le hq]; rfl
    rw [this] at h; cases h
  by_cases h1 : pc < 64
  · exact ckP_ok ckm_147_0 (by omega) (by omega) h
  by_cases h2 : pc < 126
  · exact ckP_ok ckm_147_1 (by omega) (by omega) h
  omega
