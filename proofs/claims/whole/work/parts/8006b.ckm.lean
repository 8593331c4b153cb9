theorem ckc_173 : hw_ (cw_ 173) (.code (yn_ 173) (bts_ 173) (mxl_ 173) (rt_ 173)) = true := by
  have h : (ch_ (cw_ 173 / 240))[cw_ 173 % 240]? = some (Cond.code (yn_ 173) (bts_ 173) (mxl_ 173) (rt_ 173)) := by
    exact (Eq.refl _ : (ch_ (cw_ 173 / 240))[cw_ 173 % 240]? = _)
  unfold hw_
  rw [decide_eq_true h]
  rfl
theorem cky_173 : ckY 173 = true := by
  unfold ckY
  simp only [ckc_173, Bool.true_and]
  decide +kernel
set_option maxRecDepth 100000 in
theorem ckm_173_0 : ckP 173 0 64 = true := by decide +kernel
set_option maxRecDepth 100000 in
theorem ckm_173_1 : ckP 173 64 53 = true := by decide +kernel
theorem cka_173 (pc : Nat) (e : aE) (h : code_ 173 pc = some e) : ckE 173 pc e = true := by
  have h0 : pc < 117 := by
    refine Nat.not_le.mp (fun hq => ?_)
    have : code_ 173 pc = none := by
      show cd_173 pc = none
      unfold cd_173
      rw [Nat.ble_eq_true_of_le hq]; rfl
    rw [this] at h; cases h
  by_cases h1 : pc < 64
  · exact ckP_ok ckm_173_0 (by omega) (by omega) h
  by_cases h2 : pc < 117
  · exact ckP_ok ckm_173_1 (by omega) (by omega) h
  omega
theorem ckc_174 : hw_ (cw_ 174) (.code (yn_ 174) (bts_ 174) (mxl_ 174) (rt_ 174)) = true := by
  have h : (ch_ (cw_ 174 / 240))[cw_ 174 % 240]? = some (Cond.code (yn_ 174) (bts_ 174) (mxl_ 174) (rt_ 174)) := by
    exact (Eq.refl _ : (ch_ (cw_ 174 / 240))[cw_ 174 % 240]? = _)
  unfold hw_
  rw [decide_eq_true h]
  rfl
theorem cky_174 : ckY 174 = true := by
  unfold ckY
  simp only [ckc_174, Bool.true_and]
  decide +kernel
set_option maxRecDepth 100000 in
theorem ckm_174_0 : ckP 174 0 64 = true := by decide +kernel
set_option maxRecDepth 100000 in
theorem ckm_174_1 : ckP 174 64 13 = true := by decide +kernel
theorem cka_174 (pc : Nat) (e : aE) (h : code_ 174 pc = some e) : ckE 174 pc e = true := by
  have h0 : pc < 77 := by
    refine Nat.not_le.mp (fun hq => ?_)
    have : code_ 174 pc = none := by
      show cd_174 pc = none
      unfold cd_174
      rw [Nat.ble_eq_true_of_le hq]; rfl
    rw [this] at h; cases h
  by_cases h1 : pc < 64
  · exact ckP_ok ckm_174_0 (by omega) (by omega) h
  by_cases h2 : pc < 77
  · exact ckP_ok ckm_174_1 (by omega) (by omega) h
  omega
theorem ckc_175 : hw_ (cw_ 175) (.code (yn_ 175) (bts_ 175) (mxl_ 175) (rt_ 175)) = true := by
  have h : (ch_ (cw_ 175 / 240))[cw_ 175 % 240]? = some (Cond.code (yn_ 175) (bts_ 175) (mxl_ 175) (rt_ 175)) := by
    exact (Eq.refl _ : (ch_ (cw_ 175 / 240))[cw_ 175 % 240]? = _)
  unfold hw_
  rw [decide_eq_true h]
  rfl
theorem cky_175 : ckY 175 = true := by
  unfold ckY
  simp only [ckc_175, Bool.true_and]
  decide +kernel
set_option maxRecDepth 100000 in
theorem ckm_175_0 : ckP 175 0 64 = true := by decide +kernel
set_option maxRecDepth 100000 in
theorem ckm_175_1 : ckP 175 64 41 = true := by decide +kernel
theorem cka_175 (pc : Nat) (e : aE) (h : code_ 175 pc = some e) : ckE 175 pc e = true := by
  have h0 : pc < 105 := by
    refine Nat.not_le.mp (fun hq => ?_)
    have : code_ 175 pc = none := by
      show cd_175 pc = none
      unfold cd_175
      rw [Nat.ble_eq_true_of_le hq]; rfl
    rw [this] at h; cases h
  by_cases h1 : pc < 64
  · exact ckP_ok ckm_175_0 (by omega) (by omega) h
  by_cases h2 : pc < 105
  · exact ckP_ok ckm_175_1 (by omega) (by omega) h
  omega
theorem ckc_176 : hw_ (cw_ 176) (.code (yn_ 176) (bts_ 176) (mxl_ 176) (rt_ 176)) = true := by
  have h : (ch_ (cw_ 176 / 240))[cw_ 176 % 240]? = some (Cond.code (yn_ 176) (bts_ 176) (mxl_ 176) (rt_ 176)) := by
    exact (Eq.refl _ : (ch_ (cw_ 176 / 240))[cw_ 176 % 240]? = _)
  unfold hw_
  rw [decide_eq_true h]
  rfl
theorem cky_176 : ckY 176 = true := by
  unfold ckY
  simp only [ckc_176, Bool.true_and]
  decide +kernel
set_option maxRecDepth 100000 in
theorem ckm_176_0 : ckP 176 0 51 = true := by decide +kernel
theorem cka_176 (pc : Nat) (e : aE) (h : code_ 176 pc = some e) : ckE 176 pc e = true := by
  have h0 : pc < 51 := by
    refine Nat.not_le.mp (fun hq => ?_)
    have : code_ 176 pc = none := by
      show cd_176 pc = none
      unfold cd_176
      rw [Nat.ble_eq_true_of_le hq]; rfl
    rw [this] at h; cases h
  by_cases h1 : pc < 51
  · exact ckP_ok ckm_176_0 (by omega) (by omega) h
  omega
theorem ckc_177 : hw_ (cw_ 177) (.code (yn_ 177) (bts_ 177) (mxl_ 177) (rt_ 177)) = true := by
  have h : (ch_ (cw_ 177 / 240))[cw_ 177 % 240]? = some (Cond.code (yn_ 177) (bts_ 177) (mxl_ 177) (rt_ 177)) := by
    exact (Eq.refl _ : (ch_ (cw_ 177 / 240))[cw_ 177 % 240]? = _)
  unfold hw_
  rw [decide_eq_true h]
  rfl
theorem cky_177 : ckY 177 = true := by
  unfold ckY
  simp only [ckc_177, Bool.true_and]
  decide +kernel
set_option maxRecDepth 100000 in
theorem ckm_177_0 : ckP 177 0 64 = true := by decide +kernel
set_option maxRecDepth 100000 in
theorem ckm_177_1 : ckP 177 64 64 = true := by decide +kernel
set_option maxRecDepth 100000 in
theorem ckm_177_2 : ckP 177 128 30 = true := by decide +kernel
theorem cka_177 (pc : Nat) (e : aE) (h : code_ 177 pc = some e) : ckE 177 pc e = true := by
  have h0 : pc < 158 := by
    refine Nat.not_le.mp (fun hq => ?_)
    have : code_ 177 pc = none := by
      show cd_177 pc = none
      unfold cd_177
      rw [Nat.ble_eq_true_of_le hq]; rfl
    rw [this] at h; cases h
  by_cases h1 : pc < 64
  · exact ckP_ok ckm_177_0 (by omega) (by omega) h
  by_cases h2 : pc < 128
  · exact ckP_ok ckm_177_1 (by omega) (by omega) h
  by_cases h3 : pc < 158
  · exact ckP_ok ckm_177_2 (by omega) (by omega) h
  omega
theorem ckc_178 : hw_ (cw_ 178) (.code (yn_ 178) (bts_ 178) (mxl_ 178) (rt_ 178)) = true := by
  have h : (ch_ (cw_ 178 / 240))[cw_ 178 % 240]? = some (Cond.code (yn_ 178) (bts_ 178) (mxl_ 178) (rt_ 178)) := by
    exact (Eq.refl _ : (ch_ (cw_ 178 / 240))[cw_ 178 % 240]? = _)
  unfold hw_
  rw [decide_eq_true h]
  rfl
theorem cky_178 : ckY 178 = true := by
  unfold ckY
  simp only [ckc_178, Bool.true_and]
  decide +kernel
set_option maxRecDepth 100000 in
theorem ckm_178_0 : ckP 178 0 64 = true := by decide +kernel
set_option maxRecDepth 100000 in
theorem ckm_178_1 : ckP 178 64 19 = true := by decide +kernel
theorem cka_178 (pc : Nat) (e : aE) (h : code_ 178 pc = some e) : ckE 178 pc e = true := by
  have h0 : pc < 83 := by
    refine Nat.not_le.mp (fun hq => ?_)
    have : code_ 178 pc = none := by
      show cd_178 pc = none
      unfold cd_178
      rw [Nat.ble_eq_true_of_le hq]; rfl
    rw [this] at h; cases h
  by_cases h1 : pc < 64
  · exact ckP_ok ckm_178_0 (by omega) (by omega) h
  by_cases h2 : pc < 83
  · exact ckP_ok ckm_178_1 (by omega) (by omega) h
  omega
theorem ckc_179 : hw_ (cw_ 179) (.code (yn_ 179) (bts_ 179) (mxl_ 179) (rt_ 179)) = true := by
  have h : (ch_ (cw_ 179 / 240))[cw_ 179 % 240]? = some (Cond.code (yn_ 179) (bts_ 179) (mxl_ 179) (rt_ 179)) := by
    exact (Eq.refl _ : (ch_ (cw_ 179 / 240))[cw_ 179 % 240]? = _)
  unfold hw_
  rw [decide_eq_true h]
  rfl
theorem cky_179 : ckY 179 = true := by
  unfold ckY
  simp only [ckc_179, Bool.true_and]
  decide +kernel
set_option maxRecDepth 100000 in
theorem ckm_179_0 : ckP 179 0 30 = true := by decide +kernel
theorem cka_179 (pc : Nat) (e : aE) (h : code_ 179 pc = some e) : ckE 179 pc e = true := by
  have h0 : pc < 30 := by
    refine Nat.not_le.mp (fun hq => ?_)
    have : code_ 179 pc = none := by
      show cd_179 pc = none
      unfold cd_179
      rw [Nat.ble_eq_true_of_le hq]; rfl
    rw [this] at h; cases h
  by_cases h1 : pc < 30
  · exact ckP_ok ckm_179_0 (by omega) (by omega) h
  omega
theorem ckc_180 : hw_ (cw_ 180) (.code (yn_ 180) (bts_ 180) (mxl_ 180) (rt_ 180)) = true := by
  have h : (ch_ (cw_ 180 / 240))[cw_ 180 % 240]? = some (Cond.code (yn_ 180) (bts_ 180) (mxl_ 180) (rt_ 180)) := by
    exact (Eq.refl _ : (ch_ (cw_ 180 / 240))[cw_ 180 % 240]? = _)
  unfold hw_
  rw [decide_eq_true h]
  rfl
theorem cky_180 : ckY 180 = true := by
  unfold ckY
  simp only [ckc_180, Bool.true_and]
  decide +kernel
set_option maxRecDepth 100000 in
theorem ckm_180_0 : ckP 180 0 7 = true := by decide +kernel
theorem cka_180 (pc : Nat) (e : aE) (h : code_ 180 pc = some e) : ckE 180 pc e = true := by
  have h0 : pc < 7 := by
    refine Nat.not_le.mp (fun hq => ?_)
    have : code_ 180 pc = none := by
      show cd_180 pc = none
      unfold cd_180
      rw [Nat.ble_eq_true_of_le hq]; rfl
    rw [this] at h; cases h
  by_cases h1 : pc < 7
  · exact ckP_ok ckm_180_0 (by omega) (by omega) h
  omega
