theorem ckc_186 : hw_ (cw_ 186) (.code (yn_ 186) (bts_ 186) (mxl_ 186) (rt_ 186)) = true := by
  have h : (ch_ (cw_ 186 / 240))[cw_ 186 % 240]? = some (Cond.code (yn_ 186) (bts_ 186) (mxl_ 186) (rt_ 186)) := by
    exact (Eq.refl _ : (ch_ (cw_ 186 / 240))[cw_ 186 % 240]? = _)
  unfold hw_
  rw [decide_eq_true h]
  rfl
theorem cky_186 : ckY 186 = true := by
  unfold ckY
  simp only [ckc_186, Bool.true_and]
  decide +kernel
set_option maxRecDepth 100000 in
theorem ckm_186_0 : ckP 186 0 45 = true := by decide +kernel
theorem cka_186 (pc : Nat) (e : aE) (h : code_ 186 pc = some e) : ckE 186 pc e = true := by
  have h0 : pc < 45 := by
    refine Nat.not_le.mp (fun hq => ?_)
    have : code_ 186 pc = none := by
      show cd_186 pc = none
      unfold cd_186
      rw [Nat.ble_eq_true_of_le hq]; rfl
    rw [this] at h; cases h
  by_cases h1 : pc < 45
  · exact ckP_ok ckm_186_0 (by omega) (by omega) h
  omega
theorem ckc_187 : hw_ (cw_ 187) (.code (yn_ 187) (bts_ 187) (mxl_ 187) (rt_ 187)) = true := by
  have h : (ch_ (cw_ 187 / 240))[cw_ 187 % 240]? = some (Cond.code (yn_ 187) (bts_ 187) (mxl_ 187) (rt_ 187)) := by
    exact (Eq.refl _ : (ch_ (cw_ 187 / 240))[cw_ 187 % 240]? = _)
  unfold hw_
  rw [decide_eq_true h]
  rfl
theorem cky_187 : ckY 187 = true := by
  unfold ckY
  simp only [ckc_187, Bool.true_and]
  decide +kernel
set_option maxRecDepth 100000 in
theorem ckm_187_0 : ckP 187 0 33 = true := by decide +kernel
theorem cka_187 (pc : Nat) (e : aE) (h : code_ 187 pc = some e) : ckE 187 pc e = true := by
  have h0 : pc < 33 := by
    refine Nat.not_le.mp (fun hq => ?_)
    have : code_ 187 pc = none := by
      show cd_187 pc = none
      unfold cd_187
      rw [Nat.ble_eq_true_of_le hq]; rfl
    rw [this] at h; cases h
  by_cases h1 : pc < 33
  · exact ckP_ok ckm_187_0 (by omega) (by omega) h
  omega
theorem ckc_188 : hw_ (cw_ 188) (.code (yn_ 188) (bts_ 188) (mxl_ 188) (rt_ 188)) = true := by
  have h : (ch_ (cw_ 188 / 240))[cw_ 188 % 240]? = some (Cond.code (yn_ 188) (bts_ 188) (mxl_ 188) (rt_ 188)) := by
    exact (Eq.refl _ : (ch_ (cw_ 188 / 240))[cw_ 188 % 240]? = _)
  unfold hw_
  rw [decide_eq_true h]
  rfl
theorem cky_188 : ckY 188 = true := by
  unfold ckY
  simp only [ckc_188, Bool.true_and]
  decide +kernel
set_option maxRecDepth 100000 in
theorem ckm_188_0 : ckP 188 0 19 = true := by decide +kernel
theorem cka_188 (pc : Nat) (e : aE) (h : code_ 188 pc = some e) : ckE 188 pc e = true := by
  have h0 : pc < 19 := by
    refine Nat.not_le.mp (fun hq => ?_)
    have : code_ 188 pc = none := by
      show cd_188 pc = none
      unfold cd_188
      rw [Nat.ble_eq_true_of_le hq]; rfl
    rw [this] at h; cases h
  by_cases h1 : pc < 19
  · exact ckP_ok ckm_188_0 (by omega) (by omega) h
  omega
theorem ckc_189 : hw_ (cw_ 189) (.code (yn_ 189) (bts_ 189) (mxl_ 189) (rt_ 189)) = true := by
  have h : (ch_ (cw_ 189 / 240))[cw_ 189 % 240]? = some (Cond.code (yn_ 189) (bts_ 189) (mxl_ 189) (rt_ 189)) := by
    exact (Eq.refl _ : (ch_ (cw_ 189 / 240))[cw_ 189 % 240]? = _)
  unfold hw_
  rw [decide_eq_true h]
  rfl
theorem cky_189 : ckY 189 = true := by
  unfold ckY
  simp only [ckc_189, Bool.true_and]
  decide +kernel
set_option maxRecDepth 100000 in
theorem ckm_189_0 : ckP 189 0 40 = true := by decide +kernel
theorem cka_189 (pc : Nat) (e : aE) (h : code_ 189 pc = some e) : ckE 189 pc e = true := by
  have h0 : pc < 40 := by
    refine Nat.not_le.mp (fun hq => ?_)
    have : code_ 189 pc = none := by
      show cd_189 pc = none
      unfold cd_189
      rw [Nat.ble_eq_true_of_le hq]; rfl
    rw [this] at h; cases h
  by_cases h1 : pc < 40
  · exact ckP_ok ckm_189_0 (by omega) (by omega) h
  omega
theorem ckc_190 : hw_ (cw_ 190) (.code (yn_ 190) (bts_ 190) (mxl_ 190) (rt_ 190)) = true := by
  have h : (ch_ (cw_ 190 / 240))[cw_ 190 % 240]? = some (Cond.code (yn_ 190) (bts_ 190) (mxl_ 190) (rt_ 190)) := by
    exact (Eq.refl _ : (ch_ (cw_ 190 / 240))[cw_ 190 % 240]? = _)
  unfold hw_
  rw [decide_eq_true h]
  rfl
theorem cky_190 : ckY 190 = true := by
  unfold ckY
  simp only [ckc_190, Bool.true_and]
  decide +kernel
set_option maxRecDepth 100000 in
theorem ckm_190_0 : ckP 190 0 64 = true := by decide +kernel
set_option maxRecDepth 100000 in
theorem ckm_190_1 : ckP 190 64 28 = true := by decide +kernel
theorem cka_190 (pc : Nat) (e : aE) (h : code_ 190 pc = some e) : ckE 190 pc e = true := by
  have h0 : pc < 92 := by
    refine Nat.not_le.mp (fun hq => ?_)
    have : code_ 190 pc = none := by
      show cd_190 pc = none
      unfold cd_190
      rw [Nat.ble_eq_true_of_le hq]; rfl
    rw [this] at h; cases h
  by_cases h1 : pc < 64
  · exact ckP_ok ckm_190_0 (by omega) (by omega) h
  by_cases h2 : pc < 92
  · exact ckP_ok ckm_190_1 (by omega) (by omega) h
  omega
theorem ckc_191 : hw_ (cw_ 191) (.code (yn_ 191) (bts_ 191) (mxl_ 191) (rt_ 191)) = true := by
  have h : (ch_ (cw_ 191 / 240))[cw_ 191 % 240]? = some (Cond.code (yn_ 191) (bts_ 191) (mxl_ 191) (rt_ 191)) := by
    exact (Eq.refl _ : (ch_ (cw_ 191 / 240))[cw_ 191 % 240]? = _)
  unfold hw_
  rw [decide_eq_true h]
  rfl
theorem cky_191 : ckY 191 = true := by
  unfold ckY
  simp only [ckc_191, Bool.true_and]
  decide +kernel
set_option maxRecDepth 100000 in
theorem ckm_191_0 : ckP 191 0 18 = true := by decide +kernel
theorem cka_191 (pc : Nat) (e : aE) (h : code_ 191 pc = some e) : ckE 191 pc e = true := by
  have h0 : pc < 18 := by
    refine Nat.not_le.mp (fun hq => ?_)
    have : code_ 191 pc = none := by
      show cd_191 pc = none
      unfold cd_191
      rw [Nat.ble_eq_true_of_le hq]; rfl
    rw [this] at h; cases h
  by_cases h1 : pc < 18
  · exact ckP_ok ckm_191_0 (by omega) (by omega) h
  omega
theorem ckc_192 : hw_ (cw_ 192) (.code (yn_ 192) (bts_ 192) (mxl_ 192) (rt_ 192)) = true := by
  have h : (ch_ (cw_ 192 / 240))[cw_ 192 % 240]? = some (Cond.code (yn_ 192) (bts_ 192) (mxl_ 192) (rt_ 192)) := by
    exact (Eq.refl _ : (ch_ (cw_ 192 / 240))[cw_ 192 % 240]? = _)
  unfold hw_
  rw [decide_eq_true h]
  rfl
theorem cky_192 : ckY 192 = true := by
  unfold ckY
  simp only [ckc_192, Bool.true_and]
  decide +kernel
set_option maxRecDepth 100000 in
theorem ckm_192_0 : ckP 192 0 18 = true := by decide +kernel
theorem cka_192 (pc : Nat) (e : aE) (h : code_ 192 pc = some e) : ckE 192 pc e = true := by
  have h0 : pc < 18 := by
    refine Nat.not_le.mp (fun hq => ?_)
    have : code_ 192 pc = none := by
      show cd_192 pc = none
      unfold cd_192
      rw [Nat.ble_eq_true_of_le hq]; rfl
    rw [this] at h; cases h
  by_cases h1 : pc < 18
  · exact ckP_ok ckm_192_0 (by omega) (by omega) h
  omega
theorem ckc_193 : hw_ (cw_ 193) (.code (yn_ 193) (bts_ 193) (mxl_ 193) (rt_ 193)) = true := by
  have h : (ch_ (cw_ 193 / 240))[cw_ 193 % 240]? = some (Cond.code (yn_ 193) (bts_ 193) (mxl_ 193) (rt_ 193)) := by
    exact (Eq.refl _ : (ch_ (cw_ 193 / 240))[cw_ 193 % 240]? = _)
  unfold hw_
  rw [decide_eq_true h]
  rfl
theorem cky_193 : ckY 193 = true := by
  unfold ckY
  simp only [ckc_193, Bool.true_and]
  decide +kernel
set_option maxRecDepth 100000 in
theorem ckm_193_0 : ckP 193 0 18 = true := by decide +kernel
theorem cka_193 (pc : Nat) (e : aE) (h : code_ 193 pc = some e) : ckE 193 pc e = true := by
  have h0 : pc < 18 := by
    refine Nat.not_le.mp (fun hq => ?_)
    have : code_ 193 pc = none := by
      show cd_193 pc = none
      unfold cd_193
      rw [Nat.ble_eq_true_of_le hq]; rfl
    rw [this] at h; cases h
  by_cases h1 : pc < 18
  · exact ckP_ok ckm_193_0 (by omega) (by omega) h
  omega
theorem ckc_194 : hw_ (cw_ 194) (.code (yn_ 194) (bts_ 194) (mxl_ 194) (rt_ 194)) = true := by
  have h : (ch_ (cw_ 194 / 240))[cw_ 194 % 240]? = some (Cond.code (yn_ 194) (bts_ 194) (mxl_ 194) (rt_ 194)) := by
    exact (Eq.refl _ : (ch_ (cw_ 194 / 240))[cw_ 194 % 240]? = _)
  unfold hw_
  rw [decide_eq_true h]
  rfl
theorem cky_194 : ckY 194 = true := by
  unfold ckY
  simp only [ckc_194, Bool.true_and]
  decide +kernel
set_option maxRecDepth 100000 in
theorem ckm_194_0 : ckP 194 0 18 = true := by decide +kernel
theorem cka_194 (pc : Nat) (e : aE) (h : code_ 194 pc = some e) : ckE 194 pc e = true := by
  have h0 : pc < 18 := by
    refine Nat.not_le.mp (fun hq => ?_)
    have : code_ 194 pc = none := by
      show cd_194 pc = none
      unfold cd_194
      rw [Nat.ble_eq_true_of_le hq]; rfl
    rw [this] at h; cases h
  by_cases h1 : pc < 18
  · exact ckP_ok ckm_194_0 (by omega) (by omega) h
  omega
theorem ckc_195 : hw_ (cw_ 195) (.code (yn_ 195) (bts_ 195) (mxl_ 195) (rt_ 195)) = true := by
  have h : (ch_ (cw_ 195 / 240))[cw_ 195 % 240]? = some (Cond.code (yn_ 195) (bts_ 195) (mxl_ 195) (rt_ 195)) := by
    exact (Eq.refl _ : (ch_ (cw_ 195 / 240))[cw_ 195 % 240]? = _)
  unfold hw_
  rw [decide_eq_true h]
  rfl
theorem cky_195 : ckY 195 = true := by
  unfold ckY
  simp only [ckc_195, Bool.true_and]
  decide +kernel
set_option maxRecDepth 100000 in
theorem ckm_195_0 : ckP 195 0 26 = true := by decide +kernel
theorem cka_195 (pc : Nat) (e : aE) (h : code_ 195 pc = some e) : ckE 195 pc e = true := by
  have h0 : pc < 26 := by
    refine Nat.not_le.mp (fun hq => ?_)
    have : code_ 195 pc = none := by
      show cd_195 pc = none
      unfold cd_195
      rw [Nat.ble_eq_true_of_le hq]; rfl
    rw [this] at h; cases h
  by_cases h1 : pc < 26
  · exact ckP_ok ckm_195_0 (by omega) (by omega) h
  omega
theorem ckc_196 : hw_ (cw_ 196) (.code (yn_ 196) (bts_ 196) (mxl_ 196) (rt_ 196)) = true := by
  have h : (ch_ (cw_ 196 / 240))[cw_ 196 % 240]? = some (Cond.code (yn_ 196) (bts_ 196) (mxl_ 196) (rt_ 196)) := by
    exact (Eq.refl _ : (ch_ (cw_ 196 / 240))[cw_ 196 % 240]? = _)
  unfold hw_
  rw [decide_eq_true h]
  rfl
theorem cky_196 : ckY 196 = true := by
  unfold ckY
  simp only [ckc_196, Bool.true_and]
  decide +kernel
set_option maxRecDepth 100000 in
theorem ckm_196_0 : ckP 196 0 26 = true := by decide +kernel
theorem cka_196 (pc : Nat) (e : aE) (h : code_ 196 pc = some e) : ckE 196 pc e = true := by
  have h0 : pc < 26 := by
    refine Nat.not_le.mp (fun hq => ?_)
    have : code_ 196 pc = none := by
      show cd_196 pc = none
      unfold cd_196
      rw [Nat.ble_eq_true_of_le hq]; rfl
    rw [this] at h; cases h
  by_cases h1 : pc < 26
  · exact ckP_ok ckm_196_0 (by omega) (by omega) h
  omega
