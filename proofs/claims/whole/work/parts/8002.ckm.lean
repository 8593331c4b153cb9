theorem ckc_60 : hw_ (cw_ 60) (.code (yn_ 60) (bts_ 60) (mxl_ 60) (rt_ 60)) = true := by
  have h : (ch_ (cw_ 60 / 240))[cw_ 60 % 240]? = some (Cond.code (yn_ 60) (bts_ 60) (mxl_ 60) (rt_ 60)) := by
    exact (Eq.refl _ : (ch_ (cw_ 60 / 240))[cw_ 60 % 240]? = _)
  unfold hw_
  rw [decide_eq_true h]
  rfl
theorem cky_60 : ckY 60 = true := by
  unfold ckY
  simp only [ckc_60, Bool.true_and]
  decide +kernel
set_option maxRecDepth 100000 in
theorem ckm_60_0 : ckP 60 0 55 = true := by decide +kernel
theorem cka_60 (pc : Nat) (e : aE) (h : code_ 60 pc = some e) : ckE 60 pc e = true := by
  have h0 : pc < 55 := by
    refine Nat.not_le.mp (fun hq => ?_)
    have : code_ 60 pc = none := by
      show cd_60 pc = none
      unfold cd_60
      rw [Nat.ble_eq_true_of_le hq]; rfl
    rw [this] at h; cases h
  by_cases h1 : pc < 55
  · exact ckP_ok ckm_60_0 (by omega) (by omega) h
  omega
theorem ckc_61 : hw_ (cw_ 61) (.code (yn_ 61) (bts_ 61) (mxl_ 61) (rt_ 61)) = true := by
  have h : (ch_ (cw_ 61 / 240))[cw_ 61 % 240]? = some (Cond.code (yn_ 61) (bts_ 61) (mxl_ 61) (rt_ 61)) := by
    exact (Eq.refl _ : (ch_ (cw_ 61 / 240))[cw_ 61 % 240]? = _)
  unfold hw_
  rw [decide_eq_true h]
  rfl
theorem cky_61 : ckY 61 = true := by
  unfold ckY
  simp only [ckc_61, Bool.true_and]
  decide +kernel
set_option maxRecDepth 100000 in
theorem ckm_61_0 : ckP 61 0 52 = true := by decide +kernel
theorem cka_61 (pc : Nat) (e : aE) (h : code_ 61 pc = some e) : ckE 61 pc e = true := by
  have h0 : pc < 52 := by
    refine Nat.not_le.mp (fun hq => ?_)
    have : code_ 61 pc = none := by
      show cd_61 pc = none
      unfold cd_61
      rw [Nat.ble_eq_true_of_le hq]; rfl
    rw [this] at h; cases h
  by_cases h1 : pc < 52
  · exact ckP_ok ckm_61_0 (by omega) (by omega) h
  omega
theorem ckc_62 : hw_ (cw_ 62) (.code (yn_ 62) (bts_ 62) (mxl_ 62) (rt_ 62)) = true := by
  have h : (ch_ (cw_ 62 / 240))[cw_ 62 % 240]? = some (Cond.code (yn_ 62) (bts_ 62) (mxl_ 62) (rt_ 62)) := by
    exact (Eq.refl _ : (ch_ (cw_ 62 / 240))[cw_ 62 % 240]? = _)
  unfold hw_
  rw [decide_eq_true h]
  rfl
theorem cky_62 : ckY 62 = true := by
  unfold ckY
  simp only [ckc_62, Bool.true_and]
  decide +kernel
set_option maxRecDepth 100000 in
theorem ckm_62_0 : ckP 62 0 59 = true := by decide +kernel
theorem cka_62 (pc : Nat) (e : aE) (h : code_ 62 pc = some e) : ckE 62 pc e = true := by
  have h0 : pc < 59 := by
    refine Nat.not_le.mp (fun hq => ?_)
    have : code_ 62 pc = none := by
      show cd_62 pc = none
      unfold cd_62
      rw [Nat.ble_eq_true_of_le hq]; rfl
    rw [this] at h; cases h
  by_cases h1 : pc < 59
  · exact ckP_ok ckm_62_0 (by omega) (by omega) h
  omega
theorem ckc_63 : hw_ (cw_ 63) (.code (yn_ 63) (bts_ 63) (mxl_ 63) (rt_ 63)) = true := by
  have h : (ch_ (cw_ 63 / 240))[cw_ 63 % 240]? = some (Cond.code (yn_ 63) (bts_ 63) (mxl_ 63) (rt_ 63)) := by
    exact (Eq.refl _ : (ch_ (cw_ 63 / 240))[cw_ 63 % 240]? = _)
  unfold hw_
  rw [decide_eq_true h]
  rfl
theorem cky_63 : ckY 63 = true := by
  unfold ckY
  simp only [ckc_63, Bool.true_and]
  decide +kernel
set_option maxRecDepth 100000 in
theorem ckm_63_0 : ckP 63 0 64 = true := by decide +kernel
set_option maxRecDepth 100000 in
theorem ckm_63_1 : ckP 63 64 39 = true := by decide +kernel
theorem cka_63 (pc : Nat) (e : aE) (h : code_ 63 pc = some e) : ckE 63 pc e = true := by
  have h0 : pc < 103 := by
    refine Nat.not_le.mp (fun hq => ?_)
    have : code_ 63 pc = none := by
      show cd_63 pc = none
      unfold cd_63
      rw [Nat.ble_eq_true_of_le hq]; rfl
    rw [this] at h; cases h
  by_cases h1 : pc < 64
  · exact ckP_ok ckm_63_0 (by omega) (by omega) h
  by_cases h2 : pc < 103
  · exact ckP_ok ckm_63_1 (by omega) (by omega) h
  omega
theorem ckc_64 : hw_ (cw_ 64) (.code (yn_ 64) (bts_ 64) (mxl_ 64) (rt_ 64)) = true := by
  have h : (ch_ (cw_ 64 / 240))[cw_ 64 % 240]? = some (Cond.code (yn_ 64) (bts_ 64) (mxl_ 64) (rt_ 64)) := by
    exact (Eq.refl _ : (ch_ (cw_ 64 / 240))[cw_ 64 % 240]? = _)
  unfold hw_
  rw [decide_eq_true h]
  rfl
theorem cky_64 : ckY 64 = true := by
  unfold ckY
  simp only [ckc_64, Bool.true_and]
  decide +kernel
set_option maxRecDepth 100000 in
theorem ckm_64_0 : ckP 64 0 64 = true := by decide +kernel
set_option maxRecDepth 100000 in
theorem ckm_64_1 : ckP 64 64 64 = true := by decide +kernel
set_option maxRecDepth 100000 in
theorem ckm_64_2 : ckP 64 128 1 = true := by decide +kernel
theorem cka_64 (pc : Nat) (e : aE) (h : code_ 64 pc = some e) : ckE 64 pc e = true := by
  have h0 : pc < 129 := by
    refine Nat.not_le.mp (fun hq => ?_)
    have : code_ 64 pc = none := by
      show cd_64 pc = none
      unfold cd_64
      rw [Nat.ble_eq_true_of_le hq]; rfl
    rw [this] at h; cases h
  by_cases h1 : pc < 64
  · exact ckP_ok ckm_64_0 (by omega) (by omega) h
  by_cases h2 : pc < 128
  · exact ckP_ok ckm_64_1 (by omega) (by omega) h
  by_cases h3 : pc < 129
  · exact ckP_ok ckm_64_2 (by omega) (by omega) h
  omega
theorem ckc_65 : hw_ (cw_ 65) (.code (yn_ 65) (bts_ 65) (mxl_ 65) (rt_ 65)) = true := by
  have h : (ch_ (cw_ 65 / 240))[cw_ 65 % 240]? = some (Cond.code (yn_ 65) (bts_ 65) (mxl_ 65) (rt_ 65)) := by
    exact (Eq.refl _ : (ch_ (cw_ 65 / 240))[cw_ 65 % 240]? = _)
  unfold hw_
  rw [decide_eq_true h]
  rfl
theorem cky_65 : ckY 65 = true := by
  unfold ckY
  simp only [ckc_65, Bool.true_and]
  decide +kernel
set_option maxRecDepth 100000 in
theorem ckm_65_0 : ckP 65 0 64 = true := by decide +kernel
set_option maxRecDepth 100000 in
theorem ckm_65_1 : ckP 65 64 10 = true := by decide +kernel
theorem cka_65 (pc : Nat) (e : aE) (h : code_ 65 pc = some e) : ckE 65 pc e = true := by
  have h0 : pc < 74 := by
    refine Nat.not_le.mp (fun hq => ?_)
    have : code_ 65 pc = none := by
      show cd_65 pc = none
      unfold cd_65
      rw [Nat.ble_eq_true_of_le hq]; rfl
    rw [this] at h; cases h
  by_cases h1 : pc < 64
  · exact ckP_ok ckm_65_0 (by omega) (by omega) h
  by_cases h2 : pc < 74
  · exact ckP_ok ckm_65_1 (by omega) (by omega) h
  omega
theorem ckc_66 : hw_ (cw_ 66) (.code (yn_ 66) (bts_ 66) (mxl_ 66) (rt_ 66)) = true := by
  have h : (ch_ (cw_ 66 / 240))[cw_ 66 % 240]? = some (Cond.code (yn_ 66) (bts_ 66) (mxl_ 66) (rt_ 66)) := by
    exact (Eq.refl _ : (ch_ (cw_ 66 / 240))[cw_ 66 % 240]? = _)
  unfold hw_
  rw [decide_eq_true h]
  rfl
theorem cky_66 : ckY 66 = true := by
  unfold ckY
  simp only [ckc_66, Bool.true_and]
  decide +kernel
set_option maxRecDepth 100000 in
theorem ckm_66_0 : ckP 66 0 30 = true := by decide +kernel
theorem cka_66 (pc : Nat) (e : aE) (h : code_ 66 pc = some e) : ckE 66 pc e = true := by
  have h0 : pc < 30 := by
    refine Nat.not_le.mp (fun hq => ?_)
    have : code_ 66 pc = none := by
      show cd_66 pc = none
      unfold cd_66
      rw [Nat.ble_eq_true_of_le hq]; rfl
    rw [this] at h; cases h
  by_cases h1 : pc < 30
  · exact ckP_ok ckm_66_0 (by omega) (by omega) h
  omega
theorem ckc_67 : hw_ (cw_ 67) (.code (yn_ 67) (bts_ 67) (mxl_ 67) (rt_ 67)) = true := by
  have h : (ch_ (cw_ 67 / 240))[cw_ 67 % 240]? = some (Cond.code (yn_ 67) (bts_ 67) (mxl_ 67) (rt_ 67)) := by
    exact (Eq.refl _ : (ch_ (cw_ 67 / 240))[cw_ 67 % 240]? = _)
  unfold hw_
  rw [decide_eq_true h]
  rfl
theorem cky_67 : ckY 67 = true := by
  unfold ckY
  simp only [ckc_67, Bool.true_and]
  decide +kernel
set_option maxRecDepth 100000 in
theorem ckm_67_0 : ckP 67 0 37 = true := by decide +kernel
theorem cka_67 (pc : Nat) (e : aE) (h : code_ 67 pc = some e) : ckE 67 pc e = true := by
  have h0 : pc < 37 := by
    refine Nat.not_le.mp (fun hq => ?_)
    have : code_ 67 pc = none := by
      show cd_67 pc = none
      unfold cd_67
      rw [Nat.ble_eq_true_of_le hq]; rfl
    rw [this] at h; cases h
  by_cases h1 : pc < 37
  · exact ckP_ok ckm_67_0 (by omega) (by omega) h
  omega
theorem ckc_68 : hw_ (cw_ 68) (.code (yn_ 68) (bts_ 68) (mxl_ 68) (rt_ 68)) = true := by
  have h : (ch_ (cw_ 68 / 240))[cw_ 68 % 240]? = some (Cond.code (yn_ 68) (bts_ 68) (mxl_ 68) (rt_ 68)) := by
    exact (Eq.refl _ : (ch_ (cw_ 68 / 240))[cw_ 68 % 240]? = _)
  unfold hw_
  rw [decide_eq_true h]
  rfl
theorem cky_68 : ckY 68 = true := by
  unfold ckY
  simp only [ckc_68, Bool.true_and]
  decide +kernel
set_option maxRecDepth 100000 in
theorem ckm_68_0 : ckP 68 0 34 = true := by decide +kernel
theorem cka_68 (pc : Nat) (e : aE) (h : code_ 68 pc = some e) : ckE 68 pc e = true := by
  have h0 : pc < 34 := by
    refine Nat.not_le.mp (fun hq => ?_)
    have : code_ 68 pc = none := by
      show cd_68 pc = none
      unfold cd_68
      rw [Nat.ble_eq_true_of_le hq]; rfl
    rw [this] at h; cases h
  by_cases h1 : pc < 34
  · exact ckP_ok ckm_68_0 (by omega) (by omega) h
  omega
theorem ckc_69 : hw_ (cw_ 69) (.code (yn_ 69) (bts_ 69) (mxl_ 69) (rt_ 69)) = true := by
  have h : (ch_ (cw_ 69 / 240))[cw_ 69 % 240]? = some (Cond.code (yn_ 69) (bts_ 69) (mxl_ 69) (rt_ 69)) := by
    exact (Eq.refl _ : (ch_ (cw_ 69 / 240))[cw_ 69 % 240]? = _)
  unfold hw_
  rw [decide_eq_true h]
  rfl
theorem cky_69 : ckY 69 = true := by
  unfold ckY
  simp only [ckc_69, Bool.true_and]
  decide +kernel
set_option maxRecDepth 100000 in
theorem ckm_69_0 : ckP 69 0 64 = true := by decide +kernel
set_option maxRecDepth 100000 in
theorem ckm_69_1 : ckP 69 64 64 = true := by decide +kernel
set_option maxRecDepth 100000 in
theorem ckm_69_2 : ckP 69 128 64 = true := by decide +kernel
set_option maxRecDepth 100000 in
theorem ckm_69_3 : ckP 69 192 28 = true := by decide +kernel
theorem cka_69 (pc : Nat) (e : aE) (h : code_ 69 pc = some e) : ckE 69 pc e = true := by
  have h0 : pc < 220 := by
    refine Nat.not_le.mp (fun hq => ?_)
    have : code_ 69 pc = none := by
      show cd_69 pc = none
      unfold cd_69
      rw [Nat.ble_eq_true_of_le hq]; rfl
    rw [this] at h; cases h
  by_cases h1 : pc < 64
  · exact ckP_ok ckm_69_0 (by omega) (by omega) h
  by_cases h2 : pc < 128
  · exact ckP_ok ckm_69_1 (by omega) (by omega) h
  by_cases h3 : pc < 192
  · exact ckP_ok ckm_69_2 (by omega) (by omega) h
  by_cases h4 : pc < 220
  · exact ckP_ok ckm_69_3 (by omega) (by omega) h
  omega
theorem ckc_70 : hw_ (cw_ 70) (.code (yn_ 70) (bts_ 70) (mxl_ 70) (rt_ 70)) = true := by
  have h : (ch_ (cw_ 70 / 240))[cw_ 70 % 240]? = some (Cond.code (yn_ 70) (bts_ 70) (mxl_ 70) (rt_ 70)) := by
    exact (Eq.refl _ : (ch_ (cw_ 70 / 240))[cw_ 70 % 240]? = _)
  unfold hw_
  rw [decide_eq_true h]
  rfl
theorem cky_70 : ckY 70 = true := by
  unfold ckY
  simp only [ckc_70, Bool.true_and]
  decide +kernel
set_option maxRecDepth 100000 in
theorem ckm_70_0 : ckP 70 0 37 = true := by decide +kernel
theorem cka_70 (pc : Nat) (e : aE) (h : code_ 70 pc = some e) : ckE 70 pc e = true := by
  have h0 : pc < 37 := by
    refine Nat.not_le.mp (fun hq => ?_)
    have : code_ 70 pc = none := by
      show cd_70 pc = none
      unfold cd_70
      rw [Nat.ble_eq_true_of_le hq]; rfl
    rw [this] at h; cases h
  by_cases h1 : pc < 37
  · exact ckP_ok ckm_70_0 (by omega) (by omega) h
  omega
theorem ckc_71 : hw_ (cw_ 71) (.code (yn_ 71) (bts_ 71) (mxl_ 71) (rt_ 71)) = true := by
  have h : (ch_ (cw_ 71 / 240))[cw_ 71 % 240]? = some (Cond.code (yn_ 71) (bts_ 71) (mxl_ 71) (rt_ 71)) := by
    exact (Eq.refl _ : (ch_ (cw_ 71 / 240))[cw_ 71 % 240]? = _)
  unfold hw_
  rw [decide_eq_true h]
  rfl
theorem cky_71 : ckY 71 = true := by
  unfold ckY
  simp only [ckc_71, Bool.true_and]
  decide +kernel
set_option maxRecDepth 100000 in
theorem ckm_71_0 : ckP 71 0 64 = true := by decide +kernel
set_option maxRecDepth 100000 in
theorem ckm_71_1 : ckP 71 64 64 = true := by decide +kernel
set_option maxRecDepth 100000 in
theorem ckm_71_2 : ckP 71 128 9 = true := by decide +kernel
theorem cka_71 (pc : Nat) (e : aE) (h : code_ 71 pc = some e) : ckE 71 pc e = true := by
  have h0 : pc < 137 := by
    refine Nat.not_le.mp (fun hq => ?_)
    have : code_ 71 pc = none := by
      show cd_71 pc = none
      unfold cd_71
      rw [Nat.ble_eq_true_of_le hq]; rfl
    rw [this] at h; cases h
  by_cases h1 : pc < 64
  · exact ckP_ok ckm_71_0 (by omega) (by omega) h
  by_cases h2 : pc < 128
  · exact ckP_ok ckm_71_1 (by omega) (by omega) h
  by_cases h3 : pc < 137
  · exact ckP_ok ckm_71_2 (by omega) (by omega) h
  omega
theorem ckc_72 : hw_ (cw_ 72) (.code (yn_ 72) (bts_ 72) (mxl_ 72) (rt_ 72)) = true := by
  have h : (ch_ (cw_ 72 / 240))[cw_ 72 % 240]? = some (Cond.code (yn_ 72) (bts_ 72) (mxl_ 72) (rt_ 72)) := by
    exact (Eq.refl _ : (ch_ (cw_ 72 / 240))[cw_ 72 % 240]? = _)
  unfold hw_
  rw [decide_eq_true h]
  rfl
theorem cky_72 : ckY 72 = true := by
  unfold ckY
  simp only [ckc_72, Bool.true_and]
  decide +kernel
set_option maxRecDepth 100000 in
theorem ckm_72_0 : ckP 72 0 60 = true := by decide +kernel
theorem cka_72 (pc : Nat) (e : aE) (h : code_ 72 pc = some e) : ckE 72 pc e = true := by
  have h0 : pc < 60 := by
    refine Nat.not_le.mp (fun hq => ?_)
    have : code_ 72 pc = none := by
      show cd_72 pc = none
      unfold cd_72
      rw [Nat.ble_eq_true_of_le hq]; rfl
    rw [this] at h; cases h
  by_cases h1 : pc < 60
  · exact ckP_ok ckm_72_0 (by omega) (by omega) h
  omega
theorem ckc_73 : hw_ (cw_ 73) (.code (yn_ 73) (bts_ 73) (mxl_ 73) (rt_ 73)) = true := by
  have h : (ch_ (cw_ 73 / 240))[cw_ 73 % 240]? = some (Cond.code (yn_ 73) (bts_ 73) (mxl_ 73) (rt_ 73)) := by
    exact (Eq.refl _ : (ch_ (cw_ 73 / 240))[cw_ 73 % 240]? = _)
  unfold hw_
  rw [decide_eq_true h]
  rfl
theorem cky_73 : ckY 73 = true := by
  unfold ckY
  simp only [ckc_73, Bool.true_and]
  decide +kernel
set_option maxRecDepth 100000 in
theorem ckm_73_0 : ckP 73 0 64 = true := by decide +kernel
set_option maxRecDepth 100000 in
theorem ckm_73_1 : ckP 73 64 64 = true := by decide +kernel
set_option maxRecDepth 100000 in
theorem ckm_73_2 : ckP 73 128 64 = true := by decide +kernel
set_option maxRecDepth 100000 in
theorem ckm_73_3 : ckP 73 192 40 = true := by decide +kernel
theorem cka_73 (pc : Nat) (e : aE) (h : code_ 73 pc = some e) : ckE 73 pc e = true := by
  have h0 : pc < 232 := by
    refine Nat.not_le.mp (fun hq => ?_)
    have : code_ 73 pc = none := by
      show cd_73 pc = none
      unfold cd_73
      rw [Nat.ble_eq_true_of_le hq]; rfl
    rw [this] at h; cases h
  by_cases h1 : pc < 64
  · exact ckP_ok ckm_73_0 (by omega) (by omega) h
  by_cases h2 : pc < 128
  · exact ckP_ok ckm_73_1 (by omega) (by omega) h
  by_cases h3 : pc < 192
  · exact ckP_ok ckm_73_2 (by omega) (by omega) h
  by_cases h4 : pc < 232
  · exact ckP_ok ckm_73_3 (by omega) (by omega) h
  omega
theorem ckc_74 : hw_ (cw_ 74) (.code (yn_ 74) (bts_ 74) (mxl_ 74) (rt_ 74)) = true := by
  have h : (ch_ (cw_ 74 / 240))[cw_ 74 % 240]? = some (Cond.code (yn_ 74) (bts_ 74) (mxl_ 74) (rt_ 74)) := by
    exact (Eq.refl _ : (ch_ (cw_ 74 / 240))[cw_ 74 % 240]? = _)
  unfold hw_
  rw [decide_eq_true h]
  rfl
theorem cky_74 : ckY 74 = true := by
  unfold ckY
  simp only [ckc_74, Bool.true_and]
  decide +kernel
set_option maxRecDepth 100000 in
theorem ckm_74_0 : ckP 74 0 64 = true := by decide +kernel
set_option maxRecDepth 100000 in
theorem ckm_74_1 : ckP 74 64 6 = true := by decide +kernel
theorem cka_74 (pc : Nat) (e : aE) (h : code_ 74 pc = some e) : ckE 74 pc e = true := by
  have h0 : pc < 70 := by
    refine Nat.not_le.mp (fun hq => ?_)
    have : code_ 74 pc = none := by
      show cd_74 pc = none
      unfold cd_74
      rw [Nat.ble_eq_true_of_le hq]; rfl
    rw [this] at h; cases h
  by_cases h1 : pc < 64
  · exact ckP_ok ckm_74_0 (by omega) (by omega) h
  by_cases h2 : pc < 70
  · exact ckP_ok ckm_74_1 (by omega) (by omega) h
  omega
theorem ckc_75 : hw_ (cw_ 75) (.code (yn_ 75) (bts_ 75) (mxl_ 75) (rt_ 75)) = true := by
  have h : (ch_ (cw_ 75 / 240))[cw_ 75 % 240]? = some (Cond.code (yn_ 75) (bts_ 75) (mxl_ 75) (rt_ 75)) := by
    exact (Eq.refl _ : (ch_ (cw_ 75 / 240))[cw_ 75 % 240]? = _)
  unfold hw_
  rw [decide_eq_true h]
  rfl
theorem cky_75 : ckY 75 = true := by
  unfold ckY
  simp only [ckc_75, Bool.true_and]
  decide +kernel
set_option maxRecDepth 100000 in
theorem ckm_75_0 : ckP 75 0 64 = true := by decide +kernel
set_option maxRecDepth 100000 in
theorem ckm_75_1 : ckP 75 64 64 = true := by decide +kernel
set_option maxRecDepth 100000 in
theorem ckm_75_2 : ckP 75 128 64 = true := by decide +kernel
set_option maxRecDepth 100000 in
theorem ckm_75_3 : ckP 75 192 17 = true := by decide +kernel
theorem cka_75 (pc : Nat) (e : aE) (h : code_ 75 pc = some e) : ckE 75 pc e = true := by
  have h0 : pc < 209 := by
    refine Nat.not_le.mp (fun hq => ?_)
    have : code_ 75 pc = none := by
      show cd_75 pc = none
      unfold cd_75
      rw [Nat.ble_eq_true_of_le hq]; rfl
    rw [this] at h; cases h
  by_cases h1 : pc < 64
  · exact ckP_ok ckm_75_0 (by omega) (by omega) h
  by_cases h2 : pc < 128
  · exact ckP_ok ckm_75_1 (by omega) (by omega) h
  by_cases h3 : pc < 192
  · exact ckP_ok ckm_75_2 (by omega) (by omega) h
  by_cases h4 : pc < 209
  · exact ckP_ok ckm_75_3 (by omega) (by omega) h
  omega
theorem ckc_76 : hw_ (cw_ 76) (.code (yn_ 76) (bts_ 76) (mxl_ 76) (rt_ 76)) = true := by
  have h : (ch_ (cw_ 76 / 240))[cw_ 76 % 240]? = some (Cond.code (yn_ 76) (bts_ 76) (mxl_ 76) (rt_ 76)) := by
    exact (Eq.refl _ : (ch_ (cw_ 76 / 240))[cw_ 76 % 240]? = _)
  unfold hw_
  rw [decide_eq_true h]
  rfl
theorem cky_76 : ckY 76 = true := by
  unfold ckY
  simp only [ckc_76, Bool.true_and]
  decide +kernel
set_option maxRecDepth 100000 in
theorem ckm_76_0 : ckP 76 0 64 = true := by decide +kernel
set_option maxRecDepth 100000 in
theorem ckm_76_1 : ckP 76 64 11 = true := by decide +kernel
theorem cka_76 (pc : Nat) (e : aE) (h : code_ 76 pc = some e) : ckE 76 pc e = true := by
  have h0 : pc < 75 := by
    refine Nat.not_le.mp (fun hq => ?_)
    have : code_ 76 pc = none := by
      show cd_76 pc = none
      unfold cd_76
      rw [Nat.ble_eq_true_of_le hq]; rfl
    rw [this] at h; cases h
  by_cases h1 : pc < 64
  · exact ckP_ok ckm_76_0 (by omega) (by omega) h
  by_cases h2 : pc < 75
  · exact ckP_ok ckm_76_1 (by omega) (by omega) h
  omega
theorem ckc_77 : hw_ (cw_ 77) (.code (yn_ 77) (bts_ 77) (mxl_ 77) (rt_ 77)) = true := by
  have h : (ch_ (cw_ 77 / 240))[cw_ 77 % 240]? = some (Cond.code (yn_ 77) (bts_ 77) (mxl_ 77) (rt_ 77)) := by
    exact (Eq.refl _ : (ch_ (cw_ 77 / 240))[cw_ 77 % 240]? = _)
  unfold hw_
  rw [decide_eq_true h]
  rfl
theorem cky_77 : ckY 77 = true := by
  unfold ckY
  simp only [ckc_77, Bool.true_and]
  decide +kernel
set_option maxRecDepth 100000 in
theorem ckm_77_0 : ckP 77 0 60 = true := by decide +kernel
theorem cka_77 (pc : Nat) (e : aE) (h : code_ 77 pc = some e) : ckE 77 pc e = true := by
  have h0 : pc < 60 := by
    refine Nat.not_le.mp (fun hq => ?_)
    have : code_ 77 pc = none := by
      show cd_77 pc = none
      unfold cd_77
      rw [Nat.ble_eq_true_of_le hq]; rfl
    rw [this] at h; cases h
  by_cases h1 : pc < 60
  · exact ckP_ok ckm_77_0 (by omega) (by omega) h
  omega
theorem ckc_78 : hw_ (cw_ 78) (.code (yn_ 78) (bts_ 78) (mxl_ 78) (rt_ 78)) = true := by
  have h : (ch_ (cw_ 78 / 240))[cw_ 78 % 240]? = some (Cond.code (yn_ 78) (bts_ 78) (mxl_ 78) (rt_ 78)) := by
    exact (Eq.refl _ : (ch_ (cw_ 78 / 240))[cw_ 78 % 240]? = _)
  unfold hw_
  rw [decide_eq_true h]
  rfl
theorem cky_78 : ckY 78 = true := by
  unfold ckY
  simp only [ckc_78, Bool.true_and]
  decide +kernel
set_option maxRecDepth 100000 in
theorem ckm_78_0 : ckP 78 0 64 = true := by decide +kernel
set_option maxRecDepth 100000 in
theorem ckm_78_1 : ckP 78 64 40 = true := by decide +kernel
theorem cka_78 (pc : Nat) (e : aE) (h : code_ 78 pc = some e) : ckE 78 pc e = true := by
  have h0 : pc < 104 := by
    refine Nat.not_le.mp (fun hq => ?_)
    have : code_ 78 pc = none := by
      show cd_78 pc = none
      unfold cd_78
      rw [Nat.ble_eq_true_of_le hq]; rfl
    rw [this] at h; cases h
  by_cases h1 : pc < 64
  · exact ckP_ok ckm_78_0 (by omega) (by omega) h
  by_cases h2 : pc < 104
  · exact ckP_ok ckm_78_1 (by omega) (by omega) h
  omega
theorem ckc_79 : hw_ (cw_ 79) (.code (yn_ 79) (bts_ 79) (mxl_ 79) (rt_ 79)) = true := by
  have h : (ch_ (cw_ 79 / 240))[cw_ 79 % 240]? = some (Cond.code (yn_ 79) (bts_ 79) (mxl_ 79) (rt_ 79)) := by
    exact (Eq.refl _ : (ch_ (cw_ 79 / 240))[cw_ 79 % 240]? = _)
  unfold hw_
  rw [decide_eq_true h]
  rfl
theorem cky_79 : ckY 79 = true := by
  unfold ckY
  simp only [ckc_79, Bool.true_and]
  decide +kernel
set_option maxRecDepth 100000 in
theorem ckm_79_0 : ckP 79 0 52 = true := by decide +kernel
theorem cka_79 (pc : Nat) (e : aE) (h : code_ 79 pc = some e) : ckE 79 pc e = true := by
  have h0 : pc < 52 := by
    refine Nat.not_le.mp (fun hq => ?_)
    have : code_ 79 pc = none := by
      show cd_79 pc = none
      unfold cd_79
      rw [Nat.ble_eq_true_of_le hq]; rfl
    rw [this] at h; cases h
  by_cases h1 : pc < 52
  · exact ckP_ok ckm_79_0 (by omega) (by omega) h
  omega
theorem ckc_80 : hw_ (cw_ 80) (.code (yn_ 80) (bts_ 80) (mxl_ 80) (rt_ 80)) = true := by
  have h : (ch_ (cw_ 80 / 240))[cw_ 80 % 240]? = some (Cond.code (yn_ 80) (bts_ 80) (mxl_ 80) (rt_ 80)) := by
    exact (Eq.refl _ : (ch_ (cw_ 80 / 240))[cw_ 80 % 240]? = _)
  unfold hw_
  rw [decide_eq_true h]
  rfl
theorem cky_80 : ckY 80 = true := by
  unfold ckY
  simp only [ckc_80, Bool.true_and]
  decide +kernel
set_option maxRecDepth 100000 in
theorem ckm_80_0 : ckP 80 0 64 = true := by decide +kernel
set_option maxRecDepth 100000 in
theorem ckm_80_1 : ckP 80 64 64 = true := by decide +kernel
set_option maxRecDepth 100000 in
theorem ckm_80_2 : ckP 80 128 24 = true := by decide +kernel
theorem cka_80 (pc : Nat) (e : aE) (h : code_ 80 pc = some e) : ckE 80 pc e = true := by
  have h0 : pc < 152 := by
    refine Nat.not_le.mp (fun hq => ?_)
    have : code_ 80 pc = none := by
      show cd_80 pc = none
      unfold cd_80
      rw [Nat.ble_eq_true_of_le hq]; rfl
    rw [this] at h; cases h
  by_cases h1 : pc < 64
  · exact ckP_ok ckm_80_0 (by omega) (by omega) h
  by_cases h2 : pc < 128
  · exact ckP_ok ckm_80_1 (by omega) (by omega) h
  by_cases h3 : pc < 152
  · exact ckP_ok ckm_80_2 (by omega) (by omega) h
  omega
theorem ckc_81 : hw_ (cw_ 81) (.code (yn_ 81) (bts_ 81) (mxl_ 81) (rt_ 81)) = true := by
  have h : (ch_ (cw_ 81 / 240))[cw_ 81 % 240]? = some (Cond.code (yn_ 81) (bts_ 81) (mxl_ 81) (rt_ 81)) := by
    exact (Eq.refl _ : (ch_ (cw_ 81 / 240))[cw_ 81 % 240]? = _)
  unfold hw_
  rw [decide_eq_true h]
  rfl
theorem cky_81 : ckY 81 = true := by
  unfold ckY
  simp only [ckc_81, Bool.true_and]
  decide +kernel
set_option maxRecDepth 100000 in
theorem ckm_81_0 : ckP 81 0 42 = true := by decide +kernel
theorem cka_81 (pc : Nat) (e : aE) (h : code_ 81 pc = some e) : ckE 81 pc e = true := by
  have h0 : pc < 42 := by
    refine Nat.not_le.mp (fun hq => ?_)
    have : code_ 81 pc = none := by
      show cd_81 pc = none
      unfold cd_81
      rw [Nat.ble_eq_true_of_le hq]; rfl
    rw [this] at h; cases h
  by_cases h1 : pc < 42
  · exact ckP_ok ckm_81_0 (by omega) (by omega) h
  omega
theorem ckc_82 : hw_ (cw_ 82) (.code (yn_ 82) (bts_ 82) (mxl_ 82) (rt_ 82)) = true := by
  have h : (ch_ (cw_ 82 / 240))[cw_ 82 % 240]? = some (Cond.code (yn_ 82) (bts_ 82) (mxl_ 82) (rt_ 82)) := by
    exact (Eq.refl _ : (ch_ (cw_ 82 / 240))[cw_ 82 % 240]? = _)
  unfold hw_
  rw [decide_eq_true h]
  rfl
theorem cky_82 : ckY 82 = true := by
  unfold ckY
  simp only [ckc_82, Bool.true_and]
  decide +kernel
set_option maxRecDepth 100000 in
theorem ckm_82_0 : ckP 82 0 64 = true := by decide +kernel
set_option maxRecDepth 100000 in
theorem ckm_82_1 : ckP 82 64 64 = true := by decide +kernel
set_option maxRecDepth 100000 in
theorem ckm_82_2 : ckP 82 128 13 = true := by decide +kernel
theorem cka_82 (pc : Nat) (e : aE) (h : code_ 82 pc = some e) : ckE 82 pc e = true := by
  have h0 : pc < 141 := by
    refine Nat.not_le.mp (fun hq => ?_)
    have : code_ 82 pc = none := by
      show cd_82 pc = none
      unfold cd_82
      rw [Nat.ble_eq_true_of_le hq]; rfl
    rw [this] at h; cases h
  by_cases h1 : pc < 64
  · exact ckP_ok ckm_82_0 (by omega) (by omega) h
  by_cases h2 : pc < 128
  · exact ckP_ok ckm_82_1 (by omega) (by omega) h
  by_cases h3 : pc < 141
  · exact ckP_ok ckm_82_2 (by omega) (by omega) h
  omega
