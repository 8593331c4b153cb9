theorem ckc_83 : hw_ (cw_ 83) (.code (yn_ 83) (bts_ 83) (mxl_ 83) (rt_ 83)) = true := by
  have h : (ch_ (cw_ 83 / 240))[cw_ 83 % 240]? = some (Cond.code (yn_ 83) (bts_ 83) (mxl_ 83) (rt_ 83)) := by
    exact (Eq.refl _ : (ch_ (cw_ 83 / 240))[cw_ 83 % 240]? = _)
  unfold hw_
  rw [decide_eq_true h]
  rfl
theorem cky_83 : ckY 83 = true := by
  unfold ckY
  simp only [ckc_83, Bool.true_and]
  decide +kernel
set_option maxRecDepth 100000 in
theorem ckm_83_0 : ckP 83 0 64 = true := by decide +kernel
set_option maxRecDepth 100000 in
theorem ckm_83_1 : ckP 83 64 64 = true := by decide +kernel
set_option maxRecDepth 100000 in
theorem ckm_83_2 : ckP 83 128 64 = true := by decide +kernel
set_option maxRecDepth 100000 in
theorem ckm_83_3 : ckP 83 192 40 = true := by decide +kernel
theorem cka_83 (pc : Nat) (e : aE) (h : code_ 83 pc = some e) : ckE 83 pc e = true := by
  have h0 : pc < 232 := by
    refine Nat.not_le.mp (fun hq => ?_)
    have : code_ 83 pc = none := by
      show cd_83 pc = none
      unfold cd_83
      rw [Nat.ble_eq_true_of_le hq]; rfl
    rw [this] at h; cases h
  by_cases h1 : pc < 64
  · exact ckP_ok ckm_83_0 (by omega) (by omega) h
  by_cases h2 : pc < 128
  · exact ckP_ok ckm_83_1 (by omega) (by omega) h
  by_cases h3 : pc < 192
  · exact ckP_ok ckm_83_2 (by omega) (by omega) h
  by_cases h4 : pc < 232
  · exact ckP_ok ckm_83_3 (by omega) (by omega) h
  omega
theorem ckc_84 : hw_ (cw_ 84) (.code (yn_ 84) (bts_ 84) (mxl_ 84) (rt_ 84)) = true := by
  have h : (ch_ (cw_ 84 / 240))[cw_ 84 % 240]? = some (Cond.code (yn_ 84) (bts_ 84) (mxl_ 84) (rt_ 84)) := by
    exact (Eq.refl _ : (ch_ (cw_ 84 / 240))[cw_ 84 % 240]? = _)
  unfold hw_
  rw [decide_eq_true h]
  rfl
theorem cky_84 : ckY 84 = true := by
  unfold ckY
  simp only [ckc_84, Bool.true_and]
  decide +kernel
set_option maxRecDepth 100000 in
theorem ckm_84_0 : ckP 84 0 64 = true := by decide +kernel
set_option maxRecDepth 100000 in
theorem ckm_84_1 : ckP 84 64 64 = true := by decide +kernel
set_option maxRecDepth 100000 in
theorem ckm_84_2 : ckP 84 128 6 = true := by decide +kernel
theorem cka_84 (pc : Nat) (e : aE) (h : code_ 84 pc = some e) : ckE 84 pc e = true := by
  have h0 : pc < 134 := by
    refine Nat.not_le.mp (fun hq => ?_)
    have : code_ 84 pc = none := by
      show cd_84 pc = none
      unfold cd_84
      rw [Nat.ble_eq_true_of_le hq]; rfl
    rw [this] at h; cases h
  by_cases h1 : pc < 64
  · exact ckP_ok ckm_84_0 (by omega) (by omega) h
  by_cases h2 : pc < 128
  · exact ckP_ok ckm_84_1 (by omega) (by omega) h
  by_cases h3 : pc < 134
  · exact ckP_ok ckm_84_2 (by omega) (by omega) h
  omega
theorem ckc_85 : hw_ (cw_ 85) (.code (yn_ 85) (bts_ 85) (mxl_ 85) (rt_ 85)) = true := by
  have h : (ch_ (cw_ 85 / 240))[cw_ 85 % 240]? = some (Cond.code (yn_ 85) (bts_ 85) (mxl_ 85) (rt_ 85)) := by
    exact (Eq.refl _ : (ch_ (cw_ 85 / 240))[cw_ 85 % 240]? = _)
  unfold hw_
  rw [decide_eq_true h]
  rfl
theorem cky_85 : ckY 85 = true := by
  unfold ckY
  simp only [ckc_85, Bool.true_and]
  decide +kernel
set_option maxRecDepth 100000 in
theorem ckm_85_0 : ckP 85 0 64 = true := by decide +kernel
set_option maxRecDepth 100000 in
theorem ckm_85_1 : ckP 85 64 64 = true := by decide +kernel
set_option maxRecDepth 100000 in
theorem ckm_85_2 : ckP 85 128 6 = true := by decide +kernel
theorem cka_85 (pc : Nat) (e : aE) (h : code_ 85 pc = some e) : ckE 85 pc e = true := by
  have h0 : pc < 134 := by
    refine Nat.not_le.mp (fun hq => ?_)
    have : code_ 85 pc = none := by
      show cd_85 pc = none
      unfold cd_85
      rw [Nat.ble_eq_true_of_le hq]; rfl
    rw [this] at h; cases h
  by_cases h1 : pc < 64
  · exact ckP_ok ckm_85_0 (by omega) (by omega) h
  by_cases h2 : pc < 128
  · exact ckP_ok ckm_85_1 (by omega) (by omega) h
  by_cases h3 : pc < 134
  · exact ckP_ok ckm_85_2 (by omega) (by omega) h
  omega
theorem ckc_86 : hw_ (cw_ 86) (.code (yn_ 86) (bts_ 86) (mxl_ 86) (rt_ 86)) = true := by
  have h : (ch_ (cw_ 86 / 240))[cw_ 86 % 240]? = some (Cond.code (yn_ 86) (bts_ 86) (mxl_ 86) (rt_ 86)) := by
    exact (Eq.refl _ : (ch_ (cw_ 86 / 240))[cw_ 86 % 240]? = _)
  unfold hw_
  rw [decide_eq_true h]
  rfl
theorem cky_86 : ckY 86 = true := by
  unfold ckY
  simp only [ckc_86, Bool.true_and]
  decide +kernel
set_option maxRecDepth 100000 in
theorem ckm_86_0 : ckP 86 0 64 = true := by decide +kernel
set_option maxRecDepth 100000 in
theorem ckm_86_1 : ckP 86 64 7 = true := by decide +kernel
theorem cka_86 (pc : Nat) (e : aE) (h : code_ 86 pc = some e) : ckE 86 pc e = true := by
  have h0 : pc < 71 := by
    refine Nat.not_le.mp (fun hq => ?_)
    have : code_ 86 pc = none := by
      show cd_86 pc = none
      unfold cd_86
      rw [Nat.ble_eq_true_of_le hq]; rfl
    rw [this] at h; cases h
  by_cases h1 : pc < 64
  · exact ckP_ok ckm_86_0 (by omega) (by omega) h
  by_cases h2 : pc < 71
  · exact ckP_ok ckm_86_1 (by omega) (by omega) h
  omega
theorem ckc_87 : hw_ (cw_ 87) (.code (yn_ 87) (bts_ 87) (mxl_ 87) (rt_ 87)) = true := by
  have h : (ch_ (cw_ 87 / 240))[cw_ 87 % 240]? = some (Cond.code (yn_ 87) (bts_ 87) (mxl_ 87) (rt_ 87)) := by
    exact (Eq.refl _ : (ch_ (cw_ 87 / 240))[cw_ 87 % 240]? = _)
  unfold hw_
  rw [decide_eq_true h]
  rfl
theorem cky_87 : ckY 87 = true := by
  unfold ckY
  simp only [ckc_87, Bool.true_and]
  decide +kernel
set_option maxRecDepth 100000 in
theorem ckm_87_0 : ckP 87 0 53 = true := by decide +kernel
theorem cka_87 (pc : Nat) (e : aE) (h : code_ 87 pc = some e) : ckE 87 pc e = true := by
  have h0 : pc < 53 := by
    refine Nat.not_le.mp (fun hq => ?_)
    have : code_ 87 pc = none := by
      show cd_87 pc = none
      unfold cd_87
      rw [Nat.ble_eq_true_of_le hq]; rfl
    rw [this] at h; cases h
  by_cases h1 : pc < 53
  · exact ckP_ok ckm_87_0 (by omega) (by omega) h
  omega
theorem ckc_88 : hw_ (cw_ 88) (.code (yn_ 88) (bts_ 88) (mxl_ 88) (rt_ 88)) = true := by
  have h : (ch_ (cw_ 88 / 240))[cw_ 88 % 240]? = some (Cond.code (yn_ 88) (bts_ 88) (mxl_ 88) (rt_ 88)) := by
    exact (Eq.refl _ : (ch_ (cw_ 88 / 240))[cw_ 88 % 240]? = _)
  unfold hw_
  rw [decide_eq_true h]
  rfl
theorem cky_88 : ckY 88 = true := by
  unfold ckY
  simp only [ckc_88, Bool.true_and]
  decide +kernel
set_option maxRecDepth 100000 in
theorem ckm_88_0 : ckP 88 0 45 = true := by decide +kernel
theorem cka_88 (pc : Nat) (e : aE) (h : code_ 88 pc = some e) : ckE 88 pc e = true := by
  have h0 : pc < 45 := by
    refine Nat.not_le.mp (fun hq => ?_)
    have : code_ 88 pc = none := by
      show cd_88 pc = none
      unfold cd_88
      rw [Nat.ble_eq_true_of_le hq]; rfl
    rw [this] at h; cases h
  by_cases h1 : pc < 45
  · exact ckP_ok ckm_88_0 (by omega) (by omega) h
  omega
theorem ckc_89 : hw_ (cw_ 89) (.code (yn_ 89) (bts_ 89) (mxl_ 89) (rt_ 89)) = true := by
  have h : (ch_ (cw_ 89 / 240))[cw_ 89 % 240]? = some (Cond.code (yn_ 89) (bts_ 89) (mxl_ 89) (rt_ 89)) := by
    exact (Eq.refl _ : (ch_ (cw_ 89 / 240))[cw_ 89 % 240]? = _)
  unfold hw_
  rw [decide_eq_true h]
  rfl
theorem cky_89 : ckY 89 = true := by
  unfold ckY
  simp only [ckc_89, Bool.true_and]
  decide +kernel
set_option maxRecDepth 100000 in
theorem ckm_89_0 : ckP 89 0 20 = true := by decide +kernel
theorem cka_89 (pc : Nat) (e : aE) (h : code_ 89 pc = some e) : ckE 89 pc e = true := by
  have h0 : pc < 20 := by
    refine Nat.not_le.mp (fun hq => ?_)
    have : code_ 89 pc = none := by
      show cd_89 pc = none
      unfold cd_89
      rw [Nat.ble_eq_true_of_le hq]; rfl
    rw [this] at h; cases h
  by_cases h1 : pc < 20
  · exact ckP_ok ckm_89_0 (by omega) (by omega) h
  omega
theorem ckc_90 : hw_ (cw_ 90) (.code (yn_ 90) (bts_ 90) (mxl_ 90) (rt_ 90)) = true := by
  have h : (ch_ (cw_ 90 / 240))[cw_ 90 % 240]? = some (Cond.code (yn_ 90) (bts_ 90) (mxl_ 90) (rt_ 90)) := by
    exact (Eq.refl _ : (ch_ (cw_ 90 / 240))[cw_ 90 % 240]? = _)
  unfold hw_
  rw [decide_eq_true h]
  rfl
theorem cky_90 : ckY 90 = true := by
  unfold ckY
  simp only [ckc_90, Bool.true_and]
  decide +kernel
set_option maxRecDepth 100000 in
theorem ckm_90_0 : ckP 90 0 64 = true := by decide +kernel
set_option maxRecDepth 100000 in
theorem ckm_90_1 : ckP 90 64 64 = true := by decide +kernel
set_option maxRecDepth 100000 in
theorem ckm_90_2 : ckP 90 128 3 = true := by decide +kernel
theorem cka_90 (pc : Nat) (e : aE) (h : code_ 90 pc = some e) : ckE 90 pc e = true := by
  have h0 : pc < 131 := by
    refine Nat.not_le.mp (fun hq => ?_)
    have : code_ 90 pc = none := by
      show cd_90 pc = none
      unfold cd_90
      rw [Nat.ble_eq_true_of_le hq]; rfl
    rw [this] at h; cases h
  by_cases h1 : pc < 64
  · exact ckP_ok ckm_90_0 (by omega) (by omega) h
  by_cases h2 : pc < 128
  · exact ckP_ok ckm_90_1 (by omega) (by omega) h
  by_cases h3 : pc < 131
  · exact ckP_ok ckm_90_2 (by omega) (by omega) h
  omega
theorem ckc_91 : hw_ (cw_ 91) (.code (yn_ 91) (bts_ 91) (mxl_ 91) (rt_ 91)) = true := by
  have h : (ch_ (cw_ 91 / 240))[cw_ 91 % 240]? = some (Cond.code (yn_ 91) (bts_ 91) (mxl_ 91) (rt_ 91)) := by
    exact (Eq.refl _ : (ch_ (cw_ 91 / 240))[cw_ 91 % 240]? = _)
  unfold hw_
  rw [decide_eq_true h]
  rfl
theorem cky_91 : ckY 91 = true := by
  unfold ckY
  simp only [ckc_91, Bool.true_and]
  decide +kernel
set_option maxRecDepth 100000 in
theorem ckm_91_0 : ckP 91 0 64 = true := by decide +kernel
set_option maxRecDepth 100000 in
theorem ckm_91_1 : ckP 91 64 64 = true := by decide +kernel
set_option maxRecDepth 100000 in
theorem ckm_91_2 : ckP 91 128 10 = true := by decide +kernel
theorem cka_91 (pc : Nat) (e : aE) (h : code_ 91 pc = some e) : ckE 91 pc e = true := by
  have h0 : pc < 138 := by
    refine Nat.not_le.mp (fun hq => ?_)
    have : code_ 91 pc = none := by
      show cd_91 pc = none
      unfold cd_91
      rw [Nat.ble_eq_true_of_le hq]; rfl
    rw [this] at h; cases h
  by_cases h1 : pc < 64
  · exact ckP_ok ckm_91_0 (by omega) (by omega) h
  by_cases h2 : pc < 128
  · exact ckP_ok ckm_91_1 (by omega) (by omega) h
  by_cases h3 : pc < 138
  · exact ckP_ok ckm_91_2 (by omega) (by omega) h
  omega
theorem ckc_92 : hw_ (cw_ 92) (.code (yn_ 92) (bts_ 92) (mxl_ 92) (rt_ 92)) = true := by
  have h : (ch_ (cw_ 92 / 240))[cw_ 92 % 240]? = some (Cond.code (yn_ 92) (bts_ 92) (mxl_ 92) (rt_ 92)) := by
    exact (Eq.refl _ : (ch_ (cw_ 92 / 240))[cw_ 92 % 240]? = _)
  unfold hw_
  rw [decide_eq_true h]
  rfl
theorem cky_92 : ckY 92 = true := by
  unfold ckY
  simp only [ckc_92, Bool.true_and]
  decide +kernel
set_option maxRecDepth 100000 in
theorem ckm_92_0 : ckP 92 0 64 = true := by decide +kernel
set_option maxRecDepth 100000 in
theorem ckm_92_1 : ckP 92 64 51 = true := by decide +kernel
theorem cka_92 (pc : Nat) (e : aE) (h : code_ 92 pc = some e) : ckE 92 pc e = true := by
  have h0 : pc < 115 := by
    refine Nat.not_le.mp (fun hq => ?_)
    have : code_ 92 pc = none := by
      show cd_92 pc = none
      unfold cd_92
      rw [Nat.ble_eq_true_of_le hq]; rfl
    rw [this] at h; cases h
  by_cases h1 : pc < 64
  · exact ckP_ok ckm_92_0 (by omega) (by omega) h
  by_cases h2 : pc < 115
  · exact ckP_ok ckm_92_1 (by omega) (by omega) h
  omega
theorem ckc_93 : hw_ (cw_ 93) (.code (yn_ 93) (bts_ 93) (mxl_ 93) (rt_ 93)) = true := by
  have h : (ch_ (cw_ 93 / 240))[cw_ 93 % 240]? = some (Cond.code (yn_ 93) (bts_ 93) (mxl_ 93) (rt_ 93)) := by
    exact (Eq.refl _ : (ch_ (cw_ 93 / 240))[cw_ 93 % 240]? = _)
  unfold hw_
  rw [decide_eq_true h]
  rfl
theorem cky_93 : ckY 93 = true := by
  unfold ckY
  simp only [ckc_93, Bool.true_and]
  decide +kernel
set_option maxRecDepth 100000 in
theorem ckm_93_0 : ckP 93 0 64 = true := by decide +kernel
set_option maxRecDepth 100000 in
theorem ckm_93_1 : ckP 93 64 64 = true := by decide +kernel
set_option maxRecDepth 100000 in
theorem ckm_93_2 : ckP 93 128 40 = true := by decide +kernel
theorem cka_93 (pc : Nat) (e : aE) (h : code_ 93 pc = some e) : ckE 93 pc e = true := by
  have h0 : pc < 168 := by
    refine Nat.not_le.mp (fun hq => ?_)
    have : code_ 93 pc = none := by
      show cd_93 pc = none
      unfold cd_93
      rw [Nat.ble_eq_true_of_le hq]; rfl
    rw [this] at h; cases h
  by_cases h1 : pc < 64
  · exact ckP_ok ckm_93_0 (by omega) (by omega) h
  by_cases h2 : pc < 128
  · exact ckP_ok ckm_93_1 (by omega) (by omega) h
  by_cases h3 : pc < 168
  · exact ckP_ok ckm_93_2 (by omega) (by omega) h
  omega
theorem ckc_94 : hw_ (cw_ 94) (.code (yn_ 94) (bts_ 94) (mxl_ 94) (rt_ 94)) = true := by
  have h : (ch_ (cw_ 94 / 240))[cw_ 94 % 240]? = some (Cond.code (yn_ 94) (bts_ 94) (mxl_ 94) (rt_ 94)) := by
    exact (Eq.refl _ : (ch_ (cw_ 94 / 240))[cw_ 94 % 240]? = _)
  unfold hw_
  rw [decide_eq_true h]
  rfl
theorem cky_94 : ckY 94 = true := by
  unfold ckY
  simp only [ckc_94, Bool.true_and]
  decide +kernel
set_option maxRecDepth 100000 in
theorem ckm_94_0 : ckP 94 0 64 = true := by decide +kernel
set_option maxRecDepth 100000 in
theorem ckm_94_1 : ckP 94 64 16 = true := by decide +kernel
theorem cka_94 (pc : Nat) (e : aE) (h : code_ 94 pc = some e) : ckE 94 pc e = true := by
  have h0 : pc < 80 := by
    refine Nat.not_le.mp (fun hq => ?_)
    have : code_ 94 pc = none := by
      show cd_94 pc = none
      unfold cd_94
      rw [Nat.ble_eq_true_of_le hq]; rfl
    rw [this] at h; cases h
  by_cases h1 : pc < 64
  · exact ckP_ok ckm_94_0 (by omega) (by omega) h
  by_cases h2 : pc < 80
  · exact ckP_ok ckm_94_1 (by omega) (by omega) h
  omega
theorem ckc_95 : hw_ (cw_ 95) (.code (yn_ 95) (bts_ 95) (mxl_ 95) (rt_ 95)) = true := by
  have h : (ch_ (cw_ 95 / 240))[cw_ 95 % 240]? = some (Cond.code (yn_ 95) (bts_ 95) (mxl_ 95) (rt_ 95)) := by
    exact (Eq.refl _ : (ch_ (cw_ 95 / 240))[cw_ 95 % 240]? = _)
  unfold hw_
  rw [decide_eq_true h]
  rfl
theorem cky_95 : ckY 95 = true := by
  unfold ckY
  simp only [ckc_95, Bool.true_and]
  decide +kernel
set_option maxRecDepth 100000 in
theorem ckm_95_0 : ckP 95 0 64 = true := by decide +kernel
set_option maxRecDepth 100000 in
theorem ckm_95_1 : ckP 95 64 11 = true := by decide +kernel
theorem cka_95 (pc : Nat) (e : aE) (h : code_ 95 pc = some e) : ckE 95 pc e = true := by
  have h0 : pc < 75 := by
    refine Nat.not_le.mp (fun hq => ?_)
    have : code_ 95 pc = none := by
      show cd_95 pc = none
      unfold cd_95
      rw [Nat.ble_eq_true_of_le hq]; rfl
    rw [this] at h; cases h
  by_cases h1 : pc < 64
  · exact ckP_ok ckm_95_0 (by omega) (by omega) h
  by_cases h2 : pc < 75
  · exact ckP_ok ckm_95_1 (by omega) (by omega) h
  omega
theorem ckc_96 : hw_ (cw_ 96) (.code (yn_ 96) (bts_ 96) (mxl_ 96) (rt_ 96)) = true := by
  have h : (ch_ (cw_ 96 / 240))[cw_ 96 % 240]? = some (Cond.code (yn_ 96) (bts_ 96) (mxl_ 96) (rt_ 96)) := by
    exact (Eq.refl _ : (ch_ (cw_ 96 / 240))[cw_ 96 % 240]? = _)
  unfold hw_
  rw [decide_eq_true h]
  rfl
theorem cky_96 : ckY 96 = true := by
  unfold ckY
  simp only [ckc_96, Bool.true_and]
  decide +kernel
set_option maxRecDepth 100000 in
theorem ckm_96_0 : ckP 96 0 53 = true := by decide +kernel
theorem cka_96 (pc : Nat) (e : aE) (h : code_ 96 pc = some e) : ckE 96 pc e = true := by
  have h0 : pc < 53 := by
    refine Nat.not_le.mp (fun hq => ?_)
    have : code_ 96 pc = none := by
      show cd_96 pc = none
      unfold cd_96
      rw [Nat.ble_eq_true_of_le hq]; rfl
    rw [this] at h; cases h
  by_cases h1 : pc < 53
  · exact ckP_ok ckm_96_0 (by omega) (by omega) h
  omega
theorem ckc_97 : hw_ (cw_ 97) (.code (yn_ 97) (bts_ 97) (mxl_ 97) (rt_ 97)) = true := by
  have h : (ch_ (cw_ 97 / 240))[cw_ 97 % 240]? = some (Cond.code (yn_ 97) (bts_ 97) (mxl_ 97) (rt_ 97)) := by
    exact (Eq.refl _ : (ch_ (cw_ 97 / 240))[cw_ 97 % 240]? = _)
  unfold hw_
  rw [decide_eq_true h]
  rfl
theorem cky_97 : ckY 97 = true := by
  unfold ckY
  simp only [ckc_97, Bool.true_and]
  decide +kernel
set_option maxRecDepth 100000 in
theorem ckm_97_0 : ckP 97 0 53 = true := by decide +kernel
theorem cka_97 (pc : Nat) (e : aE) (h : code_ 97 pc = some e) : ckE 97 pc e = true := by
  have h0 : pc < 53 := by
    refine Nat.not_le.mp (fun hq => ?_)
    have : code_ 97 pc = none := by
      show cd_97 pc = none
      unfold cd_97
      rw [Nat.ble_eq_true_of_le hq]; rfl
    rw [this] at h; cases h
  by_cases h1 : pc < 53
  · exact ckP_ok ckm_97_0 (by omega) (by omega) h
  omega
theorem ckc_98 : hw_ (cw_ 98) (.code (yn_ 98) (bts_ 98) (mxl_ 98) (rt_ 98)) = true := by
  have h : (ch_ (cw_ 98 / 240))[cw_ 98 % 240]? = some (Cond.code (yn_ 98) (bts_ 98) (mxl_ 98) (rt_ 98)) := by
    exact (Eq.refl _ : (ch_ (cw_ 98 / 240))[cw_ 98 % 240]? = _)
  unfold hw_
  rw [decide_eq_true h]
  rfl
theorem cky_98 : ckY 98 = true := by
  unfold ckY
  simp only [ckc_98, Bool.true_and]
  decide +kernel
set_option maxRecDepth 100000 in
theorem ckm_98_0 : ckP 98 0 54 = true := by decide +kernel
theorem cka_98 (pc : Nat) (e : aE) (h : code_ 98 pc = some e) : ckE 98 pc e = true := by
  have h0 : pc < 54 := by
    refine Nat.not_le.mp (fun hq => ?_)
    have : code_ 98 pc = none := by
      show cd_98 pc = none
      unfold cd_98
      rw [Nat.ble_eq_true_of_le hq]; rfl
    rw [this] at h; cases h
  by_cases h1 : pc < 54
  · exact ckP_ok ckm_98_0 (by omega) (by omega) h
  omega
theorem ckc_99 : hw_ (cw_ 99) (.code (yn_ 99) (bts_ 99) (mxl_ 99) (rt_ 99)) = true := by
  have h : (ch_ (cw_ 99 / 240))[cw_ 99 % 240]? = some (Cond.code (yn_ 99) (bts_ 99) (mxl_ 99) (rt_ 99)) := by
    exact (Eq.refl _ : (ch_ (cw_ 99 / 240))[cw_ 99 % 240]? = _)
  unfold hw_
  rw [decide_eq_true h]
  rfl
theorem cky_99 : ckY 99 = true := by
  unfold ckY
  simp only [ckc_99, Bool.true_and]
  decide +kernel
set_option maxRecDepth 100000 in
theorem ckm_99_0 : ckP 99 0 21 = true := by decide +kernel
theorem cka_99 (pc : Nat) (e : aE) (h : code_ 99 pc = some e) : ckE 99 pc e = true := by
  have h0 : pc < 21 := by
    refine Nat.not_le.mp (fun hq => ?_)
    have : code_ 99 pc = none := by
      show cd_99 pc = none
      unfold cd_99
      rw [Nat.ble_eq_true_of_le hq]; rfl
    rw [this] at h; cases h
  by_cases h1 : pc < 21
  · exact ckP_ok ckm_99_0 (by omega) (by omega) h
  omega
theorem ckc_100 : hw_ (cw_ 100) (.code (yn_ 100) (bts_ 100) (mxl_ 100) (rt_ 100)) = true := by
  have h : (ch_ (cw_ 100 / 240))[cw_ 100 % 240]? = some (Cond.code (yn_ 100) (bts_ 100) (mxl_ 100) (rt_ 100)) := by
    exact (Eq.refl _ : (ch_ (cw_ 100 / 240))[cw_ 100 % 240]? = _)
  unfold hw_
  rw [decide_eq_true h]
  rfl
theorem cky_100 : ckY 100 = true := by
  unfold ckY
  simp only [ckc_100, Bool.true_and]
  decide +kernel
set_option maxRecDepth 100000 in
theorem ckm_100_0 : ckP 100 0 64 = true := by decide +kernel
set_option maxRecDepth 100000 in
theorem ckm_100_1 : ckP 100 64 2 = true := by decide +kernel
theorem cka_100 (pc : Nat) (e : aE) (h : code_ 100 pc = some e) : ckE 100 pc e = true := by
  have h0 : pc < 66 := by
    refine Nat.not_le.mp (fun hq => ?_)
    have : code_ 100 pc = none := by
      show cd_100 pc = none
      unfold cd_100
      rw [Nat.ble_eq_true_of_le hq]; rfl
    rw [this] at h; cases h
  by_cases h1 : pc < 64
  · exact ckP_ok ckm_100_0 (by omega) (by omega) h
  by_cases h2 : pc < 66
  · exact ckP_ok ckm_100_1 (by omega) (by omega) h
  omega
theorem ckc_101 : hw_ (cw_ 101) (.code (yn_ 101) (bts_ 101) (mxl_ 101) (rt_ 101)) = true := by
  have h : (ch_ (cw_ 101 / 240))[cw_ 101 % 240]? = some (Cond.code (yn_ 101) (bts_ 101) (mxl_ 101) (rt_ 101)) := by
    exact (Eq.refl _ : (ch_ (cw_ 101 / 240))[cw_ 101 % 240]? = _)
  unfold hw_
  rw [decide_eq_true h]
  rfl
theorem cky_101 : ckY 101 = true := by
  unfold ckY
  simp only [ckc_101, Bool.true_and]
  decide +kernel
set_option maxRecDepth 100000 in
theorem ckm_101_0 : ckP 101 0 56 = true := by decide +kernel
theorem cka_101 (pc : Nat) (e : aE) (h : code_ 101 pc = some e) : ckE 101 pc e = true := by
  have h0 : pc < 56 := by
    refine Nat.not_le.mp (fun hq => ?_)
    have : code_ 101 pc = none := by
      show cd_101 pc = none
      unfold cd_101
      rw [Nat.ble_eq_true_of_le hq]; rfl
    rw [this] at h; cases h
  by_cases h1 : pc < 56
  · exact ckP_ok ckm_101_0 (by omega) (by omega) h
  omega
theorem ckc_102 : hw_ (cw_ 102) (.code (yn_ 102) (bts_ 102) (mxl_ 102) (rt_ 102)) = true := by
  have h : (ch_ (cw_ 102 / 240))[cw_ 102 % 240]? = some (Cond.code (yn_ 102) (bts_ 102) (mxl_ 102) (rt_ 102)) := by
    exact (Eq.refl _ : (ch_ (cw_ 102 / 240))[cw_ 102 % 240]? = _)
  unfold hw_
  rw [decide_eq_true h]
  rfl
theorem cky_102 : ckY 102 = true := by
  unfold ckY
  simp only [ckc_102, Bool.true_and]
  decide +kernel
set_option maxRecDepth 100000 in
theorem ckm_102_0 : ckP 102 0 58 = true := by decide +kernel
theorem cka_102 (pc : Nat) (e : aE) (h : code_ 102 pc = some e) : ckE 102 pc e = true := by
  have h0 : pc < 58 := by
    refine Nat.not_le.mp (fun hq => ?_)
    have : code_ 102 pc = none := by
      show cd_102 pc = none
      unfold cd_102
      rw [Nat.ble_eq_true_of_le hq]; rfl
    rw [this] at h; cases h
  by_cases h1 : pc < 58
  · exact ckP_ok ckm_102_0 (by omega) (by omega) h
  omega
theorem ckc_103 : hw_ (cw_ 103) (.code (yn_ 103) (bts_ 103) (mxl_ 103) (rt_ 103)) = true := by
  have h : (ch_ (cw_ 103 / 240))[cw_ 103 % 240]? = some (Cond.code (yn_ 103) (bts_ 103) (mxl_ 103) (rt_ 103)) := by
    exact (Eq.refl _ : (ch_ (cw_ 103 / 240))[cw_ 103 % 240]? = _)
  unfold hw_
  rw [decide_eq_true h]
  rfl
theorem cky_103 : ckY 103 = true := by
  unfold ckY
  simp only [ckc_103, Bool.true_and]
  decide +kernel
set_option maxRecDepth 100000 in
theorem ckm_103_0 : ckP 103 0 33 = true := by decide +kernel
theorem cka_103 (pc : Nat) (e : aE) (h : code_ 103 pc = some e) : ckE 103 pc e = true := by
  have h0 : pc < 33 := by
    refine Nat.not_le.mp (fun hq => ?_)
    have : code_ 103 pc = none := by
      show cd_103 pc = none
      unfold cd_103
      rw [Nat.ble_eq_true_of_le hq]; rfl
    rw [this] at h; cases h
  by_cases h1 : pc < 33
  · exact ckP_ok ckm_103_0 (by omega) (by omega) h
  omega
theorem ckc_104 : hw_ (cw_ 104) (.code (yn_ 104) (bts_ 104) (mxl_ 104) (rt_ 104)) = true := by
  have h : (ch_ (cw_ 104 / 240))[cw_ 104 % 240]? = some (Cond.code (yn_ 104) (bts_ 104) (mxl_ 104) (rt_ 104)) := by
    exact (Eq.refl _ : (ch_ (cw_ 104 / 240))[cw_ 104 % 240]? = _)
  unfold hw_
  rw [decide_eq_true h]
  rfl
theorem cky_104 : ckY 104 = true := by
  unfold ckY
  simp only [ckc_104, Bool.true_and]
  decide +kernel
set_option maxRecDepth 100000 in
theorem ckm_104_0 : ckP 104 0 48 = true := by decide +kernel
theorem cka_104 (pc : Nat) (e : aE) (h : code_ 104 pc = some e) : ckE 104 pc e = true := by
  have h0 : pc < 48 := by
    refine Nat.not_le.mp (fun hq => ?_)
    have : code_ 104 pc = none := by
      show cd_104 pc = none
      unfold cd_104
      rw [Nat.ble_eq_true_of_le hq]; rfl
    rw [this] at h; cases h
  by_cases h1 : pc < 48
  · exact ckP_ok ckm_104_0 (by omega) (by omega) h
  omega
theorem ckc_105 : hw_ (cw_ 105) (.code (yn_ 105) (bts_ 105) (mxl_ 105) (rt_ 105)) = true := by
  have h : (ch_ (cw_ 105 / 240))[cw_ 105 % 240]? = some (Cond.code (yn_ 105) (bts_ 105) (mxl_ 105) (rt_ 105)) := by
    exact (Eq.refl _ : (ch_ (cw_ 105 / 240))[cw_ 105 % 240]? = _)
  unfold hw_
  rw [decide_eq_true h]
  rfl
theorem cky_105 : ckY 105 = true := by
  unfold ckY
  simp only [ckc_105, Bool.true_and]
  decide +kernel
set_option maxRecDepth 100000 in
theorem ckm_105_0 : ckP 105 0 12 = true := by decide +kernel
theorem cka_105 (pc : Nat) (e : aE) (h : code_ 105 pc = some e) : ckE 105 pc e = true := by
  have h0 : pc < 12 := by
    refine Nat.not_le.mp (fun hq => ?_)
    have : code_ 105 pc = none := by
      show cd_105 pc = none
      unfold cd_105
      rw [Nat.ble_eq_true_of_le hq]; rfl
    rw [this] at h; cases h
  by_cases h1 : pc < 12
  · exact ckP_ok ckm_105_0 (by omega) (by omega) h
  omega
theorem ckc_106 : hw_ (cw_ 106) (.code (yn_ 106) (bts_ 106) (mxl_ 106) (rt_ 106)) = true := by
  have h : (ch_ (cw_ 106 / 240))[cw_ 106 % 240]? = some (Cond.code (yn_ 106) (bts_ 106) (mxl_ 106) (rt_ 106)) := by
    exact (Eq.refl _ : (ch_ (cw_ 106 / 240))[cw_ 106 % 240]? = _)
  unfold hw_
  rw [decide_eq_true h]
  rfl
theorem cky_106 : ckY 106 = true := by
  unfold ckY
  simp only [ckc_106, Bool.true_and]
  decide +kernel
set_option maxRecDepth 100000 in
theorem ckm_106_0 : ckP 106 0 12 = true := by decide +kernel
theorem cka_106 (pc : Nat) (e : aE) (h : code_ 106 pc = some e) : ckE 106 pc e = true := by
  have h0 : pc < 12 := by
    refine Nat.not_le.mp (fun hq => ?_)
    have : code_ 106 pc = none := by
      show cd_106 pc = none
      unfold cd_106
      rw [Nat.ble_eq_true_of_le hq]; rfl
    rw [this] at h; cases h
  by_cases h1 : pc < 12
  · exact ckP_ok ckm_106_0 (by omega) (by omega) h
  omega
theorem ckc_107 : hw_ (cw_ 107) (.code (yn_ 107) (bts_ 107) (mxl_ 107) (rt_ 107)) = true := by
  have h : (ch_ (cw_ 107 / 240))[cw_ 107 % 240]? = some (Cond.code (yn_ 107) (bts_ 107) (mxl_ 107) (rt_ 107)) := by
    exact (Eq.refl _ : (ch_ (cw_ 107 / 240))[cw_ 107 % 240]? = _)
  unfold hw_
  rw [decide_eq_true h]
  rfl
theorem cky_107 : ckY 107 = true := by
  unfold ckY
  simp only [ckc_107, Bool.true_and]
  decide +kernel
set_option maxRecDepth 100000 in
theorem ckm_107_0 : ckP 107 0 23 = true := by decide +kernel
theorem cka_107 (pc : Nat) (e : aE) (h : code_ 107 pc = some e) : ckE 107 pc e = true := by
  have h0 : pc < 23 := by
    refine Nat.not_le.mp (fun hq => ?_)
    have : code_ 107 pc = none := by
      show cd_107 pc = none
      unfold cd_107
      rw [Nat.ble_eq_true_of_le hq]; rfl
    rw [this] at h; cases h
  by_cases h1 : pc < 23
  · exact ckP_ok ckm_107_0 (by omega) (by omega) h
  omega
theorem ckc_108 : hw_ (cw_ 108) (.code (yn_ 108) (bts_ 108) (mxl_ 108) (rt_ 108)) = true := by
  have h : (ch_ (cw_ 108 / 240))[cw_ 108 % 240]? = some (Cond.code (yn_ 108) (bts_ 108) (mxl_ 108) (rt_ 108)) := by
    exact (Eq.refl _ : (ch_ (cw_ 108 / 240))[cw_ 108 % 240]? = _)
  unfold hw_
  rw [decide_eq_true h]
  rfl
theorem cky_108 : ckY 108 = true := by
  unfold ckY
  simp only [ckc_108, Bool.true_and]
  decide +kernel
set_option maxRecDepth 100000 in
theorem ckm_108_0 : ckP 108 0 26 = true := by decide +kernel
theorem cka_108 (pc : Nat) (e : aE) (h : code_ 108 pc = some e) : ckE 108 pc e = true := by
  have h0 : pc < 26 := by
    refine Nat.not_le.mp (fun hq => ?_)
    have : code_ 108 pc = none := by
      show cd_108 pc = none
      unfold cd_108
      rw [Nat.ble_eq_true_of_le hq]; rfl
    rw [this] at h; cases h
  by_cases h1 : pc < 26
  · exact ckP_ok ckm_108_0 (by omega) (by omega) h
  omega
theorem ckc_109 : hw_ (cw_ 109) (.code (yn_ 109) (bts_ 109) (mxl_ 109) (rt_ 109)) = true := by
  have h : (ch_ (cw_ 109 / 240))[cw_ 109 % 240]? = some (Cond.code (yn_ 109) (bts_ 109) (mxl_ 109) (rt_ 109)) := by
    exact (Eq.refl _ : (ch_ (cw_ 109 / 240))[cw_ 109 % 240]? = _)
  unfold hw_
  rw [decide_eq_true h]
  rfl
theorem cky_109 : ckY 109 = true := by
  unfold ckY
  simp only [ckc_109, Bool.true_and]
  decide +kernel
set_option maxRecDepth 100000 in
theorem ckm_109_0 : ckP 109 0 64 = true := by decide +kernel
set_option maxRecDepth 100000 in
theorem ckm_109_1 : ckP 109 64 28 = true := by decide +kernel
theorem cka_109 (pc : Nat) (e : aE) (h : code_ 109 pc = some e) : ckE 109 pc e = true := by
  have h0 : pc < 92 := by
    refine Nat.not_le.mp (fun hq => ?_)
    have : code_ 109 pc = none := by
      show cd_109 pc = none
      unfold cd_109
      rw [Nat.ble_eq_true_of_le hq]; rfl
    rw [this] at h; cases h
  by_cases h1 : pc < 64
  · exact ckP_ok ckm_109_0 (by omega) (by omega) h
  by_cases h2 : pc < 92
  · exact ckP_ok ckm_109_1 (by omega) (by omega) h
  omega
