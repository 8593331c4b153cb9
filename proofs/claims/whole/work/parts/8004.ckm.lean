theorem ckc_110 : hw_ (cw_ 110) (.code (yn_ 110) (bts_ 110) (mxl_ 110) (rt_ 110)) = true := by
  have h : (ch_ (cw_ 110 / 240))[cw_ 110 % 240]? = some (Cond.code (yn_ 110) (bts_ 110) (mxl_ 110) (rt_ 110)) := by
    exact (Eq.refl _ : (ch_ (cw_ 110 / 240))[cw_ 110 % 240]? = _)
  unfold hw_
  rw [decide_eq_true h]
  rfl
theorem cky_110 : ckY 110 = true := by
  unfold ckY
  simp only [ckc_110, Bool.true_and]
  decide +kernel
set_option maxRecDepth 100000 in
theorem ckm_110_0 : ckP 110 0 64 = true := by decide +kernel
set_option maxRecDepth 100000 in
theorem ckm_110_1 : ckP 110 64 64 = true := by decide +kernel
set_option maxRecDepth 100000 in
theorem ckm_110_2 : ckP 110 128 64 = true := by decide +kernel
set_option maxRecDepth 100000 in
theorem ckm_110_3 : ckP 110 192 35 = true := by decide +kernel
theorem cka_110 (pc : Nat) (e : aE) (h : code_ 110 pc = some e) : ckE 110 pc e = true := by
  have h0 : pc < 227 := by
    refine Nat.not_le.mp (fun hq => ?_)
    have : code_ 110 pc = none := by
      show cd_110 pc = none
      unfold cd_110
      rw [Nat.ble_eq_true_of_le hq]; rfl
    rw [this] at h; cases h
  by_cases h1 : pc < 64
  · exact ckP_ok ckm_110_0 (by omega) (by omega) h
  by_cases h2 : pc < 128
  · exact ckP_ok ckm_110_1 (by omega) (by omega) h
  by_cases h3 : pc < 192
  · exact ckP_ok ckm_110_2 (by omega) (by omega) h
  by_cases h4 : pc < 227
  · exact ckP_ok ckm_110_3 (by omega) (by omega) h
  omega
theorem ckc_111 : hw_ (cw_ 111) (.code (yn_ 111) (bts_ 111) (mxl_ 111) (rt_ 111)) = true := by
  have h : (ch_ (cw_ 111 / 240))[cw_ 111 % 240]? = some (Cond.code (yn_ 111) (bts_ 111) (mxl_ 111) (rt_ 111)) := by
    exact (Eq.refl _ : (ch_ (cw_ 111 / 240))[cw_ 111 % 240]? = _)
  unfold hw_
  rw [decide_eq_true h]
  rfl
theorem cky_111 : ckY 111 = true := by
  unfold ckY
  simp only [ckc_111, Bool.true_and]
  decide +kernel
set_option maxRecDepth 100000 in
theorem ckm_111_0 : ckP 111 0 64 = true := by decide +kernel
set_option maxRecDepth 100000 in
theorem ckm_111_1 : ckP 111 64 64 = true := by decide +kernel
set_option maxRecDepth 100000 in
theorem ckm_111_2 : ckP 111 128 64 = true := by decide +kernel
set_option maxRecDepth 100000 in
theorem ckm_111_3 : ckP 111 192 64 = true := by decide +kernel
set_option maxRecDepth 100000 in
theorem ckm_111_4 : ckP 111 256 23 = true := by decide +kernel
theorem cka_111 (pc : Nat) (e : aE) (h : code_ 111 pc = some e) : ckE 111 pc e = true := by
  have h0 : pc < 279 := by
    refine Nat.not_le.mp (fun hq => ?_)
    have : code_ 111 pc = none := by
      show cd_111 pc = none
      unfold cd_111
      rw [Nat.ble_eq_true_of_le hq]; rfl
    rw [this] at h; cases h
  by_cases h1 : pc < 64
  · exact ckP_ok ckm_111_0 (by omega) (by omega) h
  by_cases h2 : pc < 128
  · exact ckP_ok ckm_111_1 (by omega) (by omega) h
  by_cases h3 : pc < 192
  · exact ckP_ok ckm_111_2 (by omega) (by omega) h
  by_cases h4 : pc < 256
  · exact ckP_ok ckm_111_3 (by omega) (by omega) h
  by_cases h5 : pc < 279
  · exact ckP_ok ckm_111_4 (by omega) (by omega) h
  omega
theorem ckc_112 : hw_ (cw_ 112) (.code (yn_ 112) (bts_ 112) (mxl_ 112) (rt_ 112)) = true := by
  have h : (ch_ (cw_ 112 / 240))[cw_ 112 % 240]? = some (Cond.code (yn_ 112) (bts_ 112) (mxl_ 112) (rt_ 112)) := by
    exact (Eq.refl _ : (ch_ (cw_ 112 / 240))[cw_ 112 % 240]? = _)
  unfold hw_
  rw [decide_eq_true h]
  rfl
theorem cky_112 : ckY 112 = true := by
  unfold ckY
  simp only [ckc_112, Bool.true_and]
  decide +kernel
set_option maxRecDepth 100000 in
theorem ckm_112_0 : ckP 112 0 22 = true := by decide +kernel
theorem cka_112 (pc : Nat) (e : aE) (h : code_ 112 pc = some e) : ckE 112 pc e = true := by
  have h0 : pc < 22 := by
    refine Nat.not_le.mp (fun hq => ?_)
    have : code_ 112 pc = none := by
      show cd_112 pc = none
      unfold cd_112
      rw [Nat.ble_eq_true_of_le hq]; rfl
    rw [this] at h; cases h
  by_cases h1 : pc < 22
  · exact ckP_ok ckm_112_0 (by omega) (by omega) h
  omega
theorem ckc_113 : hw_ (cw_ 113) (.code (yn_ 113) (bts_ 113) (mxl_ 113) (rt_ 113)) = true := by
  have h : (ch_ (cw_ 113 / 240))[cw_ 113 % 240]? = some (Cond.code (yn_ 113) (bts_ 113) (mxl_ 113) (rt_ 113)) := by
    exact (Eq.refl _ : (ch_ (cw_ 113 / 240))[cw_ 113 % 240]? = _)
  unfold hw_
  rw [decide_eq_true h]
  rfl
theorem cky_113 : ckY 113 = true := by
  unfold ckY
  simp only [ckc_113, Bool.true_and]
  decide +kernel
set_option maxRecDepth 100000 in
theorem ckm_113_0 : ckP 113 0 64 = true := by decide +kernel
set_option maxRecDepth 100000 in
theorem ckm_113_1 : ckP 113 64 64 = true := by decide +kernel
set_option maxRecDepth 100000 in
theorem ckm_113_2 : ckP 113 128 8 = true := by decide +kernel
theorem cka_113 (pc : Nat) (e : aE) (h : code_ 113 pc = some e) : ckE 113 pc e = true := by
  have h0 : pc < 136 := by
    refine Nat.not_le.mp (fun hq => ?_)
    have : code_ 113 pc = none := by
      show cd_113 pc = none
      unfold cd_113
      rw [Nat.ble_eq_true_of_le hq]; rfl
    rw [this] at h; cases h
  by_cases h1 : pc < 64
  · exact ckP_ok ckm_113_0 (by omega) (by omega) h
  by_cases h2 : pc < 128
  · exact ckP_ok ckm_113_1 (by omega) (by omega) h
  by_cases h3 : pc < 136
  · exact ckP_ok ckm_113_2 (by omega) (by omega) h
  omega
theorem ckc_114 : hw_ (cw_ 114) (.code (yn_ 114) (bts_ 114) (mxl_ 114) (rt_ 114)) = true := by
  have h : (ch_ (cw_ 114 / 240))[cw_ 114 % 240]? = some (Cond.code (yn_ 114) (bts_ 114) (mxl_ 114) (rt_ 114)) := by
    exact (Eq.refl _ : (ch_ (cw_ 114 / 240))[cw_ 114 % 240]? = _)
  unfold hw_
  rw [decide_eq_true h]
  rfl
theorem cky_114 : ckY 114 = true := by
  unfold ckY
  simp only [ckc_114, Bool.true_and]
  decide +kernel
set_option maxRecDepth 100000 in
theorem ckm_114_0 : ckP 114 0 31 = true := by decide +kernel
theorem cka_114 (pc : Nat) (e : aE) (h : code_ 114 pc = some e) : ckE 114 pc e = true := by
  have h0 : pc < 31 := by
    refine Nat.not_le.mp (fun hq => ?_)
    have : code_ 114 pc = none := by
      show cd_114 pc = none
      unfold cd_114
      rw [Nat.ble_eq_true_of_le hq]; rfl
    rw [this] at h; cases h
  by_cases h1 : pc < 31
  · exact ckP_ok ckm_114_0 (by omega) (by omega) h
  omega
theorem ckc_115 : hw_ (cw_ 115) (.code (yn_ 115) (bts_ 115) (mxl_ 115) (rt_ 115)) = true := by
  have h : (ch_ (cw_ 115 / 240))[cw_ 115 % 240]? = some (Cond.code (yn_ 115) (bts_ 115) (mxl_ 115) (rt_ 115)) := by
    exact (Eq.refl _ : (ch_ (cw_ 115 / 240))[cw_ 115 % 240]? = _)
  unfold hw_
  rw [decide_eq_true h]
  rfl
theorem cky_115 : ckY 115 = true := by
  unfold ckY
  simp only [ckc_115, Bool.true_and]
  decide +kernel
set_option maxRecDepth 100000 in
theorem ckm_115_0 : ckP 115 0 44 = true := by decide +kernel
theorem cka_115 (pc : Nat) (e : aE) (h : code_ 115 pc = some e) : ckE 115 pc e = true := by
  have h0 : pc < 44 := by
    refine Nat.not_le.mp (fun hq => ?_)
    have : code_ 115 pc = none := by
      show cd_115 pc = none
      unfold cd_115
      rw [Nat.ble_eq_true_of_le hq]; rfl
    rw [this] at h; cases h
  by_cases h1 : pc < 44
  · exact ckP_ok ckm_115_0 (by omega) (by omega) h
  omega
theorem ckc_116 : hw_ (cw_ 116) (.code (yn_ 116) (bts_ 116) (mxl_ 116) (rt_ 116)) = true := by
  have h : (ch_ (cw_ 116 / 240))[cw_ 116 % 240]? = some (Cond.code (yn_ 116) (bts_ 116) (mxl_ 116) (rt_ 116)) := by
    exact (Eq.refl _ : (ch_ (cw_ 116 / 240))[cw_ 116 % 240]? = _)
  unfold hw_
  rw [decide_eq_true h]
  rfl
theorem cky_116 : ckY 116 = true := by
  unfold ckY
  simp only [ckc_116, Bool.true_and]
  decide +kernel
set_option maxRecDepth 100000 in
theorem ckm_116_0 : ckP 116 0 64 = true := by decide +kernel
set_option maxRecDepth 100000 in
theorem ckm_116_1 : ckP 116 64 51 = true := by decide +kernel
theorem cka_116 (pc : Nat) (e : aE) (h : code_ 116 pc = some e) : ckE 116 pc e = true := by
  have h0 : pc < 115 := by
    refine Nat.not_le.mp (fun hq => ?_)
    have : code_ 116 pc = none := by
      show cd_116 pc = none
      unfold cd_116
      rw [Nat.ble_eq_true_of_le hq]; rfl
    rw [this] at h; cases h
  by_cases h1 : pc < 64
  · exact ckP_ok ckm_116_0 (by omega) (by omega) h
  by_cases h2 : pc < 115
  · exact ckP_ok ckm_116_1 (by omega) (by omega) h
  omega
theorem ckc_117 : hw_ (cw_ 117) (.code (yn_ 117) (bts_ 117) (mxl_ 117) (rt_ 117)) = true := by
  have h : (ch_ (cw_ 117 / 240))[cw_ 117 % 240]? = some (Cond.code (yn_ 117) (bts_ 117) (mxl_ 117) (rt_ 117)) := by
    exact (Eq.refl _ : (ch_ (cw_ 117 / 240))[cw_ 117 % 240]? = _)
  unfold hw_
  rw [decide_eq_true h]
  rfl
theorem cky_117 : ckY 117 = true := by
  unfold ckY
  simp only [ckc_117, Bool.true_and]
  decide +kernel
set_option maxRecDepth 100000 in
theorem ckm_117_0 : ckP 117 0 64 = true := by decide +kernel
set_option maxRecDepth 100000 in
theorem ckm_117_1 : ckP 117 64 51 = true := by decide +kernel
theorem cka_117 (pc : Nat) (e : aE) (h : code_ 117 pc = some e) : ckE 117 pc e = true := by
  have h0 : pc < 115 := by
    refine Nat.not_le.mp (fun hq => ?_)
    have : code_ 117 pc = none := by
      show cd_117 pc = none
      unfold cd_117
      rw [Nat.ble_eq_true_of_le hq]; rfl
    rw [this] at h; cases h
  by_cases h1 : pc < 64
  · exact ckP_ok ckm_117_0 (by omega) (by omega) h
  by_cases h2 : pc < 115
  · exact ckP_ok ckm_117_1 (by omega) (by omega) h
  omega
theorem ckc_118 : hw_ (cw_ 118) (.code (yn_ 118) (bts_ 118) (mxl_ 118) (rt_ 118)) = true := by
  have h : (ch_ (cw_ 118 / 240))[cw_ 118 % 240]? = some (Cond.code (yn_ 118) (bts_ 118) (mxl_ 118) (rt_ 118)) := by
    exact (Eq.refl _ : (ch_ (cw_ 118 / 240))[cw_ 118 % 240]? = _)
  unfold hw_
  rw [decide_eq_true h]
  rfl
theorem cky_118 : ckY 118 = true := by
  unfold ckY
  simp only [ckc_118, Bool.true_and]
  decide +kernel
set_option maxRecDepth 100000 in
theorem ckm_118_0 : ckP 118 0 64 = true := by decide +kernel
set_option maxRecDepth 100000 in
theorem ckm_118_1 : ckP 118 64 64 = true := by decide +kernel
set_option maxRecDepth 100000 in
theorem ckm_118_2 : ckP 118 128 34 = true := by decide +kernel
theorem cka_118 (pc : Nat) (e : aE) (h : code_ 118 pc = some e) : ckE 118 pc e = true := by
  have h0 : pc < 162 := by
    refine Nat.not_le.mp (fun hq => ?_)
    have : code_ 118 pc = none := by
      show cd_118 pc = none
      unfold cd_118
      rw [Nat.ble_eq_true_of_le hq]; rfl
    rw [this] at h; cases h
  by_cases h1 : pc < 64
  · exact ckP_ok ckm_118_0 (by omega) (by omega) h
  by_cases h2 : pc < 128
  · exact ckP_ok ckm_118_1 (by omega) (by omega) h
  by_cases h3 : pc < 162
  · exact ckP_ok ckm_118_2 (by omega) (by omega) h
  omega
theorem ckc_119 : hw_ (cw_ 119) (.code (yn_ 119) (bts_ 119) (mxl_ 119) (rt_ 119)) = true := by
  have h : (ch_ (cw_ 119 / 240))[cw_ 119 % 240]? = some (Cond.code (yn_ 119) (bts_ 119) (mxl_ 119) (rt_ 119)) := by
    exact (Eq.refl _ : (ch_ (cw_ 119 / 240))[cw_ 119 % 240]? = _)
  unfold hw_
  rw [decide_eq_true h]
  rfl
theorem cky_119 : ckY 119 = true := by
  unfold ckY
  simp only [ckc_119, Bool.true_and]
  decide +kernel
set_option maxRecDepth 100000 in
theorem ckm_119_0 : ckP 119 0 47 = true := by decide +kernel
theorem cka_119 (pc : Nat) (e : aE) (h : code_ 119 pc = some e) : ckE 119 pc e = true := by
  have h0 : pc < 47 := by
    refine Nat.not_le.mp (fun hq => ?_)
    have : code_ 119 pc = none := by
      show cd_119 pc = none
      unfold cd_119
      rw [Nat.ble_eq_true_of_le hq]; rfl
    rw [this] at h; cases h
  by_cases h1 : pc < 47
  · exact ckP_ok ckm_119_0 (by omega) (by omega) h
  omega
theorem ckc_120 : hw_ (cw_ 120) (.code (yn_ 120) (bts_ 120) (mxl_ 120) (rt_ 120)) = true := by
  have h : (ch_ (cw_ 120 / 240))[cw_ 120 % 240]? = some (Cond.code (yn_ 120) (bts_ 120) (mxl_ 120) (rt_ 120)) := by
    exact (Eq.refl _ : (ch_ (cw_ 120 / 240))[cw_ 120 % 240]? = _)
  unfold hw_
  rw [decide_eq_true h]
  rfl
theorem cky_120 : ckY 120 = true := by
  unfold ckY
  simp only [ckc_120, Bool.true_and]
  decide +kernel
set_option maxRecDepth 100000 in
theorem ckm_120_0 : ckP 120 0 64 = true := by decide +kernel
set_option maxRecDepth 100000 in
theorem ckm_120_1 : ckP 120 64 25 = true := by decide +kernel
theorem cka_120 (pc : Nat) (e : aE) (h : code_ 120 pc = some e) : ckE 120 pc e = true := by
  have h0 : pc < 89 := by
    refine Nat.not_le.mp (fun hq => ?_)
    have : code_ 120 pc = none := by
      show cd_120 pc = none
      unfold cd_120
      rw [Nat.ble_eq_true_of_le hq]; rfl
    rw [this] at h; cases h
  by_cases h1 : pc < 64
  · exact ckP_ok ckm_120_0 (by omega) (by omega) h
  by_cases h2 : pc < 89
  · exact ckP_ok ckm_120_1 (by omega) (by omega) h
  omega
theorem ckc_121 : hw_ (cw_ 121) (.code (yn_ 121) (bts_ 121) (mxl_ 121) (rt_ 121)) = true := by
  have h : (ch_ (cw_ 121 / 240))[cw_ 121 % 240]? = some (Cond.code (yn_ 121) (bts_ 121) (mxl_ 121) (rt_ 121)) := by
    exact (Eq.refl _ : (ch_ (cw_ 121 / 240))[cw_ 121 % 240]? = _)
  unfold hw_
  rw [decide_eq_true h]
  rfl
theorem cky_121 : ckY 121 = true := by
  unfold ckY
  simp only [ckc_121, Bool.true_and]
  decide +kernel
set_option maxRecDepth 100000 in
theorem ckm_121_0 : ckP 121 0 40 = true := by decide +kernel
theorem cka_121 (pc : Nat) (e : aE) (h : code_ 121 pc = some e) : ckE 121 pc e = true := by
  have h0 : pc < 40 := by
    refine Nat.not_le.mp (fun hq => ?_)
    have : code_ 121 pc = none := by
      show cd_121 pc = none
      unfold cd_121
      rw [Nat.ble_eq_true_of_le hq]; rfl
    rw [this] at h; cases h
  by_cases h1 : pc < 40
  · exact ckP_ok ckm_121_0 (by omega) (by omega) h
  omega
theorem ckc_122 : hw_ (cw_ 122) (.code (yn_ 122) (bts_ 122) (mxl_ 122) (rt_ 122)) = true := by
  have h : (ch_ (cw_ 122 / 240))[cw_ 122 % 240]? = some (Cond.code (yn_ 122) (bts_ 122) (mxl_ 122) (rt_ 122)) := by
    exact (Eq.refl _ : (ch_ (cw_ 122 / 240))[cw_ 122 % 240]? = _)
  unfold hw_
  rw [decide_eq_true h]
  rfl
theorem cky_122 : ckY 122 = true := by
  unfold ckY
  simp only [ckc_122, Bool.true_and]
  decide +kernel
set_option maxRecDepth 100000 in
theorem ckm_122_0 : ckP 122 0 30 = true := by decide +kernel
theorem cka_122 (pc : Nat) (e : aE) (h : code_ 122 pc = some e) : ckE 122 pc e = true := by
  have h0 : pc < 30 := by
    refine Nat.not_le.mp (fun hq => ?_)
    have : code_ 122 pc = none := by
      show cd_122 pc = none
      unfold cd_122
      rw [Nat.ble_eq_true_of_le hq]; rfl
    rw [this] at h; cases h
  by_cases h1 : pc < 30
  · exact ckP_ok ckm_122_0 (by omega) (by omega) h
  omega
theorem ckc_123 : hw_ (cw_ 123) (.code (yn_ 123) (bts_ 123) (mxl_ 123) (rt_ 123)) = true := by
  have h : (ch_ (cw_ 123 / 240))[cw_ 123 % 240]? = some (Cond.code (yn_ 123) (bts_ 123) (mxl_ 123) (rt_ 123)) := by
    exact (Eq.refl _ : (ch_ (cw_ 123 / 240))[cw_ 123 % 240]? = _)
  unfold hw_
  rw [decide_eq_true h]
  rfl
theorem cky_123 : ckY 123 = true := by
  unfold ckY
  simp only [ckc_123, Bool.true_and]
  decide +kernel
set_option maxRecDepth 100000 in
theorem ckm_123_0 : ckP 123 0 30 = true := by decide +kernel
theorem cka_123 (pc : Nat) (e : aE) (h : code_ 123 pc = some e) : ckE 123 pc e = true := by
  have h0 : pc < 30 := by
    refine Nat.not_le.mp (fun hq => ?_)
    have : code_ 123 pc = none := by
      show cd_123 pc = none
      unfold cd_123
      rw [Nat.ble_eq_true_of_le hq]; rfl
    rw [this] at h; cases h
  by_cases h1 : pc < 30
  · exact ckP_ok ckm_123_0 (by omega) (by omega) h
  omega
theorem ckc_124 : hw_ (cw_ 124) (.code (yn_ 124) (bts_ 124) (mxl_ 124) (rt_ 124)) = true := by
  have h : (ch_ (cw_ 124 / 240))[cw_ 124 % 240]? = some (Cond.code (yn_ 124) (bts_ 124) (mxl_ 124) (rt_ 124)) := by
    exact (Eq.refl _ : (ch_ (cw_ 124 / 240))[cw_ 124 % 240]? = _)
  unfold hw_
  rw [decide_eq_true h]
  rfl
theorem cky_124 : ckY 124 = true := by
  unfold ckY
  simp only [ckc_124, Bool.true_and]
  decide +kernel
set_option maxRecDepth 100000 in
theorem ckm_124_0 : ckP 124 0 64 = true := by decide +kernel
set_option maxRecDepth 100000 in
theorem ckm_124_1 : ckP 124 64 32 = true := by decide +kernel
theorem cka_124 (pc : Nat) (e : aE) (h : code_ 124 pc = some e) : ckE 124 pc e = true := by
  have h0 : pc < 96 := by
    refine Nat.not_le.mp (fun hq => ?_)
    have : code_ 124 pc = none := by
      show cd_124 pc = none
      unfold cd_124
      rw [Nat.ble_eq_true_of_le hq]; rfl
    rw [this] at h; cases h
  by_cases h1 : pc < 64
  · exact ckP_ok ckm_124_0 (by omega) (by omega) h
  by_cases h2 : pc < 96
  · exact ckP_ok ckm_124_1 (by omega) (by omega) h
  omega
theorem ckc_125 : hw_ (cw_ 125) (.code (yn_ 125) (bts_ 125) (mxl_ 125) (rt_ 125)) = true := by
  have h : (ch_ (cw_ 125 / 240))[cw_ 125 % 240]? = some (Cond.code (yn_ 125) (bts_ 125) (mxl_ 125) (rt_ 125)) := by
    exact (Eq.refl _ : (ch_ (cw_ 125 / 240))[cw_ 125 % 240]? = _)
  unfold hw_
  rw [decide_eq_true h]
  rfl
theorem cky_125 : ckY 125 = true := by
  unfold ckY
  simp only [ckc_125, Bool.true_and]
  decide +kernel
set_option maxRecDepth 100000 in
theorem ckm_125_0 : ckP 125 0 32 = true := by decide +kernel
theorem cka_125 (pc : Nat) (e : aE) (h : code_ 125 pc = some e) : ckE 125 pc e = true := by
  have h0 : pc < 32 := by
    refine Nat.not_le.mp (fun hq => ?_)
    have : code_ 125 pc = none := by
      show cd_125 pc = none
      unfold cd_125
      rw [Nat.ble_eq_true_of_le hq]; rfl
    rw [this] at h; cases h
  by_cases h1 : pc < 32
  · exact ckP_ok ckm_125_0 (by omega) (by omega) h
  omega
theorem ckc_126 : hw_ (cw_ 126) (.code (yn_ 126) (bts_ 126) (mxl_ 126) (rt_ 126)) = true := by
  have h : (ch_ (cw_ 126 / 240))[cw_ 126 % 240]? = some (Cond.code (yn_ 126) (bts_ 126) (mxl_ 126) (rt_ 126)) := by
    exact (Eq.refl _ : (ch_ (cw_ 126 / 240))[cw_ 126 % 240]? = _)
  unfold hw_
  rw [decide_eq_true h]
  rfl
theorem cky_126 : ckY 126 = true := by
  unfold ckY
  simp only [ckc_126, Bool.true_and]
  decide +kernel
set_option maxRecDepth 100000 in
theorem ckm_126_0 : ckP 126 0 29 = true := by decide +kernel
theorem cka_126 (pc : Nat) (e : aE) (h : code_ 126 pc = some e) : ckE 126 pc e = true := by
  have h0 : pc < 29 := by
    refine Nat.not_le.mp (fun hq => ?_)
    have : code_ 126 pc = none := by
      show cd_126 pc = none
      unfold cd_126
      rw [Nat.ble_eq_true_of_le hq]; rfl
    rw [this] at h; cases h
  by_cases h1 : pc < 29
  · exact ckP_ok ckm_126_0 (by omega) (by omega) h
  omega
theorem ckc_127 : hw_ (cw_ 127) (.code (yn_ 127) (bts_ 127) (mxl_ 127) (rt_ 127)) = true := by
  have h : (ch_ (cw_ 127 / 240))[cw_ 127 % 240]? = some (Cond.code (yn_ 127) (bts_ 127) (mxl_ 127) (rt_ 127)) := by
    exact (Eq.refl _ : (ch_ (cw_ 127 / 240))[cw_ 127 % 240]? = _)
  unfold hw_
  rw [decide_eq_true h]
  rfl
theorem cky_127 : ckY 127 = true := by
  unfold ckY
  simp only [ckc_127, Bool.true_and]
  decide +kernel
set_option maxRecDepth 100000 in
theorem ckm_127_0 : ckP 127 0 27 = true := by decide +kernel
theorem cka_127 (pc : Nat) (e : aE) (h : code_ 127 pc = some e) : ckE 127 pc e = true := by
  have h0 : pc < 27 := by
    refine Nat.not_le.mp (fun hq => ?_)
    have : code_ 127 pc = none := by
      show cd_127 pc = none
      unfold cd_127
      rw [Nat.ble_eq_true_of_le hq]; rfl
    rw [this] at h; cases h
  by_cases h1 : pc < 27
  · exact ckP_ok ckm_127_0 (by omega) (by omega) h
  omega
theorem ckc_128 : hw_ (cw_ 128) (.code (yn_ 128) (bts_ 128) (mxl_ 128) (rt_ 128)) = true := by
  have h : (ch_ (cw_ 128 / 240))[cw_ 128 % 240]? = some (Cond.code (yn_ 128) (bts_ 128) (mxl_ 128) (rt_ 128)) := by
    exact (Eq.refl _ : (ch_ (cw_ 128 / 240))[cw_ 128 % 240]? = _)
  unfold hw_
  rw [decide_eq_true h]
  rfl
theorem cky_128 : ckY 128 = true := by
  unfold ckY
  simp only [ckc_128, Bool.true_and]
  decide +kernel
set_option maxRecDepth 100000 in
theorem ckm_128_0 : ckP 128 0 56 = true := by decide +kernel
theorem cka_128 (pc : Nat) (e : aE) (h : code_ 128 pc = some e) : ckE 128 pc e = true := by
  have h0 : pc < 56 := by
    refine Nat.not_le.mp (fun hq => ?_)
    have : code_ 128 pc = none := by
      show cd_128 pc = none
      unfold cd_128
      rw [Nat.ble_eq_true_of_le hq]; rfl
    rw [this] at h; cases h
  by_cases h1 : pc < 56
  · exact ckP_ok ckm_128_0 (by omega) (by omega) h
  omega
theorem ckc_129 : hw_ (cw_ 129) (.code (yn_ 129) (bts_ 129) (mxl_ 129) (rt_ 129)) = true := by
  have h : (ch_ (cw_ 129 / 240))[cw_ 129 % 240]? = some (Cond.code (yn_ 129) (bts_ 129) (mxl_ 129) (rt_ 129)) := by
    exact (Eq.refl _ : (ch_ (cw_ 129 / 240))[cw_ 129 % 240]? = _)
  unfold hw_
  rw [decide_eq_true h]
  rfl
theorem cky_129 : ckY 129 = true := by
  unfold ckY
  simp only [ckc_129, Bool.true_and]
  decide +kernel
set_option maxRecDepth 100000 in
theorem ckm_129_0 : ckP 129 0 63 = true := by decide +kernel
theorem cka_129 (pc : Nat) (e : aE) (h : code_ 129 pc = some e) : ckE 129 pc e = true := by
  have h0 : pc < 63 := by
    refine Nat.not_le.mp (fun hq => ?_)
    have : code_ 129 pc = none := by
      show cd_129 pc = none
      unfold cd_129
      rw [Nat.ble_eq_true_of_le hq]; rfl
    rw [this] at h; cases h
  by_cases h1 : pc < 63
  · exact ckP_ok ckm_129_0 (by omega) (by omega) h
  omega
theorem ckc_130 : hw_ (cw_ 130) (.code (yn_ 130) (bts_ 130) (mxl_ 130) (rt_ 130)) = true := by
  have h : (ch_ (cw_ 130 / 240))[cw_ 130 % 240]? = some (Cond.code (yn_ 130) (bts_ 130) (mxl_ 130) (rt_ 130)) := by
    exact (Eq.refl _ : (ch_ (cw_ 130 / 240))[cw_ 130 % 240]? = _)
  unfold hw_
  rw [decide_eq_true h]
  rfl
theorem cky_130 : ckY 130 = true := by
  unfold ckY
  simp only [ckc_130, Bool.true_and]
  decide +kernel
set_option maxRecDepth 100000 in
theorem ckm_130_0 : ckP 130 0 64 = true := by decide +kernel
set_option maxRecDepth 100000 in
theorem ckm_130_1 : ckP 130 64 6 = true := by decide +kernel
theorem cka_130 (pc : Nat) (e : aE) (h : code_ 130 pc = some e) : ckE 130 pc e = true := by
  have h0 : pc < 70 := by
    refine Nat.not_le.mp (fun hq => ?_)
    have : code_ 130 pc = none := by
      show cd_130 pc = none
      unfold cd_130
      rw [Nat.ble_eq_true_of_le hq]; rfl
    rw [this] at h; cases h
  by_cases h1 : pc < 64
  · exact ckP_ok ckm_130_0 (by omega) (by omega) h
  by_cases h2 : pc < 70
  · exact ckP_ok ckm_130_1 (by omega) (by omega) h
  omega
theorem ckc_131 : hw_ (cw_ 131) (.code (yn_ 131) (bts_ 131) (mxl_ 131) (rt_ 131)) = true := by
  have h : (ch_ (cw_ 131 / 240))[cw_ 131 % 240]? = some (Cond.code (yn_ 131) (bts_ 131) (mxl_ 131) (rt_ 131)) := by
    exact (Eq.refl _ : (ch_ (cw_ 131 / 240))[cw_ 131 % 240]? = _)
  unfold hw_
  rw [decide_eq_true h]
  rfl
theorem cky_131 : ckY 131 = true := by
  unfold ckY
  simp only [ckc_131, Bool.true_and]
  decide +kernel
set_option maxRecDepth 100000 in
theorem ckm_131_0 : ckP 131 0 54 = true := by decide +kernel
theorem cka_131 (pc : Nat) (e : aE) (h : code_ 131 pc = some e) : ckE 131 pc e = true := by
  have h0 : pc < 54 := by
    refine Nat.not_le.mp (fun hq => ?_)
    have : code_ 131 pc = none := by
      show cd_131 pc = none
      unfold cd_131
      rw [Nat.ble_eq_true_of_le hq]; rfl
    rw [this] at h; cases h
  by_cases h1 : pc < 54
  · exact ckP_ok ckm_131_0 (by omega) (by omega) h
  omega
theorem ckc_132 : hw_ (cw_ 132) (.code (yn_ 132) (bts_ 132) (mxl_ 132) (rt_ 132)) = true := by
  have h : (ch_ (cw_ 132 / 240))[cw_ 132 % 240]? = some (Cond.code (yn_ 132) (bts_ 132) (mxl_ 132) (rt_ 132)) := by
    exact (Eq.refl _ : (ch_ (cw_ 132 / 240))[cw_ 132 % 240]? = _)
  unfold hw_
  rw [decide_eq_true h]
  rfl
theorem cky_132 : ckY 132 = true := by
  unfold ckY
  simp only [ckc_132, Bool.true_and]
  decide +kernel
set_option maxRecDepth 100000 in
theorem ckm_132_0 : ckP 132 0 33 = true := by decide +kernel
theorem cka_132 (pc : Nat) (e : aE) (h : code_ 132 pc = some e) : ckE 132 pc e = true := by
  have h0 : pc < 33 := by
    refine Nat.not_le.mp (fun hq => ?_)
    have : code_ 132 pc = none := by
      show cd_132 pc = none
      unfold cd_132
      rw [Nat.ble_eq_true_of_le hq]; rfl
    rw [this] at h; cases h
  by_cases h1 : pc < 33
  · exact ckP_ok ckm_132_0 (by omega) (by omega) h
  omega
theorem ckc_133 : hw_ (cw_ 133) (.code (yn_ 133) (bts_ 133) (mxl_ 133) (rt_ 133)) = true := by
  have h : (ch_ (cw_ 133 / 240))[cw_ 133 % 240]? = some (Cond.code (yn_ 133) (bts_ 133) (mxl_ 133) (rt_ 133)) := by
    exact (Eq.refl _ : (ch_ (cw_ 133 / 240))[cw_ 133 % 240]? = _)
  unfold hw_
  rw [decide_eq_true h]
  rfl
theorem cky_133 : ckY 133 = true := by
  unfold ckY
  simp only [ckc_133, Bool.true_and]
  decide +kernel
set_option maxRecDepth 100000 in
theorem ckm_133_0 : ckP 133 0 18 = true := by decide +kernel
theorem cka_133 (pc : Nat) (e : aE) (h : code_ 133 pc = some e) : ckE 133 pc e = true := by
  have h0 : pc < 18 := by
    refine Nat.not_le.mp (fun hq => ?_)
    have : code_ 133 pc = none := by
      show cd_133 pc = none
      unfold cd_133
      rw [Nat.ble_eq_true_of_le hq]; rfl
    rw [this] at h; cases h
  by_cases h1 : pc < 18
  · exact ckP_ok ckm_133_0 (by omega) (by omega) h
  omega
theorem ckc_134 : hw_ (cw_ 134) (.code (yn_ 134) (bts_ 134) (mxl_ 134) (rt_ 134)) = true := by
  have h : (ch_ (cw_ 134 / 240))[cw_ 134 % 240]? = some (Cond.code (yn_ 134) (bts_ 134) (mxl_ 134) (rt_ 134)) := by
    exact (Eq.refl _ : (ch_ (cw_ 134 / 240))[cw_ 134 % 240]? = _)
  unfold hw_
  rw [decide_eq_true h]
  rfl
theorem cky_134 : ckY 134 = true := by
  unfold ckY
  simp only [ckc_134, Bool.true_and]
  decide +kernel
set_option maxRecDepth 100000 in
theorem ckm_134_0 : ckP 134 0 64 = true := by decide +kernel
set_option maxRecDepth 100000 in
theorem ckm_134_1 : ckP 134 64 9 = true := by decide +kernel
theorem cka_134 (pc : Nat) (e : aE) (h : code_ 134 pc = some e) : ckE 134 pc e = true := by
  have h0 : pc < 73 := by
    refine Nat.not_le.mp (fun hq => ?_)
    have : code_ 134 pc = none := by
      show cd_134 pc = none
      unfold cd_134
      rw [Nat.ble_eq_true_of_le hq]; rfl
    rw [this] at h; cases h
  by_cases h1 : pc < 64
  · exact ckP_ok ckm_134_0 (by omega) (by omega) h
  by_cases h2 : pc < 73
  · exact ckP_ok ckm_134_1 (by omega) (by omega) h
  omega
theorem ckc_135 : hw_ (cw_ 135) (.code (yn_ 135) (bts_ 135) (mxl_ 135) (rt_ 135)) = true := by
  have h : (ch_ (cw_ 135 / 240))[cw_ 135 % 240]? = some (Cond.code (yn_ 135) (bts_ 135) (mxl_ 135) (rt_ 135)) := by
    exact (Eq.refl _ : (ch_ (cw_ 135 / 240))[cw_ 135 % 240]? = _)
  unfold hw_
  rw [decide_eq_true h]
  rfl
theorem cky_135 : ckY 135 = true := by
  unfold ckY
  simp only [ckc_135, Bool.true_and]
  decide +kernel
set_option maxRecDepth 100000 in
theorem ckm_135_0 : ckP 135 0 64 = true := by decide +kernel
set_option maxRecDepth 100000 in
theorem ckm_135_1 : ckP 135 64 1 = true := by decide +kernel
theorem cka_135 (pc : Nat) (e : aE) (h : code_ 135 pc = some e) : ckE 135 pc e = true := by
  have h0 : pc < 65 := by
    refine Nat.not_le.mp (fun hq => ?_)
    have : code_ 135 pc = none := by
      show cd_135 pc = none
      unfold cd_135
      rw [Nat.ble_eq_true_of_le hq]; rfl
    rw [this] at h; cases h
  by_cases h1 : pc < 64
  · exact ckP_ok ckm_135_0 (by omega) (by omega) h
  by_cases h2 : pc < 65
  · exact ckP_ok ckm_135_1 (by omega) (by omega) h
  omega
theorem ckc_136 : hw_ (cw_ 136) (.code (yn_ 136) (bts_ 136) (mxl_ 136) (rt_ 136)) = true := by
  have h : (ch_ (cw_ 136 / 240))[cw_ 136 % 240]? = some (Cond.code (yn_ 136) (bts_ 136) (mxl_ 136) (rt_ 136)) := by
    exact (Eq.refl _ : (ch_ (cw_ 136 / 240))[cw_ 136 % 240]? = _)
  unfold hw_
  rw [decide_eq_true h]
  rfl
theorem cky_136 : ckY 136 = true := by
  unfold ckY
  simp only [ckc_136, Bool.true_and]
  decide +kernel
set_option maxRecDepth 100000 in
theorem ckm_136_0 : ckP 136 0 25 = true := by decide +kernel
theorem cka_136 (pc : Nat) (e : aE) (h : code_ 136 pc = some e) : ckE 136 pc e = true := by
  have h0 : pc < 25 := by
    refine Nat.not_le.mp (fun hq => ?_)
    have : code_ 136 pc = none := by
      show cd_136 pc = none
      unfold cd_136
      rw [Nat.ble_eq_true_of_le hq]; rfl
    rw [this] at h; cases h
  by_cases h1 : pc < 25
  · exact ckP_ok ckm_136_0 (by omega) (by omega) h
  omega
