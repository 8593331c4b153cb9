theorem ckc_0 : hw_ (cw_ 0) (.code (yn_ 0) (bts_ 0) (mxl_ 0) (rt_ 0)) = true := by
  have h : (ch_ (cw_ 0 / 240))[cw_ 0 % 240]? = some (Cond.code (yn_ 0) (bts_ 0) (mxl_ 0) (rt_ 0)) := by
    exact (Eq.refl _ : (ch_ (cw_ 0 / 240))[cw_ 0 % 240]? = _)
  unfold hw_
  rw [decide_eq_true h]
  rfl
theorem cky_0 : ckY 0 = true := by
  unfold ckY
  simp only [ckc_0, Bool.true_and]
  decide +kernel
set_option maxRecDepth 100000 in
theorem ckm_0_0 : ckP 0 0 64 = true := by decide +kernel
set_option maxRecDepth 100000 in
theorem ckm_0_1 : ckP 0 64 13 = true := by decide +kernel
theorem cka_0 (pc : Nat) (e : aE) (h : code_ 0 pc = some e) : ckE 0 pc e = true := by
  have h0 : pc < 77 := by
    refine Nat.not_le.mp (fun hq => ?_)
    have : code_ 0 pc = none := by
      show cd_0 pc = none
      unfold cd_0
      rw [Nat.ble_eq_true_of_le hq]; rfl
    rw [this] at h; cases h
  by_cases h1 : pc < 64
  · exact ckP_ok ckm_0_0 (by omega) (by omega) h
  by_cases h2 : pc < 77
  · exact ckP_ok ckm_0_1 (by omega) (by omega) h
  omega
theorem ckc_1 : hw_ (cw_ 1) (.code (yn_ 1) (bts_ 1) (mxl_ 1) (rt_ 1)) = true := by
  have h : (ch_ (cw_ 1 / 240))[cw_ 1 % 240]? = some (Cond.code (yn_ 1) (bts_ 1) (mxl_ 1) (rt_ 1)) := by
    exact (Eq.refl _ : (ch_ (cw_ 1 / 240))[cw_ 1 % 240]? = _)
  unfold hw_
  rw [decide_eq_true h]
  rfl
theorem cky_1 : ckY 1 = true := by
  unfold ckY
  simp only [ckc_1, Bool.true_and]
  decide +kernel
set_option maxRecDepth 100000 in
theorem ckm_1_0 : ckP 1 0 42 = true := by decide +kernel
theorem cka_1 (pc : Nat) (e : aE) (h : code_ 1 pc = some e) : ckE 1 pc e = true := by
  have h0 : pc < 42 := by
    refine Nat.not_le.mp (fun hq => ?_)
    have : code_ 1 pc = none := by
      show cd_1 pc = none
      unfold cd_1
      rw [Nat.ble_eq_true_of_le hq]; rfl
    rw [this] at h; cases h
  by_cases h1 : pc < 42
  · exact ckP_ok ckm_1_0 (by omega) (by omega) h
  omega
theorem ckc_2 : hw_ (cw_ 2) (.code (yn_ 2) (bts_ 2) (mxl_ 2) (rt_ 2)) = true := by
  have h : (ch_ (cw_ 2 / 240))[cw_ 2 % 240]? = some (Cond.code (yn_ 2) (bts_ 2) (mxl_ 2) (rt_ 2)) := by
    exact (Eq.refl _ : (ch_ (cw_ 2 / 240))[cw_ 2 % 240]? = _)
  unfold hw_
  rw [decide_eq_true h]
  rfl
theorem cky_2 : ckY 2 = true := by
  unfold ckY
  simp only [ckc_2, Bool.true_and]
  decide +kernel
set_option maxRecDepth 100000 in
theorem ckm_2_0 : ckP 2 0 64 = true := by decide +kernel
set_option maxRecDepth 100000 in
theorem ckm_2_1 : ckP 2 64 31 = true := by decide +kernel
theorem cka_2 (pc : Nat) (e : aE) (h : code_ 2 pc = some e) : ckE 2 pc e = true := by
  have h0 : pc < 95 := by
    refine Nat.not_le.mp (fun hq => ?_)
    have : code_ 2 pc = none := by
      show cd_2 pc = none
      unfold cd_2
      rw [Nat.ble_eq_true_of_le hq]; rfl
    rw [this] at h; cases h
  by_cases h1 : pc < 64
  · exact ckP_ok ckm_2_0 (by omega) (by omega) h
  by_cases h2 : pc < 95
  · exact ckP_ok ckm_2_1 (by omega) (by omega) h
  omega
theorem ckc_3 : hw_ (cw_ 3) (.code (yn_ 3) (bts_ 3) (mxl_ 3) (rt_ 3)) = true := by
  have h : (ch_ (cw_ 3 / 240))[cw_ 3 % 240]? = some (Cond.code (yn_ 3) (bts_ 3) (mxl_ 3) (rt_ 3)) := by
    exact (Eq.refl _ : (ch_ (cw_ 3 / 240))[cw_ 3 % 240]? = _)
  unfold hw_
  rw [decide_eq_true h]
  rfl
theorem cky_3 : ckY 3 = true := by
  unfold ckY
  simp only [ckc_3, Bool.true_and]
  decide +kernel
set_option maxRecDepth 100000 in
theorem ckm_3_0 : ckP 3 0 39 = true := by decide +kernel
theorem cka_3 (pc : Nat) (e : aE) (h : code_ 3 pc = some e) : ckE 3 pc e = true := by
  have h0 : pc < 39 := by
    refine Nat.not_le.mp (fun hq => ?_)
    have : code_ 3 pc = none := by
      show cd_3 pc = none
      unfold cd_3
      rw [Nat.ble_eq_true_of_le hq]; rfl
    rw [this] at h; cases h
  by_cases h1 : pc < 39
  · exact ckP_ok ckm_3_0 (by omega) (by omega) h
  omega
theorem ckc_4 : hw_ (cw_ 4) (.code (yn_ 4) (bts_ 4) (mxl_ 4) (rt_ 4)) = true := by
  have h : (ch_ (cw_ 4 / 240))[cw_ 4 % 240]? = some (Cond.code (yn_ 4) (bts_ 4) (mxl_ 4) (rt_ 4)) := by
    exact (Eq.refl _ : (ch_ (cw_ 4 / 240))[cw_ 4 % 240]? = _)
  unfold hw_
  rw [decide_eq_true h]
  rfl
theorem cky_4 : ckY 4 = true := by
  unfold ckY
  simp only [ckc_4, Bool.true_and]
  decide +kernel
set_option maxRecDepth 100000 in
theorem ckm_4_0 : ckP 4 0 64 = true := by decide +kernel
set_option maxRecDepth 100000 in
theorem ckm_4_1 : ckP 4 64 63 = true := by decide +kernel
theorem cka_4 (pc : Nat) (e : aE) (h : code_ 4 pc = some e) : ckE 4 pc e = true := by
  have h0 : pc < 127 := by
    refine Nat.not_le.mp (fun hq => ?_)
    have : code_ 4 pc = none := by
      show cd_4 pc = none
      unfold cd_4
      rw [Nat.ble_eq_true_of_le hq]; rfl
    rw [this] at h; cases h
  by_cases h1 : pc < 64
  · exact ckP_ok ckm_4_0 (by omega) (by omega) h
  by_cases h2 : pc < 127
  · exact ckP_ok ckm_4_1 (by omega) (by omega) h
  omega
theorem ckc_5 : hw_ (cw_ 5) (.code (yn_ 5) (bts_ 5) (mxl_ 5) (rt_ 5)) = true := by
  have h : (ch_ (cw_ 5 / 240))[cw_ 5 % 240]? = some (Cond.code (yn_ 5) (bts_ 5) (mxl_ 5) (rt_ 5)) := by
    exact (Eq.refl _ : (ch_ (cw_ 5 / 240))[cw_ 5 % 240]? = _)
  unfold hw_
  rw [decide_eq_true h]
  rfl
theorem cky_5 : ckY 5 = true := by
  unfold ckY
  simp only [ckc_5, Bool.true_and]
  decide +kernel
set_option maxRecDepth 100000 in
theorem ckm_5_0 : ckP 5 0 64 = true := by decide +kernel
set_option maxRecDepth 100000 in
theorem ckm_5_1 : ckP 5 64 6 = true := by decide +kernel
theorem cka_5 (pc : Nat) (e : aE) (h : code_ 5 pc = some e) : ckE 5 pc e = true := by
  have h0 : pc < 70 := by
    refine Nat.not_le.mp (fun hq => ?_)
    have : code_ 5 pc = none := by
      show cd_5 pc = none
      unfold cd_5
      rw [Nat.ble_eq_true_of_le hq]; rfl
    rw [this] at h; cases h
  by_cases h1 : pc < 64
  · exact ckP_ok ckm_5_0 (by omega) (by omega) h
  by_cases h2 : pc < 70
  · exact ckP_ok ckm_5_1 (by omega) (by omega) h
  omega
theorem ckc_6 : hw_ (cw_ 6) (.code (yn_ 6) (bts_ 6) (mxl_ 6) (rt_ 6)) = true := by
  have h : (ch_ (cw_ 6 / 240))[cw_ 6 % 240]? = some (Cond.code (yn_ 6) (bts_ 6) (mxl_ 6) (rt_ 6)) := by
    exact (Eq.refl _ : (ch_ (cw_ 6 / 240))[cw_ 6 % 240]? = _)
  unfold hw_
  rw [decide_eq_true h]
  rfl
theorem cky_6 : ckY 6 = true := by
  unfold ckY
  simp only [ckc_6, Bool.true_and]
  decide +kernel
set_option maxRecDepth 100000 in
theorem ckm_6_0 : ckP 6 0 64 = true := by decide +kernel
set_option maxRecDepth 100000 in
theorem ckm_6_1 : ckP 6 64 27 = true := by decide +kernel
theorem cka_6 (pc : Nat) (e : aE) (h : code_ 6 pc = some e) : ckE 6 pc e = true := by
  have h0 : pc < 91 := by
    refine Nat.not_le.mp (fun hq => ?_)
    have : code_ 6 pc = none := by
      show cd_6 pc = none
      unfold cd_6
      rw [Nat.ble_eq_true_of_le hq]; rfl
    rw [this] at h; cases h
  by_cases h1 : pc < 64
  · exact ckP_ok ckm_6_0 (by omega) (by omega) h
  by_cases h2 : pc < 91
  · exact ckP_ok ckm_6_1 (by omega) (by omega) h
  omega
theorem ckc_7 : hw_ (cw_ 7) (.code (yn_ 7) (bts_ 7) (mxl_ 7) (rt_ 7)) = true := by
  have h : (ch_ (cw_ 7 / 240))[cw_ 7 % 240]? = some (Cond.code (yn_ 7) (bts_ 7) (mxl_ 7) (rt_ 7)) := by
    exact (Eq.refl _ : (ch_ (cw_ 7 / 240))[cw_ 7 % 240]? = _)
  unfold hw_
  rw [decide_eq_true h]
  rfl
theorem cky_7 : ckY 7 = true := by
  unfold ckY
  simp only [ckc_7, Bool.true_and]
  decide +kernel
set_option maxRecDepth 100000 in
theorem ckm_7_0 : ckP 7 0 39 = true := by decide +kernel
theorem cka_7 (pc : Nat) (e : aE) (h : code_ 7 pc = some e) : ckE 7 pc e = true := by
  have h0 : pc < 39 := by
    refine Nat.not_le.mp (fun hq => ?_)
    have : code_ 7 pc = none := by
      show cd_7 pc = none
      unfold cd_7
      rw [Nat.ble_eq_true_of_le hq]; rfl
    rw [this] at h; cases h
  by_cases h1 : pc < 39
  · exact ckP_ok ckm_7_0 (by omega) (by omega) h
  omega
theorem ckc_8 : hw_ (cw_ 8) (.code (yn_ 8) (bts_ 8) (mxl_ 8) (rt_ 8)) = true := by
  have h : (ch_ (cw_ 8 / 240))[cw_ 8 % 240]? = some (Cond.code (yn_ 8) (bts_ 8) (mxl_ 8) (rt_ 8)) := by
    exact (Eq.refl _ : (ch_ (cw_ 8 / 240))[cw_ 8 % 240]? = _)
  unfold hw_
  rw [decide_eq_true h]
  rfl
theorem cky_8 : ckY 8 = true := by
  unfold ckY
  simp only [ckc_8, Bool.true_and]
  decide +kernel
set_option maxRecDepth 100000 in
theorem ckm_8_0 : ckP 8 0 64 = true := by decide +kernel
set_option maxRecDepth 100000 in
theorem ckm_8_1 : ckP 8 64 46 = true := by decide +kernel
theorem cka_8 (pc : Nat) (e : aE) (h : code_ 8 pc = some e) : ckE 8 pc e = true := by
  have h0 : pc < 110 := by
    refine Nat.not_le.mp (fun hq => ?_)
    have : code_ 8 pc = none := by
      show cd_8 pc = none
      unfold cd_8
      rw [Nat.ble_eq_true_of_le hq]; rfl
    rw [this] at h; cases h
  by_cases h1 : pc < 64
  · exact ckP_ok ckm_8_0 (by omega) (by omega) h
  by_cases h2 : pc < 110
  · exact ckP_ok ckm_8_1 (by omega) (by omega) h
  omega
theorem ckc_9 : hw_ (cw_ 9) (.code (yn_ 9) (bts_ 9) (mxl_ 9) (rt_ 9)) = true := by
  have h : (ch_ (cw_ 9 / 240))[cw_ 9 % 240]? = some (Cond.code (yn_ 9) (bts_ 9) (mxl_ 9) (rt_ 9)) := by
    exact (Eq.refl _ : (ch_ (cw_ 9 / 240))[cw_ 9 % 240]? = _)
  unfold hw_
  rw [decide_eq_true h]
  rfl
theorem cky_9 : ckY 9 = true := by
  unfold ckY
  simp only [ckc_9, Bool.true_and]
  decide +kernel
set_option maxRecDepth 100000 in
theorem ckm_9_0 : ckP 9 0 64 = true := by decide +kernel
set_option maxRecDepth 100000 in
theorem ckm_9_1 : ckP 9 64 64 = true := by decide +kernel
set_option maxRecDepth 100000 in
theorem ckm_9_2 : ckP 9 128 15 = true := by decide +kernel
theorem cka_9 (pc : Nat) (e : aE) (h : code_ 9 pc = some e) : ckE 9 pc e = true := by
  have h0 : pc < 143 := by
    refine Nat.not_le.mp (fun hq => ?_)
    have : code_ 9 pc = none := by
      show cd_9 pc = none
      unfold cd_9
      rw [Nat.ble_eq_true_of_le hq]; rfl
    rw [this] at h; cases h
  by_cases h1 : pc < 64
  · exact ckP_ok ckm_9_0 (by omega) (by omega) h
  by_cases h2 : pc < 128
  · exact ckP_ok ckm_9_1 (by omega) (by omega) h
  by_cases h3 : pc < 143
  · exact ckP_ok ckm_9_2 (by omega) (by omega) h
  omega
theorem ckc_10 : hw_ (cw_ 10) (.code (yn_ 10) (bts_ 10) (mxl_ 10) (rt_ 10)) = true := by
  have h : (ch_ (cw_ 10 / 240))[cw_ 10 % 240]? = some (Cond.code (yn_ 10) (bts_ 10) (mxl_ 10) (rt_ 10)) := by
    exact (Eq.refl _ : (ch_ (cw_ 10 / 240))[cw_ 10 % 240]? = _)
  unfold hw_
  rw [decide_eq_true h]
  rfl
theorem cky_10 : ckY 10 = true := by
  unfold ckY
  simp only [ckc_10, Bool.true_and]
  decide +kernel
set_option maxRecDepth 100000 in
theorem ckm_10_0 : ckP 10 0 64 = true := by decide +kernel
set_option maxRecDepth 100000 in
theorem ckm_10_1 : ckP 10 64 45 = true := by decide +kernel
theorem cka_10 (pc : Nat) (e : aE) (h : code_ 10 pc = some e) : ckE 10 pc e = true := by
  have h0 : pc < 109 := by
    refine Nat.not_le.mp (fun hq => ?_)
    have : code_ 10 pc = none := by
      show cd_10 pc = none
      unfold cd_10
      rw [Nat.ble_eq_true_of_le hq]; rfl
    rw [this] at h; cases h
  by_cases h1 : pc < 64
  · exact ckP_ok ckm_10_0 (by omega) (by omega) h
  by_cases h2 : pc < 109
  · exact ckP_ok ckm_10_1 (by omega) (by omega) h
  omega
theorem ckc_11 : hw_ (cw_ 11) (.code (yn_ 11) (bts_ 11) (mxl_ 11) (rt_ 11)) = true := by
  have h : (ch_ (cw_ 11 / 240))[cw_ 11 % 240]? = some (Cond.code (yn_ 11) (bts_ 11) (mxl_ 11) (rt_ 11)) := by
    exact (Eq.refl _ : (ch_ (cw_ 11 / 240))[cw_ 11 % 240]? = _)
  unfold hw_
  rw [decide_eq_true h]
  rfl
theorem cky_11 : ckY 11 = true := by
  unfold ckY
  simp only [ckc_11, Bool.true_and]
  decide +kernel
set_option maxRecDepth 100000 in
theorem ckm_11_0 : ckP 11 0 17 = true := by decide +kernel
theorem cka_11 (pc : Nat) (e : aE) (h : code_ 11 pc = some e) : ckE 11 pc e = true := by
  have h0 : pc < 17 := by
    refine Nat.not_le.mp (fun hq => ?_)
    have : code_ 11 pc = none := by
      show cd_11 pc = none
      unfold cd_11
      rw [Nat.ble_eq_true_of_le hq]; rfl
    rw [this] at h; cases h
  by_cases h1 : pc < 17
  · exact ckP_ok ckm_11_0 (by omega) (by omega) h
  omega
theorem ckc_12 : hw_ (cw_ 12) (.code (yn_ 12) (bts_ 12) (mxl_ 12) (rt_ 12)) = true := by
  have h : (ch_ (cw_ 12 / 240))[cw_ 12 % 240]? = some (Cond.code (yn_ 12) (bts_ 12) (mxl_ 12) (rt_ 12)) := by
    exact (Eq.refl _ : (ch_ (cw_ 12 / 240))[cw_ 12 % 240]? = _)
  unfold hw_
  rw [decide_eq_true h]
  rfl
theorem cky_12 : ckY 12 = true := by
  unfold ckY
  simp only [ckc_12, Bool.true_and]
  decide +kernel
set_option maxRecDepth 100000 in
theorem ckm_12_0 : ckP 12 0 38 = true := by decide +kernel
theorem cka_12 (pc : Nat) (e : aE) (h : code_ 12 pc = some e) : ckE 12 pc e = true := by
  have h0 : pc < 38 := by
    refine Nat.not_le.mp (fun hq => ?_)
    have : code_ 12 pc = none := by
      show cd_12 pc = none
      unfold cd_12
      rw [Nat.ble_eq_true_of_le hq]; rfl
    rw [this] at h; cases h
  by_cases h1 : pc < 38
  · exact ckP_ok ckm_12_0 (by omega) (by omega) h
  omega
theorem ckc_13 : hw_ (cw_ 13) (.code (yn_ 13) (bts_ 13) (mxl_ 13) (rt_ 13)) = true := by
  have h : (ch_ (cw_ 13 / 240))[cw_ 13 % 240]? = some (Cond.code (yn_ 13) (bts_ 13) (mxl_ 13) (rt_ 13)) := by
    exact (Eq.refl _ : (ch_ (cw_ 13 / 240))[cw_ 13 % 240]? = _)
  unfold hw_
  rw [decide_eq_true h]
  rfl
theorem cky_13 : ckY 13 = true := by
  unfold ckY
  simp only [ckc_13, Bool.true_and]
  decide +kernel
set_option maxRecDepth 100000 in
theorem ckm_13_0 : ckP 13 0 43 = true := by decide +kernel
theorem cka_13 (pc : Nat) (e : aE) (h : code_ 13 pc = some e) : ckE 13 pc e = true := by
  have h0 : pc < 43 := by
    refine Nat.not_le.mp (fun hq => ?_)
    have : code_ 13 pc = none := by
      show cd_13 pc = none
      unfold cd_13
      rw [Nat.ble_eq_true_of_le hq]; rfl
    rw [this] at h; cases h
  by_cases h1 : pc < 43
  · exact ckP_ok ckm_13_0 (by omega) (by omega) h
  omega
theorem ckc_14 : hw_ (cw_ 14) (.code (yn_ 14) (bts_ 14) (mxl_ 14) (rt_ 14)) = true := by
  have h : (ch_ (cw_ 14 / 240))[cw_ 14 % 240]? = some (Cond.code (yn_ 14) (bts_ 14) (mxl_ 14) (rt_ 14)) := by
    exact (Eq.refl _ : (ch_ (cw_ 14 / 240))[cw_ 14 % 240]? = _)
  unfold hw_
  rw [decide_eq_true h]
  rfl
theorem cky_14 : ckY 14 = true := by
  unfold ckY
  simp only [ckc_14, Bool.true_and]
  decide +kernel
set_option maxRecDepth 100000 in
theorem ckm_14_0 : ckP 14 0 15 = true := by decide +kernel
theorem cka_14 (pc : Nat) (e : aE) (h : code_ 14 pc = some e) : ckE 14 pc e = true := by
  have h0 : pc < 15 := by
    refine Nat.not_le.mp (fun hq => ?_)
    have : code_ 14 pc = none := by
      show cd_14 pc = none
      unfold cd_14
      rw [Nat.ble_eq_true_of_le hq]; rfl
    rw [this] at h; cases h
  by_cases h1 : pc < 15
  · exact ckP_ok ckm_14_0 (by omega) (by omega) h
  omega
theorem ckc_15 : hw_ (cw_ 15) (.code (yn_ 15) (bts_ 15) (mxl_ 15) (rt_ 15)) = true := by
  have h : (ch_ (cw_ 15 / 240))[cw_ 15 % 240]? = some (Cond.code (yn_ 15) (bts_ 15) (mxl_ 15) (rt_ 15)) := by
    exact (Eq.refl _ : (ch_ (cw_ 15 / 240))[cw_ 15 % 240]? = _)
  unfold hw_
  rw [decide_eq_true h]
  rfl
theorem cky_15 : ckY 15 = true := by
  unfold ckY
  simp only [ckc_15, Bool.true_and]
  decide +kernel
set_option maxRecDepth 100000 in
theorem ckm_15_0 : ckP 15 0 45 = true := by decide +kernel
theorem cka_15 (pc : Nat) (e : aE) (h : code_ 15 pc = some e) : ckE 15 pc e = true := by
  have h0 : pc < 45 := by
    refine Nat.not_le.mp (fun hq => ?_)
    have : code_ 15 pc = none := by
      show cd_15 pc = none
      unfold cd_15
      rw [Nat.ble_eq_true_of_le hq]; rfl
    rw [this] at h; cases h
  by_cases h1 : pc < 45
  · exact ckP_ok ckm_15_0 (by omega) (by omega) h
  omega
theorem ckc_16 : hw_ (cw_ 16) (.code (yn_ 16) (bts_ 16) (mxl_ 16) (rt_ 16)) = true := by
  have h : (ch_ (cw_ 16 / 240))[cw_ 16 % 240]? = some (Cond.code (yn_ 16) (bts_ 16) (mxl_ 16) (rt_ 16)) := by
    exact (Eq.refl _ : (ch_ (cw_ 16 / 240))[cw_ 16 % 240]? = _)
  unfold hw_
  rw [decide_eq_true h]
  rfl
theorem cky_16 : ckY 16 = true := by
  unfold ckY
  simp only [ckc_16, Bool.true_and]
  decide +kernel
set_option maxRecDepth 100000 in
theorem ckm_16_0 : ckP 16 0 64 = true := by decide +kernel
set_option maxRecDepth 100000 in
theorem ckm_16_1 : ckP 16 64 56 = true := by decide +kernel
theorem cka_16 (pc : Nat) (e : aE) (h : code_ 16 pc = some e) : ckE 16 pc e = true := by
  have h0 : pc < 120 := by
    refine Nat.not_le.mp (fun hq => ?_)
    have : code_ 16 pc = none := by
      show cd_16 pc = none
      unfold cd_16
      rw [Nat.ble_eq_true_of_le hq]; rfl
    rw [this] at h; cases h
  by_cases h1 : pc < 64
  · exact ckP_ok ckm_16_0 (by omega) (by omega) h
  by_cases h2 : pc < 120
  · exact ckP_ok ckm_16_1 (by omega) (by omega) h
  omega
theorem ckc_17 : hw_ (cw_ 17) (.code (yn_ 17) (bts_ 17) (mxl_ 17) (rt_ 17)) = true := by
  have h : (ch_ (cw_ 17 / 240))[cw_ 17 % 240]? = some (Cond.code (yn_ 17) (bts_ 17) (mxl_ 17) (rt_ 17)) := by
    exact (Eq.refl _ : (ch_ (cw_ 17 / 240))[cw_ 17 % 240]? = _)
  unfold hw_
  rw [decide_eq_true h]
  rfl
theorem cky_17 : ckY 17 = true := by
  unfold ckY
  simp only [ckc_17, Bool.true_and]
  decide +kernel
set_option maxRecDepth 100000 in
theorem ckm_17_0 : ckP 17 0 64 = true := by decide +kernel
set_option maxRecDepth 100000 in
theorem ckm_17_1 : ckP 17 64 47 = true := by decide +kernel
theorem cka_17 (pc : Nat) (e : aE) (h : code_ 17 pc = some e) : ckE 17 pc e = true := by
  have h0 : pc < 111 := by
    refine Nat.not_le.mp (fun hq => ?_)
    have : code_ 17 pc = none := by
      show cd_17 pc = none
      unfold cd_17
      rw [Nat.ble_eq_true_of_le hq]; rfl
    rw [this] at h; cases h
  by_cases h1 : pc < 64
  · exact ckP_ok ckm_17_0 (by omega) (by omega) h
  by_cases h2 : pc < 111
  · exact ckP_ok ckm_17_1 (by omega) (by omega) h
  omega
theorem ckc_18 : hw_ (cw_ 18) (.code (yn_ 18) (bts_ 18) (mxl_ 18) (rt_ 18)) = true := by
  have h : (ch_ (cw_ 18 / 240))[cw_ 18 % 240]? = some (Cond.code (yn_ 18) (bts_ 18) (mxl_ 18) (rt_ 18)) := by
    exact (Eq.refl _ : (ch_ (cw_ 18 / 240))[cw_ 18 % 240]? = _)
  unfold hw_
  rw [decide_eq_true h]
  rfl
theorem cky_18 : ckY 18 = true := by
  unfold ckY
  simp only [ckc_18, Bool.true_and]
  decide +kernel
set_option maxRecDepth 100000 in
theorem ckm_18_0 : ckP 18 0 64 = true := by decide +kernel
set_option maxRecDepth 100000 in
theorem ckm_18_1 : ckP 18 64 12 = true := by decide +kernel
theorem cka_18 (pc : Nat) (e : aE) (h : code_ 18 pc = some e) : ckE 18 pc e = true := by
  have h0 : pc < 76 := by
    refine Nat.not_le.mp (fun hq => ?_)
    have : code_ 18 pc = none := by
      show cd_18 pc = none
      unfold cd_18
      rw [Nat.ble_eq_true_of_le hq]; rfl
    rw [this] at h; cases h
  by_cases h1 : pc < 64
  · exact ckP_ok ckm_18_0 (by omega) (by omega) h
  by_cases h2 : pc < 76
  · exact ckP_ok ckm_18_1 (by omega) (by omega) h
  omega
theorem ckc_19 : hw_ (cw_ 19) (.code (yn_ 19) (bts_ 19) (mxl_ 19) (rt_ 19)) = true := by
  have h : (ch_ (cw_ 19 / 240))[cw_ 19 % 240]? = some (Cond.code (yn_ 19) (bts_ 19) (mxl_ 19) (rt_ 19)) := by
    exact (Eq.refl _ : (ch_ (cw_ 19 / 240))[cw_ 19 % 240]? = _)
  unfold hw_
  rw [decide_eq_true h]
  rfl
theorem cky_19 : ckY 19 = true := by
  unfold ckY
  simp only [ckc_19, Bool.true_and]
  decide +kernel
set_option maxRecDepth 100000 in
theorem ckm_19_0 : ckP 19 0 64 = true := by decide +kernel
set_option maxRecDepth 100000 in
theorem ckm_19_1 : ckP 19 64 38 = true := by decide +kernel
theorem cka_19 (pc : Nat) (e : aE) (h : code_ 19 pc = some e) : ckE 19 pc e = true := by
  have h0 : pc < 102 := by
    refine Nat.not_le.mp (fun hq => ?_)
    have : code_ 19 pc = none := by
      show cd_19 pc = none
      unfold cd_19
      rw [Nat.ble_eq_true_of_le hq]; rfl
    rw [this] at h; cases h
  by_cases h1 : pc < 64
  · exact ckP_ok ckm_19_0 (by omega) (by omega) h
  by_cases h2 : pc < 102
  · exact ckP_ok ckm_19_1 (by omega) (by omega) h
  omega
theorem ckc_20 : hw_ (cw_ 20) (.code (yn_ 20) (bts_ 20) (mxl_ 20) (rt_ 20)) = true := by
  have h : (ch_ (cw_ 20 / 240))[cw_ 20 % 240]? = some (Cond.code (yn_ 20) (bts_ 20) (mxl_ 20) (rt_ 20)) := by
    exact (Eq.refl _ : (ch_ (cw_ 20 / 240))[cw_ 20 % 240]? = _)
  unfold hw_
  rw [decide_eq_true h]
  rfl
theorem cky_20 : ckY 20 = true := by
  unfold ckY
  simp only [ckc_20, Bool.true_and]
  decide +kernel
set_option maxRecDepth 100000 in
theorem ckm_20_0 : ckP 20 0 47 = true := by decide +kernel
theorem cka_20 (pc : Nat) (e : aE) (h : code_ 20 pc = some e) : ckE 20 pc e = true := by
  have h0 : pc < 47 := by
    refine Nat.not_le.mp (fun hq => ?_)
    have : code_ 20 pc = none := by
      show cd_20 pc = none
      unfold cd_20
      rw [Nat.ble_eq_true_of_le hq]; rfl
    rw [this] at h; cases h
  by_cases h1 : pc < 47
  · exact ckP_ok ckm_20_0 (by omega) (by omega) h
  omega
theorem ckc_21 : hw_ (cw_ 21) (.code (yn_ 21) (bts_ 21) (mxl_ 21) (rt_ 21)) = true := by
  have h : (ch_ (cw_ 21 / 240))[cw_ 21 % 240]? = some (Cond.code (yn_ 21) (bts_ 21) (mxl_ 21) (rt_ 21)) := by
    exact (Eq.refl _ : (ch_ (cw_ 21 / 240))[cw_ 21 % 240]? = _)
  unfold hw_
  rw [decide_eq_true h]
  rfl
theorem cky_21 : ckY 21 = true := by
  unfold ckY
  simp only [ckc_21, Bool.true_and]
  decide +kernel
set_option maxRecDepth 100000 in
theorem ckm_21_0 : ckP 21 0 64 = true := by decide +kernel
set_option maxRecDepth 100000 in
theorem ckm_21_1 : ckP 21 64 64 = true := by decide +kernel
set_option maxRecDepth 100000 in
theorem ckm_21_2 : ckP 21 128 32 = true := by decide +kernel
theorem cka_21 (pc : Nat) (e : aE) (h : code_ 21 pc = some e) : ckE 21 pc e = true := by
  have h0 : pc < 160 := by
    refine Nat.not_le.mp (fun hq => ?_)
    have : code_ 21 pc = none := by
      show cd_21 pc = none
      unfold cd_21
      rw [Nat.ble_eq_true_of_le hq]; rfl
    rw [this] at h; cases h
  by_cases h1 : pc < 64
  · exact ckP_ok ckm_21_0 (by omega) (by omega) h
  by_cases h2 : pc < 128
  · exact ckP_ok ckm_21_1 (by omega) (by omega) h
  by_cases h3 : pc < 160
  · exact ckP_ok ckm_21_2 (by omega) (by omega) h
  omega
theorem ckc_22 : hw_ (cw_ 22) (.code (yn_ 22) (bts_ 22) (mxl_ 22) (rt_ 22)) = true := by
  have h : (ch_ (cw_ 22 / 240))[cw_ 22 % 240]? = some (Cond.code (yn_ 22) (bts_ 22) (mxl_ 22) (rt_ 22)) := by
    exact (Eq.refl _ : (ch_ (cw_ 22 / 240))[cw_ 22 % 240]? = _)
  unfold hw_
  rw [decide_eq_true h]
  rfl
theorem cky_22 : ckY 22 = true := by
  unfold ckY
  simp only [ckc_22, Bool.true_and]
  decide +kernel
set_option maxRecDepth 100000 in
theorem ckm_22_0 : ckP 22 0 24 = true := by decide +kernel
theorem cka_22 (pc : Nat) (e : aE) (h : code_ 22 pc = some e) : ckE 22 pc e = true := by
  have h0 : pc < 24 := by
    refine Nat.not_le.mp (fun hq => ?_)
    have : code_ 22 pc = none := by
      show cd_22 pc = none
      unfold cd_22
      rw [Nat.ble_eq_true_of_le hq]; rfl
    rw [this] at h; cases h
  by_cases h1 : pc < 24
  · exact ckP_ok ckm_22_0 (by omega) (by omega) h
  omega
theorem ckc_23 : hw_ (cw_ 23) (.code (yn_ 23) (bts_ 23) (mxl_ 23) (rt_ 23)) = true := by
  have h : (ch_ (cw_ 23 / 240))[cw_ 23 % 240]? = some (Cond.code (yn_ 23) (bts_ 23) (mxl_ 23) (rt_ 23)) := by
    exact (Eq.refl _ : (ch_ (cw_ 23 / 240))[cw_ 23 % 240]? = _)
  unfold hw_
  rw [decide_eq_true h]
  rfl
theorem cky_23 : ckY 23 = true := by
  unfold ckY
  simp only [ckc_23, Bool.true_and]
  decide +kernel
set_option maxRecDepth 100000 in
theorem ckm_23_0 : ckP 23 0 22 = true := by decide +kernel
theorem cka_23 (pc : Nat) (e : aE) (h : code_ 23 pc = some e) : ckE 23 pc e = true := by
  have h0 : pc < 22 := by
    refine Nat.not_le.mp (fun hq => ?_)
    have : code_ 23 pc = none := by
      show cd_23 pc = none
      unfold cd_23
      rw [Nat.ble_eq_true_of_le hq]; rfl
    rw [this] at h; cases h
  by_cases h1 : pc < 22
  · exact ckP_ok ckm_23_0 (by omega) (by omega) h
  omega
theorem ckc_24 : hw_ (cw_ 24) (.code (yn_ 24) (bts_ 24) (mxl_ 24) (rt_ 24)) = true := by
  have h : (ch_ (cw_ 24 / 240))[cw_ 24 % 240]? = some (Cond.code (yn_ 24) (bts_ 24) (mxl_ 24) (rt_ 24)) := by
    exact (Eq.refl _ : (ch_ (cw_ 24 / 240))[cw_ 24 % 240]? = _)
  unfold hw_
  rw [decide_eq_true h]
  rfl
theorem cky_24 : ckY 24 = true := by
  unfold ckY
  simp only [ckc_24, Bool.true_and]
  decide +kernel
set_option maxRecDepth 100000 in
theorem ckm_24_0 : ckP 24 0 25 = true := by decide +kernel
theorem cka_24 (pc : Nat) (e : aE) (h : code_ 24 pc = some e) : ckE 24 pc e = true := by
  have h0 : pc < 25 := by
    refine Nat.not_le.mp (fun hq => ?_)
    have : code_ 24 pc = none := by
      show cd_24 pc = none
      unfold cd_24
      rw [Nat.ble_eq_true_of_le hq]; rfl
    rw [this] at h; cases h
  by_cases h1 : pc < 25
  · exact ckP_ok ckm_24_0 (by omega) (by omega) h
  omega
theorem ckc_25 : hw_ (cw_ 25) (.code (yn_ 25) (bts_ 25) (mxl_ 25) (rt_ 25)) = true := by
  have h : (ch_ (cw_ 25 / 240))[cw_ 25 % 240]? = some (Cond.code (yn_ 25) (bts_ 25) (mxl_ 25) (rt_ 25)) := by
    exact (Eq.refl _ : (ch_ (cw_ 25 / 240))[cw_ 25 % 240]? = _)
  unfold hw_
  rw [decide_eq_true h]
  rfl
theorem cky_25 : ckY 25 = true := by
  unfold ckY
  simp only [ckc_25, Bool.true_and]
  decide +kernel
set_option maxRecDepth 100000 in
theorem ckm_25_0 : ckP 25 0 48 = true := by decide +kernel
theorem cka_25 (pc : Nat) (e : aE) (h : code_ 25 pc = some e) : ckE 25 pc e = true := by
  have h0 : pc < 48 := by
    refine Nat.not_le.mp (fun hq => ?_)
    have : code_ 25 pc = none := by
      show cd_25 pc = none
      unfold cd_25
      rw [Nat.ble_eq_true_of_le hq]; rfl
    rw [this] at h; cases h
  by_cases h1 : pc < 48
  · exact ckP_ok ckm_25_0 (by omega) (by omega) h
  omega
theorem ckc_26 : hw_ (cw_ 26) (.code (yn_ 26) (bts_ 26) (mxl_ 26) (rt_ 26)) = true := by
  have h : (ch_ (cw_ 26 / 240))[cw_ 26 % 240]? = some (Cond.code (yn_ 26) (bts_ 26) (mxl_ 26) (rt_ 26)) := by
    exact (Eq.refl _ : (ch_ (cw_ 26 / 240))[cw_ 26 % 240]? = _)
  unfold hw_
  rw [decide_eq_true h]
  rfl
theorem cky_26 : ckY 26 = true := by
  unfold ckY
  simp only [ckc_26, Bool.true_and]
  decide +kernel
set_option maxRecDepth 100000 in
theorem ckm_26_0 : ckP 26 0 64 = true := by decide +kernel
set_option maxRecDepth 100000 in
theorem ckm_26_1 : ckP 26 64 9 = true := by decide +kernel
theorem cka_26 (pc : Nat) (e : aE) (h : code_ 26 pc = some e) : ckE 26 pc e = true := by
  have h0 : pc < 73 := by
    refine Nat.not_le.mp (fun hq => ?_)
    have : code_ 26 pc = none := by
      show cd_26 pc = none
      unfold cd_26
      rw [Nat.ble_eq_true_of_le hq]; rfl
    rw [this] at h; cases h
  by_cases h1 : pc < 64
  · exact ckP_ok ckm_26_0 (by omega) (by omega) h
  by_cases h2 : pc < 73
  · exact ckP_ok ckm_26_1 (by omega) (by omega) h
  omega
theorem ckc_27 : hw_ (cw_ 27) (.code (yn_ 27) (bts_ 27) (mxl_ 27) (rt_ 27)) = true := by
  have h : (ch_ (cw_ 27 / 240))[cw_ 27 % 240]? = some (Cond.code (yn_ 27) (bts_ 27) (mxl_ 27) (rt_ 27)) := by
    exact (Eq.refl _ : (ch_ (cw_ 27 / 240))[cw_ 27 % 240]? = _)
  unfold hw_
  rw [decide_eq_true h]
  rfl
theorem cky_27 : ckY 27 = true := by
  unfold ckY
  simp only [ckc_27, Bool.true_and]
  decide +kernel
set_option maxRecDepth 100000 in
theorem ckm_27_0 : ckP 27 0 64 = true := by decide +kernel
set_option maxRecDepth 100000 in
theorem ckm_27_1 : ckP 27 64 25 = true := by decide +kernel
theorem cka_27 (pc : Nat) (e : aE) (h : code_ 27 pc = some e) : ckE 27 pc e = true := by
  have h0 : pc < 89 := by
    refine Nat.not_le.mp (fun hq => ?_)
    have : code_ 27 pc = none := by
      show cd_27 pc = none
      unfold cd_27
      rw [Nat.ble_eq_true_of_le hq]; rfl
    rw [this] at h; cases h
  by_cases h1 : pc < 64
  · exact ckP_ok ckm_27_0 (by omega) (by omega) h
  by_cases h2 : pc < 89
  · exact ckP_ok ckm_27_1 (by omega) (by omega) h
  omega
