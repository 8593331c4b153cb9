theorem ckc_28 : hw_ (cw_ 28) (.code (yn_ 28) (bts_ 28) (mxl_ 28) (rt_ 28)) = true := by
  have h : (ch_ (cw_ 28 / 240))[cw_ 28 % 240]? = some (Cond.code (yn_ 28) (bts_ 28) (mxl_ 28) (rt_ 28)) := by
    exact (Eq.refl _ : (ch_ (cw_ 28 / 240))[cw_ 28 % 240]? = _)
  unfold hw_
  rw [decide_eq_true h]
  rfl
theorem cky_28 : ckY 28 = true := by
  unfold ckY
  simp only [ckc_28, Bool.true_and]
  decide +kernel
set_option maxRecDepth 100000 in
theorem ckm_28_0 : ckP 28 0 18 = true := by decide +kernel
theorem cka_28 (pc : Nat) (e : aE) (h : code_ 28 pc = some e) : ckE 28 pc e = true := by
  have h0 : pc < 18 := by
    refine Nat.not_le.mp (fun hq => ?_)
    have : code_ 28 pc = none := by
      show cd_28 pc = none
      unfold cd_28
      rw [Nat.ble_eq_true_of_le hq]; rfl
    rw [this] at h; cases h
  by_cases h1 : pc < 18
  · exact ckP_ok ckm_28_0 (by omega) (by omega) h
  omega
theorem ckc_29 : hw_ (cw_ 29) (.code (yn_ 29) (bts_ 29) (mxl_ 29) (rt_ 29)) = true := by
  have h : (ch_ (cw_ 29 / 240))[cw_ 29 % 240]? = some (Cond.code (yn_ 29) (bts_ 29) (mxl_ 29) (rt_ 29)) := by
    exact (Eq.refl _ : (ch_ (cw_ 29 / 240))[cw_ 29 % 240]? = _)
  unfold hw_
  rw [decide_eq_true h]
  rfl
theorem cky_29 : ckY 29 = true := by
  unfold ckY
  simp only [ckc_29, Bool.true_and]
  decide +kernel
set_option maxRecDepth 100000 in
theorem ckm_29_0 : ckP 29 0 18 = true := by decide +kernel
theorem cka_29 (pc : Nat) (e : aE) (h : code_ 29 pc = some e) : ckE 29 pc e = true := by
  have h0 : pc < 18 := by
    refine Nat.not_le.mp (fun hq => ?_)
    have : code_ 29 pc = none := by
      show cd_29 pc = none
      unfold cd_29
      rw [Nat.ble_eq_true_of_le hq]; rfl
    rw [this] at h; cases h
  by_cases h1 : pc < 18
  · exact ckP_ok ckm_29_0 (by omega) (by omega) h
  omega
theorem ckc_30 : hw_ (cw_ 30) (.code (yn_ 30) (bts_ 30) (mxl_ 30) (rt_ 30)) = true := by
  have h : (ch_ (cw_ 30 / 240))[cw_ 30 % 240]? = some (Cond.code (yn_ 30) (bts_ 30) (mxl_ 30) (rt_ 30)) := by
    exact (Eq.refl _ : (ch_ (cw_ 30 / 240))[cw_ 30 % 240]? = _)
  unfold hw_
  rw [decide_eq_true h]
  rfl
theorem cky_30 : ckY 30 = true := by
  unfold ckY
  simp only [ckc_30, Bool.true_and]
  decide +kernel
set_option maxRecDepth 100000 in
theorem ckm_30_0 : ckP 30 0 18 = true := by decide +kernel
theorem cka_30 (pc : Nat) (e : aE) (h : code_ 30 pc = some e) : ckE 30 pc e = true := by
  have h0 : pc < 18 := by
    refine Nat.not_le.mp (fun hq => ?_)
    have : code_ 30 pc = none := by
      show cd_30 pc = none
      unfold cd_30
      rw [Nat.ble_eq_true_of_le hq]; rfl
    rw [this] at h; cases h
  by_cases h1 : pc < 18
  · exact ckP_ok ckm_30_0 (by omega) (by omega) h
  omega
theorem ckc_31 : hw_ (cw_ 31) (.code (yn_ 31) (bts_ 31) (mxl_ 31) (rt_ 31)) = true := by
  have h : (ch_ (cw_ 31 / 240))[cw_ 31 % 240]? = some (Cond.code (yn_ 31) (bts_ 31) (mxl_ 31) (rt_ 31)) := by
    exact (Eq.refl _ : (ch_ (cw_ 31 / 240))[cw_ 31 % 240]? = _)
  unfold hw_
  rw [decide_eq_true h]
  rfl
theorem cky_31 : ckY 31 = true := by
  unfold ckY
  simp only [ckc_31, Bool.true_and]
  decide +kernel
set_option maxRecDepth 100000 in
theorem ckm_31_0 : ckP 31 0 18 = true := by decide +kernel
theorem cka_31 (pc : Nat) (e : aE) (h : code_ 31 pc = some e) : ckE 31 pc e = true := by
  have h0 : pc < 18 := by
    refine Nat.not_le.mp (fun hq => ?_)
    have : code_ 31 pc = none := by
      show cd_31 pc = none
      unfold cd_31
      rw [Nat.ble_eq_true_of_le hq]; rfl
    rw [this] at h; cases h
  by_cases h1 : pc < 18
  · exact ckP_ok ckm_31_0 (by omega) (by omega) h
  omega
theorem ckc_32 : hw_ (cw_ 32) (.code (yn_ 32) (bts_ 32) (mxl_ 32) (rt_ 32)) = true := by
  have h : (ch_ (cw_ 32 / 240))[cw_ 32 % 240]? = some (Cond.code (yn_ 32) (bts_ 32) (mxl_ 32) (rt_ 32)) := by
    exact (Eq.refl _ : (ch_ (cw_ 32 / 240))[cw_ 32 % 240]? = _)
  unfold hw_
  rw [decide_eq_true h]
  rfl
theorem cky_32 : ckY 32 = true := by
  unfold ckY
  simp only [ckc_32, Bool.true_and]
  decide +kernel
set_option maxRecDepth 100000 in
theorem ckm_32_0 : ckP 32 0 20 = true := by decide +kernel
theorem cka_32 (pc : Nat) (e : aE) (h : code_ 32 pc = some e) : ckE 32 pc e = true := by
  have h0 : pc < 20 := by
    refine Nat.not_le.mp (fun hq => ?_)
    have : code_ 32 pc = none := by
      show cd_32 pc = none
      unfold cd_32
      rw [Nat.ble_eq_true_of_le hq]; rfl
    rw [this] at h; cases h
  by_cases h1 : pc < 20
  · exact ckP_ok ckm_32_0 (by omega) (by omega) h
  omega
theorem ckc_33 : hw_ (cw_ 33) (.code (yn_ 33) (bts_ 33) (mxl_ 33) (rt_ 33)) = true := by
  have h : (ch_ (cw_ 33 / 240))[cw_ 33 % 240]? = some (Cond.code (yn_ 33) (bts_ 33) (mxl_ 33) (rt_ 33)) := by
    exact (Eq.refl _ : (ch_ (cw_ 33 / 240))[cw_ 33 % 240]? = _)
  unfold hw_
  rw [decide_eq_true h]
  rfl
theorem cky_33 : ckY 33 = true := by
  unfold ckY
  simp only [ckc_33, Bool.true_and]
  decide +kernel
set_option maxRecDepth 100000 in
theorem ckm_33_0 : ckP 33 0 7 = true := by decide +kernel
theorem cka_33 (pc : Nat) (e : aE) (h : code_ 33 pc = some e) : ckE 33 pc e = true := by
  have h0 : pc < 7 := by
    refine Nat.not_le.mp (fun hq => ?_)
    have : code_ 33 pc = none := by
      show cd_33 pc = none
      unfold cd_33
      rw [Nat.ble_eq_true_of_le hq]; rfl
    rw [this] at h; cases h
  by_cases h1 : pc < 7
  · exact ckP_ok ckm_33_0 (by omega) (by omega) h
  omega
theorem ckc_34 : hw_ (cw_ 34) (.code (yn_ 34) (bts_ 34) (mxl_ 34) (rt_ 34)) = true := by
  have h : (ch_ (cw_ 34 / 240))[cw_ 34 % 240]? = some (Cond.code (yn_ 34) (bts_ 34) (mxl_ 34) (rt_ 34)) := by
    exact (Eq.refl _ : (ch_ (cw_ 34 / 240))[cw_ 34 % 240]? = _)
  unfold hw_
  rw [decide_eq_true h]
  rfl
theorem cky_34 : ckY 34 = true := by
  unfold ckY
  simp only [ckc_34, Bool.true_and]
  decide +kernel
set_option maxRecDepth 100000 in
theorem ckm_34_0 : ckP 34 0 9 = true := by decide +kernel
theorem cka_34 (pc : Nat) (e : aE) (h : code_ 34 pc = some e) : ckE 34 pc e = true := by
  have h0 : pc < 9 := by
    refine Nat.not_le.mp (fun hq => ?_)
    have : code_ 34 pc = none := by
      show cd_34 pc = none
      unfold cd_34
      rw [Nat.ble_eq_true_of_le hq]; rfl
    rw [this] at h; cases h
  by_cases h1 : pc < 9
  · exact ckP_ok ckm_34_0 (by omega) (by omega) h
  omega
theorem ckc_35 : hw_ (cw_ 35) (.code (yn_ 35) (bts_ 35) (mxl_ 35) (rt_ 35)) = true := by
  have h : (ch_ (cw_ 35 / 240))[cw_ 35 % 240]? = some (Cond.code (yn_ 35) (bts_ 35) (mxl_ 35) (rt_ 35)) := by
    exact (Eq.refl _ : (ch_ (cw_ 35 / 240))[cw_ 35 % 240]? = _)
  unfold hw_
  rw [decide_eq_true h]
  rfl
theorem cky_35 : ckY 35 = true := by
  unfold ckY
  simp only [ckc_35, Bool.true_and]
  decide +kernel
set_option maxRecDepth 100000 in
theorem ckm_35_0 : ckP 35 0 12 = true := by decide +kernel
theorem cka_35 (pc : Nat) (e : aE) (h : code_ 35 pc = some e) : ckE 35 pc e = true := by
  have h0 : pc < 12 := by
    refine Nat.not_le.mp (fun hq => ?_)
    have : code_ 35 pc = none := by
      show cd_35 pc = none
      unfold cd_35
      rw [Nat.ble_eq_true_of_le hq]; rfl
    rw [this] at h; cases h
  by_cases h1 : pc < 12
  · exact ckP_ok ckm_35_0 (by omega) (by omega) h
  omega
theorem ckc_36 : hw_ (cw_ 36) (.code (yn_ 36) (bts_ 36) (mxl_ 36) (rt_ 36)) = true := by
  have h : (ch_ (cw_ 36 / 240))[cw_ 36 % 240]? = some (Cond.code (yn_ 36) (bts_ 36) (mxl_ 36) (rt_ 36)) := by
    exact (Eq.refl _ : (ch_ (cw_ 36 / 240))[cw_ 36 % 240]? = _)
  unfold hw_
  rw [decide_eq_true h]
  rfl
theorem cky_36 : ckY 36 = true := by
  unfold ckY
  simp only [ckc_36, Bool.true_and]
  decide +kernel
set_option maxRecDepth 100000 in
theorem ckm_36_0 : ckP 36 0 12 = true := by decide +kernel
theorem cka_36 (pc : Nat) (e : aE) (h : code_ 36 pc = some e) : ckE 36 pc e = true := by
  have h0 : pc < 12 := by
    refine Nat.not_le.mp (fun hq => ?_)
    have : code_ 36 pc = none := by
      show cd_36 pc = none
      unfold cd_36
      rw [Nat.ble_eq_true_of_le hq]; rfl
    rw [this] at h; cases h
  by_cases h1 : pc < 12
  · exact ckP_ok ckm_36_0 (by omega) (by omega) h
  omega
theorem ckc_37 : hw_ (cw_ 37) (.code (yn_ 37) (bts_ 37) (mxl_ 37) (rt_ 37)) = true := by
  have h : (ch_ (cw_ 37 / 240))[cw_ 37 % 240]? = some (Cond.code (yn_ 37) (bts_ 37) (mxl_ 37) (rt_ 37)) := by
    exact (Eq.refl _ : (ch_ (cw_ 37 / 240))[cw_ 37 % 240]? = _)
  unfold hw_
  rw [decide_eq_true h]
  rfl
theorem cky_37 : ckY 37 = true := by
  unfold ckY
  simp only [ckc_37, Bool.true_and]
  decide +kernel
set_option maxRecDepth 100000 in
theorem ckm_37_0 : ckP 37 0 12 = true := by decide +kernel
theorem cka_37 (pc : Nat) (e : aE) (h : code_ 37 pc = some e) : ckE 37 pc e = true := by
  have h0 : pc < 12 := by
    refine Nat.not_le.mp (fun hq => ?_)
    have : code_ 37 pc = none := by
      show cd_37 pc = none
      unfold cd_37
      rw [Nat.ble_eq_true_of_le hq]; rfl
    rw [this] at h; cases h
  by_cases h1 : pc < 12
  · exact ckP_ok ckm_37_0 (by omega) (by omega) h
  omega
theorem ckc_38 : hw_ (cw_ 38) (.code (yn_ 38) (bts_ 38) (mxl_ 38) (rt_ 38)) = true := by
  have h : (ch_ (cw_ 38 / 240))[cw_ 38 % 240]? = some (Cond.code (yn_ 38) (bts_ 38) (mxl_ 38) (rt_ 38)) := by
    exact (Eq.refl _ : (ch_ (cw_ 38 / 240))[cw_ 38 % 240]? = _)
  unfold hw_
  rw [decide_eq_true h]
  rfl
theorem cky_38 : ckY 38 = true := by
  unfold ckY
  simp only [ckc_38, Bool.true_and]
  decide +kernel
set_option maxRecDepth 100000 in
theorem ckm_38_0 : ckP 38 0 64 = true := by decide +kernel
set_option maxRecDepth 100000 in
theorem ckm_38_1 : ckP 38 64 41 = true := by decide +kernel
theorem cka_38 (pc : Nat) (e : aE) (h : code_ 38 pc = some e) : ckE 38 pc e = true := by
  have h0 : pc < 105 := by
    refine Nat.not_le.mp (fun hq => ?_)
    have : code_ 38 pc = none := by
      show cd_38 pc = none
      unfold cd_38
      rw [Nat.ble_eq_true_of_le hq]; rfl
    rw [this] at h; cases h
  by_cases h1 : pc < 64
  · exact ckP_ok ckm_38_0 (by omega) (by omega) h
  by_cases h2 : pc < 105
  · exact ckP_ok ckm_38_1 (by omega) (by omega) h
  omega
theorem ckc_39 : hw_ (cw_ 39) (.code (yn_ 39) (bts_ 39) (mxl_ 39) (rt_ 39)) = true := by
  have h : (ch_ (cw_ 39 / 240))[cw_ 39 % 240]? = some (Cond.code (yn_ 39) (bts_ 39) (mxl_ 39) (rt_ 39)) := by
    exact (Eq.refl _ : (ch_ (cw_ 39 / 240))[cw_ 39 % 240]? = _)
  unfold hw_
  rw [decide_eq_true h]
  rfl
theorem cky_39 : ckY 39 = true := by
  unfold ckY
  simp only [ckc_39, Bool.true_and]
  decide +kernel
set_option maxRecDepth 100000 in
theorem ckm_39_0 : ckP 39 0 64 = true := by decide +kernel
set_option maxRecDepth 100000 in
theorem ckm_39_1 : ckP 39 64 30 = true := by decide +kernel
theorem cka_39 (pc : Nat) (e : aE) (h : code_ 39 pc = some e) : ckE 39 pc e = true := by
  have h0 : pc < 94 := by
    refine Nat.not_le.mp (fun hq => ?_)
    have : code_ 39 pc = none := by
      show cd_39 pc = none
      unfold cd_39
      rw [Nat.ble_eq_true_of_le hq]; rfl
    rw [this] at h; cases h
  by_cases h1 : pc < 64
  · exact ckP_ok ckm_39_0 (by omega) (by omega) h
  by_cases h2 : pc < 94
  · exact ckP_ok ckm_39_1 (by omega) (by omega) h
  omega
theorem ckc_40 : hw_ (cw_ 40) (.code (yn_ 40) (bts_ 40) (mxl_ 40) (rt_ 40)) = true := by
  have h : (ch_ (cw_ 40 / 240))[cw_ 40 % 240]? = some (Cond.code (yn_ 40) (bts_ 40) (mxl_ 40) (rt_ 40)) := by
    exact (Eq.refl _ : (ch_ (cw_ 40 / 240))[cw_ 40 % 240]? = _)
  unfold hw_
  rw [decide_eq_true h]
  rfl
theorem cky_40 : ckY 40 = true := by
  unfold ckY
  simp only [ckc_40, Bool.true_and]
  decide +kernel
set_option maxRecDepth 100000 in
theorem ckm_40_0 : ckP 40 0 64 = true := by decide +kernel
set_option maxRecDepth 100000 in
theorem ckm_40_1 : ckP 40 64 64 = true := by decide +kernel
set_option maxRecDepth 100000 in
theorem ckm_40_2 : ckP 40 128 63 = true := by decide +kernel
theorem cka_40 (pc : Nat) (e : aE) (h : code_ 40 pc = some e) : ckE 40 pc e = true := by
  have h0 : pc < 191 := by
    refine Nat.not_le.mp (fun hq => ?_)
    have : code_ 40 pc = none := by
      show cd_40 pc = none
      unfold cd_40
      rw [Nat.ble_eq_true_of_le hq]; rfl
    rw [this] at h; cases h
  by_cases h1 : pc < 64
  · exact ckP_ok ckm_40_0 (by omega) (by omega) h
  by_cases h2 : pc < 128
  · exact ckP_ok ckm_40_1 (by omega) (by omega) h
  by_cases h3 : pc < 191
  · exact ckP_ok ckm_40_2 (by omega) (by omega) h
  omega
theorem ckc_41 : hw_ (cw_ 41) (.code (yn_ 41) (bts_ 41) (mxl_ 41) (rt_ 41)) = true := by
  have h : (ch_ (cw_ 41 / 240))[cw_ 41 % 240]? = some (Cond.code (yn_ 41) (bts_ 41) (mxl_ 41) (rt_ 41)) := by
    exact (Eq.refl _ : (ch_ (cw_ 41 / 240))[cw_ 41 % 240]? = _)
  unfold hw_
  rw [decide_eq_true h]
  rfl
theorem cky_41 : ckY 41 = true := by
  unfold ckY
  simp only [ckc_41, Bool.true_and]
  decide +kernel
set_option maxRecDepth 100000 in
theorem ckm_41_0 : ckP 41 0 41 = true := by decide +kernel
theorem cka_41 (pc : Nat) (e : aE) (h : code_ 41 pc = some e) : ckE 41 pc e = true := by
  have h0 : pc < 41 := by
    refine Nat.not_le.mp (fun hq => ?_)
    have : code_ 41 pc = none := by
      show cd_41 pc = none
      unfold cd_41
      rw [Nat.ble_eq_true_of_le hq]; rfl
    rw [this] at h; cases h
  by_cases h1 : pc < 41
  · exact ckP_ok ckm_41_0 (by omega) (by omega) h
  omega
theorem ckc_42 : hw_ (cw_ 42) (.code (yn_ 42) (bts_ 42) (mxl_ 42) (rt_ 42)) = true := by
  have h : (ch_ (cw_ 42 / 240))[cw_ 42 % 240]? = some (Cond.code (yn_ 42) (bts_ 42) (mxl_ 42) (rt_ 42)) := by
    exact (Eq.refl _ : (ch_ (cw_ 42 / 240))[cw_ 42 % 240]? = _)
  unfold hw_
  rw [decide_eq_true h]
  rfl
theorem cky_42 : ckY 42 = true := by
  unfold ckY
  simp only [ckc_42, Bool.true_and]
  decide +kernel
set_option maxRecDepth 100000 in
theorem ckm_42_0 : ckP 42 0 28 = true := by decide +kernel
theorem cka_42 (pc : Nat) (e : aE) (h : code_ 42 pc = some e) : ckE 42 pc e = true := by
  have h0 : pc < 28 := by
    refine Nat.not_le.mp (fun hq => ?_)
    have : code_ 42 pc = none := by
      show cd_42 pc = none
      unfold cd_42
      rw [Nat.ble_eq_true_of_le hq]; rfl
    rw [this] at h; cases h
  by_cases h1 : pc < 28
  · exact ckP_ok ckm_42_0 (by omega) (by omega) h
  omega
theorem ckc_43 : hw_ (cw_ 43) (.code (yn_ 43) (bts_ 43) (mxl_ 43) (rt_ 43)) = true := by
  have h : (ch_ (cw_ 43 / 240))[cw_ 43 % 240]? = some (Cond.code (yn_ 43) (bts_ 43) (mxl_ 43) (rt_ 43)) := by
    exact (Eq.refl _ : (ch_ (cw_ 43 / 240))[cw_ 43 % 240]? = _)
  unfold hw_
  rw [decide_eq_true h]
  rfl
theorem cky_43 : ckY 43 = true := by
  unfold ckY
  simp only [ckc_43, Bool.true_and]
  decide +kernel
set_option maxRecDepth 100000 in
theorem ckm_43_0 : ckP 43 0 37 = true := by decide +kernel
theorem cka_43 (pc : Nat) (e : aE) (h : code_ 43 pc = some e) : ckE 43 pc e = true := by
  have h0 : pc < 37 := by
    refine Nat.not_le.mp (fun hq => ?_)
    have : code_ 43 pc = none := by
      show cd_43 pc = none
      unfold cd_43
      rw [Nat.ble_eq_true_of_le hq]; rfl
    rw [this] at h; cases h
  by_cases h1 : pc < 37
  · exact ckP_ok ckm_43_0 (by omega) (by omega) h
  omega
theorem ckc_44 : hw_ (cw_ 44) (.code (yn_ 44) (bts_ 44) (mxl_ 44) (rt_ 44)) = true := by
  have h : (ch_ (cw_ 44 / 240))[cw_ 44 % 240]? = some (Cond.code (yn_ 44) (bts_ 44) (mxl_ 44) (rt_ 44)) := by
    exact (Eq.refl _ : (ch_ (cw_ 44 / 240))[cw_ 44 % 240]? = _)
  unfold hw_
  rw [decide_eq_true h]
  rfl
theorem cky_44 : ckY 44 = true := by
  unfold ckY
  simp only [ckc_44, Bool.true_and]
  decide +kernel
set_option maxRecDepth 100000 in
theorem ckm_44_0 : ckP 44 0 64 = true := by decide +kernel
set_option maxRecDepth 100000 in
theorem ckm_44_1 : ckP 44 64 5 = true := by decide +kernel
theorem cka_44 (pc : Nat) (e : aE) (h : code_ 44 pc = some e) : ckE 44 pc e = true := by
  have h0 : pc < 69 := by
    refine Nat.not_le.mp (fun hq => ?_)
    have : code_ 44 pc = none := by
      show cd_44 pc = none
      unfold cd_44
      rw [Nat.ble_eq_true_of_le hq]; rfl
    rw [this] at h; cases h
  by_cases h1 : pc < 64
  · exact ckP_ok ckm_44_0 (by omega) (by omega) h
  by_cases h2 : pc < 69
  · exact ckP_ok ckm_44_1 (by omega) (by omega) h
  omega
theorem ckc_45 : hw_ (cw_ 45) (.code (yn_ 45) (bts_ 45) (mxl_ 45) (rt_ 45)) = true := by
  have h : (ch_ (cw_ 45 / 240))[cw_ 45 % 240]? = some (Cond.code (yn_ 45) (bts_ 45) (mxl_ 45) (rt_ 45)) := by
    exact (Eq.refl _ : (ch_ (cw_ 45 / 240))[cw_ 45 % 240]? = _)
  unfold hw_
  rw [decide_eq_true h]
  rfl
theorem cky_45 : ckY 45 = true := by
  unfold ckY
  simp only [ckc_45, Bool.true_and]
  decide +kernel
set_option maxRecDepth 100000 in
theorem ckm_45_0 : ckP 45 0 64 = true := by decide +kernel
set_option maxRecDepth 100000 in
theorem ckm_45_1 : ckP 45 64 50 = true := by decide +kernel
theorem cka_45 (pc : Nat) (e : aE) (h : code_ 45 pc = some e) : ckE 45 pc e = true := by
  have h0 : pc < 114 := by
    refine Nat.not_le.mp (fun hq => ?_)
    have : code_ 45 pc = none := by
      show cd_45 pc = none
      unfold cd_45
      rw [Nat.ble_eq_true_of_le hq]; rfl
    rw [this] at h; cases h
  by_cases h1 : pc < 64
  · exact ckP_ok ckm_45_0 (by omega) (by omega) h
  by_cases h2 : pc < 114
  · exact ckP_ok ckm_45_1 (by omega) (by omega) h
  omega
theorem ckc_46 : hw_ (cw_ 46) (.code (yn_ 46) (bts_ 46) (mxl_ 46) (rt_ 46)) = true := by
  have h : (ch_ (cw_ 46 / 240))[cw_ 46 % 240]? = some (Cond.code (yn_ 46) (bts_ 46) (mxl_ 46) (rt_ 46)) := by
    exact (Eq.refl _ : (ch_ (cw_ 46 / 240))[cw_ 46 % 240]? = _)
  unfold hw_
  rw [decide_eq_true h]
  rfl
theorem cky_46 : ckY 46 = true := by
  unfold ckY
  simp only [ckc_46, Bool.true_and]
  decide +kernel
set_option maxRecDepth 100000 in
theorem ckm_46_0 : ckP 46 0 34 = true := by decide +kernel
theorem cka_46 (pc : Nat) (e : aE) (h : code_ 46 pc = some e) : ckE 46 pc e = true := by
  have h0 : pc < 34 := by
    refine Nat.not_le.mp (fun hq => ?_)
    have : code_ 46 pc = none := by
      show cd_46 pc = none
      unfold cd_46
      rw [Nat.ble_eq_true_of_le hq]; rfl
    rw [this] at h; cases h
  by_cases h1 : pc < 34
  · exact ckP_ok ckm_46_0 (by omega) (by omega) h
  omega
theorem ckc_47 : hw_ (cw_ 47) (.code (yn_ 47) (bts_ 47) (mxl_ 47) (rt_ 47)) = true := by
  have h : (ch_ (cw_ 47 / 240))[cw_ 47 % 240]? = some (Cond.code (yn_ 47) (bts_ 47) (mxl_ 47) (rt_ 47)) := by
    exact (Eq.refl _ : (ch_ (cw_ 47 / 240))[cw_ 47 % 240]? = _)
  unfold hw_
  rw [decide_eq_true h]
  rfl
theorem cky_47 : ckY 47 = true := by
  unfold ckY
  simp only [ckc_47, Bool.true_and]
  decide +kernel
set_option maxRecDepth 100000 in
theorem ckm_47_0 : ckP 47 0 64 = true := by decide +kernel
set_option maxRecDepth 100000 in
theorem ckm_47_1 : ckP 47 64 1 = true := by decide +kernel
theorem cka_47 (pc : Nat) (e : aE) (h : code_ 47 pc = some e) : ckE 47 pc e = true := by
  have h0 : pc < 65 := by
    refine Nat.not_le.mp (fun hq => ?_)
    have : code_ 47 pc = none := by
      show cd_47 pc = none
      unfold cd_47
      rw [Nat.ble_eq_true_of_le hq]; rfl
    rw [this] at h; cases h
  by_cases h1 : pc < 64
  · exact ckP_ok ckm_47_0 (by omega) (by omega) h
  by_cases h2 : pc < 65
  · exact ckP_ok ckm_47_1 (by omega) (by omega) h
  omega
theorem ckc_48 : hw_ (cw_ 48) (.code (yn_ 48) (bts_ 48) (mxl_ 48) (rt_ 48)) = true := by
  have h : (ch_ (cw_ 48 / 240))[cw_ 48 % 240]? = some (Cond.code (yn_ 48) (bts_ 48) (mxl_ 48) (rt_ 48)) := by
    exact (Eq.refl _ : (ch_ (cw_ 48 / 240))[cw_ 48 % 240]? = _)
  unfold hw_
  rw [decide_eq_true h]
  rfl
theorem cky_48 : ckY 48 = true := by
  unfold ckY
  simp only [ckc_48, Bool.true_and]
  decide +kernel
set_option maxRecDepth 100000 in
theorem ckm_48_0 : ckP 48 0 64 = true := by decide +kernel
set_option maxRecDepth 100000 in
theorem ckm_48_1 : ckP 48 64 56 = true := by decide +kernel
theorem cka_48 (pc : Nat) (e : aE) (h : code_ 48 pc = some e) : ckE 48 pc e = true := by
  have h0 : pc < 120 := by
    refine Nat.not_le.mp (fun hq => ?_)
    have : code_ 48 pc = none := by
      show cd_48 pc = none
      unfold cd_48
      rw [Nat.ble_eq_true_of_le hq]; rfl
    rw [this] at h; cases h
  by_cases h1 : pc < 64
  · exact ckP_ok ckm_48_0 (by omega) (by omega) h
  by_cases h2 : pc < 120
  · exact ckP_ok ckm_48_1 (by omega) (by omega) h
  omega
theorem ckc_49 : hw_ (cw_ 49) (.code (yn_ 49) (bts_ 49) (mxl_ 49) (rt_ 49)) = true := by
  have h : (ch_ (cw_ 49 / 240))[cw_ 49 % 240]? = some (Cond.code (yn_ 49) (bts_ 49) (mxl_ 49) (rt_ 49)) := by
    exact (Eq.refl _ : (ch_ (cw_ 49 / 240))[cw_ 49 % 240]? = _)
  unfold hw_
  rw [decide_eq_true h]
  rfl
theorem cky_49 : ckY 49 = true := by
  unfold ckY
  simp only [ckc_49, Bool.true_and]
  decide +kernel
set_option maxRecDepth 100000 in
theorem ckm_49_0 : ckP 49 0 14 = true := by decide +kernel
theorem cka_49 (pc : Nat) (e : aE) (h : code_ 49 pc = some e) : ckE 49 pc e = true := by
  have h0 : pc < 14 := by
    refine Nat.not_le.mp (fun hq => ?_)
    have : code_ 49 pc = none := by
      show cd_49 pc = none
      unfold cd_49
      rw [Nat.ble_eq_true_of_le hq]; rfl
    rw [this] at h; cases h
  by_cases h1 : pc < 14
  · exact ckP_ok ckm_49_0 (by omega) (by omega) h
  omega
theorem ckc_50 : hw_ (cw_ 50) (.code (yn_ 50) (bts_ 50) (mxl_ 50) (rt_ 50)) = true := by
  have h : (ch_ (cw_ 50 / 240))[cw_ 50 % 240]? = some (Cond.code (yn_ 50) (bts_ 50) (mxl_ 50) (rt_ 50)) := by
    exact (Eq.refl _ : (ch_ (cw_ 50 / 240))[cw_ 50 % 240]? = _)
  unfold hw_
  rw [decide_eq_true h]
  rfl
theorem cky_50 : ckY 50 = true := by
  unfold ckY
  simp only [ckc_50, Bool.true_and]
  decide +kernel
set_option maxRecDepth 100000 in
theorem ckm_50_0 : ckP 50 0 21 = true := by decide +kernel
theorem cka_50 (pc : Nat) (e : aE) (h : code_ 50 pc = some e) : ckE 50 pc e = true := by
  have h0 : pc < 21 := by
    refine Nat.not_le.mp (fun hq => ?_)
    have : code_ 50 pc = none := by
      show cd_50 pc = none
      unfold cd_50
      rw [Nat.ble_eq_true_of_le hq]; rfl
    rw [this] at h; cases h
  by_cases h1 : pc < 21
  · exact ckP_ok ckm_50_0 (by omega) (by omega) h
  omega
theorem ckc_51 : hw_ (cw_ 51) (.code (yn_ 51) (bts_ 51) (mxl_ 51) (rt_ 51)) = true := by
  have h : (ch_ (cw_ 51 / 240))[cw_ 51 % 240]? = some (Cond.code (yn_ 51) (bts_ 51) (mxl_ 51) (rt_ 51)) := by
    exact (Eq.refl _ : (ch_ (cw_ 51 / 240))[cw_ 51 % 240]? = _)
  unfold hw_
  rw [decide_eq_true h]
  rfl
theorem cky_51 : ckY 51 = true := by
  unfold ckY
  simp only [ckc_51, Bool.true_and]
  decide +kernel
set_option maxRecDepth 100000 in
theorem ckm_51_0 : ckP 51 0 43 = true := by decide +kernel
theorem cka_51 (pc : Nat) (e : aE) (h : code_ 51 pc = some e) : ckE 51 pc e = true := by
  have h0 : pc < 43 := by
    refine Nat.not_le.mp (fun hq => ?_)
    have : code_ 51 pc = none := by
      show cd_51 pc = none
      unfold cd_51
      rw [Nat.ble_eq_true_of_le hq]; rfl
    rw [this] at h; cases h
  by_cases h1 : pc < 43
  · exact ckP_ok ckm_51_0 (by omega) (by omega) h
  omega
theorem ckc_52 : hw_ (cw_ 52) (.code (yn_ 52) (bts_ 52) (mxl_ 52) (rt_ 52)) = true := by
  have h : (ch_ (cw_ 52 / 240))[cw_ 52 % 240]? = some (Cond.code (yn_ 52) (bts_ 52) (mxl_ 52) (rt_ 52)) := by
    exact (Eq.refl _ : (ch_ (cw_ 52 / 240))[cw_ 52 % 240]? = _)
  unfold hw_
  rw [decide_eq_true h]
  rfl
theorem cky_52 : ckY 52 = true := by
  unfold ckY
  simp only [ckc_52, Bool.true_and]
  decide +kernel
set_option maxRecDepth 100000 in
theorem ckm_52_0 : ckP 52 0 38 = true := by decide +kernel
theorem cka_52 (pc : Nat) (e : aE) (h : code_ 52 pc = some e) : ckE 52 pc e = true := by
  have h0 : pc < 38 := by
    refine Nat.not_le.mp (fun hq => ?_)
    have : code_ 52 pc = none := by
      show cd_52 pc = none
      unfold cd_52
      rw [Nat.ble_eq_true_of_le hq]; rfl
    rw [this] at h; cases h
  by_cases h1 : pc < 38
  · exact ckP_ok ckm_52_0 (by omega) (by omega) h
  omega
theorem ckc_53 : hw_ (cw_ 53) (.code (yn_ 53) (bts_ 53) (mxl_ 53) (rt_ 53)) = true := by
  have h : (ch_ (cw_ 53 / 240))[cw_ 53 % 240]? = some (Cond.code (yn_ 53) (bts_ 53) (mxl_ 53) (rt_ 53)) := by
    exact (Eq.refl _ : (ch_ (cw_ 53 / 240))[cw_ 53 % 240]? = _)
  unfold hw_
  rw [decide_eq_true h]
  rfl
theorem cky_53 : ckY 53 = true := by
  unfold ckY
  simp only [ckc_53, Bool.true_and]
  decide +kernel
set_option maxRecDepth 100000 in
theorem ckm_53_0 : ckP 53 0 64 = true := by decide +kernel
set_option maxRecDepth 100000 in
theorem ckm_53_1 : ckP 53 64 32 = true := by decide +kernel
theorem cka_53 (pc : Nat) (e : aE) (h : code_ 53 pc = some e) : ckE 53 pc e = true := by
  have h0 : pc < 96 := by
    refine Nat.not_le.mp (fun hq => ?_)
    have : code_ 53 pc = none := by
      show cd_53 pc = none
      unfold cd_53
      rw [Nat.ble_eq_true_of_le hq]; rfl
    rw [this] at h; cases h
  by_cases h1 : pc < 64
  · exact ckP_ok ckm_53_0 (by omega) (by omega) h
  by_cases h2 : pc < 96
  · exact ckP_ok ckm_53_1 (by omega) (by omega) h
  omega
theorem ckc_54 : hw_ (cw_ 54) (.code (yn_ 54) (bts_ 54) (mxl_ 54) (rt_ 54)) = true := by
  have h : (ch_ (cw_ 54 / 240))[cw_ 54 % 240]? = some (Cond.code (yn_ 54) (bts_ 54) (mxl_ 54) (rt_ 54)) := by
    exact (Eq.refl _ : (ch_ (cw_ 54 / 240))[cw_ 54 % 240]? = _)
  unfold hw_
  rw [decide_eq_true h]
  rfl
theorem cky_54 : ckY 54 = true := by
  unfold ckY
  simp only [ckc_54, Bool.true_and]
  decide +kernel
set_option maxRecDepth 100000 in
theorem ckm_54_0 : ckP 54 0 64 = true := by decide +kernel
set_option maxRecDepth 100000 in
theorem ckm_54_1 : ckP 54 64 51 = true := by decide +kernel
theorem cka_54 (pc : Nat) (e : aE) (h : code_ 54 pc = some e) : ckE 54 pc e = true := by
  have h0 : pc < 115 := by
    refine Nat.not_le.mp (fun hq => ?_)
    have : code_ 54 pc = none := by
      show cd_54 pc = none
      unfold cd_54
      rw [Nat.ble_eq_true_of_le hq]; rfl
    rw [this] at h; cases h
  by_cases h1 : pc < 64
  · exact ckP_ok ckm_54_0 (by omega) (by omega) h
  by_cases h2 : pc < 115
  · exact ckP_ok ckm_54_1 (by omega) (by omega) h
  omega
theorem ckc_55 : hw_ (cw_ 55) (.code (yn_ 55) (bts_ 55) (mxl_ 55) (rt_ 55)) = true := by
  have h : (ch_ (cw_ 55 / 240))[cw_ 55 % 240]? = some (Cond.code (yn_ 55) (bts_ 55) (mxl_ 55) (rt_ 55)) := by
    exact (Eq.refl _ : (ch_ (cw_ 55 / 240))[cw_ 55 % 240]? = _)
  unfold hw_
  rw [decide_eq_true h]
  rfl
theorem cky_55 : ckY 55 = true := by
  unfold ckY
  simp only [ckc_55, Bool.true_and]
  decide +kernel
set_option maxRecDepth 100000 in
theorem ckm_55_0 : ckP 55 0 57 = true := by decide +kernel
theorem cka_55 (pc : Nat) (e : aE) (h : code_ 55 pc = some e) : ckE 55 pc e = true := by
  have h0 : pc < 57 := by
    refine Nat.not_le.mp (fun hq => ?_)
    have : code_ 55 pc = none := by
      show cd_55 pc = none
      unfold cd_55
      rw [Nat.ble_eq_true_of_le hq]; rfl
    rw [this] at h; cases h
  by_cases h1 : pc < 57
  · exact ckP_ok ckm_55_0 (by omega) (by omega) h
  omega
theorem ckc_56 : hw_ (cw_ 56) (.code (yn_ 56) (bts_ 56) (mxl_ 56) (rt_ 56)) = true := by
  have h : (ch_ (cw_ 56 / 240))[cw_ 56 % 240]? = some (Cond.code (yn_ 56) (bts_ 56) (mxl_ 56) (rt_ 56)) := by
    exact (Eq.refl _ : (ch_ (cw_ 56 / 240))[cw_ 56 % 240]? = _)
  unfold hw_
  rw [decide_eq_true h]
  rfl
theorem cky_56 : ckY 56 = true := by
  unfold ckY
  simp only [ckc_56, Bool.true_and]
  decide +kernel
set_option maxRecDepth 100000 in
theorem ckm_56_0 : ckP 56 0 31 = true := by decide +kernel
theorem cka_56 (pc : Nat) (e : aE) (h : code_ 56 pc = some e) : ckE 56 pc e = true := by
  have h0 : pc < 31 := by
    refine Nat.not_le.mp (fun hq => ?_)
    have : code_ 56 pc = none := by
      show cd_56 pc = none
      unfold cd_56
      rw [Nat.ble_eq_true_of_le hq]; rfl
    rw [this] at h; cases h
  by_cases h1 : pc < 31
  · exact ckP_ok ckm_56_0 (by omega) (by omega) h
  omega
theorem ckc_57 : hw_ (cw_ 57) (.code (yn_ 57) (bts_ 57) (mxl_ 57) (rt_ 57)) = true := by
  have h : (ch_ (cw_ 57 / 240))[cw_ 57 % 240]? = some (Cond.code (yn_ 57) (bts_ 57) (mxl_ 57) (rt_ 57)) := by
    exact (Eq.refl _ : (ch_ (cw_ 57 / 240))[cw_ 57 % 240]? = _)
  unfold hw_
  rw [decide_eq_true h]
  rfl
theorem cky_57 : ckY 57 = true := by
  unfold ckY
  simp only [ckc_57, Bool.true_and]
  decide +kernel
set_option maxRecDepth 100000 in
theorem ckm_57_0 : ckP 57 0 64 = true := by decide +kernel
set_option maxRecDepth 100000 in
theorem ckm_57_1 : ckP 57 64 48 = true := by decide +kernel
theorem cka_57 (pc : Nat) (e : aE) (h : code_ 57 pc = some e) : ckE 57 pc e = true := by
  have h0 : pc < 112 := by
    refine Nat.not_le.mp (fun hq => ?_)
    have : code_ 57 pc = none := by
      show cd_57 pc = none
      unfold cd_57
      rw [Nat.ble_eq_true_of_le hq]; rfl
    rw [this] at h; cases h
  by_cases h1 : pc < 64
  · exact ckP_ok ckm_57_0 (by omega) (by omega) h
  by_cases h2 : pc < 112
  · exact ckP_ok ckm_57_1 (by omega) (by omega) h
  omega
theorem ckc_58 : hw_ (cw_ 58) (.code (yn_ 58) (bts_ 58) (mxl_ 58) (rt_ 58)) = true := by
  have h : (ch_ (cw_ 58 / 240))[cw_ 58 % 240]? = some (Cond.code (yn_ 58) (bts_ 58) (mxl_ 58) (rt_ 58)) := by
    exact (Eq.refl _ : (ch_ (cw_ 58 / 240))[cw_ 58 % 240]? = _)
  unfold hw_
  rw [decide_eq_true h]
  rfl
theorem cky_58 : ckY 58 = true := by
  unfold ckY
  simp only [ckc_58, Bool.true_and]
  decide +kernel
set_option maxRecDepth 100000 in
theorem ckm_58_0 : ckP 58 0 22 = true := by decide +kernel
theorem cka_58 (pc : Nat) (e : aE) (h : code_ 58 pc = some e) : ckE 58 pc e = true := by
  have h0 : pc < 22 := by
    refine Nat.not_le.mp (fun hq => ?_)
    have : code_ 58 pc = none := by
      show cd_58 pc = none
      unfold cd_58
      rw [Nat.ble_eq_true_of_le hq]; rfl
    rw [this] at h; cases h
  by_cases h1 : pc < 22
  · exact ckP_ok ckm_58_0 (by omega) (by omega) h
  omega
theorem ckc_59 : hw_ (cw_ 59) (.code (yn_ 59) (bts_ 59) (mxl_ 59) (rt_ 59)) = true := by
  have h : (ch_ (cw_ 59 / 240))[cw_ 59 % 240]? = some (Cond.code (yn_ 59) (bts_ 59) (mxl_ 59) (rt_ 59)) := by
    exact (Eq.refl _ : (ch_ (cw_ 59 / 240))[cw_ 59 % 240]? = _)
  unfold hw_
  rw [decide_eq_true h]
  rfl
theorem cky_59 : ckY 59 = true := by
  unfold ckY
  simp only [ckc_59, Bool.true_and]
  decide +kernel
set_option maxRecDepth 100000 in
theorem ckm_59_0 : ckP 59 0 64 = true := by decide +kernel
set_option maxRecDepth 100000 in
theorem ckm_59_1 : ckP 59 64 64 = true := by decide +kernel
set_option maxRecDepth 100000 in
theorem ckm_59_2 : ckP 59 128 35 = true := by decide +kernel
theorem cka_59 (pc : Nat) (e : aE) (h : code_ 59 pc = some e) : ckE 59 pc e = true := by
  have h0 : pc < 163 := by
    refine Nat.not_le.mp (fun hq => ?_)
    have : code_ 59 pc = none := by
      show cd_59 pc = none
      unfold cd_59
      rw [Nat.ble_eq_true_of_le hq]; rfl
    rw [this] at h; cases h
  by_cases h1 : pc < 64
  · exact ckP_ok ckm_59_0 (by omega) (by omega) h
  by_cases h2 : pc < 128
  · exact ckP_ok ckm_59_1 (by omega) (by omega) h
  by_cases h3 : pc < 163
  · exact ckP_ok ckm_59_2 (by omega) (by omega) h
  omega
