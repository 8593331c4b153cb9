theorem cky_83 : ckY 83 = true := by decide +kernel
set_option maxRecDepth 100000 in
theorem ckm_83_0 : ckP 83 0 64 = true := by decide +kernel
set_option maxRecDepth 100000 in
theorem ckm_83_1 : ckP 83 64 64 = true := by decide +kernel
set_option maxRecDepth 100000 in
theorem ckm_83_2 : ckP 83 128 64 = true := by decide +kernel
set_option maxRecDepth 100000 in
theorem ckm_83_3 : ckP 83 192 40 = true := by decide +kernel
theorem cka_83 (pc : Nat) (e : aE) (h : code_ 83 pc = some e) : ckE 83 pc e = true := by
  have h0 : pc < 232 := by
    refine Nat.not_le.mp (fun hq => ?_)
    have : code_ 83 pc = none := by
      show cd_83 pc = none
      unfold cd_83
      rw [Nat.ble_eq_true_of_le hq]; rfl
    rw [this] at h; cases h
  by_cases h1 : pc < 64
  · exact ckP_ok ckm_83_0 (by omega) (by omega) h
  by_cases h2 : pc < 128
  · exact ckP_ok ckm_83_1 (by omega) (by omega) h
  by_cases h3 : pc < 192
  · exact ckP_ok ckm_83_2 (by omega) (by omega) h
  by_cases h4 : pc < 232
  · exact ckP_ok ckm_83_3 (by omega) (by omega) h
  omega
theorem cky_84 : ckY 84 = true := by decide +kernel
set_option maxRecDepth 100000 in
theorem ckm_84_0 : ckP 84 0 64 = true := by decide +kernel
set_option maxRecDepth 100000 in
theorem ckm_84_1 : ckP 84 64 64 = true := by decide +kernel
set_option maxRecDepth 100000 in
theorem ckm_84_2 : ckP 84 128 6 = true := by decide +kernel
theorem cka_84 (pc : Nat) (e : aE) (h : code_ 84 pc = some e) : ckE 84 pc e = true := by
  have h0 : pc < 134 := by
    refine Nat.not_le.mp (fun hq => ?_)
    have : code_ 84 pc = none := by
      show cd_84 pc = none
      unfold cd_84
      rw [Nat.ble_eq_true_of_le hq]; rfl
    rw [this] at h; cases h
  by_cases h1 : pc < 64
  · exact ckP_ok ckm_84_0 (by omega) (by omega) h
  by_cases h2 : pc < 128
  · exact ckP_ok ckm_84_1 (by omega) (by omega) h
  by_cases h3 : pc < 134
  · exact ckP_ok ckm_84_2 (by omega) (by omega) h
  omega
theorem cky_85 : ckY 85 = true := by decide +kernel
set_option maxRecDepth 100000 in
theorem ckm_85_0 : ckP 85 0 64 = true := by decide +kernel
set_option maxRecDepth 100000 in
theorem ckm_85_1 : ckP 85 64 64 = true := by decide +kernel
set_option maxRecDepth 100000 in
theorem ckm_85_2 : ckP 85 128 6 = true := by decide +kernel
theorem cka_85 (pc : Nat) (e : aE) (h : code_ 85 pc = some e) : ckE 85 pc e = true := by
  have h0 : pc < 134 := by
    refine Nat.not_le.mp (fun hq => ?_)
    have : code_ 85 pc = none := by
      show cd_85 pc = none
      unfold cd_85
      rw [Nat.ble_eq_true_of_le hq]; rfl
    rw [this] at h; cases h
  by_cases h1 : pc < 64
  · exact ckP_ok ckm_85_0 (by omega) (by omega) h
  by_cases h2 : pc < 128
  · exact ckP_ok ckm_85_1 (by omega) (by omega) h
  by_cases h3 : pc < 134
  · exact ckP_ok ckm_85_2 (by omega) (by omega) h
  omega
theorem cky_86 : ckY 86 = true := by decide +kernel
set_option maxRecDepth 100000 in
theorem ckm_86_0 : ckP 86 0 64 = true := by decide +kernel
set_option maxRecDepth 100000 in
theorem ckm_86_1 : ckP 86 64 7 = true := by decide +kernel
theorem cka_86 (pc : Nat) (e : aE) (h : code_ 86 pc = some e) : ckE 86 pc e = true := by
  have h0 : pc < 71 := by
    refine Nat.not_le.mp (fun hq => ?_)
    have : code_ 86 pc = none := by
      show cd_86 pc = none
      unfold cd_86
      rw [Nat.ble_eq_true_of_le hq]; rfl
    rw [this] at h; cases h
  by_cases h1 : pc < 64
  · exact ckP_ok ckm_86_0 (by omega) (by omega) h
  by_cases h2 : pc < 71
  · exact ckP_ok ckm_86_1 (by omega) (by omega) h
  omega
theorem cky_87 : ckY 87 = true := by decide +kernel
set_option maxRecDepth 100000 in
theorem ckm_87_0 : ckP 87 0 53 = true := by decide +kernel
theorem cka_87 (pc : Nat) (e : aE) (h : code_ 87 pc = some e) : ckE 87 pc e = true := by
  have h0 : pc < 53 := by
    refine Nat.not_le.mp (fun hq => ?_)
    have : code_ 87 pc = none := by
      show cd_87 pc = none
      unfold cd_87
      rw [Nat.ble_eq_true_of_le hq]; rfl
    rw [this] at h; cases h
  by_cases h1 : pc < 53
  · exact ckP_ok ckm_87_0 (by omega) (by omega) h
  omega
theorem cky_88 : ckY 88 = true := by decide +kernel
set_option maxRecDepth 100000 in
theorem ckm_88_0 : ckP 88 0 45 = true := by decide +kernel
theorem cka_88 (pc : Nat) (e : aE) (h : code_ 88 pc = some e) : ckE 88 pc e = true := by
  have h0 : pc < 45 := by
    refine Nat.not_le.mp (fun hq => ?_)
    have : code_ 88 pc = none := by
      show cd_88 pc = none
      unfold cd_88
      rw [Nat.ble_eq_true_of_le hq]; rfl
    rw [this] at h; cases h
  by_cases h1 : pc < 45
  · exact ckP_ok ckm_88_0 (by omega) (by omega) h
  omega
theorem cky_89 : ckY 89 = true := by decide +kernel
set_option maxRecDepth 100000 in
theorem ckm_89_0 : ckP 89 0 20 = true := by decide +kernel
theorem cka_89 (pc : Nat) (e : aE) (h : code_ 89 pc = some e) : ckE 89 pc e = true := by
  have h0 : pc < 20 := by
    refine Nat.not_le.mp (fun hq => ?_)
    have : code_ 89 pc = none := by
      show cd_89 pc = none
      unfold cd_89
      rw [Nat.ble_eq_true_of_le hq]; rfl
    rw [this] at h; cases h
  by_cases h1 : pc < 20
  · exact ckP_ok ckm_89_0 (by omega) (by omega) h
  omega
theorem cky_90 : ckY 90 = true := by decide +kernel
set_option maxRecDepth 100000 in
theorem ckm_90_0 : ckP 90 0 64 = true := by decide +kernel
set_option maxRecDepth 100000 in
theorem ckm_90_1 : ckP 90 64 64 = true := by decide +kernel
set_option maxRecDepth 100000 in
theorem ckm_90_2 : ckP 90 128 3 = true := by decide +kernel
theorem cka_90 (pc : Nat) (e : aE) (h : code_ 90 pc = some e) : ckE 90 pc e = true := by
  have h0 : pc < 131 := by
    refine Nat.not_le.mp (fun hq => ?_)
    have : code_ 90 pc = none := by
      show cd_90 pc = none
      unfold cd_90
      rw [Nat.ble_eq_true_of_le hq]; rfl
    rw [this] at h; cases h
  by_cases h1 : pc < 64
  · exact ckP_ok ckm_90_0 (by omega) (by omega) h
  by_cases h2 : pc < 128
  · exact ckP_ok ckm_90_1 (by omega) (by omega) h
  by_cases h3 : pc < 131
  · exact ckP_ok ckm_90_2 (by omega) (by omega) h
  omega
theorem cky_91 : ckY 91 = true := by decide +kernel
set_option maxRecDepth 100000 in
theorem ckm_91_0 : ckP 91 0 64 = true := by decide +kernel
set_option maxRecDepth 100000 in
theorem ckm_91_1 : ckP 91 64 64 = true := by decide +kernel
set_option maxRecDepth 100000 in
theorem ckm_91_2 : ckP 91 128 10 = true := by decide +kernel
theorem cka_91 (pc : Nat) (e : aE) (h : code_ 91 pc = some e) : ckE 91 pc e = true := by
  have h0 : pc < 138 := by
    refine Nat.not_le.mp (fun hq => ?_)
    have : code_ 91 pc = none := by
      show cd_91 pc = none
      unfold cd_91
      rw [Nat.ble_eq_true_of_le hq]; rfl
    rw [this] at h; cases h
  by_cases h1 : pc < 64
  · exact ckP_ok ckm_91_0 (by omega) (by omega) h
  by_cases h2 : pc < 128
  · exact ckP_ok ckm_91_1 (by omega) (by omega) h
  by_cases h3 : pc < 138
  · exact ckP_ok ckm_91_2 (by omega) (by omega) h
  omega
theorem cky_92 : ckY 92 = true := by decide +kernel
set_option maxRecDepth 100000 in
theorem ckm_92_0 : ckP 92 0 64 = true := by decide +kernel
set_option maxRecDepth 100000 in
theorem ckm_92_1 : ckP 92 64 51 = true := by decide +kernel
theorem cka_92 (pc : Nat) (e : aE) (h : code_ 92 pc = some e) : ckE 92 pc e = true := by
  have h0 : pc < 115 := by
    refine Nat.not_le.mp (fun hq => ?_)
    have : code_ 92 pc = none := by
      show cd_92 pc = none
      unfold cd_92
      rw [Nat.ble_eq_true_of_le hq]; rfl
    rw [this] at h; cases h
  by_cases h1 : pc < 64
  · exact ckP_ok ckm_92_0 (by omega) (by omega) h
  by_cases h2 : pc < 115
  · exact ckP_ok ckm_92_1 (by omega) (by omega) h
  omega
theorem cky_93 : ckY 93 = true := by decide +kernel
set_option maxRecDepth 100000 in
theorem ckm_93_0 : ckP 93 0 64 = true := by decide +kernel
set_option maxRecDepth 100000 in
theorem ckm_93_1 : ckP 93 64 64 = true := by decide +kernel
set_option maxRecDepth 100000 in
theorem ckm_93_2 : ckP 93 128 40 = true := by decide +kernel
theorem cka_93 (pc : Nat) (e : aE) (h : code_ 93 pc = some e) : ckE 93 pc e = true := by
  have h0 : pc < 168 := by
    refine Nat.not_le.mp (fun hq => ?_)
    have : code_ 93 pc = none := by
      show cd_93 pc = none
      unfold cd_93
      rw [Nat.ble_eq_true_of_le hq]; rfl
    rw [this] at h; cases h
  by_cases h1 : pc < 64
  · exact ckP_ok ckm_93_0 (by omega) (by omega) h
  by_cases h2 : pc < 128
  · exact ckP_ok ckm_93_1 (by omega) (by omega) h
  by_cases h3 : pc < 168
  · exact ckP_ok ckm_93_2 (by omega) (by omega) h
  omega
theorem cky_94 : ckY 94 = true := by decide +kernel
set_option maxRecDepth 100000 in
theorem ckm_94_0 : ckP 94 0 64 = true := by decide +kernel
set_option maxRecDepth 100000 in
theorem ckm_94_1 : ckP 94 64 16 = true := by decide +kernel
theorem cka_94 (pc : Nat) (e : aE) (h : code_ 94 pc = some e) : ckE 94 pc e = true := by
  have h0 : pc < 80 := by
    refine Nat.not_le.mp (fun hq => ?_)
    have : code_ 94 pc = none := by
      show cd_94 pc = none
      unfold cd_94
      rw [Nat.ble_eq_true_of_le hq]; rfl
    rw [this] at h; cases h
  by_cases h1 : pc < 64
  · exact ckP_ok ckm_94_0 (by omega) (by omega) h
  by_cases h2 : pc < 80
  · exact ckP_ok ckm_94_1 (by omega) (by omega) h
  omega
theorem cky_95 : ckY 95 = true := by decide +kernel
set_option maxRecDepth 100000 in
theorem ckm_95_0 : ckP 95 0 64 = true := by decide +kernel
set_option maxRecDepth 100000 in
theorem ckm_95_1 : ckP 95 64 11 = true := by decide +kernel
theorem cka_95 (pc : Nat) (e : aE) (h : code_ 95 pc = some e) : ckE 95 pc e = true := by
  have h0 : pc < 75 := by
    refine Nat.not_le.mp (fun hq => ?_)
    have : code_ 95 pc = none := by
      show cd_95 pc = none
      unfold cd_95
      rw [Nat.ble_eq_true_of_le hq]; rfl
    rw [this] at h; cases h
  by_cases h1 : pc < 64
  · exact ckP_ok ckm_95_0 (by omega) (by omega) h
  by_cases h2 : pc < 75
  · exact ckP_ok ckm_95_1 (by omega) (by omega) h
  omega
theorem cky_96 : ckY 96 = true := by decide +kernel
set_option maxRecDepth 100000 in
theorem ckm_96_0 : ckP 96 0 53 = true := by decide +kernel
theorem cka_96 (pc : Nat) (e : aE) (h : code_ 96 pc = some e) : ckE 96 pc e = true := by
  have h0 : pc < 53 := by
    refine Nat.not_le.mp (fun hq => ?_)
    have : code_ 96 pc = none := by
      show cd_96 pc = none
      unfold cd_96
      rw [Nat.ble_eq_true_of_le hq]; rfl
    rw [this] at h; cases h
  by_cases h1 : pc < 53
  · exact ckP_ok ckm_96_0 (by omega) (by omega) h
  omega
theorem cky_97 : ckY 97 = true := by decide +kernel
set_option maxRecDepth 100000 in
theorem ckm_97_0 : ckP 97 0 53 = true := by decide +kernel
theorem cka_97 (pc : Nat) (e : aE) (h : code_ 97 pc = some e) : ckE 97 pc e = true := by
  have h0 : pc < 53 := by
    refine Nat.not_le.mp (fun hq => ?_)
    have : code_ 97 pc = none := by
      show cd_97 pc = none
      unfold cd_97
      rw [Nat.ble_eq_true_of_le hq]; rfl
    rw [this] at h; cases h
  by_cases h1 : pc < 53
  · exact ckP_ok ckm_97_0 (by omega) (by omega) h
  omega
theorem cky_98 : ckY 98 = true := by decide +kernel
set_option maxRecDepth 100000 in
theorem ckm_98_0 : ckP 98 0 54 = true := by decide +kernel
theorem cka_98 (pc : Nat) (e : aE) (h : code_ 98 pc = some e) : ckE 98 pc e = true := by
  have h0 : pc < 54 := by
    refine Nat.not_le.mp (fun hq => ?_)
    have : code_ 98 pc = none := by
      show cd_98 pc = none
      unfold cd_98
      rw [Nat.ble_eq_true_of_le hq]; rfl
    rw [this] at h; cases h
  by_cases h1 : pc < 54
  · exact ckP_ok ckm_98_0 (by omega) (by omega) h
  omega
theorem cky_99 : ckY 99 = true := by decide +kernel
set_option maxRecDepth 100000 in
theorem ckm_99_0 : ckP 99 0 21 = true := by decide +kernel
theorem cka_99 (pc : Nat) (e : aE) (h : code_ 99 pc = some e) : ckE 99 pc e = true := by
  have h0 : pc < 21 := by
    refine Nat.not_le.mp (fun hq => ?_)
    have : code_ 99 pc = none := by
      show cd_99 pc = none
      unfold cd_99
      rw [Nat.ble_eq_true_of_le hq]; rfl
    rw [this] at h; cases h
  by_cases h1 : pc < 21
  · exact ckP_ok ckm_99_0 (by omega) (by omega) h
  omega
theorem cky_100 : ckY 100 = true := by decide +kernel
set_option maxRecDepth 100000 in
theorem ckm_100_0 : ckP 100 0 64 = true := by decide +kernel
set_option maxRecDepth 100000 in
theorem ckm_100_1 : ckP 100 64 2 = true := by decide +kernel
theorem cka_100 (pc : Nat) (e : aE) (h : code_ 100 pc = some e) : ckE 100 pc e = true := by
  have h0 : pc < 66 := by
    refine Nat.not_le.mp (fun hq => ?_)
    have : code_ 100 pc = none := by
      show cd_100 pc = none
      unfold cd_100
      rw [Nat.ble_eq_true_of_le hq]; rfl
    rw [this] at h; cases h
  by_cases h1 : pc < 64
  · exact ckP_ok ckm_100_0 (by omega) (by omega) h
  by_cases h2 : pc < 66
  · exact ckP_ok ckm_100_1 (by omega) (by omega) h
  omega
theorem cky_101 : ckY 101 = true := by decide +kernel
set_option maxRecDepth 100000 in
theorem ckm_101_0 : ckP 101 0 56 = true := by decide +kernel
theorem cka_101 (pc : Nat) (e : aE) (h : code_ 101 pc = some e) : ckE 101 pc e = true := by
  have h0 : pc < 56 := by
    refine Nat.not_le.mp (fun hq => ?_)
    have : code_ 101 pc = none := by
      show cd_101 pc = none
      unfold cd_101
      rw [Nat.ble_eq_true_of_le hq]; rfl
    rw [this] at h; cases h
  by_cases h1 : pc < 56
  · exact ckP_ok ckm_101_0 (by omega) (by omega) h
  omega
theorem cky_102 : ckY 102 = true := by decide +kernel
set_option maxRecDepth 100000 in
theorem ckm_102_0 : ckP 102 0 58 = true := by decide +kernel
theorem cka_102 (pc : Nat) (e : aE) (h : code_ 102 pc = some e) : ckE 102 pc e = true := by
  have h0 : pc < 58 := by
    refine Nat.not_le.mp (fun hq => ?_)
    have : code_ 102 pc = none := by
      show cd_102 pc = none
      unfold cd_102
      rw [Nat.ble_eq_true_of_le hq]; rfl
    rw [this] at h; cases h
  by_cases h1 : pc < 58
  · exact ckP_ok ckm_102_0 (by omega) (by omega) h
  omega
theorem cky_103 : ckY 103 = true := by decide +kernel
set_option maxRecDepth 100000 in
theorem ckm_103_0 : ckP 103 0 33 = true := by decide +kernel
theorem cka_103 (pc : Nat) (e : aE) (h : code_ 103 pc = some e) : ckE 103 pc e = true := by
  have h0 : pc < 33 := by
    refine Nat.not_le.mp (fun hq => ?_)
    have : code_ 103 pc = none := by
      show cd_103 pc = none
      unfold cd_103
      rw [Nat.ble_eq_true_of_le hq]; rfl
    rw [this] at h; cases h
  by_cases h1 : pc < 33
  · exact ckP_ok ckm_103_0 (by omega) (by omega) h
  omega
theorem cky_104 : ckY 104 = true := by decide +kernel
set_option maxRecDepth 100000 in
theorem ckm_104_0 : ckP 104 0 48 = true := by decide +kernel
theorem cka_104 (pc : Nat) (e : aE) (h : code_ 104 pc = some e) : ckE 104 pc e = true := by
  have h0 : pc < 48 := by
    refine Nat.not_le.mp (fun hq => ?_)
    have : code_ 104 pc = none := by
      show cd_104 pc = none
      unfold cd_104
      rw [Nat.ble_eq_true_of_le hq]; rfl
    rw [this] at h; cases h
  by_cases h1 : pc < 48
  · exact ckP_ok ckm_104_0 (by omega) (by omega) h
  omega
theorem cky_105 : ckY 105 = true := by decide +kernel
set_option maxRecDepth 100000 in
theorem ckm_105_0 : ckP 105 0 12 = true := by decide +kernel
theorem cka_105 (pc : Nat) (e : aE) (h : code_ 105 pc = some e) : ckE 105 pc e = true := by
  have h0 : pc < 12 := by
    refine Nat.not_le.mp (fun hq => ?_)
    have : code_ 105 pc = none := by
      show cd_105 pc = none
      unfold cd_105
      rw [Nat.ble_eq_true_of_le hq]; rfl
    rw [this] at h; cases h
  by_cases h1 : pc < 12
  · exact ckP_ok ckm_105_0 (by omega) (by omega) h
  omega
theorem cky_106 : ckY 106 = true := by decide +kernel
set_option maxRecDepth 100000 in
theorem ckm_106_0 : ckP 106 0 12 = true := by decide +kernel
theorem cka_106 (pc : Nat) (e : aE) (h : code_ 106 pc = some e) : ckE 106 pc e = true := by
  have h0 : pc < 12 := by
    refine Nat.not_le.mp (fun hq => ?_)
    have : code_ 106 pc = none := by
      show cd_106 pc = none
      unfold cd_106
      rw [Nat.ble_eq_true_of_le hq]; rfl
    rw [this] at h; cases h
  by_cases h1 : pc < 12
  · exact ckP_ok ckm_106_0 (by omega) (by omega) h
  omega
theorem cky_107 : ckY 107 = true := by decide +kernel
set_option maxRecDepth 100000 in
theorem ckm_107_0 : ckP 107 0 23 = true := by decide +kernel
theorem cka_107 (pc : Nat) (e : aE) (h : code_ 107 pc = some e) : ckE 107 pc e = true := by
  have h0 : pc < 23 := by
    refine Nat.not_le.mp (fun hq => ?_)
    have : code_ 107 pc = none := by
      show cd_107 pc = none
      unfold cd_107
      rw [Nat.ble_eq_true_of_le hq]; rfl
    rw [this] at h; cases h
  by_cases h1 : pc < 23
  · exact ckP_ok ckm_107_0 (by omega) (by omega) h
  omega
theorem cky_108 : ckY 108 = true := by decide +kernel
set_option maxRecDepth 100000 in
theorem ckm_108_0 : ckP 108 0 26 = true := by decide +kernel
theorem cka_108 (pc : Nat) (e : aE) (h : code_ 108 pc = some e) : ckE 108 pc e = true := by
  have h0 : pc < 26 := by
    refine Nat.not_le.mp (fun hq => ?_)
    have : code_ 108 pc = none := by
      show cd_108 pc = none
      unfold cd_108
      rw [Nat.ble_eq_true_of_le hq]; rfl
    rw [this] at h; cases h
  by_cases h1 : pc < 26
  · exact ckP_ok ckm_108_0 (by omega) (by omega) h
  omega
theorem cky_109 : ckY 109 = true := by decide +kernel
set_option maxRecDepth 100000 in
theorem ckm_109_0 : ckP 109 0 64 = true := by decide +kernel
set_option maxRecDepth 100000 in
theorem ckm_109_1 : ckP 109 64 28 = true := by decide +kernel
theorem cka_109 (pc : Nat) (e : aE) (h : code_ 109 pc = some e) : ckE 109 pc e = true := by
  have h0 : pc < 92 := by
    refine Nat.not_le.mp (fun hq => ?_)
    have : code_ 109 pc = none := by
      show cd_109 pc = none
      unfold cd_109
      rw [Nat.ble_eq_true_of_le hq]; rfl
    rw [this] at h; cases h
  by_cases h1 : pc < 64
  · exact ckP_ok ckm_109_0 (by omega) (by omega) h
  by_cases h2 : pc < 92
  · exact ckP_ok ckm_109_1 (by omega) (by omega) h
  omega
