theorem cky_137 : ckY 137 = true := by decide +kernel
set_option maxRecDepth 100000 in
theorem ckm_137_0 : ckP 137 0 47 = true := by decide +kernel
theorem cka_137 (pc : Nat) (e : aE) (h : code_ 137 pc = some e) : ckE 137 pc e = true := by
  have h0 : pc < 47 := by
    refine Nat.not_le.mp (fun hq => ?_)
    have : code_ 137 pc = none := by
      show cd_137 pc = none
      unfold cd_137
      rw [Nat.ble_eq_true_of_le hq]; rfl
    rw [this] at h; cases h
  by_cases h1 : pc < 47
  · exact ckP_ok ckm_137_0 (by omega) (by omega) h
  omega
theorem cky_138 : ckY 138 = true := by decide +kernel
set_option maxRecDepth 100000 in
theorem ckm_138_0 : ckP 138 0 42 = true := by decide +kernel
theorem cka_138 (pc : Nat) (e : aE) (h : code_ 138 pc = some e) : ckE 138 pc e = true := by
  have h0 : pc < 42 := by
    refine Nat.not_le.mp (fun hq => ?_)
    have : code_ 138 pc = none := by
      show cd_138 pc = none
      unfold cd_138
      rw [Nat.ble_eq_true_of_le hq]; rfl
    rw [this] at h; cases h
  by_cases h1 : pc < 42
  · exact ckP_ok ckm_138_0 (by omega) (by omega) h
  omega
theorem cky_139 : ckY 139 = true := by decide +kernel
set_option maxRecDepth 100000 in
theorem ckm_139_0 : ckP 139 0 51 = true := by decide +kernel
theorem cka_139 (pc : Nat) (e : aE) (h : code_ 139 pc = some e) : ckE 139 pc e = true := by
  have h0 : pc < 51 := by
    refine Nat.not_le.mp (fun hq => ?_)
    have : code_ 139 pc = none := by
      show cd_139 pc = none
      unfold cd_139
      rw [Nat.ble_eq_true_of_le hq]; rfl
    rw [this] at h; cases h
  by_cases h1 : pc < 51
  · exact ckP_ok ckm_139_0 (by omega) (by omega) h
  omega
theorem cky_140 : ckY 140 = true := by decide +kernel
set_option maxRecDepth 100000 in
theorem ckm_140_0 : ckP 140 0 34 = true := by decide +kernel
theorem cka_140 (pc : Nat) (e : aE) (h : code_ 140 pc = some e) : ckE 140 pc e = true := by
  have h0 : pc < 34 := by
    refine Nat.not_le.mp (fun hq => ?_)
    have : code_ 140 pc = none := by
      show cd_140 pc = none
      unfold cd_140
      rw [Nat.ble_eq_true_of_le hq]; rfl
    rw [this] at h; cases h
  by_cases h1 : pc < 34
  · exact ckP_ok ckm_140_0 (by omega) (by omega) h
  omega
theorem cky_141 : ckY 141 = true := by decide +kernel
set_option maxRecDepth 100000 in
theorem ckm_141_0 : ckP 141 0 51 = true := by decide +kernel
theorem cka_141 (pc : Nat) (e : aE) (h : code_ 141 pc = some e) : ckE 141 pc e = true := by
  have h0 : pc < 51 := by
    refine Nat.not_le.mp (fun hq => ?_)
    have : code_ 141 pc = none := by
      show cd_141 pc = none
      unfold cd_141
      rw [Nat.ble_eq_true_of_le hq]; rfl
    rw [this] at h; cases h
  by_cases h1 : pc < 51
  · exact ckP_ok ckm_141_0 (by omega) (by omega) h
  omega
theorem cky_142 : ckY 142 = true := by decide +kernel
set_option maxRecDepth 100000 in
theorem ckm_142_0 : ckP 142 0 30 = true := by decide +kernel
theorem cka_142 (pc : Nat) (e : aE) (h : code_ 142 pc = some e) : ckE 142 pc e = true := by
  have h0 : pc < 30 := by
    refine Nat.not_le.mp (fun hq => ?_)
    have : code_ 142 pc = none := by
      show cd_142 pc = none
      unfold cd_142
      rw [Nat.ble_eq_true_of_le hq]; rfl
    rw [this] at h; cases h
  by_cases h1 : pc < 30
  · exact ckP_ok ckm_142_0 (by omega) (by omega) h
  omega
theorem cky_143 : ckY 143 = true := by decide +kernel
set_option maxRecDepth 100000 in
theorem ckm_143_0 : ckP 143 0 28 = true := by decide +kernel
theorem cka_143 (pc : Nat) (e : aE) (h : code_ 143 pc = some e) : ckE 143 pc e = true := by
  have h0 : pc < 28 := by
    refine Nat.not_le.mp (fun hq => ?_)
    have : code_ 143 pc = none := by
      show cd_143 pc = none
      unfold cd_143
      rw [Nat.ble_eq_true_of_le hq]; rfl
    rw [this] at h; cases h
  by_cases h1 : pc < 28
  · exact ckP_ok ckm_143_0 (by omega) (by omega) h
  omega
theorem cky_144 : ckY 144 = true := by decide +kernel
set_option maxRecDepth 100000 in
theorem ckm_144_0 : ckP 144 0 32 = true := by decide +kernel
theorem cka_144 (pc : Nat) (e : aE) (h : code_ 144 pc = some e) : ckE 144 pc e = true := by
  have h0 : pc < 32 := by
    refine Nat.not_le.mp (fun hq => ?_)
    have : code_ 144 pc = none := by
      show cd_144 pc = none
      unfold cd_144
      rw [Nat.ble_eq_true_of_le hq]; rfl
    rw [this] at h; cases h
  by_cases h1 : pc < 32
  · exact ckP_ok ckm_144_0 (by omega) (by omega) h
  omega
theorem cky_145 : ckY 145 = true := by decide +kernel
set_option maxRecDepth 100000 in
theorem ckm_145_0 : ckP 145 0 8 = true := by decide +kernel
theorem cka_145 (pc : Nat) (e : aE) (h : code_ 145 pc = some e) : ckE 145 pc e = true := by
  have h0 : pc < 8 := by
    refine Nat.not_le.mp (fun hq => ?_)
    have : code_ 145 pc = none := by
      show cd_145 pc = none
      unfold cd_145
      rw [Nat.ble_eq_true_of_le hq]; rfl
    rw [this] at h; cases h
  by_cases h1 : pc < 8
  · exact ckP_ok ckm_145_0 (by omega) (by omega) h
  omega
theorem cky_146 : ckY 146 = true := by decide +kernel
set_option maxRecDepth 100000 in
theorem ckm_146_0 : ckP 146 0 13 = true := by decide +kernel
theorem cka_146 (pc : Nat) (e : aE) (h : code_ 146 pc = some e) : ckE 146 pc e = true := by
  have h0 : pc < 13 := by
    refine Nat.not_le.mp (fun hq => ?_)
    have : code_ 146 pc = none := by
      show cd_146 pc = none
      unfold cd_146
      rw [Nat.ble_eq_true_of_le hq]; rfl
    rw [this] at h; cases h
  by_cases h1 : pc < 13
  · exact ckP_ok ckm_146_0 (by omega) (by omega) h
  omega
theorem cky_147 : ckY 147 = true := by decide +kernel
set_option maxRecDepth 100000 in
theorem ckm_147_0 : ckP 147 0 64 = true := by decide +kernel
set_option maxRecDepth 100000 in
theorem ckm_147_1 : ckP 147 64 62 = true := by decide +kernel
theorem cka_147 (pc : Nat) (e : aE) (h : code_ 147 pc = some e) : ckE 147 pc e = true := by
  have h0 : pc < 126 := by
    refine Nat.not_le.mp (fun hq => ?_)
    have : code_ 147 pc = none := by
      show cd_147 pc = none
      unfold cd_147
      rw [Nat.ble_eq_true_of_le hq]; rfl
    rw [this] at h; cases h
  by_cases h1 : pc < 64
  · exact ckP_ok ckm_147_0 (by omega) (by omega) h
  by_cases h2 : pc < 126
  · exact ckP_ok ckm_147_1 (by omega) (by omega) h
  omega
theorem cky_148 : ckY 148 = true := by decide +kernel
set_option maxRecDepth 100000 in
theorem ckm_148_0 : ckP 148 0 47 = true := by decide +kernel
theorem cka_148 (pc : Nat) (e : aE) (h : code_ 148 pc = some e) : ckE 148 pc e = true := by
  have h0 : pc < 47 := by
    refine Nat.not_le.mp (fun hq => ?_)
    have : code_ 148 pc = none := by
      show cd_148 pc = none
      unfold cd_148
      rw [Nat.ble_eq_true_of_le hq]; rfl
    rw [this] at h; cases h
  by_cases h1 : pc < 47
  · exact ckP_ok ckm_148_0 (by omega) (by omega) h
  omega
theorem cky_149 : ckY 149 = true := by decide +kernel
set_option maxRecDepth 100000 in
theorem ckm_149_0 : ckP 149 0 47 = true := by decide +kernel
theorem cka_149 (pc : Nat) (e : aE) (h : code_ 149 pc = some e) : ckE 149 pc e = true := by
  have h0 : pc < 47 := by
    refine Nat.not_le.mp (fun hq => ?_)
    have : code_ 149 pc = none := by
      show cd_149 pc = none
      unfold cd_149
      rw [Nat.ble_eq_true_of_le hq]; rfl
    rw [this] at h; cases h
  by_cases h1 : pc < 47
  · exact ckP_ok ckm_149_0 (by omega) (by omega) h
  omega
theorem cky_150 : ckY 150 = true := by decide +kernel
set_option maxRecDepth 100000 in
theorem ckm_150_0 : ckP 150 0 26 = true := by decide +kernel
theorem cka_150 (pc : Nat) (e : aE) (h : code_ 150 pc = some e) : ckE 150 pc e = true := by
  have h0 : pc < 26 := by
    refine Nat.not_le.mp (fun hq => ?_)
    have : code_ 150 pc = none := by
      show cd_150 pc = none
      unfold cd_150
      rw [Nat.ble_eq_true_of_le hq]; rfl
    rw [this] at h; cases h
  by_cases h1 : pc < 26
  · exact ckP_ok ckm_150_0 (by omega) (by omega) h
  omega
theorem cky_151 : ckY 151 = true := by decide +kernel
set_option maxRecDepth 100000 in
theorem ckm_151_0 : ckP 151 0 34 = true := by decide +kernel
theorem cka_151 (pc : Nat) (e : aE) (h : code_ 151 pc = some e) : ckE 151 pc e = true := by
  have h0 : pc < 34 := by
    refine Nat.not_le.mp (fun hq => ?_)
    have : code_ 151 pc = none := by
      show cd_151 pc = none
      unfold cd_151
      rw [Nat.ble_eq_true_of_le hq]; rfl
    rw [this] at h; cases h
  by_cases h1 : pc < 34
  · exact ckP_ok ckm_151_0 (by omega) (by omega) h
  omega
theorem cky_152 : ckY 152 = true := by decide +kernel
set_option maxRecDepth 100000 in
theorem ckm_152_0 : ckP 152 0 64 = true := by decide +kernel
set_option maxRecDepth 100000 in
theorem ckm_152_1 : ckP 152 64 64 = true := by decide +kernel
set_option maxRecDepth 100000 in
theorem ckm_152_2 : ckP 152 128 64 = true := by decide +kernel
set_option maxRecDepth 100000 in
theorem ckm_152_3 : ckP 152 192 64 = true := by decide +kernel
set_option maxRecDepth 100000 in
theorem ckm_152_4 : ckP 152 256 64 = true := by decide +kernel
set_option maxRecDepth 100000 in
theorem ckm_152_5 : ckP 152 320 64 = true := by decide +kernel
set_option maxRecDepth 100000 in
theorem ckm_152_6 : ckP 152 384 64 = true := by decide +kernel
set_option maxRecDepth 100000 in
theorem ckm_152_7 : ckP 152 448 64 = true := by decide +kernel
set_option maxRecDepth 100000 in
theorem ckm_152_8 : ckP 152 512 64 = true := by decide +kernel
set_option maxRecDepth 100000 in
theorem ckm_152_9 : ckP 152 576 32 = true := by decide +kernel
theorem cka_152 (pc : Nat) (e : aE) (h : code_ 152 pc = some e) : ckE 152 pc e = true := by
  have h0 : pc < 608 := by
    refine Nat.not_le.mp (fun hq => ?_)
    have : code_ 152 pc = none := by
      show cd_152 pc = none
      unfold cd_152
      rw [Nat.ble_eq_true_of_le hq]; rfl
    rw [this] at h; cases h
  by_cases h1 : pc < 64
  · exact ckP_ok ckm_152_0 (by omega) (by omega) h
  by_cases h2 : pc < 128
  · exact ckP_ok ckm_152_1 (by omega) (by omega) h
  by_cases h3 : pc < 192
  · exact ckP_ok ckm_152_2 (by omega) (by omega) h
  by_cases h4 : pc < 256
  · exact ckP_ok ckm_152_3 (by omega) (by omega) h
  by_cases h5 : pc < 320
  · exact ckP_ok ckm_152_4 (by omega) (by omega) h
  by_cases h6 : pc < 384
  · exact ckP_ok ckm_152_5 (by omega) (by omega) h
  by_cases h7 : pc < 448
  · exact ckP_ok ckm_152_6 (by omega) (by omega) h
  by_cases h8 : pc < 512
  · exact ckP_ok ckm_152_7 (by omega) (by omega) h
  by_cases h9 : pc < 576
  · exact ckP_ok ckm_152_8 (by omega) (by omega) h
  by_cases h10 : pc < 608
  · exact ckP_ok ckm_152_9 (by omega) (by omega) h
  omega
theorem cky_153 : ckY 153 = true := by decide +kernel
set_option maxRecDepth 100000 in
theorem ckm_153_0 : ckP 153 0 5 = true := by decide +kernel
theorem cka_153 (pc : Nat) (e : aE) (h : code_ 153 pc = some e) : ckE 153 pc e = true := by
  have h0 : pc < 5 := by
    refine Nat.not_le.mp (fun hq => ?_)
    have : code_ 153 pc = none := by
      show cd_153 pc = none
      unfold cd_153
      rw [Nat.ble_eq_true_of_le hq]; rfl
    rw [this] at h; cases h
  by_cases h1 : pc < 5
  · exact ckP_ok ckm_153_0 (by omega) (by omega) h
  omega
theorem cky_154 : ckY 154 = true := by decide +kernel
set_option maxRecDepth 100000 in
theorem ckm_154_0 : ckP 154 0 64 = true := by decide +kernel
set_option maxRecDepth 100000 in
theorem ckm_154_1 : ckP 154 64 64 = true := by decide +kernel
set_option maxRecDepth 100000 in
theorem ckm_154_2 : ckP 154 128 1 = true := by decide +kernel
theorem cka_154 (pc : Nat) (e : aE) (h : code_ 154 pc = some e) : ckE 154 pc e = true := by
  have h0 : pc < 129 := by
    refine Nat.not_le.mp (fun hq => ?_)
    have : code_ 154 pc = none := by
      show cd_154 pc = none
      unfold cd_154
      rw [Nat.ble_eq_true_of_le hq]; rfl
    rw [this] at h; cases h
  by_cases h1 : pc < 64
  · exact ckP_ok ckm_154_0 (by omega) (by omega) h
  by_cases h2 : pc < 128
  · exact ckP_ok ckm_154_1 (by omega) (by omega) h
  by_cases h3 : pc < 129
  · exact ckP_ok ckm_154_2 (by omega) (by omega) h
  omega
theorem cky_155 : ckY 155 = true := by decide +kernel
set_option maxRecDepth 100000 in
theorem ckm_155_0 : ckP 155 0 16 = true := by decide +kernel
theorem cka_155 (pc : Nat) (e : aE) (h : code_ 155 pc = some e) : ckE 155 pc e = true := by
  have h0 : pc < 16 := by
    refine Nat.not_le.mp (fun hq => ?_)
    have : code_ 155 pc = none := by
      show cd_155 pc = none
      unfold cd_155
      rw [Nat.ble_eq_true_of_le hq]; rfl
    rw [this] at h; cases h
  by_cases h1 : pc < 16
  · exact ckP_ok ckm_155_0 (by omega) (by omega) h
  omega
theorem cky_156 : ckY 156 = true := by decide +kernel
set_option maxRecDepth 100000 in
theorem ckm_156_0 : ckP 156 0 15 = true := by decide +kernel
theorem cka_156 (pc : Nat) (e : aE) (h : code_ 156 pc = some e) : ckE 156 pc e = true := by
  have h0 : pc < 15 := by
    refine Nat.not_le.mp (fun hq => ?_)
    have : code_ 156 pc = none := by
      show cd_156 pc = none
      unfold cd_156
      rw [Nat.ble_eq_true_of_le hq]; rfl
    rw [this] at h; cases h
  by_cases h1 : pc < 15
  · exact ckP_ok ckm_156_0 (by omega) (by omega) h
  omega
theorem cky_157 : ckY 157 = true := by decide +kernel
set_option maxRecDepth 100000 in
theorem ckm_157_0 : ckP 157 0 64 = true := by decide +kernel
set_option maxRecDepth 100000 in
theorem ckm_157_1 : ckP 157 64 64 = true := by decide +kernel
theorem cka_157 (pc : Nat) (e : aE) (h : code_ 157 pc = some e) : ckE 157 pc e = true := by
  have h0 : pc < 128 := by
    refine Nat.not_le.mp (fun hq => ?_)
    have : code_ 157 pc = none := by
      show cd_157 pc = none
      unfold cd_157
      rw [Nat.ble_eq_true_of_le hq]; rfl
    rw [this] at h; cases h
  by_cases h1 : pc < 64
  · exact ckP_ok ckm_157_0 (by omega) (by omega) h
  by_cases h2 : pc < 128
  · exact ckP_ok ckm_157_1 (by omega) (by omega) h
  omega
theorem cky_158 : ckY 158 = true := by decide +kernel
set_option maxRecDepth 100000 in
theorem ckm_158_0 : ckP 158 0 36 = true := by decide +kernel
theorem cka_158 (pc : Nat) (e : aE) (h : code_ 158 pc = some e) : ckE 158 pc e = true := by
  have h0 : pc < 36 := by
    refine Nat.not_le.mp (fun hq => ?_)
    have : code_ 158 pc = none := by
      show cd_158 pc = none
      unfold cd_158
      rw [Nat.ble_eq_true_of_le hq]; rfl
    rw [this] at h; cases h
  by_cases h1 : pc < 36
  · exact ckP_ok ckm_158_0 (by omega) (by omega) h
  omega
theorem cky_159 : ckY 159 = true := by decide +kernel
set_option maxRecDepth 100000 in
theorem ckm_159_0 : ckP 159 0 36 = true := by decide +kernel
theorem cka_159 (pc : Nat) (e : aE) (h : code_ 159 pc = some e) : ckE 159 pc e = true := by
  have h0 : pc < 36 := by
    refine Nat.not_le.mp (fun hq => ?_)
    have : code_ 159 pc = none := by
      show cd_159 pc = none
      unfold cd_159
      rw [Nat.ble_eq_true_of_le hq]; rfl
    rw [this] at h; cases h
  by_cases h1 : pc < 36
  · exact ckP_ok ckm_159_0 (by omega) (by omega) h
  omega
theorem cky_160 : ckY 160 = true := by decide +kernel
set_option maxRecDepth 100000 in
theorem ckm_160_0 : ckP 160 0 64 = true := by decide +kernel
set_option maxRecDepth 100000 in
theorem ckm_160_1 : ckP 160 64 64 = true := by decide +kernel
set_option maxRecDepth 100000 in
theorem ckm_160_2 : ckP 160 128 64 = true := by decide +kernel
set_option maxRecDepth 100000 in
theorem ckm_160_3 : ckP 160 192 64 = true := by decide +kernel
set_option maxRecDepth 100000 in
theorem ckm_160_4 : ckP 160 256 54 = true := by decide +kernel
theorem cka_160 (pc : Nat) (e : aE) (h : code_ 160 pc = some e) : ckE 160 pc e = true := by
  have h0 : pc < 310 := by
    refine Nat.not_le.mp (fun hq => ?_)
    have : code_ 160 pc = none := by
      show cd_160 pc = none
      unfold cd_160
      rw [Nat.ble_eq_true_of_le hq]; rfl
    rw [this] at h; cases h
  by_cases h1 : pc < 64
  · exact ckP_ok ckm_160_0 (by omega) (by omega) h
  by_cases h2 : pc < 128
  · exact ckP_ok ckm_160_1 (by omega) (by omega) h
  by_cases h3 : pc < 192
  · exact ckP_ok ckm_160_2 (by omega) (by omega) h
  by_cases h4 : pc < 256
  · exact ckP_ok ckm_160_3 (by omega) (by omega) h
  by_cases h5 : pc < 310
  · exact ckP_ok ckm_160_4 (by omega) (by omega) h
  omega
theorem cky_161 : ckY 161 = true := by decide +kernel
set_option maxRecDepth 100000 in
theorem ckm_161_0 : ckP 161 0 47 = true := by decide +kernel
theorem cka_161 (pc : Nat) (e : aE) (h : code_ 161 pc = some e) : ckE 161 pc e = true := by
  have h0 : pc < 47 := by
    refine Nat.not_le.mp (fun hq => ?_)
    have : code_ 161 pc = none := by
      show cd_161 pc = none
      unfold cd_161
      rw [Nat.ble_eq_true_of_le hq]; rfl
    rw [this] at h; cases h
  by_cases h1 : pc < 47
  · exact ckP_ok ckm_161_0 (by omega) (by omega) h
  omega
theorem cky_162 : ckY 162 = true := by decide +kernel
set_option maxRecDepth 100000 in
theorem ckm_162_0 : ckP 162 0 22 = true := by decide +kernel
theorem cka_162 (pc : Nat) (e : aE) (h : code_ 162 pc = some e) : ckE 162 pc e = true := by
  have h0 : pc < 22 := by
    refine Nat.not_le.mp (fun hq => ?_)
    have : code_ 162 pc = none := by
      show cd_162 pc = none
      unfold cd_162
      rw [Nat.ble_eq_true_of_le hq]; rfl
    rw [this] at h; cases h
  by_cases h1 : pc < 22
  · exact ckP_ok ckm_162_0 (by omega) (by omega) h
  omega
theorem cky_163 : ckY 163 = true := by decide +kernel
set_option maxRecDepth 100000 in
theorem ckm_163_0 : ckP 163 0 39 = true := by decide +kernel
theorem cka_163 (pc : Nat) (e : aE) (h : code_ 163 pc = some e) : ckE 163 pc e = true := by
  have h0 : pc < 39 := by
    refine Nat.not_le.mp (fun hq => ?_)
    have : code_ 163 pc = none := by
      show cd_163 pc = none
      unfold cd_163
      rw [Nat.ble_eq_true_of_le hq]; rfl
    rw [this] at h; cases h
  by_cases h1 : pc < 39
  · exact ckP_ok ckm_163_0 (by omega) (by omega) h
  omega
theorem cky_164 : ckY 164 = true := by decide +kernel
set_option maxRecDepth 100000 in
theorem ckm_164_0 : ckP 164 0 44 = true := by decide +kernel
theorem cka_164 (pc : Nat) (e : aE) (h : code_ 164 pc = some e) : ckE 164 pc e = true := by
  have h0 : pc < 44 := by
    refine Nat.not_le.mp (fun hq => ?_)
    have : code_ 164 pc = none := by
      show cd_164 pc = none
      unfold cd_164
      rw [Nat.ble_eq_true_of_le hq]; rfl
    rw [this] at h; cases h
  by_cases h1 : pc < 44
  · exact ckP_ok ckm_164_0 (by omega) (by omega) h
  omega
