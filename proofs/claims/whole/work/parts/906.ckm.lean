theorem cky_165 : ckY 165 = true := by decide +kernel
set_option maxRecDepth 100000 in
theorem ckm_165_0 : ckP 165 0 36 = true := by decide +kernel
theorem cka_165 (pc : Nat) (e : aE) (h : code_ 165 pc = some e) : ckE 165 pc e = true := by
  have h0 : pc < 36 := by
    refine Nat.not_le.mp (fun hq => ?_)
    have : code_ 165 pc = none := by
      show cd_165 pc = none
      unfold cd_165
      rw [Nat.ble_eq_true_of_le hq]; rfl
    rw [this] at h; cases h
  by_cases h1 : pc < 36
  · exact ckP_ok ckm_165_0 (by omega) (by omega) h
  omega
theorem cky_166 : ckY 166 = true := by decide +kernel
set_option maxRecDepth 100000 in
theorem ckm_166_0 : ckP 166 0 35 = true := by decide +kernel
theorem cka_166 (pc : Nat) (e : aE) (h : code_ 166 pc = some e) : ckE 166 pc e = true := by
  have h0 : pc < 35 := by
    refine Nat.not_le.mp (fun hq => ?_)
    have : code_ 166 pc = none := by
      show cd_166 pc = none
      unfold cd_166
      rw [Nat.ble_eq_true_of_le hq]; rfl
    rw [this] at h; cases h
  by_cases h1 : pc < 35
  · exact ckP_ok ckm_166_0 (by omega) (by omega) h
  omega
theorem cky_167 : ckY 167 = true := by decide +kernel
set_option maxRecDepth 100000 in
theorem ckm_167_0 : ckP 167 0 64 = true := by decide +kernel
set_option maxRecDepth 100000 in
theorem ckm_167_1 : ckP 167 64 17 = true := by decide +kernel
theorem cka_167 (pc : Nat) (e : aE) (h : code_ 167 pc = some e) : ckE 167 pc e = true := by
  have h0 : pc < 81 := by
    refine Nat.not_le.mp (fun hq => ?_)
    have : code_ 167 pc = none := by
      show cd_167 pc = none
      unfold cd_167
      rw [Nat.ble_eq_true_of_le hq]; rfl
    rw [this] at h; cases h
  by_cases h1 : pc < 64
  · exact ckP_ok ckm_167_0 (by omega) (by omega) h
  by_cases h2 : pc < 81
  · exact ckP_ok ckm_167_1 (by omega) (by omega) h
  omega
theorem cky_168 : ckY 168 = true := by decide +kernel
set_option maxRecDepth 100000 in
theorem ckm_168_0 : ckP 168 0 47 = true := by decide +kernel
theorem cka_168 (pc : Nat) (e : aE) (h : code_ 168 pc = some e) : ckE 168 pc e = true := by
  have h0 : pc < 47 := by
    refine Nat.not_le.mp (fun hq => ?_)
    have : code_ 168 pc = none := by
      show cd_168 pc = none
      unfold cd_168
      rw [Nat.ble_eq_true_of_le hq]; rfl
    rw [this] at h; cases h
  by_cases h1 : pc < 47
  · exact ckP_ok ckm_168_0 (by omega) (by omega) h
  omega
theorem cky_169 : ckY 169 = true := by decide +kernel
set_option maxRecDepth 100000 in
theorem ckm_169_0 : ckP 169 0 64 = true := by decide +kernel
set_option maxRecDepth 100000 in
theorem ckm_169_1 : ckP 169 64 36 = true := by decide +kernel
theorem cka_169 (pc : Nat) (e : aE) (h : code_ 169 pc = some e) : ckE 169 pc e = true := by
  have h0 : pc < 100 := by
    refine Nat.not_le.mp (fun hq => ?_)
    have : code_ 169 pc = none := by
      show cd_169 pc = none
      unfold cd_169
      rw [Nat.ble_eq_true_of_le hq]; rfl
    rw [this] at h; cases h
  by_cases h1 : pc < 64
  · exact ckP_ok ckm_169_0 (by omega) (by omega) h
  by_cases h2 : pc < 100
  · exact ckP_ok ckm_169_1 (by omega) (by omega) h
  omega
theorem cky_170 : ckY 170 = true := by decide +kernel
set_option maxRecDepth 100000 in
theorem ckm_170_0 : ckP 170 0 64 = true := by decide +kernel
set_option maxRecDepth 100000 in
theorem ckm_170_1 : ckP 170 64 59 = true := by decide +kernel
theorem cka_170 (pc : Nat) (e : aE) (h : code_ 170 pc = some e) : ckE 170 pc e = true := by
  have h0 : pc < 123 := by
    refine Nat.not_le.mp (fun hq => ?_)
    have : code_ 170 pc = none := by
      show cd_170 pc = none
      unfold cd_170
      rw [Nat.ble_eq_true_of_le hq]; rfl
    rw [this] at h; cases h
  by_cases h1 : pc < 64
  · exact ckP_ok ckm_170_0 (by omega) (by omega) h
  by_cases h2 : pc < 123
  · exact ckP_ok ckm_170_1 (by omega) (by omega) h
  omega
theorem cky_171 : ckY 171 = true := by decide +kernel
set_option maxRecDepth 100000 in
theorem ckm_171_0 : ckP 171 0 26 = true := by decide +kernel
theorem cka_171 (pc : Nat) (e : aE) (h : code_ 171 pc = some e) : ckE 171 pc e = true := by
  have h0 : pc < 26 := by
    refine Nat.not_le.mp (fun hq => ?_)
    have : code_ 171 pc = none := by
      show cd_171 pc = none
      unfold cd_171
      rw [Nat.ble_eq_true_of_le hq]; rfl
    rw [this] at h; cases h
  by_cases h1 : pc < 26
  · exact ckP_ok ckm_171_0 (by omega) (by omega) h
  omega
theorem cky_172 : ckY 172 = true := by decide +kernel
set_option maxRecDepth 100000 in
theorem ckm_172_0 : ckP 172 0 64 = true := by decide +kernel
set_option maxRecDepth 100000 in
theorem ckm_172_1 : ckP 172 64 64 = true := by decide +kernel
set_option maxRecDepth 100000 in
theorem ckm_172_2 : ckP 172 128 64 = true := by decide +kernel
set_option maxRecDepth 100000 in
theorem ckm_172_3 : ckP 172 192 64 = true := by decide +kernel
set_option maxRecDepth 100000 in
theorem ckm_172_4 : ckP 172 256 64 = true := by decide +kernel
set_option maxRecDepth 100000 in
theorem ckm_172_5 : ckP 172 320 64 = true := by decide +kernel
set_option maxRecDepth 100000 in
theorem ckm_172_6 : ckP 172 384 35 = true := by decide +kernel
theorem cka_172 (pc : Nat) (e : aE) (h : code_ 172 pc = some e) : ckE 172 pc e = true := by
  have h0 : pc < 419 := by
    refine Nat.not_le.mp (fun hq => ?_)
    have : code_ 172 pc = none := by
      show cd_172 pc = none
      unfold cd_172
      rw [Nat.ble_eq_true_of_le hq]; rfl
    rw [this] at h; cases h
  by_cases h1 : pc < 64
  · exact ckP_ok ckm_172_0 (by omega) (by omega) h
  by_cases h2 : pc < 128
  · exact ckP_ok ckm_172_1 (by omega) (by omega) h
  by_cases h3 : pc < 192
  · exact ckP_ok ckm_172_2 (by omega) (by omega) h
  by_cases h4 : pc < 256
  · exact ckP_ok ckm_172_3 (by omega) (by omega) h
  by_cases h5 : pc < 320
  · exact ckP_ok ckm_172_4 (by omega) (by omega) h
  by_cases h6 : pc < 384
  · exact ckP_ok ckm_172_5 (by omega) (by omega) h
  by_cases h7 : pc < 419
  · exact ckP_ok ckm_172_6 (by omega) (by omega) h
  omega
theorem cky_173 : ckY 173 = true := by decide +kernel
set_option maxRecDepth 100000 in
theorem ckm_173_0 : ckP 173 0 64 = true := by decide +kernel
set_option maxRecDepth 100000 in
theorem ckm_173_1 : ckP 173 64 53 = true := by decide +kernel
theorem cka_173 (pc : Nat) (e : aE) (h : code_ 173 pc = some e) : ckE 173 pc e = true := by
  have h0 : pc < 117 := by
    refine Nat.not_le.mp (fun hq => ?_)
    have : code_ 173 pc = none := by
      show cd_173 pc = none
      unfold cd_173
      rw [Nat.ble_eq_true_of_le hq]; rfl
    rw [this] at h; cases h
  by_cases h1 : pc < 64
  · exact ckP_ok ckm_173_0 (by omega) (by omega) h
  by_cases h2 : pc < 117
  · exact ckP_ok ckm_173_1 (by omega) (by omega) h
  omega
theorem cky_174 : ckY 174 = true := by decide +kernel
set_option maxRecDepth 100000 in
theorem ckm_174_0 : ckP 174 0 64 = true := by decide +kernel
set_option maxRecDepth 100000 in
theorem ckm_174_1 : ckP 174 64 13 = true := by decide +kernel
theorem cka_174 (pc : Nat) (e : aE) (h : code_ 174 pc = some e) : ckE 174 pc e = true := by
  have h0 : pc < 77 := by
    refine Nat.not_le.mp (fun hq => ?_)
    have : code_ 174 pc = none := by
      show cd_174 pc = none
      unfold cd_174
      rw [Nat.ble_eq_true_of_le hq]; rfl
    rw [this] at h; cases h
  by_cases h1 : pc < 64
  · exact ckP_ok ckm_174_0 (by omega) (by omega) h
  by_cases h2 : pc < 77
  · exact ckP_ok ckm_174_1 (by omega) (by omega) h
  omega
theorem cky_175 : ckY 175 = true := by decide +kernel
set_option maxRecDepth 100000 in
theorem ckm_175_0 : ckP 175 0 64 = true := by decide +kernel
set_option maxRecDepth 100000 in
theorem ckm_175_1 : ckP 175 64 41 = true := by decide +kernel
theorem cka_175 (pc : Nat) (e : aE) (h : code_ 175 pc = some e) : ckE 175 pc e = true := by
  have h0 : pc < 105 := by
    refine Nat.not_le.mp (fun hq => ?_)
    have : code_ 175 pc = none := by
      show cd_175 pc = none
      unfold cd_175
      rw [Nat.ble_eq_true_of_le hq]; rfl
    rw [this] at h; cases h
  by_cases h1 : pc < 64
  · exact ckP_ok ckm_175_0 (by omega) (by omega) h
  by_cases h2 : pc < 105
  · exact ckP_ok ckm_175_1 (by omega) (by omega) h
  omega
theorem cky_176 : ckY 176 = true := by decide +kernel
set_option maxRecDepth 100000 in
theorem ckm_176_0 : ckP 176 0 51 = true := by decide +kernel
theorem cka_176 (pc : Nat) (e : aE) (h : code_ 176 pc = some e) : ckE 176 pc e = true := by
  have h0 : pc < 51 := by
    refine Nat.not_le.mp (fun hq => ?_)
    have : code_ 176 pc = none := by
      show cd_176 pc = none
      unfold cd_176
      rw [Nat.ble_eq_true_of_le hq]; rfl
    rw [this] at h; cases h
  by_cases h1 : pc < 51
  · exact ckP_ok ckm_176_0 (by omega) (by omega) h
  omega
theorem cky_177 : ckY 177 = true := by decide +kernel
set_option maxRecDepth 100000 in
theorem ckm_177_0 : ckP 177 0 64 = true := by decide +kernel
set_option maxRecDepth 100000 in
theorem ckm_177_1 : ckP 177 64 64 = true := by decide +kernel
set_option maxRecDepth 100000 in
theorem ckm_177_2 : ckP 177 128 30 = true := by decide +kernel
theorem cka_177 (pc : Nat) (e : aE) (h : code_ 177 pc = some e) : ckE 177 pc e = true := by
  have h0 : pc < 158 := by
    refine Nat.not_le.mp (fun hq => ?_)
    have : code_ 177 pc = none := by
      show cd_177 pc = none
      unfold cd_177
      rw [Nat.ble_eq_true_of_le hq]; rfl
    rw [this] at h; cases h
  by_cases h1 : pc < 64
  · exact ckP_ok ckm_177_0 (by omega) (by omega) h
  by_cases h2 : pc < 128
  · exact ckP_ok ckm_177_1 (by omega) (by omega) h
  by_cases h3 : pc < 158
  · exact ckP_ok ckm_177_2 (by omega) (by omega) h
  omega
theorem cky_178 : ckY 178 = true := by decide +kernel
set_option maxRecDepth 100000 in
theorem ckm_178_0 : ckP 178 0 64 = true := by decide +kernel
set_option maxRecDepth 100000 in
theorem ckm_178_1 : ckP 178 64 19 = true := by decide +kernel
theorem cka_178 (pc : Nat) (e : aE) (h : code_ 178 pc = some e) : ckE 178 pc e = true := by
  have h0 : pc < 83 := by
    refine Nat.not_le.mp (fun hq => ?_)
    have : code_ 178 pc = none := by
      show cd_178 pc = none
      unfold cd_178
      rw [Nat.ble_eq_true_of_le hq]; rfl
    rw [this] at h; cases h
  by_cases h1 : pc < 64
  · exact ckP_ok ckm_178_0 (by omega) (by omega) h
  by_cases h2 : pc < 83
  · exact ckP_ok ckm_178_1 (by omega) (by omega) h
  omega
theorem cky_179 : ckY 179 = true := by decide +kernel
set_option maxRecDepth 100000 in
theorem ckm_179_0 : ckP 179 0 30 = true := by decide +kernel
theorem cka_179 (pc : Nat) (e : aE) (h : code_ 179 pc = some e) : ckE 179 pc e = true := by
  have h0 : pc < 30 := by
    refine Nat.not_le.mp (fun hq => ?_)
    have : code_ 179 pc = none := by
      show cd_179 pc = none
      unfold cd_179
      rw [Nat.ble_eq_true_of_le hq]; rfl
    rw [this] at h; cases h
  by_cases h1 : pc < 30
  · exact ckP_ok ckm_179_0 (by omega) (by omega) h
  omega
theorem cky_180 : ckY 180 = true := by decide +kernel
set_option maxRecDepth 100000 in
theorem ckm_180_0 : ckP 180 0 7 = true := by decide +kernel
theorem cka_180 (pc : Nat) (e : aE) (h : code_ 180 pc = some e) : ckE 180 pc e = true := by
  have h0 : pc < 7 := by
    refine Nat.not_le.mp (fun hq => ?_)
    have : code_ 180 pc = none := by
      show cd_180 pc = none
      unfold cd_180
      rw [Nat.ble_eq_true_of_le hq]; rfl
    rw [this] at h; cases h
  by_cases h1 : pc < 7
  · exact ckP_ok ckm_180_0 (by omega) (by omega) h
  omega
theorem cky_181 : ckY 181 = true := by decide +kernel
set_option maxRecDepth 100000 in
theorem ckm_181_0 : ckP 181 0 7 = true := by decide +kernel
theorem cka_181 (pc : Nat) (e : aE) (h : code_ 181 pc = some e) : ckE 181 pc e = true := by
  have h0 : pc < 7 := by
    refine Nat.not_le.mp (fun hq => ?_)
    have : code_ 181 pc = none := by
      show cd_181 pc = none
      unfold cd_181
      rw [Nat.ble_eq_true_of_le hq]; rfl
    rw [this] at h; cases h
  by_cases h1 : pc < 7
  · exact ckP_ok ckm_181_0 (by omega) (by omega) h
  omega
theorem cky_182 : ckY 182 = true := by decide +kernel
set_option maxRecDepth 100000 in
theorem ckm_182_0 : ckP 182 0 64 = true := by decide +kernel
set_option maxRecDepth 100000 in
theorem ckm_182_1 : ckP 182 64 64 = true := by decide +kernel
set_option maxRecDepth 100000 in
theorem ckm_182_2 : ckP 182 128 64 = true := by decide +kernel
set_option maxRecDepth 100000 in
theorem ckm_182_3 : ckP 182 192 64 = true := by decide +kernel
set_option maxRecDepth 100000 in
theorem ckm_182_4 : ckP 182 256 64 = true := by decide +kernel
set_option maxRecDepth 100000 in
theorem ckm_182_5 : ckP 182 320 64 = true := by decide +kernel
set_option maxRecDepth 100000 in
theorem ckm_182_6 : ckP 182 384 64 = true := by decide +kernel
set_option maxRecDepth 100000 in
theorem ckm_182_7 : ckP 182 448 64 = true := by decide +kernel
set_option maxRecDepth 100000 in
theorem ckm_182_8 : ckP 182 512 64 = true := by decide +kernel
set_option maxRecDepth 100000 in
theorem ckm_182_9 : ckP 182 576 55 = true := by decide +kernel
theorem cka_182 (pc : Nat) (e : aE) (h : code_ 182 pc = some e) : ckE 182 pc e = true := by
  have h0 : pc < 631 := by
    refine Nat.not_le.mp (fun hq => ?_)
    have : code_ 182 pc = none := by
      show cd_182 pc = none
      unfold cd_182
      rw [Nat.ble_eq_true_of_le hq]; rfl
    rw [this] at h; cases h
  by_cases h1 : pc < 64
  · exact ckP_ok ckm_182_0 (by omega) (by omega) h
  by_cases h2 : pc < 128
  · exact ckP_ok ckm_182_1 (by omega) (by omega) h
  by_cases h3 : pc < 192
  · exact ckP_ok ckm_182_2 (by omega) (by omega) h
  by_cases h4 : pc < 256
  · exact ckP_ok ckm_182_3 (by omega) (by omega) h
  by_cases h5 : pc < 320
  · exact ckP_ok ckm_182_4 (by omega) (by omega) h
  by_cases h6 : pc < 384
  · exact ckP_ok ckm_182_5 (by omega) (by omega) h
  by_cases h7 : pc < 448
  · exact ckP_ok ckm_182_6 (by omega) (by omega) h
  by_cases h8 : pc < 512
  · exact ckP_ok ckm_182_7 (by omega) (by omega) h
  by_cases h9 : pc < 576
  · exact ckP_ok ckm_182_8 (by omega) (by omega) h
  by_cases h10 : pc < 631
  · exact ckP_ok ckm_182_9 (by omega) (by omega) h
  omega
theorem cky_183 : ckY 183 = true := by decide +kernel
set_option maxRecDepth 100000 in
theorem ckm_183_0 : ckP 183 0 11 = true := by decide +kernel
theorem cka_183 (pc : Nat) (e : aE) (h : code_ 183 pc = some e) : ckE 183 pc e = true := by
  have h0 : pc < 11 := by
    refine Nat.not_le.mp (fun hq => ?_)
    have : code_ 183 pc = none := by
      show cd_183 pc = none
      unfold cd_183
      rw [Nat.ble_eq_true_of_le hq]; rfl
    rw [this] at h; cases h
  by_cases h1 : pc < 11
  · exact ckP_ok ckm_183_0 (by omega) (by omega) h
  omega
theorem cky_184 : ckY 184 = true := by decide +kernel
set_option maxRecDepth 100000 in
theorem ckm_184_0 : ckP 184 0 37 = true := by decide +kernel
theorem cka_184 (pc : Nat) (e : aE) (h : code_ 184 pc = some e) : ckE 184 pc e = true := by
  have h0 : pc < 37 := by
    refine Nat.not_le.mp (fun hq => ?_)
    have : code_ 184 pc = none := by
      show cd_184 pc = none
      unfold cd_184
      rw [Nat.ble_eq_true_of_le hq]; rfl
    rw [this] at h; cases h
  by_cases h1 : pc < 37
  · exact ckP_ok ckm_184_0 (by omega) (by omega) h
  omega
theorem cky_185 : ckY 185 = true := by decide +kernel
set_option maxRecDepth 100000 in
theorem ckm_185_0 : ckP 185 0 64 = true := by decide +kernel
set_option maxRecDepth 100000 in
theorem ckm_185_1 : ckP 185 64 64 = true := by decide +kernel
set_option maxRecDepth 100000 in
theorem ckm_185_2 : ckP 185 128 64 = true := by decide +kernel
set_option maxRecDepth 100000 in
theorem ckm_185_3 : ckP 185 192 64 = true := by decide +kernel
set_option maxRecDepth 100000 in
theorem ckm_185_4 : ckP 185 256 64 = true := by decide +kernel
theorem cka_185 (pc : Nat) (e : aE) (h : code_ 185 pc = some e) : ckE 185 pc e = true := by
  have h0 : pc < 320 := by
    refine Nat.not_le.mp (fun hq => ?_)
    have : code_ 185 pc = none := by
      show cd_185 pc = none
      unfold cd_185
      rw [Nat.ble_eq_true_of_le hq]; rfl
    rw [this] at h; cases h
  by_cases h1 : pc < 64
  · exact ckP_ok ckm_185_0 (by omega) (by omega) h
  by_cases h2 : pc < 128
  · exact ckP_ok ckm_185_1 (by omega) (by omega) h
  by_cases h3 : pc < 192
  · exact ckP_ok ckm_185_2 (by omega) (by omega) h
  by_cases h4 : pc < 256
  · exact ckP_ok ckm_185_3 (by omega) (by omega) h
  by_cases h5 : pc < 320
  · exact ckP_ok ckm_185_4 (by omega) (by omega) h
  omega
