theorem ck_148_60 : ab_rng 148 60 45 = true := by decide +kernel
theorem ck_148 : ∀ pc, ab_chk 148 pc = true := ab_all (f := ic_148) (N := 105) rfl (fun pc h => by unfold ic_148; rw [ab_blt h]; rfl) (fun pc h => if h0 : pc < 60 then ab_rng_at ck_148_0 pc (by omega) (by omega) else ab_rng_at ck_148_60 pc (by omega) (by omega))
theorem ck_149_0 : ab_rng 149 0 34 = true := by decide +kernel
theorem ck_149 : ∀ pc, ab_chk 149 pc = true := ab_all (f := ic_149) (N := 34) rfl (fun pc h => by unfold ic_149; rw [ab_blt h]; rfl) (fun pc h => ab_rng_at ck_149_0 pc (by omega) (by omega))
theorem ck_150_0 : ab_rng 150 0 30 = true := by decide +kernel
theorem ck_150 : ∀ pc, ab_chk 150 pc = true := ab_all (f := ic_150) (N := 30) rfl (fun pc h => by unfold ic_150; rw [ab_blt h]; rfl) (fun pc h => ab_rng_at ck_150_0 pc (by omega) (by omega))
theorem ck_151_0 : ab_rng 151 0 60 = true := by decide +kernel
theorem ck_151_60 : ab_rng 151 60 60 = true := by decide +kernel
theorem ck_151_120 : ab_rng 151 120 52 = true := by decide +kernel
theorem ck_151 : ∀ pc, ab_chk 151 pc = true := ab_all (f := ic_151) (N := 172) rfl (fun pc h => by unfold ic_151; rw [ab_blt h]; rfl) (fun pc h => if h0 : pc < 60 then ab_rng_at ck_151_0 pc (by omega) (by omega) else if h1 : pc < 120 then ab_rng_at ck_151_60 pc (by omega) (by omega) else ab_rng_at ck_151_120 pc (by omega) (by omega))
theorem ck_152_0 : ab_rng 152 0 50 = true := by decide +kernel
theorem ck_152 : ∀ pc, ab_chk 152 pc = true := ab_all (f := ic_152) (N := 50) rfl (fun pc h => by unfold ic_152; rw [ab_blt h]; rfl) (fun pc h => ab_rng_at ck_152_0 pc (by omega) (by omega))
theorem ck_153_0 : ab_rng 153 0 60 = true := by decide +kernel
theorem ck_153_60 : ab_rng 153 60 10 = true := by decide +kernel
theorem ck_153 : ∀ pc, ab_chk 153 pc = true := ab_all (f := ic_153) (N := 70) rfl (fun pc h => by unfold ic_153; rw [ab_blt h]; rfl) (fun pc h => if h0 : pc < 60 then ab_rng_at ck_153_0 pc (by omega) (by omega) else ab_rng_at ck_153_60 pc (by omega) (by omega))
theorem ck_154_0 : ab_rng 154 0 60 = true := by decide +kernel
theorem ck_154_60 : ab_rng 154 60 24 = true := by decide +kernel
theorem ck_154 : ∀ pc, ab_chk 154 pc = true := ab_all (f := ic_154) (N := 84) rfl (fun pc h => by unfold ic_154; rw [ab_blt h]; rfl) (fun pc h => if h0 : pc < 60 then ab_rng_at ck_154_0 pc (by omega) (by omega) else ab_rng_at ck_154_60 pc (by omega) (by omega))
theorem ck_155_0 : ab_rng 155 0 60 = true := by decide +kernel
theorem ck_155_60 : ab_rng 155 60 60 = true := by decide +kernel
theorem ck_155_120 : ab_rng 155 120 48 = true := by decide +kernel
theorem ck_155 : ∀ pc, ab_chk 155 pc = true := ab_all (f := ic_155) (N := 168) rfl (fun pc h => by unfold ic_155; rw [ab_blt h]; rfl) (fun pc h => if h0 : pc < 60 then ab_rng_at ck_155_0 pc (by omega) (by omega) else if h1 : pc < 120 then ab_rng_at ck_155_60 pc (by omega) (by omega) else ab_rng_at ck_155_120 pc (by omega) (by omega))
theorem ck_156_0 : ab_rng 156 0 11 = true := by decide +kernel
theorem ck_156 : ∀ pc, ab_chk 156 pc = true := ab_all (f := ic_156) (N := 11) rfl (fun pc h => by unfold ic_156; rw [ab_blt h]; rfl) (fun pc h => ab_rng_at ck_156_0 pc (by omega) (by omega))
theorem ck_157_0 : ab_rng 157 0 25 = true := by decide +kernel
theorem ck_157 : ∀ pc, ab_chk 157 pc = true := ab_all (f := ic_157) (N := 25) rfl (fun pc h => by unfold ic_157; rw [ab_blt h]; rfl) (fun pc h => ab_rng_at ck_157_0 pc (by omega) (by omega))
theorem ck_158_0 : ab_rng 158 0 15 = true := by decide +kernel
theorem ck_158 : ∀ pc, ab_chk 158 pc = true := ab_all (f := ic_158) (N := 15) rfl (fun pc h => by unfold ic_158; rw [ab_blt h]; rfl) (fun pc h => ab_rng_at ck_158_0 pc (by omega) (by omega))
theorem ck_159_0 : ab_rng 159 0 19 = true := by decide +kernel
theorem ck_159 : ∀ pc, ab_chk 159 pc = true := ab_all (f := ic_159) (N := 19) rfl (fun pc h => by unfold ic_159; rw [ab_blt h]; rfl) (fun pc h => ab_rng_at ck_159_0 pc (by omega) (by omega))
theorem ck_160_0 : ab_rng 160 0 15 = true := by decide +kernel
theorem ck_160 : ∀ pc, ab_chk 160 pc = true := ab_all (f := ic_160) (N := 15) rfl (fun pc h => by unfold ic_160; rw [ab_blt h]; rfl) (fun pc h => ab_rng_at ck_160_0 pc (by omega) (by omega))
theorem ck_161_0 : ab_rng 161 0 21 = true := by decide +kernel
theorem ck_161 : ∀ pc, ab_chk 161 pc = true := ab_all (f := ic_161) (N := 21) rfl (fun pc h => by unfold ic_161; rw [ab_blt h]; rfl) (fun pc h => ab_rng_at ck_161_0 pc (by omega) (by omega))
theorem ck_162_0 : ab_rng 162 0 10 = true := by decide +kernel
theorem ck_162 : ∀ pc, ab_chk 162 pc = true := ab_all (f := ic_162) (N := 10) rfl (fun pc h => by unfold ic_162; rw [ab_blt h]; rfl) (fun pc h => ab_rng_at ck_162_0 pc (by omega) (by omega))
theorem ck_163_0 : ab_rng 163 0 18 = true := by decide +kernel
theorem ck_163 : ∀ pc, ab_chk 163 pc = true := ab_all (f := ic_163) (N := 18) rfl (fun pc h => by unfold ic_163; rw [ab_blt h]; rfl) (fun pc h => ab_rng_at ck_163_0 pc (by omega) (by omega))
theorem ck_164_0 : ab_rng 164 0 60 = true := by decide +kernel
theorem ck_164_60 : ab_rng 164 60 60 = true := by decide +kernel
theorem ck_164_120 : ab_rng 164 120 60 = true := by decide +kernel
theorem ck_164_180 : ab_rng 164 180 60 = true := by decide +kernel
theorem ck_164_240 : ab_rng 164 240 60 = true := by decide +kernel
theorem ck_164_300 : ab_rng 164 300 60 = true := by decide +kernel
theorem ck_164_360 : ab_rng 164 360 60 = true := by decide +kernel
theorem ck_164_420 : ab_rng 164 420 60 = true := by decide +kernel
theorem ck_164_480 : ab_rng 164 480 60 = true := by decide +kernel
theorem ck_164_540 : ab_rng 164 540 60 = true := by decide +kernel
theorem ck_164_600 : ab_rng 164 600 60 = true := by decide +kernel
theorem ck_164_660 : ab_rng 164 660 60 = true := by decide +kernel
