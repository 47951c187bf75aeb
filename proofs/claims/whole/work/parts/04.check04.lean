theorem ck_131_60 : ab_rng 131 60 60 = true := by decide +kernel
theorem ck_131_120 : ab_rng 131 120 60 = true := by decide +kernel
theorem ck_131_180 : ab_rng 131 180 44 = true := by decide +kernel
theorem ck_131 : ∀ pc, ab_chk 131 pc = true := ab_all (f := ic_131) (N := 224) rfl (fun pc h => by unfold ic_131; rw [ab_blt h]; rfl) (fun pc h => if h0 : pc < 60 then ab_rng_at ck_131_0 pc (by omega) (by omega) else if h1 : pc < 120 then ab_rng_at ck_131_60 pc (by omega) (by omega) else if h2 : pc < 180 then ab_rng_at ck_131_120 pc (by omega) (by omega) else ab_rng_at ck_131_180 pc (by omega) (by omega))
theorem ck_132_0 : ab_rng 132 0 60 = true := by decide +kernel
theorem ck_132_60 : ab_rng 132 60 2 = true := by decide +kernel
theorem ck_132 : ∀ pc, ab_chk 132 pc = true := ab_all (f := ic_132) (N := 62) rfl (fun pc h => by unfold ic_132; rw [ab_blt h]; rfl) (fun pc h => if h0 : pc < 60 then ab_rng_at ck_132_0 pc (by omega) (by omega) else ab_rng_at ck_132_60 pc (by omega) (by omega))
theorem ck_133_0 : ab_rng 133 0 60 = true := by decide +kernel
theorem ck_133 : ∀ pc, ab_chk 133 pc = true := ab_all (f := ic_133) (N := 60) rfl (fun pc h => by unfold ic_133; rw [ab_blt h]; rfl) (fun pc h => ab_rng_at ck_133_0 pc (by omega) (by omega))
theorem ck_134_0 : ab_rng 134 0 60 = true := by decide +kernel
theorem ck_134_60 : ab_rng 134 60 10 = true := by decide +kernel
theorem ck_134 : ∀ pc, ab_chk 134 pc = true := ab_all (f := ic_134) (N := 70) rfl (fun pc h => by unfold ic_134; rw [ab_blt h]; rfl) (fun pc h => if h0 : pc < 60 then ab_rng_at ck_134_0 pc (by omega) (by omega) else ab_rng_at ck_134_60 pc (by omega) (by omega))
theorem ck_135_0 : ab_rng 135 0 47 = true := by decide +kernel
theorem ck_135 : ∀ pc, ab_chk 135 pc = true := ab_all (f := ic_135) (N := 47) rfl (fun pc h => by unfold ic_135; rw [ab_blt h]; rfl) (fun pc h => ab_rng_at ck_135_0 pc (by omega) (by omega))
theorem ck_136_0 : ab_rng 136 0 23 = true := by decide +kernel
theorem ck_136 : ∀ pc, ab_chk 136 pc = true := ab_all (f := ic_136) (N := 23) rfl (fun pc h => by unfold ic_136; rw [ab_blt h]; rfl) (fun pc h => ab_rng_at ck_136_0 pc (by omega) (by omega))
theorem ck_137_0 : ab_rng 137 0 34 = true := by decide +kernel
theorem ck_137 : ∀ pc, ab_chk 137 pc = true := ab_all (f := ic_137) (N := 34) rfl (fun pc h => by unfold ic_137; rw [ab_blt h]; rfl) (fun pc h => ab_rng_at ck_137_0 pc (by omega) (by omega))
theorem ck_138_0 : ab_rng 138 0 42 = true := by decide +kernel
theorem ck_138 : ∀ pc, ab_chk 138 pc = true := ab_all (f := ic_138) (N := 42) rfl (fun pc h => by unfold ic_138; rw [ab_blt h]; rfl) (fun pc h => ab_rng_at ck_138_0 pc (by omega) (by omega))
theorem ck_139_0 : ab_rng 139 0 60 = true := by decide +kernel
theorem ck_139_60 : ab_rng 139 60 60 = true := by decide +kernel
theorem ck_139_120 : ab_rng 139 120 60 = true := by decide +kernel
theorem ck_139_180 : ab_rng 139 180 60 = true := by decide +kernel
theorem ck_139_240 : ab_rng 139 240 60 = true := by decide +kernel
theorem ck_139_300 : ab_rng 139 300 21 = true := by decide +kernel
theorem ck_139 : ∀ pc, ab_chk 139 pc = true := ab_all (f := ic_139) (N := 321) rfl (fun pc h => by unfold ic_139; rw [ab_blt h]; rfl) (fun pc h => if h0 : pc < 60 then ab_rng_at ck_139_0 pc (by omega) (by omega) else if h1 : pc < 120 then ab_rng_at ck_139_60 pc (by omega) (by omega) else if h2 : pc < 180 then ab_rng_at ck_139_120 pc (by omega) (by omega) else if h3 : pc < 240 then ab_rng_at ck_139_180 pc (by omega) (by omega) else if h4 : pc < 300 then ab_rng_at ck_139_240 pc (by omega) (by omega) else ab_rng_at ck_139_300 pc (by omega) (by omega))
theorem ck_140_0 : ab_rng 140 0 21 = true := by decide +kernel
theorem ck_140 : ∀ pc, ab_chk 140 pc = true := ab_all (f := ic_140) (N := 21) rfl (fun pc h => by unfold ic_140; rw [ab_blt h]; rfl) (fun pc h => ab_rng_at ck_140_0 pc (by omega) (by omega))
theorem ck_141_0 : ab_rng 141 0 60 = true := by decide +kernel
theorem ck_141_60 : ab_rng 141 60 60 = true := by decide +kernel
theorem ck_141_120 : ab_rng 141 120 28 = true := by decide +kernel
theorem ck_141 : ∀ pc, ab_chk 141 pc = true := ab_all (f := ic_141) (N := 148) rfl (fun pc h => by unfold ic_141; rw [ab_blt h]; rfl) (fun pc h => if h0 : pc < 60 then ab_rng_at ck_141_0 pc (by omega) (by omega) else if h1 : pc < 120 then ab_rng_at ck_141_60 pc (by omega) (by omega) else ab_rng_at ck_141_120 pc (by omega) (by omega))
theorem ck_142_0 : ab_rng 142 0 60 = true := by decide +kernel
theorem ck_142_60 : ab_rng 142 60 60 = true := by decide +kernel
theorem ck_142_120 : ab_rng 142 120 35 = true := by decide +kernel
theorem ck_142 : ∀ pc, ab_chk 142 pc = true := ab_all (f := ic_142) (N := 155) rfl (fun pc h => by unfold ic_142; rw [ab_blt h]; rfl) (fun pc h => if h0 : pc < 60 then ab_rng_at ck_142_0 pc (by omega) (by omega) else if h1 : pc < 120 then ab_rng_at ck_142_60 pc (by omega) (by omega) else ab_rng_at ck_142_120 pc (by omega) (by omega))
theorem ck_143_0 : ab_rng 143 0 25 = true := by decide +kernel
theorem ck_143 : ∀ pc, ab_chk 143 pc = true := ab_all (f := ic_143) (N := 25) rfl (fun pc h => by unfold ic_143; rw [ab_blt h]; rfl) (fun pc h => ab_rng_at ck_143_0 pc (by omega) (by omega))
theorem ck_144_0 : ab_rng 144 0 60 = true := by decide +kernel
theorem ck_144_60 : ab_rng 144 60 40 = true := by decide +kernel
theorem ck_144 : ∀ pc, ab_chk 144 pc = true := ab_all (f := ic_144) (N := 100) rfl (fun pc h => by unfold ic_144; rw [ab_blt h]; rfl) (fun pc h => if h0 : pc < 60 then ab_rng_at ck_144_0 pc (by omega) (by omega) else ab_rng_at ck_144_60 pc (by omega) (by omega))
theorem ck_145_0 : ab_rng 145 0 60 = true := by decide +kernel
theorem ck_145_60 : ab_rng 145 60 60 = true := by decide +kernel
theorem ck_145_120 : ab_rng 145 120 6 = true := by decide +kernel
theorem ck_145 : ∀ pc, ab_chk 145 pc = true := ab_all (f := ic_145) (N := 126) rfl (fun pc h => by unfold ic_145; rw [ab_blt h]; rfl) (fun pc h => if h0 : pc < 60 then ab_rng_at ck_145_0 pc (by omega) (by omega) else if h1 : pc < 120 then ab_rng_at ck_145_60 pc (by omega) (by omega) else ab_rng_at ck_145_120 pc (by omega) (by omega))
theorem ck_146_0 : ab_rng 146 0 60 = true := by decide +kernel
theorem ck_146_60 : ab_rng 146 60 20 = true := by decide +kernel
theorem ck_146 : ∀ pc, ab_chk 146 pc = true := ab_all (f := ic_146) (N := 80) rfl (fun pc h => by unfold ic_146; rw [ab_blt h]; rfl) (fun pc h => if h0 : pc < 60 then ab_rng_at ck_146_0 pc (by omega) (by omega) else ab_rng_at ck_146_60 pc (by omega) (by omega))
theorem ck_147_0 : ab_rng 147 0 60 = true := by decide +kernel
theorem ck_147_60 : ab_rng 147 60 36 = true := by decide +kernel
theorem ck_147 : ∀ pc, ab_chk 147 pc = true := ab_all (f := ic_147) (N := 96) rfl (fun pc h => by unfold ic_147; rw [ab_blt h]; rfl) (fun pc h => if h0 : pc < 60 then ab_rng_at ck_147_0 pc (by omega) (by omega) else ab_rng_at ck_147_60 pc (by omega) (by omega))
theorem ck_148_0 : ab_rng 148 0 60 = true := by decide +kernel
