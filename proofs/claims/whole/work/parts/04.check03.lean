theorem ck_109_120 : ab_rng 109 120 60 = true := by decide +kernel
theorem ck_109_180 : ab_rng 109 180 60 = true := by decide +kernel
theorem ck_109_240 : ab_rng 109 240 46 = true := by decide +kernel
theorem ck_109 : ∀ pc, ab_chk 109 pc = true := ab_all (f := ic_109) (N := 286) rfl (fun pc h => by unfold ic_109; rw [ab_blt h]; rfl) (fun pc h => if h0 : pc < 60 then ab_rng_at ck_109_0 pc (by omega) (by omega) else if h1 : pc < 120 then ab_rng_at ck_109_60 pc (by omega) (by omega) else if h2 : pc < 180 then ab_rng_at ck_109_120 pc (by omega) (by omega) else if h3 : pc < 240 then ab_rng_at ck_109_180 pc (by omega) (by omega) else ab_rng_at ck_109_240 pc (by omega) (by omega))
theorem ck_110_0 : ab_rng 110 0 19 = true := by decide +kernel
theorem ck_110 : ∀ pc, ab_chk 110 pc = true := ab_all (f := ic_110) (N := 19) rfl (fun pc h => by unfold ic_110; rw [ab_blt h]; rfl) (fun pc h => ab_rng_at ck_110_0 pc (by omega) (by omega))
theorem ck_111_0 : ab_rng 111 0 14 = true := by decide +kernel
theorem ck_111 : ∀ pc, ab_chk 111 pc = true := ab_all (f := ic_111) (N := 14) rfl (fun pc h => by unfold ic_111; rw [ab_blt h]; rfl) (fun pc h => ab_rng_at ck_111_0 pc (by omega) (by omega))
theorem ck_112_0 : ab_rng 112 0 14 = true := by decide +kernel
theorem ck_112 : ∀ pc, ab_chk 112 pc = true := ab_all (f := ic_112) (N := 14) rfl (fun pc h => by unfold ic_112; rw [ab_blt h]; rfl) (fun pc h => ab_rng_at ck_112_0 pc (by omega) (by omega))
theorem ck_113_0 : ab_rng 113 0 10 = true := by decide +kernel
theorem ck_113 : ∀ pc, ab_chk 113 pc = true := ab_all (f := ic_113) (N := 10) rfl (fun pc h => by unfold ic_113; rw [ab_blt h]; rfl) (fun pc h => ab_rng_at ck_113_0 pc (by omega) (by omega))
theorem ck_114_0 : ab_rng 114 0 60 = true := by decide +kernel
theorem ck_114_60 : ab_rng 114 60 48 = true := by decide +kernel
theorem ck_114 : ∀ pc, ab_chk 114 pc = true := ab_all (f := ic_114) (N := 108) rfl (fun pc h => by unfold ic_114; rw [ab_blt h]; rfl) (fun pc h => if h0 : pc < 60 then ab_rng_at ck_114_0 pc (by omega) (by omega) else ab_rng_at ck_114_60 pc (by omega) (by omega))
theorem ck_115_0 : ab_rng 115 0 60 = true := by decide +kernel
theorem ck_115_60 : ab_rng 115 60 48 = true := by decide +kernel
theorem ck_115 : ∀ pc, ab_chk 115 pc = true := ab_all (f := ic_115) (N := 108) rfl (fun pc h => by unfold ic_115; rw [ab_blt h]; rfl) (fun pc h => if h0 : pc < 60 then ab_rng_at ck_115_0 pc (by omega) (by omega) else ab_rng_at ck_115_60 pc (by omega) (by omega))
theorem ck_116_0 : ab_rng 116 0 31 = true := by decide +kernel
theorem ck_116 : ∀ pc, ab_chk 116 pc = true := ab_all (f := ic_116) (N := 31) rfl (fun pc h => by unfold ic_116; rw [ab_blt h]; rfl) (fun pc h => ab_rng_at ck_116_0 pc (by omega) (by omega))
theorem ck_117_0 : ab_rng 117 0 60 = true := by decide +kernel
theorem ck_117_60 : ab_rng 117 60 6 = true := by decide +kernel
theorem ck_117 : ∀ pc, ab_chk 117 pc = true := ab_all (f := ic_117) (N := 66) rfl (fun pc h => by unfold ic_117; rw [ab_blt h]; rfl) (fun pc h => if h0 : pc < 60 then ab_rng_at ck_117_0 pc (by omega) (by omega) else ab_rng_at ck_117_60 pc (by omega) (by omega))
theorem ck_118_0 : ab_rng 118 0 60 = true := by decide +kernel
theorem ck_118_60 : ab_rng 118 60 18 = true := by decide +kernel
theorem ck_118 : ∀ pc, ab_chk 118 pc = true := ab_all (f := ic_118) (N := 78) rfl (fun pc h => by unfold ic_118; rw [ab_blt h]; rfl) (fun pc h => if h0 : pc < 60 then ab_rng_at ck_118_0 pc (by omega) (by omega) else ab_rng_at ck_118_60 pc (by omega) (by omega))
theorem ck_119_0 : ab_rng 119 0 27 = true := by decide +kernel
theorem ck_119 : ∀ pc, ab_chk 119 pc = true := ab_all (f := ic_119) (N := 27) rfl (fun pc h => by unfold ic_119; rw [ab_blt h]; rfl) (fun pc h => ab_rng_at ck_119_0 pc (by omega) (by omega))
theorem ck_120_0 : ab_rng 120 0 45 = true := by decide +kernel
theorem ck_120 : ∀ pc, ab_chk 120 pc = true := ab_all (f := ic_120) (N := 45) rfl (fun pc h => by unfold ic_120; rw [ab_blt h]; rfl) (fun pc h => ab_rng_at ck_120_0 pc (by omega) (by omega))
theorem ck_121_0 : ab_rng 121 0 49 = true := by decide +kernel
theorem ck_121 : ∀ pc, ab_chk 121 pc = true := ab_all (f := ic_121) (N := 49) rfl (fun pc h => by unfold ic_121; rw [ab_blt h]; rfl) (fun pc h => ab_rng_at ck_121_0 pc (by omega) (by omega))
theorem ck_122_0 : ab_rng 122 0 60 = true := by decide +kernel
theorem ck_122_60 : ab_rng 122 60 60 = true := by decide +kernel
theorem ck_122_120 : ab_rng 122 120 60 = true := by decide +kernel
theorem ck_122_180 : ab_rng 122 180 55 = true := by decide +kernel
theorem ck_122 : ∀ pc, ab_chk 122 pc = true := ab_all (f := ic_122) (N := 235) rfl (fun pc h => by unfold ic_122; rw [ab_blt h]; rfl) (fun pc h => if h0 : pc < 60 then ab_rng_at ck_122_0 pc (by omega) (by omega) else if h1 : pc < 120 then ab_rng_at ck_122_60 pc (by omega) (by omega) else if h2 : pc < 180 then ab_rng_at ck_122_120 pc (by omega) (by omega) else ab_rng_at ck_122_180 pc (by omega) (by omega))
theorem ck_123_0 : ab_rng 123 0 60 = true := by decide +kernel
theorem ck_123_60 : ab_rng 123 60 16 = true := by decide +kernel
theorem ck_123 : ∀ pc, ab_chk 123 pc = true := ab_all (f := ic_123) (N := 76) rfl (fun pc h => by unfold ic_123; rw [ab_blt h]; rfl) (fun pc h => if h0 : pc < 60 then ab_rng_at ck_123_0 pc (by omega) (by omega) else ab_rng_at ck_123_60 pc (by omega) (by omega))
theorem ck_124_0 : ab_rng 124 0 60 = true := by decide +kernel
theorem ck_124_60 : ab_rng 124 60 37 = true := by decide +kernel
theorem ck_124 : ∀ pc, ab_chk 124 pc = true := ab_all (f := ic_124) (N := 97) rfl (fun pc h => by unfold ic_124; rw [ab_blt h]; rfl) (fun pc h => if h0 : pc < 60 then ab_rng_at ck_124_0 pc (by omega) (by omega) else ab_rng_at ck_124_60 pc (by omega) (by omega))
theorem ck_125_0 : ab_rng 125 0 60 = true := by decide +kernel
theorem ck_125_60 : ab_rng 125 60 60 = true := by decide +kernel
theorem ck_125_120 : ab_rng 125 120 60 = true := by decide +kernel
theorem ck_125_180 : ab_rng 125 180 60 = true := by decide +kernel
theorem ck_125 : ∀ pc, ab_chk 125 pc = true := ab_all (f := ic_125) (N := 240) rfl (fun pc h => by unfold ic_125; rw [ab_blt h]; rfl) (fun pc h => if h0 : pc < 60 then ab_rng_at ck_125_0 pc (by omega) (by omega) else if h1 : pc < 120 then ab_rng_at ck_125_60 pc (by omega) (by omega) else if h2 : pc < 180 then ab_rng_at ck_125_120 pc (by omega) (by omega) else ab_rng_at ck_125_180 pc (by omega) (by omega))
theorem ck_126_0 : ab_rng 126 0 60 = true := by decide +kernel
theorem ck_126_60 : ab_rng 126 60 18 = true := by decide +kernel
theorem ck_126 : ∀ pc, ab_chk 126 pc = true := ab_all (f := ic_126) (N := 78) rfl (fun pc h => by unfold ic_126; rw [ab_blt h]; rfl) (fun pc h => if h0 : pc < 60 then ab_rng_at ck_126_0 pc (by omega) (by omega) else ab_rng_at ck_126_60 pc (by omega) (by omega))
theorem ck_127_0 : ab_rng 127 0 16 = true := by decide +kernel
theorem ck_127 : ∀ pc, ab_chk 127 pc = true := ab_all (f := ic_127) (N := 16) rfl (fun pc h => by unfold ic_127; rw [ab_blt h]; rfl) (fun pc h => ab_rng_at ck_127_0 pc (by omega) (by omega))
theorem ck_128_0 : ab_rng 128 0 34 = true := by decide +kernel
theorem ck_128 : ∀ pc, ab_chk 128 pc = true := ab_all (f := ic_128) (N := 34) rfl (fun pc h => by unfold ic_128; rw [ab_blt h]; rfl) (fun pc h => ab_rng_at ck_128_0 pc (by omega) (by omega))
theorem ck_129_0 : ab_rng 129 0 16 = true := by decide +kernel
theorem ck_129 : ∀ pc, ab_chk 129 pc = true := ab_all (f := ic_129) (N := 16) rfl (fun pc h => by unfold ic_129; rw [ab_blt h]; rfl) (fun pc h => ab_rng_at ck_129_0 pc (by omega) (by omega))
theorem ck_130_0 : ab_rng 130 0 43 = true := by decide +kernel
theorem ck_130 : ∀ pc, ab_chk 130 pc = true := ab_all (f := ic_130) (N := 43) rfl (fun pc h => by unfold ic_130; rw [ab_blt h]; rfl) (fun pc h => ab_rng_at ck_130_0 pc (by omega) (by omega))
theorem ck_131_0 : ab_rng 131 0 60 = true := by decide +kernel
