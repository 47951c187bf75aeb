theorem ck_74 : ∀ pc, ab_chk 74 pc = true := ab_all (f := ic_74) (N := 32) rfl (fun pc h => by unfold ic_74; rw [ab_blt h]; rfl) (fun pc h => ab_rng_at ck_74_0 pc (by omega) (by omega))
theorem ck_75_0 : ab_rng 75 0 19 = true := by decide +kernel
theorem ck_75 : ∀ pc, ab_chk 75 pc = true := ab_all (f := ic_75) (N := 19) rfl (fun pc h => by unfold ic_75; rw [ab_blt h]; rfl) (fun pc h => ab_rng_at ck_75_0 pc (by omega) (by omega))
theorem ck_76_0 : ab_rng 76 0 35 = true := by decide +kernel
theorem ck_76 : ∀ pc, ab_chk 76 pc = true := ab_all (f := ic_76) (N := 35) rfl (fun pc h => by unfold ic_76; rw [ab_blt h]; rfl) (fun pc h => ab_rng_at ck_76_0 pc (by omega) (by omega))
theorem ck_77_0 : ab_rng 77 0 19 = true := by decide +kernel
theorem ck_77 : ∀ pc, ab_chk 77 pc = true := ab_all (f := ic_77) (N := 19) rfl (fun pc h => by unfold ic_77; rw [ab_blt h]; rfl) (fun pc h => ab_rng_at ck_77_0 pc (by omega) (by omega))
theorem ck_78_0 : ab_rng 78 0 60 = true := by decide +kernel
theorem ck_78_60 : ab_rng 78 60 60 = true := by decide +kernel
theorem ck_78_120 : ab_rng 78 120 2 = true := by decide +kernel
theorem ck_78 : ∀ pc, ab_chk 78 pc = true := ab_all (f := ic_78) (N := 122) rfl (fun pc h => by unfold ic_78; rw [ab_blt h]; rfl) (fun pc h => if h0 : pc < 60 then ab_rng_at ck_78_0 pc (by omega) (by omega) else if h1 : pc < 120 then ab_rng_at ck_78_60 pc (by omega) (by omega) else ab_rng_at ck_78_120 pc (by omega) (by omega))
theorem ck_79_0 : ab_rng 79 0 60 = true := by decide +kernel
theorem ck_79_60 : ab_rng 79 60 11 = true := by decide +kernel
theorem ck_79 : ∀ pc, ab_chk 79 pc = true := ab_all (f := ic_79) (N := 71) rfl (fun pc h => by unfold ic_79; rw [ab_blt h]; rfl) (fun pc h => if h0 : pc < 60 then ab_rng_at ck_79_0 pc (by omega) (by omega) else ab_rng_at ck_79_60 pc (by omega) (by omega))
theorem ck_80_0 : ab_rng 80 0 60 = true := by decide +kernel
theorem ck_80_60 : ab_rng 80 60 4 = true := by decide +kernel
theorem ck_80 : ∀ pc, ab_chk 80 pc = true := ab_all (f := ic_80) (N := 64) rfl (fun pc h => by unfold ic_80; rw [ab_blt h]; rfl) (fun pc h => if h0 : pc < 60 then ab_rng_at ck_80_0 pc (by omega) (by omega) else ab_rng_at ck_80_60 pc (by omega) (by omega))
theorem ck_81_0 : ab_rng 81 0 17 = true := by decide +kernel
theorem ck_81 : ∀ pc, ab_chk 81 pc = true := ab_all (f := ic_81) (N := 17) rfl (fun pc h => by unfold ic_81; rw [ab_blt h]; rfl) (fun pc h => ab_rng_at ck_81_0 pc (by omega) (by omega))
theorem ck_82_0 : ab_rng 82 0 60 = true := by decide +kernel
theorem ck_82_60 : ab_rng 82 60 18 = true := by decide +kernel
theorem ck_82 : ∀ pc, ab_chk 82 pc = true := ab_all (f := ic_82) (N := 78) rfl (fun pc h => by unfold ic_82; rw [ab_blt h]; rfl) (fun pc h => if h0 : pc < 60 then ab_rng_at ck_82_0 pc (by omega) (by omega) else ab_rng_at ck_82_60 pc (by omega) (by omega))
theorem ck_83_0 : ab_rng 83 0 29 = true := by decide +kernel
theorem ck_83 : ∀ pc, ab_chk 83 pc = true := ab_all (f := ic_83) (N := 29) rfl (fun pc h => by unfold ic_83; rw [ab_blt h]; rfl) (fun pc h => ab_rng_at ck_83_0 pc (by omega) (by omega))
theorem ck_84_0 : ab_rng 84 0 60 = true := by decide +kernel
theorem ck_84_60 : ab_rng 84 60 17 = true := by decide +kernel
theorem ck_84 : ∀ pc, ab_chk 84 pc = true := ab_all (f := ic_84) (N := 77) rfl (fun pc h => by unfold ic_84; rw [ab_blt h]; rfl) (fun pc h => if h0 : pc < 60 then ab_rng_at ck_84_0 pc (by omega) (by omega) else ab_rng_at ck_84_60 pc (by omega) (by omega))
theorem ck_85_0 : ab_rng 85 0 38 = true := by decide +kernel
theorem ck_85 : ∀ pc, ab_chk 85 pc = true := ab_all (f := ic_85) (N := 38) rfl (fun pc h => by unfold ic_85; rw [ab_blt h]; rfl) (fun pc h => ab_rng_at ck_85_0 pc (by omega) (by omega))
theorem ck_86_0 : ab_rng 86 0 60 = true := by decide +kernel
theorem ck_86_60 : ab_rng 86 60 19 = true := by decide +kernel
theorem ck_86 : ∀ pc, ab_chk 86 pc = true := ab_all (f := ic_86) (N := 79) rfl (fun pc h => by unfold ic_86; rw [ab_blt h]; rfl) (fun pc h => if h0 : pc < 60 then ab_rng_at ck_86_0 pc (by omega) (by omega) else ab_rng_at ck_86_60 pc (by omega) (by omega))
theorem ck_87_0 : ab_rng 87 0 60 = true := by decide +kernel
theorem ck_87_60 : ab_rng 87 60 7 = true := by decide +kernel
theorem ck_87 : ∀ pc, ab_chk 87 pc = true := ab_all (f := ic_87) (N := 67) rfl (fun pc h => by unfold ic_87; rw [ab_blt h]; rfl) (fun pc h => if h0 : pc < 60 then ab_rng_at ck_87_0 pc (by omega) (by omega) else ab_rng_at ck_87_60 pc (by omega) (by omega))
theorem ck_88_0 : ab_rng 88 0 41 = true := by decide +kernel
theorem ck_88 : ∀ pc, ab_chk 88 pc = true := ab_all (f := ic_88) (N := 41) rfl (fun pc h => by unfold ic_88; rw [ab_blt h]; rfl) (fun pc h => ab_rng_at ck_88_0 pc (by omega) (by omega))
theorem ck_89_0 : ab_rng 89 0 53 = true := by decide +kernel
theorem ck_89 : ∀ pc, ab_chk 89 pc = true := ab_all (f := ic_89) (N := 53) rfl (fun pc h => by unfold ic_89; rw [ab_blt h]; rfl) (fun pc h => ab_rng_at ck_89_0 pc (by omega) (by omega))
theorem ck_90_0 : ab_rng 90 0 33 = true := by decide +kernel
theorem ck_90 : ∀ pc, ab_chk 90 pc = true := ab_all (f := ic_90) (N := 33) rfl (fun pc h => by unfold ic_90; rw [ab_blt h]; rfl) (fun pc h => ab_rng_at ck_90_0 pc (by omega) (by omega))
theorem ck_91_0 : ab_rng 91 0 35 = true := by decide +kernel
theorem ck_91 : ∀ pc, ab_chk 91 pc = true := ab_all (f := ic_91) (N := 35) rfl (fun pc h => by unfold ic_91; rw [ab_blt h]; rfl) (fun pc h => ab_rng_at ck_91_0 pc (by omega) (by omega))
theorem ck_92_0 : ab_rng 92 0 60 = true := by decide +kernel
theorem ck_92_60 : ab_rng 92 60 60 = true := by decide +kernel
theorem ck_92_120 : ab_rng 92 120 19 = true := by decide +kernel
theorem ck_92 : ∀ pc, ab_chk 92 pc = true := ab_all (f := ic_92) (N := 139) rfl (fun pc h => by unfold ic_92; rw [ab_blt h]; rfl) (fun pc h => if h0 : pc < 60 then ab_rng_at ck_92_0 pc (by omega) (by omega) else if h1 : pc < 120 then ab_rng_at ck_92_60 pc (by omega) (by omega) else ab_rng_at ck_92_120 pc (by omega) (by omega))
theorem ck_93_0 : ab_rng 93 0 15 = true := by decide +kernel
theorem ck_93 : ∀ pc, ab_chk 93 pc = true := ab_all (f := ic_93) (N := 15) rfl (fun pc h => by unfold ic_93; rw [ab_blt h]; rfl) (fun pc h => ab_rng_at ck_93_0 pc (by omega) (by omega))
theorem ck_94_0 : ab_rng 94 0 8 = true := by decide +kernel
theorem ck_94 : ∀ pc, ab_chk 94 pc = true := ab_all (f := ic_94) (N := 8) rfl (fun pc h => by unfold ic_94; rw [ab_blt h]; rfl) (fun pc h => ab_rng_at ck_94_0 pc (by omega) (by omega))
theorem ck_95_0 : ab_rng 95 0 8 = true := by decide +kernel
theorem ck_95 : ∀ pc, ab_chk 95 pc = true := ab_all (f := ic_95) (N := 8) rfl (fun pc h => by unfold ic_95; rw [ab_blt h]; rfl) (fun pc h => ab_rng_at ck_95_0 pc (by omega) (by omega))
theorem ck_96_0 : ab_rng 96 0 19 = true := by decide +kernel
theorem ck_96 : ∀ pc, ab_chk 96 pc = true := ab_all (f := ic_96) (N := 19) rfl (fun pc h => by unfold ic_96; rw [ab_blt h]; rfl) (fun pc h => ab_rng_at ck_96_0 pc (by omega) (by omega))
theorem ck_97_0 : ab_rng 97 0 32 = true := by decide +kernel
theorem ck_97 : ∀ pc, ab_chk 97 pc = true := ab_all (f := ic_97) (N := 32) rfl (fun pc h => by unfold ic_97; rw [ab_blt h]; rfl) (fun pc h => ab_rng_at ck_97_0 pc (by omega) (by omega))
theorem ck_98_0 : ab_rng 98 0 32 = true := by decide +kernel
theorem ck_98 : ∀ pc, ab_chk 98 pc = true := ab_all (f := ic_98) (N := 32) rfl (fun pc h => by unfold ic_98; rw [ab_blt h]; rfl) (fun pc h => ab_rng_at ck_98_0 pc (by omega) (by omega))
theorem ck_99_0 : ab_rng 99 0 24 = true := by decide +kernel
theorem ck_99 : ∀ pc, ab_chk 99 pc = true := ab_all (f := ic_99) (N := 24) rfl (fun pc h => by unfold ic_99; rw [ab_blt h]; rfl) (fun pc h => ab_rng_at ck_99_0 pc (by omega) (by omega))
theorem ck_100_0 : ab_rng 100 0 55 = true := by decide +kernel
theorem ck_100 : ∀ pc, ab_chk 100 pc = true := ab_all (f := ic_100) (N := 55) rfl (fun pc h => by unfold ic_100; rw [ab_blt h]; rfl) (fun pc h => ab_rng_at ck_100_0 pc (by omega) (by omega))
theorem ck_101_0 : ab_rng 101 0 17 = true := by decide +kernel
theorem ck_101 : ∀ pc, ab_chk 101 pc = true := ab_all (f := ic_101) (N := 17) rfl (fun pc h => by unfold ic_101; rw [ab_blt h]; rfl) (fun pc h => ab_rng_at ck_101_0 pc (by omega) (by omega))
theorem ck_102_0 : ab_rng 102 0 29 = true := by decide +kernel
theorem ck_102 : ∀ pc, ab_chk 102 pc = true := ab_all (f := ic_102) (N := 29) rfl (fun pc h => by unfold ic_102; rw [ab_blt h]; rfl) (fun pc h => ab_rng_at ck_102_0 pc (by omega) (by omega))
theorem ck_103_0 : ab_rng 103 0 60 = true := by decide +kernel
theorem ck_103_60 : ab_rng 103 60 14 = true := by decide +kernel
theorem ck_103 : ∀ pc, ab_chk 103 pc = true := ab_all (f := ic_103) (N := 74) rfl (fun pc h => by unfold ic_103; rw [ab_blt h]; rfl) (fun pc h => if h0 : pc < 60 then ab_rng_at ck_103_0 pc (by omega) (by omega) else ab_rng_at ck_103_60 pc (by omega) (by omega))
theorem ck_104_0 : ab_rng 104 0 40 = true := by decide +kernel
theorem ck_104 : ∀ pc, ab_chk 104 pc = true := ab_all (f := ic_104) (N := 40) rfl (fun pc h => by unfold ic_104; rw [ab_blt h]; rfl) (fun pc h => ab_rng_at ck_104_0 pc (by omega) (by omega))
theorem ck_105_0 : ab_rng 105 0 48 = true := by decide +kernel
theorem ck_105 : ∀ pc, ab_chk 105 pc = true := ab_all (f := ic_105) (N := 48) rfl (fun pc h => by unfold ic_105; rw [ab_blt h]; rfl) (fun pc h => ab_rng_at ck_105_0 pc (by omega) (by omega))
theorem ck_106_0 : ab_rng 106 0 60 = true := by decide +kernel
theorem ck_106_60 : ab_rng 106 60 2 = true := by decide +kernel
theorem ck_106 : ∀ pc, ab_chk 106 pc = true := ab_all (f := ic_106) (N := 62) rfl (fun pc h => by unfold ic_106; rw [ab_blt h]; rfl) (fun pc h => if h0 : pc < 60 then ab_rng_at ck_106_0 pc (by omega) (by omega) else ab_rng_at ck_106_60 pc (by omega) (by omega))
theorem ck_107_0 : ab_rng 107 0 60 = true := by decide +kernel
theorem ck_107_60 : ab_rng 107 60 41 = true := by decide +kernel
theorem ck_107 : ∀ pc, ab_chk 107 pc = true := ab_all (f := ic_107) (N := 101) rfl (fun pc h => by unfold ic_107; rw [ab_blt h]; rfl) (fun pc h => if h0 : pc < 60 then ab_rng_at ck_107_0 pc (by omega) (by omega) else ab_rng_at ck_107_60 pc (by omega) (by omega))
theorem ck_108_0 : ab_rng 108 0 60 = true := by decide +kernel
theorem ck_108_60 : ab_rng 108 60 20 = true := by decide +kernel
theorem ck_108 : ∀ pc, ab_chk 108 pc = true := ab_all (f := ic_108) (N := 80) rfl (fun pc h => by unfold ic_108; rw [ab_blt h]; rfl) (fun pc h => if h0 : pc < 60 then ab_rng_at ck_108_0 pc (by omega) (by omega) else ab_rng_at ck_108_60 pc (by omega) (by omega))
theorem ck_109_0 : ab_rng 109 0 60 = true := by decide +kernel
theorem ck_109_60 : ab_rng 109 60 60 = true := by decide +kernel
