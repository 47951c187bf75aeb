theorem ck_35 : ∀ pc, ab_chk 35 pc = true := ab_all (f := ic_35) (N := 82) rfl (fun pc h => by unfold ic_35; rw [ab_blt h]; rfl) (fun pc h => if h0 : pc < 60 then ab_rng_at ck_35_0 pc (by omega) (by omega) else ab_rng_at ck_35_60 pc (by omega) (by omega))
theorem ck_36_0 : ab_rng 36 0 58 = true := by decide +kernel
theorem ck_36 : ∀ pc, ab_chk 36 pc = true := ab_all (f := ic_36) (N := 58) rfl (fun pc h => by unfold ic_36; rw [ab_blt h]; rfl) (fun pc h => ab_rng_at ck_36_0 pc (by omega) (by omega))
theorem ck_37_0 : ab_rng 37 0 43 = true := by decide +kernel
theorem ck_37 : ∀ pc, ab_chk 37 pc = true := ab_all (f := ic_37) (N := 43) rfl (fun pc h => by unfold ic_37; rw [ab_blt h]; rfl) (fun pc h => ab_rng_at ck_37_0 pc (by omega) (by omega))
theorem ck_38_0 : ab_rng 38 0 37 = true := by decide +kernel
theorem ck_38 : ∀ pc, ab_chk 38 pc = true := ab_all (f := ic_38) (N := 37) rfl (fun pc h => by unfold ic_38; rw [ab_blt h]; rfl) (fun pc h => ab_rng_at ck_38_0 pc (by omega) (by omega))
theorem ck_39_0 : ab_rng 39 0 37 = true := by decide +kernel
theorem ck_39 : ∀ pc, ab_chk 39 pc = true := ab_all (f := ic_39) (N := 37) rfl (fun pc h => by unfold ic_39; rw [ab_blt h]; rfl) (fun pc h => ab_rng_at ck_39_0 pc (by omega) (by omega))
theorem ck_40_0 : ab_rng 40 0 18 = true := by decide +kernel
theorem ck_40 : ∀ pc, ab_chk 40 pc = true := ab_all (f := ic_40) (N := 18) rfl (fun pc h => by unfold ic_40; rw [ab_blt h]; rfl) (fun pc h => ab_rng_at ck_40_0 pc (by omega) (by omega))
theorem ck_41_0 : ab_rng 41 0 18 = true := by decide +kernel
theorem ck_41 : ∀ pc, ab_chk 41 pc = true := ab_all (f := ic_41) (N := 18) rfl (fun pc h => by unfold ic_41; rw [ab_blt h]; rfl) (fun pc h => ab_rng_at ck_41_0 pc (by omega) (by omega))
theorem ck_42_0 : ab_rng 42 0 15 = true := by decide +kernel
theorem ck_42 : ∀ pc, ab_chk 42 pc = true := ab_all (f := ic_42) (N := 15) rfl (fun pc h => by unfold ic_42; rw [ab_blt h]; rfl) (fun pc h => ab_rng_at ck_42_0 pc (by omega) (by omega))
theorem ck_43_0 : ab_rng 43 0 60 = true := by decide +kernel
theorem ck_43_60 : ab_rng 43 60 6 = true := by decide +kernel
theorem ck_43 : ∀ pc, ab_chk 43 pc = true := ab_all (f := ic_43) (N := 66) rfl (fun pc h => by unfold ic_43; rw [ab_blt h]; rfl) (fun pc h => if h0 : pc < 60 then ab_rng_at ck_43_0 pc (by omega) (by omega) else ab_rng_at ck_43_60 pc (by omega) (by omega))
theorem ck_44_0 : ab_rng 44 0 25 = true := by decide +kernel
theorem ck_44 : ∀ pc, ab_chk 44 pc = true := ab_all (f := ic_44) (N := 25) rfl (fun pc h => by unfold ic_44; rw [ab_blt h]; rfl) (fun pc h => ab_rng_at ck_44_0 pc (by omega) (by omega))
theorem ck_45_0 : ab_rng 45 0 47 = true := by decide +kernel
theorem ck_45 : ∀ pc, ab_chk 45 pc = true := ab_all (f := ic_45) (N := 47) rfl (fun pc h => by unfold ic_45; rw [ab_blt h]; rfl) (fun pc h => ab_rng_at ck_45_0 pc (by omega) (by omega))
theorem ck_46_0 : ab_rng 46 0 48 = true := by decide +kernel
theorem ck_46 : ∀ pc, ab_chk 46 pc = true := ab_all (f := ic_46) (N := 48) rfl (fun pc h => by unfold ic_46; rw [ab_blt h]; rfl) (fun pc h => ab_rng_at ck_46_0 pc (by omega) (by omega))
theorem ck_47_0 : ab_rng 47 0 57 = true := by decide +kernel
theorem ck_47 : ∀ pc, ab_chk 47 pc = true := ab_all (f := ic_47) (N := 57) rfl (fun pc h => by unfold ic_47; rw [ab_blt h]; rfl) (fun pc h => ab_rng_at ck_47_0 pc (by omega) (by omega))
theorem ck_48_0 : ab_rng 48 0 19 = true := by decide +kernel
theorem ck_48 : ∀ pc, ab_chk 48 pc = true := ab_all (f := ic_48) (N := 19) rfl (fun pc h => by unfold ic_48; rw [ab_blt h]; rfl) (fun pc h => ab_rng_at ck_48_0 pc (by omega) (by omega))
theorem ck_49_0 : ab_rng 49 0 18 = true := by decide +kernel
theorem ck_49 : ∀ pc, ab_chk 49 pc = true := ab_all (f := ic_49) (N := 18) rfl (fun pc h => by unfold ic_49; rw [ab_blt h]; rfl) (fun pc h => ab_rng_at ck_49_0 pc (by omega) (by omega))
theorem ck_50_0 : ab_rng 50 0 33 = true := by decide +kernel
theorem ck_50 : ∀ pc, ab_chk 50 pc = true := ab_all (f := ic_50) (N := 33) rfl (fun pc h => by unfold ic_50; rw [ab_blt h]; rfl) (fun pc h => ab_rng_at ck_50_0 pc (by omega) (by omega))
theorem ck_51_0 : ab_rng 51 0 5 = true := by decide +kernel
theorem ck_51 : ∀ pc, ab_chk 51 pc = true := ab_all (f := ic_51) (N := 5) rfl (fun pc h => by unfold ic_51; rw [ab_blt h]; rfl) (fun pc h => ab_rng_at ck_51_0 pc (by omega) (by omega))
theorem ck_52_0 : ab_rng 52 0 41 = true := by decide +kernel
theorem ck_52 : ∀ pc, ab_chk 52 pc = true := ab_all (f := ic_52) (N := 41) rfl (fun pc h => by unfold ic_52; rw [ab_blt h]; rfl) (fun pc h => ab_rng_at ck_52_0 pc (by omega) (by omega))
theorem ck_53_0 : ab_rng 53 0 60 = true := by decide +kernel
theorem ck_53_60 : ab_rng 53 60 3 = true := by decide +kernel
theorem ck_53 : ∀ pc, ab_chk 53 pc = true := ab_all (f := ic_53) (N := 63) rfl (fun pc h => by unfold ic_53; rw [ab_blt h]; rfl) (fun pc h => if h0 : pc < 60 then ab_rng_at ck_53_0 pc (by omega) (by omega) else ab_rng_at ck_53_60 pc (by omega) (by omega))
theorem ck_54_0 : ab_rng 54 0 60 = true := by decide +kernel
theorem ck_54_60 : ab_rng 54 60 8 = true := by decide +kernel
theorem ck_54 : ∀ pc, ab_chk 54 pc = true := ab_all (f := ic_54) (N := 68) rfl (fun pc h => by unfold ic_54; rw [ab_blt h]; rfl) (fun pc h => if h0 : pc < 60 then ab_rng_at ck_54_0 pc (by omega) (by omega) else ab_rng_at ck_54_60 pc (by omega) (by omega))
theorem ck_55_0 : ab_rng 55 0 60 = true := by decide +kernel
theorem ck_55_60 : ab_rng 55 60 12 = true := by decide +kernel
theorem ck_55 : ∀ pc, ab_chk 55 pc = true := ab_all (f := ic_55) (N := 72) rfl (fun pc h => by unfold ic_55; rw [ab_blt h]; rfl) (fun pc h => if h0 : pc < 60 then ab_rng_at ck_55_0 pc (by omega) (by omega) else ab_rng_at ck_55_60 pc (by omega) (by omega))
theorem ck_56_0 : ab_rng 56 0 60 = true := by decide +kernel
theorem ck_56_60 : ab_rng 56 60 24 = true := by decide +kernel
theorem ck_56 : ∀ pc, ab_chk 56 pc = true := ab_all (f := ic_56) (N := 84) rfl (fun pc h => by unfold ic_56; rw [ab_blt h]; rfl) (fun pc h => if h0 : pc < 60 then ab_rng_at ck_56_0 pc (by omega) (by omega) else ab_rng_at ck_56_60 pc (by omega) (by omega))
theorem ck_57_0 : ab_rng 57 0 30 = true := by decide +kernel
theorem ck_57 : ∀ pc, ab_chk 57 pc = true := ab_all (f := ic_57) (N := 30) rfl (fun pc h => by unfold ic_57; rw [ab_blt h]; rfl) (fun pc h => ab_rng_at ck_57_0 pc (by omega) (by omega))
theorem ck_58_0 : ab_rng 58 0 30 = true := by decide +kernel
theorem ck_58 : ∀ pc, ab_chk 58 pc = true := ab_all (f := ic_58) (N := 30) rfl (fun pc h => by unfold ic_58; rw [ab_blt h]; rfl) (fun pc h => ab_rng_at ck_58_0 pc (by omega) (by omega))
theorem ck_59_0 : ab_rng 59 0 21 = true := by decide +kernel
theorem ck_59 : ∀ pc, ab_chk 59 pc = true := ab_all (f := ic_59) (N := 21) rfl (fun pc h => by unfold ic_59; rw [ab_blt h]; rfl) (fun pc h => ab_rng_at ck_59_0 pc (by omega) (by omega))
theorem ck_60_0 : ab_rng 60 0 60 = true := by decide +kernel
theorem ck_60_60 : ab_rng 60 60 9 = true := by decide +kernel
theorem ck_60 : ∀ pc, ab_chk 60 pc = true := ab_all (f := ic_60) (N := 69) rfl (fun pc h => by unfold ic_60; rw [ab_blt h]; rfl) (fun pc h => if h0 : pc < 60 then ab_rng_at ck_60_0 pc (by omega) (by omega) else ab_rng_at ck_60_60 pc (by omega) (by omega))
theorem ck_61_0 : ab_rng 61 0 19 = true := by decide +kernel
theorem ck_61 : ∀ pc, ab_chk 61 pc = true := ab_all (f := ic_61) (N := 19) rfl (fun pc h => by unfold ic_61; rw [ab_blt h]; rfl) (fun pc h => ab_rng_at ck_61_0 pc (by omega) (by omega))
theorem ck_62_0 : ab_rng 62 0 5 = true := by decide +kernel
theorem ck_62 : ∀ pc, ab_chk 62 pc = true := ab_all (f := ic_62) (N := 5) rfl (fun pc h => by unfold ic_62; rw [ab_blt h]; rfl) (fun pc h => ab_rng_at ck_62_0 pc (by omega) (by omega))
theorem ck_63_0 : ab_rng 63 0 32 = true := by decide +kernel
theorem ck_63 : ∀ pc, ab_chk 63 pc = true := ab_all (f := ic_63) (N := 32) rfl (fun pc h => by unfold ic_63; rw [ab_blt h]; rfl) (fun pc h => ab_rng_at ck_63_0 pc (by omega) (by omega))
theorem ck_64_0 : ab_rng 64 0 18 = true := by decide +kernel
theorem ck_64 : ∀ pc, ab_chk 64 pc = true := ab_all (f := ic_64) (N := 18) rfl (fun pc h => by unfold ic_64; rw [ab_blt h]; rfl) (fun pc h => ab_rng_at ck_64_0 pc (by omega) (by omega))
theorem ck_65_0 : ab_rng 65 0 52 = true := by decide +kernel
theorem ck_65 : ∀ pc, ab_chk 65 pc = true := ab_all (f := ic_65) (N := 52) rfl (fun pc h => by unfold ic_65; rw [ab_blt h]; rfl) (fun pc h => ab_rng_at ck_65_0 pc (by omega) (by omega))
theorem ck_66_0 : ab_rng 66 0 21 = true := by decide +kernel
theorem ck_66 : ∀ pc, ab_chk 66 pc = true := ab_all (f := ic_66) (N := 21) rfl (fun pc h => by unfold ic_66; rw [ab_blt h]; rfl) (fun pc h => ab_rng_at ck_66_0 pc (by omega) (by omega))
theorem ck_67_0 : ab_rng 67 0 26 = true := by decide +kernel
theorem ck_67 : ∀ pc, ab_chk 67 pc = true := ab_all (f := ic_67) (N := 26) rfl (fun pc h => by unfold ic_67; rw [ab_blt h]; rfl) (fun pc h => ab_rng_at ck_67_0 pc (by omega) (by omega))
theorem ck_68_0 : ab_rng 68 0 60 = true := by decide +kernel
theorem ck_68_60 : ab_rng 68 60 5 = true := by decide +kernel
theorem ck_68 : ∀ pc, ab_chk 68 pc = true := ab_all (f := ic_68) (N := 65) rfl (fun pc h => by unfold ic_68; rw [ab_blt h]; rfl) (fun pc h => if h0 : pc < 60 then ab_rng_at ck_68_0 pc (by omega) (by omega) else ab_rng_at ck_68_60 pc (by omega) (by omega))
theorem ck_69_0 : ab_rng 69 0 60 = true := by decide +kernel
theorem ck_69_60 : ab_rng 69 60 60 = true := by decide +kernel
theorem ck_69_120 : ab_rng 69 120 12 = true := by decide +kernel
theorem ck_69 : ∀ pc, ab_chk 69 pc = true := ab_all (f := ic_69) (N := 132) rfl (fun pc h => by unfold ic_69; rw [ab_blt h]; rfl) (fun pc h => if h0 : pc < 60 then ab_rng_at ck_69_0 pc (by omega) (by omega) else if h1 : pc < 120 then ab_rng_at ck_69_60 pc (by omega) (by omega) else ab_rng_at ck_69_120 pc (by omega) (by omega))
theorem ck_70_0 : ab_rng 70 0 60 = true := by decide +kernel
theorem ck_70_60 : ab_rng 70 60 21 = true := by decide +kernel
theorem ck_70 : ∀ pc, ab_chk 70 pc = true := ab_all (f := ic_70) (N := 81) rfl (fun pc h => by unfold ic_70; rw [ab_blt h]; rfl) (fun pc h => if h0 : pc < 60 then ab_rng_at ck_70_0 pc (by omega) (by omega) else ab_rng_at ck_70_60 pc (by omega) (by omega))
theorem ck_71_0 : ab_rng 71 0 60 = true := by decide +kernel
theorem ck_71_60 : ab_rng 71 60 20 = true := by decide +kernel
theorem ck_71 : ∀ pc, ab_chk 71 pc = true := ab_all (f := ic_71) (N := 80) rfl (fun pc h => by unfold ic_71; rw [ab_blt h]; rfl) (fun pc h => if h0 : pc < 60 then ab_rng_at ck_71_0 pc (by omega) (by omega) else ab_rng_at ck_71_60 pc (by omega) (by omega))
theorem ck_72_0 : ab_rng 72 0 26 = true := by decide +kernel
theorem ck_72 : ∀ pc, ab_chk 72 pc = true := ab_all (f := ic_72) (N := 26) rfl (fun pc h => by unfold ic_72; rw [ab_blt h]; rfl) (fun pc h => ab_rng_at ck_72_0 pc (by omega) (by omega))
theorem ck_73_0 : ab_rng 73 0 60 = true := by decide +kernel
theorem ck_73_60 : ab_rng 73 60 3 = true := by decide +kernel
theorem ck_73 : ∀ pc, ab_chk 73 pc = true := ab_all (f := ic_73) (N := 63) rfl (fun pc h => by unfold ic_73; rw [ab_blt h]; rfl) (fun pc h => if h0 : pc < 60 then ab_rng_at ck_73_0 pc (by omega) (by omega) else ab_rng_at ck_73_60 pc (by omega) (by omega))
theorem ck_74_0 : ab_rng 74 0 32 = true := by decide +kernel
