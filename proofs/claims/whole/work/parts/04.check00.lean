theorem ck_0_0 : ab_rng 0 0 47 = true := by decide +kernel
theorem ck_0 : ∀ pc, ab_chk 0 pc = true := ab_all (f := ic_0) (N := 47) rfl (fun pc h => by unfold ic_0; rw [ab_blt h]; rfl) (fun pc h => ab_rng_at ck_0_0 pc (by omega) (by omega))
theorem ck_1_0 : ab_rng 1 0 22 = true := by decide +kernel
theorem ck_1 : ∀ pc, ab_chk 1 pc = true := ab_all (f := ic_1) (N := 22) rfl (fun pc h => by unfold ic_1; rw [ab_blt h]; rfl) (fun pc h => ab_rng_at ck_1_0 pc (by omega) (by omega))
theorem ck_2_0 : ab_rng 2 0 22 = true := by decide +kernel
theorem ck_2 : ∀ pc, ab_chk 2 pc = true := ab_all (f := ic_2) (N := 22) rfl (fun pc h => by unfold ic_2; rw [ab_blt h]; rfl) (fun pc h => ab_rng_at ck_2_0 pc (by omega) (by omega))
theorem ck_3_0 : ab_rng 3 0 47 = true := by decide +kernel
theorem ck_3 : ∀ pc, ab_chk 3 pc = true := ab_all (f := ic_3) (N := 47) rfl (fun pc h => by unfold ic_3; rw [ab_blt h]; rfl) (fun pc h => ab_rng_at ck_3_0 pc (by omega) (by omega))
theorem ck_4_0 : ab_rng 4 0 24 = true := by decide +kernel
theorem ck_4 : ∀ pc, ab_chk 4 pc = true := ab_all (f := ic_4) (N := 24) rfl (fun pc h => by unfold ic_4; rw [ab_blt h]; rfl) (fun pc h => ab_rng_at ck_4_0 pc (by omega) (by omega))
theorem ck_5_0 : ab_rng 5 0 5 = true := by decide +kernel
theorem ck_5 : ∀ pc, ab_chk 5 pc = true := ab_all (f := ic_5) (N := 5) rfl (fun pc h => by unfold ic_5; rw [ab_blt h]; rfl) (fun pc h => ab_rng_at ck_5_0 pc (by omega) (by omega))
theorem ck_6_0 : ab_rng 6 0 5 = true := by decide +kernel
theorem ck_6 : ∀ pc, ab_chk 6 pc = true := ab_all (f := ic_6) (N := 5) rfl (fun pc h => by unfold ic_6; rw [ab_blt h]; rfl) (fun pc h => ab_rng_at ck_6_0 pc (by omega) (by omega))
theorem ck_7_0 : ab_rng 7 0 5 = true := by decide +kernel
theorem ck_7 : ∀ pc, ab_chk 7 pc = true := ab_all (f := ic_7) (N := 5) rfl (fun pc h => by unfold ic_7; rw [ab_blt h]; rfl) (fun pc h => ab_rng_at ck_7_0 pc (by omega) (by omega))
theorem ck_8_0 : ab_rng 8 0 60 = true := by decide +kernel
theorem ck_8_60 : ab_rng 8 60 10 = true := by decide +kernel
theorem ck_8 : ∀ pc, ab_chk 8 pc = true := ab_all (f := ic_8) (N := 70) rfl (fun pc h => by unfold ic_8; rw [ab_blt h]; rfl) (fun pc h => if h0 : pc < 60 then ab_rng_at ck_8_0 pc (by omega) (by omega) else ab_rng_at ck_8_60 pc (by omega) (by omega))
theorem ck_9_0 : ab_rng 9 0 58 = true := by decide +kernel
theorem ck_9 : ∀ pc, ab_chk 9 pc = true := ab_all (f := ic_9) (N := 58) rfl (fun pc h => by unfold ic_9; rw [ab_blt h]; rfl) (fun pc h => ab_rng_at ck_9_0 pc (by omega) (by omega))
theorem ck_10_0 : ab_rng 10 0 56 = true := by decide +kernel
theorem ck_10 : ∀ pc, ab_chk 10 pc = true := ab_all (f := ic_10) (N := 56) rfl (fun pc h => by unfold ic_10; rw [ab_blt h]; rfl) (fun pc h => ab_rng_at ck_10_0 pc (by omega) (by omega))
theorem ck_11_0 : ab_rng 11 0 60 = true := by decide +kernel
theorem ck_11_60 : ab_rng 11 60 4 = true := by decide +kernel
theorem ck_11 : ∀ pc, ab_chk 11 pc = true := ab_all (f := ic_11) (N := 64) rfl (fun pc h => by unfold ic_11; rw [ab_blt h]; rfl) (fun pc h => if h0 : pc < 60 then ab_rng_at ck_11_0 pc (by omega) (by omega) else ab_rng_at ck_11_60 pc (by omega) (by omega))
theorem ck_12_0 : ab_rng 12 0 56 = true := by decide +kernel
theorem ck_12 : ∀ pc, ab_chk 12 pc = true := ab_all (f := ic_12) (N := 56) rfl (fun pc h => by unfold ic_12; rw [ab_blt h]; rfl) (fun pc h => ab_rng_at ck_12_0 pc (by omega) (by omega))
theorem ck_13_0 : ab_rng 13 0 15 = true := by decide +kernel
theorem ck_13 : ∀ pc, ab_chk 13 pc = true := ab_all (f := ic_13) (N := 15) rfl (fun pc h => by unfold ic_13; rw [ab_blt h]; rfl) (fun pc h => ab_rng_at ck_13_0 pc (by omega) (by omega))
theorem ck_14_0 : ab_rng 14 0 29 = true := by decide +kernel
theorem ck_14 : ∀ pc, ab_chk 14 pc = true := ab_all (f := ic_14) (N := 29) rfl (fun pc h => by unfold ic_14; rw [ab_blt h]; rfl) (fun pc h => ab_rng_at ck_14_0 pc (by omega) (by omega))
theorem ck_15_0 : ab_rng 15 0 56 = true := by decide +kernel
theorem ck_15 : ∀ pc, ab_chk 15 pc = true := ab_all (f := ic_15) (N := 56) rfl (fun pc h => by unfold ic_15; rw [ab_blt h]; rfl) (fun pc h => ab_rng_at ck_15_0 pc (by omega) (by omega))
theorem ck_16_0 : ab_rng 16 0 43 = true := by decide +kernel
theorem ck_16 : ∀ pc, ab_chk 16 pc = true := ab_all (f := ic_16) (N := 43) rfl (fun pc h => by unfold ic_16; rw [ab_blt h]; rfl) (fun pc h => ab_rng_at ck_16_0 pc (by omega) (by omega))
theorem ck_17_0 : ab_rng 17 0 60 = true := by decide +kernel
theorem ck_17_60 : ab_rng 17 60 60 = true := by decide +kernel
theorem ck_17_120 : ab_rng 17 120 25 = true := by decide +kernel
theorem ck_17 : ∀ pc, ab_chk 17 pc = true := ab_all (f := ic_17) (N := 145) rfl (fun pc h => by unfold ic_17; rw [ab_blt h]; rfl) (fun pc h => if h0 : pc < 60 then ab_rng_at ck_17_0 pc (by omega) (by omega) else if h1 : pc < 120 then ab_rng_at ck_17_60 pc (by omega) (by omega) else ab_rng_at ck_17_120 pc (by omega) (by omega))
theorem ck_18_0 : ab_rng 18 0 59 = true := by decide +kernel
theorem ck_18 : ∀ pc, ab_chk 18 pc = true := ab_all (f := ic_18) (N := 59) rfl (fun pc h => by unfold ic_18; rw [ab_blt h]; rfl) (fun pc h => ab_rng_at ck_18_0 pc (by omega) (by omega))
theorem ck_19_0 : ab_rng 19 0 60 = true := by decide +kernel
theorem ck_19_60 : ab_rng 19 60 37 = true := by decide +kernel
theorem ck_19 : ∀ pc, ab_chk 19 pc = true := ab_all (f := ic_19) (N := 97) rfl (fun pc h => by unfold ic_19; rw [ab_blt h]; rfl) (fun pc h => if h0 : pc < 60 then ab_rng_at ck_19_0 pc (by omega) (by omega) else ab_rng_at ck_19_60 pc (by omega) (by omega))
theorem ck_20_0 : ab_rng 20 0 45 = true := by decide +kernel
theorem ck_20 : ∀ pc, ab_chk 20 pc = true := ab_all (f := ic_20) (N := 45) rfl (fun pc h => by unfold ic_20; rw [ab_blt h]; rfl) (fun pc h => ab_rng_at ck_20_0 pc (by omega) (by omega))
theorem ck_21_0 : ab_rng 21 0 33 = true := by decide +kernel
theorem ck_21 : ∀ pc, ab_chk 21 pc = true := ab_all (f := ic_21) (N := 33) rfl (fun pc h => by unfold ic_21; rw [ab_blt h]; rfl) (fun pc h => ab_rng_at ck_21_0 pc (by omega) (by omega))
theorem ck_22_0 : ab_rng 22 0 33 = true := by decide +kernel
theorem ck_22 : ∀ pc, ab_chk 22 pc = true := ab_all (f := ic_22) (N := 33) rfl (fun pc h => by unfold ic_22; rw [ab_blt h]; rfl) (fun pc h => ab_rng_at ck_22_0 pc (by omega) (by omega))
theorem ck_23_0 : ab_rng 23 0 5 = true := by decide +kernel
theorem ck_23 : ∀ pc, ab_chk 23 pc = true := ab_all (f := ic_23) (N := 5) rfl (fun pc h => by unfold ic_23; rw [ab_blt h]; rfl) (fun pc h => ab_rng_at ck_23_0 pc (by omega) (by omega))
theorem ck_24_0 : ab_rng 24 0 5 = true := by decide +kernel
theorem ck_24 : ∀ pc, ab_chk 24 pc = true := ab_all (f := ic_24) (N := 5) rfl (fun pc h => by unfold ic_24; rw [ab_blt h]; rfl) (fun pc h => ab_rng_at ck_24_0 pc (by omega) (by omega))
theorem ck_25_0 : ab_rng 25 0 23 = true := by decide +kernel
theorem ck_25 : ∀ pc, ab_chk 25 pc = true := ab_all (f := ic_25) (N := 23) rfl (fun pc h => by unfold ic_25; rw [ab_blt h]; rfl) (fun pc h => ab_rng_at ck_25_0 pc (by omega) (by omega))
theorem ck_26_0 : ab_rng 26 0 23 = true := by decide +kernel
theorem ck_26 : ∀ pc, ab_chk 26 pc = true := ab_all (f := ic_26) (N := 23) rfl (fun pc h => by unfold ic_26; rw [ab_blt h]; rfl) (fun pc h => ab_rng_at ck_26_0 pc (by omega) (by omega))
theorem ck_27_0 : ab_rng 27 0 44 = true := by decide +kernel
theorem ck_27 : ∀ pc, ab_chk 27 pc = true := ab_all (f := ic_27) (N := 44) rfl (fun pc h => by unfold ic_27; rw [ab_blt h]; rfl) (fun pc h => ab_rng_at ck_27_0 pc (by omega) (by omega))
theorem ck_28_0 : ab_rng 28 0 5 = true := by decide +kernel
theorem ck_28 : ∀ pc, ab_chk 28 pc = true := ab_all (f := ic_28) (N := 5) rfl (fun pc h => by unfold ic_28; rw [ab_blt h]; rfl) (fun pc h => ab_rng_at ck_28_0 pc (by omega) (by omega))
theorem ck_29_0 : ab_rng 29 0 5 = true := by decide +kernel
theorem ck_29 : ∀ pc, ab_chk 29 pc = true := ab_all (f := ic_29) (N := 5) rfl (fun pc h => by unfold ic_29; rw [ab_blt h]; rfl) (fun pc h => ab_rng_at ck_29_0 pc (by omega) (by omega))
theorem ck_30_0 : ab_rng 30 0 39 = true := by decide +kernel
theorem ck_30 : ∀ pc, ab_chk 30 pc = true := ab_all (f := ic_30) (N := 39) rfl (fun pc h => by unfold ic_30; rw [ab_blt h]; rfl) (fun pc h => ab_rng_at ck_30_0 pc (by omega) (by omega))
theorem ck_31_0 : ab_rng 31 0 52 = true := by decide +kernel
theorem ck_31 : ∀ pc, ab_chk 31 pc = true := ab_all (f := ic_31) (N := 52) rfl (fun pc h => by unfold ic_31; rw [ab_blt h]; rfl) (fun pc h => ab_rng_at ck_31_0 pc (by omega) (by omega))
theorem ck_32_0 : ab_rng 32 0 60 = true := by decide +kernel
theorem ck_32_60 : ab_rng 32 60 22 = true := by decide +kernel
theorem ck_32 : ∀ pc, ab_chk 32 pc = true := ab_all (f := ic_32) (N := 82) rfl (fun pc h => by unfold ic_32; rw [ab_blt h]; rfl) (fun pc h => if h0 : pc < 60 then ab_rng_at ck_32_0 pc (by omega) (by omega) else ab_rng_at ck_32_60 pc (by omega) (by omega))
theorem ck_33_0 : ab_rng 33 0 60 = true := by decide +kernel
theorem ck_33_60 : ab_rng 33 60 60 = true := by decide +kernel
theorem ck_33_120 : ab_rng 33 120 40 = true := by decide +kernel
theorem ck_33 : ∀ pc, ab_chk 33 pc = true := ab_all (f := ic_33) (N := 160) rfl (fun pc h => by unfold ic_33; rw [ab_blt h]; rfl) (fun pc h => if h0 : pc < 60 then ab_rng_at ck_33_0 pc (by omega) (by omega) else if h1 : pc < 120 then ab_rng_at ck_33_60 pc (by omega) (by omega) else ab_rng_at ck_33_120 pc (by omega) (by omega))
theorem ck_34_0 : ab_rng 34 0 37 = true := by decide +kernel
theorem ck_34 : ∀ pc, ab_chk 34 pc = true := ab_all (f := ic_34) (N := 37) rfl (fun pc h => by unfold ic_34; rw [ab_blt h]; rfl) (fun pc h => ab_rng_at ck_34_0 pc (by omega) (by omega))
theorem ck_35_0 : ab_rng 35 0 60 = true := by decide +kernel
theorem ck_35_60 : ab_rng 35 60 22 = true := by decide +kernel
