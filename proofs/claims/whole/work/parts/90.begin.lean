/-! ===== the beginning: what holds then ===== -/
theorem FX_of {r : Nat → Nat → Nat → Option Nat} {ln : Nat → Nat → Nat} (h9 : ∀ b, b < 6 → r 9 0 b = some 0) (h7 : r 7 0 0 = some 0) (h0 : r 0 0 0 = some 1) (h1 : r 1 0 0 = some 2 ∧ r 1 0 1 = some 3 ∧ r 1 0 4 = some 0 ∧ r 1 0 5 = some 1 ∧ r 1 0 6 = some 16 ∧ r 1 0 7 = some 17 ∧ r 1 0 8 = some 18 ∧ r 1 0 9 = some 19) (h21 : ∀ n, n < 5 → r 21 n 0 = some n) (l0 : ln 11 0 = 200 ∧ ln 11 1 = 4 ∧ ln 11 16 = 7) (l6 : ∀ n, 2 ≤ n → n < 20 → n ≠ 16 → ln 11 n = 6) (l14 : ln 14 0 = 8 ∧ ln 15 0 = 8 ∧ ln 16 0 = 4) (l17 : ∀ n, n < 4 → ln 17 n = 16) (l18 : ∀ n, n < 2 → ln 18 n = 6) (l20 : ∀ n, n < 2 → ln 20 n = 4) (l22 : ∀ n, n < 5 → ln 22 n = ab_bl.getD n 0) (hr18 : ∀ i, i < 6 → r 18 0 i = some (4 + i) ∧ r 18 1 i = some (10 + i)) (hk : ∀ k, k < 4 → r 16 0 k = some k ∧ r 5 k 0 = some k) : FX r ln := by
  refine ⟨fun t n b s q => ?_, fun t n N q => ?_, hr18, fun k hk2 => ⟨(hk k hk2).1, (hk k hk2).2, l17 k hk2⟩⟩
  · unfold xs_n at q
    simp only [cond_eq_ite, Nat.beq_eq, Nat.blt_eq, Bool.and_eq_true] at q
    by_cases c21 : t = 21
    · rw [if_pos c21] at q
      by_cases ca : n < 5 ∧ b = 0
      · rw [if_pos ca] at q; obtain rfl := Option.some.inj q
        rw [c21, ca.2]; exact h21 n ca.1
      · rw [if_neg ca] at q; exact absurd q (by simp)
    · rw [if_neg c21] at q
      by_cases cn : n = 0
      · rw [if_pos cn] at q
        by_cases ct9 : t = 9
        · rw [if_pos ct9] at q
          by_cases cb : b < 6
          · rw [if_pos cb] at q; obtain rfl := Option.some.inj q
            rw [ct9, cn]; exact h9 b cb
          · rw [if_neg cb] at q; exact absurd q (by simp)
        · rw [if_neg ct9] at q
          by_cases ct7 : t = 7
          · rw [if_pos ct7] at q
            by_cases cb : b = 0
            · rw [if_pos cb] at q; obtain rfl := Option.some.inj q
              rw [ct7, cn, cb]; exact h7
            · rw [if_neg cb] at q; exact absurd q (by simp)
          · rw [if_neg ct7] at q
            by_cases ct0 : t = 0
            · rw [if_pos ct0] at q
              by_cases cb : b = 0
              · rw [if_pos cb] at q; obtain rfl := Option.some.inj q
                rw [ct0, cn, cb]; exact h0
              · rw [if_neg cb] at q; exact absurd q (by simp)
            · rw [if_neg ct0] at q
              by_cases ct1 : t = 1
              · rw [if_pos ct1] at q
                by_cases d0 : b = 0
                · rw [if_pos d0] at q; obtain rfl := Option.some.inj q; rw [ct1, cn, d0]; exact h1.1
                · rw [if_neg d0] at q
                  by_cases d1 : b = 1
                  · rw [if_pos d1] at q; obtain rfl := Option.some.inj q; rw [ct1, cn, d1]; exact h1.2.1
                  · rw [if_neg d1] at q
                    by_cases d4 : b = 4
                    · rw [if_pos d4] at q; obtain rfl := Option.some.inj q; rw [ct1, cn, d4]; exact h1.2.2.1
                    · rw [if_neg d4] at q
                      by_cases d5 : b = 5
                      · rw [if_pos d5] at q; obtain rfl := Option.some.inj q; rw [ct1, cn, d5]; exact h1.2.2.2.1
                      · rw [if_neg d5] at q
                        by_cases d6 : b = 6
                        · rw [if_pos d6] at q; obtain rfl := Option.some.inj q; rw [ct1, cn, d6]; exact h1.2.2.2.2.1
                        · rw [if_neg d6] at q
                          by_cases d7 : b = 7
                          · rw [if_pos d7] at q; obtain rfl := Option.some.inj q; rw [ct1, cn, d7]; exact h1.2.2.2.2.2.1
                          · rw [if_neg d7] at q
                            by_cases d8 : b = 8
                            · rw [if_pos d8] at q; obtain rfl := Option.some.inj q; rw [ct1, cn, d8]; exact h1.2.2.2.2.2.2.1
                            · rw [if_neg d8] at q
                              by_cases d9 : b = 9
                              · rw [if_pos d9] at q; obtain rfl := Option.some.inj q; rw [ct1, cn, d9]; exact h1.2.2.2.2.2.2.2
                              · rw [if_neg d9] at q
                                exact absurd q (by simp)
              · rw [if_neg ct1] at q
                exact absurd q (by simp)
      · rw [if_neg cn] at q; exact absurd q (by simp)
  · unfold xs_l at q
    simp only [cond_eq_ite, Nat.beq_eq, Nat.blt_eq, Bool.or_eq_true] at q
    by_cases ct : t = 11
    · rw [if_pos ct] at q
      by_cases d0 : n = 0
      · rw [if_pos d0] at q; obtain rfl := Option.some.inj q; rw [ct, d0]; exact l0.1
      · rw [if_neg d0] at q
        by_cases d1 : n = 1
        · rw [if_pos d1] at q; obtain rfl := Option.some.inj q; rw [ct, d1]; exact l0.2.1
        · rw [if_neg d1] at q
          by_cases d2 : n < 16
          · rw [if_pos d2] at q; obtain rfl := Option.some.inj q; rw [ct]; exact l6 n (by omega) (by omega) (by omega)
          · rw [if_neg d2] at q
            by_cases d3 : n = 16
            · rw [if_pos d3] at q; obtain rfl := Option.some.inj q; rw [ct, d3]; exact l0.2.2
            · rw [if_neg d3] at q
              by_cases d4 : n < 20
              · rw [if_pos d4] at q; obtain rfl := Option.some.inj q; rw [ct]; exact l6 n (by omega) (by omega) (by omega)
              · rw [if_neg d4] at q; exact absurd q (by simp)
    · rw [if_neg ct] at q
      by_cases ct2 : t = 14 ∨ t = 15
      · rw [if_pos ct2] at q
        by_cases cn : n = 0
        · rw [if_pos cn] at q; obtain rfl := Option.some.inj q
          rcases ct2 with e | e
          · rw [e, cn]; exact l14.1
          · rw [e, cn]; exact l14.2.1
        · rw [if_neg cn] at q; exact absurd q (by simp)
      · rw [if_neg ct2] at q
        by_cases ct3 : t = 16
        · rw [if_pos ct3] at q
          by_cases cn : n = 0
          · rw [if_pos cn] at q; obtain rfl := Option.some.inj q
            rw [ct3, cn]; exact l14.2.2
          · rw [if_neg cn] at q; exact absurd q (by simp)
        · rw [if_neg ct3] at q
          by_cases ct4 : t = 17
          · rw [if_pos ct4] at q
            by_cases cn : n < 4
            · rw [if_pos cn] at q; obtain rfl := Option.some.inj q
              rw [ct4]; exact l17 n cn
            · rw [if_neg cn] at q; exact absurd q (by simp)
          · rw [if_neg ct4] at q
            by_cases ct5 : t = 18
            · rw [if_pos ct5] at q
              by_cases cn : n < 2
              · rw [if_pos cn] at q; obtain rfl := Option.some.inj q
                rw [ct5]; exact l18 n cn
              · rw [if_neg cn] at q; exact absurd q (by simp)
            · rw [if_neg ct5] at q
              by_cases ct6 : t = 20
              · rw [if_pos ct6] at q
                by_cases cn : n < 2
                · rw [if_pos cn] at q; obtain rfl := Option.some.inj q
                  rw [ct6]; exact l20 n cn
                · rw [if_neg cn] at q; exact absurd q (by simp)
              · rw [if_neg ct6] at q
                by_cases ct7 : t = 22
                · rw [if_pos ct7] at q
                  by_cases cn : n < 5
                  · rw [if_pos cn] at q; obtain rfl := Option.some.inj q
                    rw [ct7]; exact l22 n cn
                  · rw [if_neg cn] at q; exact absurd q (by simp)
                · rw [if_neg ct7] at q
                  exact absurd q (by simp)
def M0_ (L : Nat) (xs : Nat → Int32) (z : Bool) : ab_M := a_fl (a_fl (k_5 (as_N (c_5 (as_N (ab_m0 L xs z) 9 0 (ab_nf 9))) 10 0 (ab_nf 10))) 28 50 64) 29 50 64
theorem ms_n_r {b s : Nat} (h : ms_n b = some s) : b < 42 := by
  unfold ms_n at h
  simp only [cond_eq_ite, Nat.beq_eq, Nat.blt_eq] at h
  repeat' (split at h)
  all_goals first | omega | simp at h
section
variable {L : Nat} {xs : Nat → Int32} {z : Bool}
set_option maxRecDepth 100000 in
theorem M0_XF : XF (M0_ L xs z) := by
  refine FX_of (fun b hb => ?_) rfl rfl ⟨rfl, rfl, rfl, rfl, rfl, rfl, rfl, rfl⟩ (fun n hn => rfl) ⟨rfl, rfl, rfl⟩ (fun n h1 h2 h3 => ?_) ⟨rfl, rfl, rfl⟩ (fun n hn => ?_) (fun n hn => ?_) (fun n hn => ?_) (fun n hn => rfl) (fun i hi => ?_) (fun k hk => ?_)
  · rcases (show b = 0 ∨ b = 1 ∨ b = 2 ∨ b = 3 ∨ b = 4 ∨ b = 5 by omega) with rfl | rfl | rfl | rfl | rfl | rfl <;> rfl
  · rcases (show n = 2 ∨ n = 3 ∨ n = 4 ∨ n = 5 ∨ n = 6 ∨ n = 7 ∨ n = 8 ∨ n = 9 ∨ n = 10 ∨ n = 11 ∨ n = 12 ∨ n = 13 ∨ n = 14 ∨ n = 15 ∨ n = 17 ∨ n = 18 ∨ n = 19 by omega) with rfl | rfl | rfl | rfl | rfl | rfl | rfl | rfl | rfl | rfl | rfl | rfl | rfl | rfl | rfl | rfl | rfl <;> rfl
  · rcases (show n = 0 ∨ n = 1 ∨ n = 2 ∨ n = 3 by omega) with rfl | rfl | rfl | rfl <;> rfl
  · rcases (show n = 0 ∨ n = 1 by omega) with rfl | rfl <;> rfl
  · rcases (show n = 0 ∨ n = 1 by omega) with rfl | rfl <;> rfl
  · rcases (show i = 0 ∨ i = 1 ∨ i = 2 ∨ i = 3 ∨ i = 4 ∨ i = 5 by omega) with rfl | rfl | rfl | rfl | rfl | rfl <;> exact ⟨rfl, rfl⟩
  · rcases (show k = 0 ∨ k = 1 ∨ k = 2 ∨ k = 3 by omega) with rfl | rfl | rfl | rfl <;> exact ⟨rfl, rfl⟩
set_option maxRecDepth 100000 in
theorem M0_FM : FM (M0_ L xs z).2.2.1 (M0_ L xs z).2.2.2.1 := by
  refine ⟨fun b s h => ?_, fun s N h => ?_, rfl, rfl⟩
  · have hb := ms_n_r h
    rcases (show b = 0 ∨ b = 1 ∨ b = 2 ∨ b = 3 ∨ b = 4 ∨ b = 5 ∨ b = 6 ∨ b = 7 ∨ b = 8 ∨ b = 9 ∨ b = 10 ∨ b = 11 ∨ b = 12 ∨ b = 13 ∨ b = 14 ∨ b = 15 ∨ b = 16 ∨ b = 17 ∨ b = 18 ∨ b = 19 ∨ b = 20 ∨ b = 21 ∨ b = 22 ∨ b = 23 ∨ b = 24 ∨ b = 25 ∨ b = 26 ∨ b = 27 ∨ b = 28 ∨ b = 29 ∨ b = 30 ∨ b = 31 ∨ b = 32 ∨ b = 33 ∨ b = 34 ∨ b = 35 ∨ b = 36 ∨ b = 37 ∨ b = 38 ∨ b = 39 ∨ b = 40 ∨ b = 41 by omega) with rfl | rfl | rfl | rfl | rfl | rfl | rfl | rfl | rfl | rfl | rfl | rfl | rfl | rfl | rfl | rfl | rfl | rfl | rfl | rfl | rfl | rfl | rfl | rfl | rfl | rfl | rfl | rfl | rfl | rfl | rfl | rfl | rfl | rfl | rfl | rfl | rfl | rfl | rfl | rfl | rfl | rfl
    all_goals first | (cases h; done) | (cases h; rfl)
  · exact k_L (μ := as_N (c_5 (as_N (ab_m0 L xs z) 9 0 (ab_nf 9))) 10 0 (ab_nf 10)) rfl s N h
theorem M0_28 {k : Nat} (hk : k < 64) : ag_I (M0_ L xs z) 11 28 k = 50 ∧ ag_I (M0_ L xs z) 11 29 k = 50 := by
  unfold M0_
  exact ⟨by rw [a_fl_I, if_neg (by omega), a_fl_I, if_pos ⟨rfl, rfl, hk⟩], by rw [a_fl_I, if_pos ⟨rfl, rfl, hk⟩]⟩
set_option maxRecDepth 100000 in
theorem M0_WZ : WZ (M0_ L xs z) := by
  have e0 : ag_I (M0_ L xs z) 10 0 0 = 0 := rfl
  have e1 : ag_I (M0_ L xs z) 10 0 1 = 0 := rfl
  have e6 : ag_I (M0_ L xs z) 10 0 6 = 0 := rfl
  have e26 : ag_I (M0_ L xs z) 10 0 26 = 0 := rfl
  have e14 : ag_I (M0_ L xs z) 10 0 14 = 0 := rfl
  refine ⟨⟨by rw [e1]; omega, by rw [e6]; omega, by rw [e26]; omega, by rw [e0]; omega, by rw [e14]; omega⟩, fun j hj => by rw [e26] at hj; omega, fun j hj => by rw [e26] at hj; omega, fun k hk => ?_, ⟨fun j hj => by rw [e26] at hj; omega, fun i j _ hj => by rw [e26] at hj; omega, fun h hh => by rw [e1] at hh; omega⟩, fun k => ?_, fun j hj => by rw [e26] at hj; omega, fun j hj => by rw [e26] at hj; omega, fun i => ?_, ⟨fun h p _ h1 h2 => (M0_28 (by omega)).1, fun h p _ h1 h2 => (M0_28 (by omega)).2⟩, ?_⟩
  · rw [(M0_28 hk).1, (M0_28 hk).2]; omega
  · rw [e26]; show (0 : Int) ≤ 16; omega
  · have : ag_I (M0_ L xs z) 12 0 i = 0 := rfl
    rw [this]; omega
  · have h2 : ag_I (M0_ L xs z) 11 31 2 = 2 := rfl
    have h3 : ag_I (M0_ L xs z) 11 31 3 = 0 := rfl
    unfold W31; rw [h2, h3]; omega
set_option maxRecDepth 100000 in
theorem M0_c : ag_c (M0_ L xs z) ≤ 100 ∧ ag_s (M0_ L xs z) ≤ 20000 ∧ ag_L (M0_ L xs z) 20 2 = L := ⟨Nat.le_of_ble_eq_true rfl, Nat.le_of_ble_eq_true rfl, rfl⟩
end
