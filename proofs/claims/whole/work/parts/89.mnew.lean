def k_1 (μ : ab_M) : ab_M := as_R (as_N (as_R (as_N (as_R (as_N (as_R (as_N (as_R (as_N (as_R (as_N μ 11 8 8) 10 0 2 (some 20)) 11 8 8) 10 0 3 (some 21)) 11 8 8) 10 0 4 (some 22)) 11 8 8) 10 0 5 (some 23)) 11 8 8) 10 0 7 (some 24)) 11 8 8) 10 0 8 (some 25)
def k_2 (μ : ab_M) : ab_M := as_R (as_N (as_R (as_N (as_R (as_N (as_R (as_N (as_R (as_N (k_1 μ) 11 8 8) 10 0 9 (some 26)) 11 8 8) 10 0 10 (some 27)) 11 64 64) 10 0 11 (some 28)) 11 64 64) 10 0 12 (some 29)) 12 200 200) 10 0 13 (some 0)
def k_3 (μ : ab_M) : ab_M := as_R (as_I (as_I (as_I (as_I (as_N (as_R (as_N (as_R (as_N (as_I (as_I (k_2 μ) 10 0 21 (-1)) 10 0 22 (-1)) 13 4 4) 10 0 23 (some 0)) 11 4 4) 10 0 24 (some 30)) 11 4 4) 11 31 0 0) 11 31 1 7) 11 31 2 2) 11 31 3 0) 10 0 25 (some 31)
def k_4 (μ : ab_M) : ab_M := as_R (as_N (as_R (as_N (as_R (as_N (as_R (as_N (as_R (as_N (as_R (as_N (as_R (as_N (k_3 μ) 11 64 64) 10 0 27 (some 32)) 11 64 64) 10 0 28 (some 33)) 11 64 64) 10 0 29 (some 34)) 11 64 64) 10 0 30 (some 35)) 11 64 64) 10 0 31 (some 36)) 11 64 64) 10 0 32 (some 37)) 11 64 64) 10 0 33 (some 38)
def k_5 (μ : ab_M) : ab_M := as_R (as_N (as_R (as_N (as_R (as_N (as_R (as_N (as_R (as_N (as_R (as_N (as_R (as_N (k_4 μ) 11 64 64) 10 0 34 (some 39)) 11 64 64) 10 0 35 (some 40)) 11 4008 4008) 10 0 36 (some 41)) 11 4008 4008) 10 0 37 (some 42)) 11 8 8) 10 0 39 (some 43)) 11 8 8) 10 0 40 (some 44)) 11 8 8) 10 0 41 (some 45)
theorem ms_l_r {s N : Nat} (h : ms_l s = some N) : 20 ≤ s ∧ s < 46 := by
  unfold ms_l at h
  simp only [cond_eq_ite, Nat.beq_eq, Nat.blt_eq] at h
  repeat' (split at h)
  all_goals first | omega | simp at h
theorem k_l20 {μ : ab_M} (h11 : ag_C μ 11 = 20) : ag_L (k_5 μ) 11 20 = 8 := by
  simp [k_5, k_4, k_3, k_2, k_1, ag_L_I, ag_L_R, ag_L_N, ag_C_I, ag_C_R, ag_C_N, h11]
theorem k_l21 {μ : ab_M} (h11 : ag_C μ 11 = 20) : ag_L (k_5 μ) 11 21 = 8 := by
  simp [k_5, k_4, k_3, k_2, k_1, ag_L_I, ag_L_R, ag_L_N, ag_C_I, ag_C_R, ag_C_N, h11]
theorem k_l22 {μ : ab_M} (h11 : ag_C μ 11 = 20) : ag_L (k_5 μ) 11 22 = 8 := by
  simp [k_5, k_4, k_3, k_2, k_1, ag_L_I, ag_L_R, ag_L_N, ag_C_I, ag_C_R, ag_C_N, h11]
theorem k_l23 {μ : ab_M} (h11 : ag_C μ 11 = 20) : ag_L (k_5 μ) 11 23 = 8 := by
  simp [k_5, k_4, k_3, k_2, k_1, ag_L_I, ag_L_R, ag_L_N, ag_C_I, ag_C_R, ag_C_N, h11]
theorem k_l24 {μ : ab_M} (h11 : ag_C μ 11 = 20) : ag_L (k_5 μ) 11 24 = 8 := by
  simp [k_5, k_4, k_3, k_2, k_1, ag_L_I, ag_L_R, ag_L_N, ag_C_I, ag_C_R, ag_C_N, h11]
theorem k_l25 {μ : ab_M} (h11 : ag_C μ 11 = 20) : ag_L (k_5 μ) 11 25 = 8 := by
  simp [k_5, k_4, k_3, k_2, k_1, ag_L_I, ag_L_R, ag_L_N, ag_C_I, ag_C_R, ag_C_N, h11]
theorem k_l26 {μ : ab_M} (h11 : ag_C μ 11 = 20) : ag_L (k_5 μ) 11 26 = 8 := by
  simp [k_5, k_4, k_3, k_2, k_1, ag_L_I, ag_L_R, ag_L_N, ag_C_I, ag_C_R, ag_C_N, h11]
theorem k_l27 {μ : ab_M} (h11 : ag_C μ 11 = 20) : ag_L (k_5 μ) 11 27 = 8 := by
  simp [k_5, k_4, k_3, k_2, k_1, ag_L_I, ag_L_R, ag_L_N, ag_C_I, ag_C_R, ag_C_N, h11]
theorem k_l28 {μ : ab_M} (h11 : ag_C μ 11 = 20) : ag_L (k_5 μ) 11 28 = 64 := by
  simp [k_5, k_4, k_3, k_2, k_1, ag_L_I, ag_L_R, ag_L_N, ag_C_I, ag_C_R, ag_C_N, h11]
theorem k_l29 {μ : ab_M} (h11 : ag_C μ 11 = 20) : ag_L (k_5 μ) 11 29 = 64 := by
  simp [k_5, k_4, k_3, k_2, k_1, ag_L_I, ag_L_R, ag_L_N, ag_C_I, ag_C_R, ag_C_N, h11]
theorem k_l30 {μ : ab_M} (h11 : ag_C μ 11 = 20) : ag_L (k_5 μ) 11 30 = 4 := by
  simp [k_5, k_4, k_3, k_2, k_1, ag_L_I, ag_L_R, ag_L_N, ag_C_I, ag_C_R, ag_C_N, h11]
theorem k_l31 {μ : ab_M} (h11 : ag_C μ 11 = 20) : ag_L (k_5 μ) 11 31 = 4 := by
  simp [k_5, k_4, k_3, k_2, k_1, ag_L_I, ag_L_R, ag_L_N, ag_C_I, ag_C_R, ag_C_N, h11]
theorem k_l32 {μ : ab_M} (h11 : ag_C μ 11 = 20) : ag_L (k_5 μ) 11 32 = 64 := by
  simp [k_5, k_4, k_3, k_2, k_1, ag_L_I, ag_L_R, ag_L_N, ag_C_I, ag_C_R, ag_C_N, h11]
theorem k_l33 {μ : ab_M} (h11 : ag_C μ 11 = 20) : ag_L (k_5 μ) 11 33 = 64 := by
  simp [k_5, k_4, k_3, k_2, k_1, ag_L_I, ag_L_R, ag_L_N, ag_C_I, ag_C_R, ag_C_N, h11]
theorem k_l34 {μ : ab_M} (h11 : ag_C μ 11 = 20) : ag_L (k_5 μ) 11 34 = 64 := by
  simp [k_5, k_4, k_3, k_2, k_1, ag_L_I, ag_L_R, ag_L_N, ag_C_I, ag_C_R, ag_C_N, h11]
theorem k_l35 {μ : ab_M} (h11 : ag_C μ 11 = 20) : ag_L (k_5 μ) 11 35 = 64 := by
  simp [k_5, k_4, k_3, k_2, k_1, ag_L_I, ag_L_R, ag_L_N, ag_C_I, ag_C_R, ag_C_N, h11]
theorem k_l36 {μ : ab_M} (h11 : ag_C μ 11 = 20) : ag_L (k_5 μ) 11 36 = 64 := by
  simp [k_5, k_4, k_3, k_2, k_1, ag_L_I, ag_L_R, ag_L_N, ag_C_I, ag_C_R, ag_C_N, h11]
theorem k_l37 {μ : ab_M} (h11 : ag_C μ 11 = 20) : ag_L (k_5 μ) 11 37 = 64 := by
  simp [k_5, k_4, k_3, k_2, k_1, ag_L_I, ag_L_R, ag_L_N, ag_C_I, ag_C_R, ag_C_N, h11]
theorem k_l38 {μ : ab_M} (h11 : ag_C μ 11 = 20) : ag_L (k_5 μ) 11 38 = 64 := by
  simp [k_5, k_4, k_3, k_2, k_1, ag_L_I, ag_L_R, ag_L_N, ag_C_I, ag_C_R, ag_C_N, h11]
theorem k_l39 {μ : ab_M} (h11 : ag_C μ 11 = 20) : ag_L (k_5 μ) 11 39 = 64 := by
  simp [k_5, k_4, k_3, k_2, k_1, ag_L_I, ag_L_R, ag_L_N, ag_C_I, ag_C_R, ag_C_N, h11]
theorem k_l40 {μ : ab_M} (h11 : ag_C μ 11 = 20) : ag_L (k_5 μ) 11 40 = 64 := by
  simp [k_5, k_4, k_3, k_2, k_1, ag_L_I, ag_L_R, ag_L_N, ag_C_I, ag_C_R, ag_C_N, h11]
theorem k_l41 {μ : ab_M} (h11 : ag_C μ 11 = 20) : ag_L (k_5 μ) 11 41 = 4008 := by
  simp [k_5, k_4, k_3, k_2, k_1, ag_L_I, ag_L_R, ag_L_N, ag_C_I, ag_C_R, ag_C_N, h11]
theorem k_l42 {μ : ab_M} (h11 : ag_C μ 11 = 20) : ag_L (k_5 μ) 11 42 = 4008 := by
  simp [k_5, k_4, k_3, k_2, k_1, ag_L_I, ag_L_R, ag_L_N, ag_C_I, ag_C_R, ag_C_N, h11]
theorem k_l43 {μ : ab_M} (h11 : ag_C μ 11 = 20) : ag_L (k_5 μ) 11 43 = 8 := by
  simp [k_5, k_4, k_3, k_2, k_1, ag_L_I, ag_L_R, ag_L_N, ag_C_I, ag_C_R, ag_C_N, h11]
theorem k_l44 {μ : ab_M} (h11 : ag_C μ 11 = 20) : ag_L (k_5 μ) 11 44 = 8 := by
  simp [k_5, k_4, k_3, k_2, k_1, ag_L_I, ag_L_R, ag_L_N, ag_C_I, ag_C_R, ag_C_N, h11]
theorem k_l45 {μ : ab_M} (h11 : ag_C μ 11 = 20) : ag_L (k_5 μ) 11 45 = 8 := by
  simp [k_5, k_4, k_3, k_2, k_1, ag_L_I, ag_L_R, ag_L_N, ag_C_I, ag_C_R, ag_C_N, h11]
theorem k_L {μ : ab_M} (h11 : ag_C μ 11 = 20) (s N : Nat) (h : ms_l s = some N) : ag_L (k_5 μ) 11 s = N := by
  have hs : 20 ≤ s ∧ s < 46 := ms_l_r h
  rcases (show s = 20 ∨ s = 21 ∨ s = 22 ∨ s = 23 ∨ s = 24 ∨ s = 25 ∨ s = 26 ∨ s = 27 ∨ s = 28 ∨ s = 29 ∨ s = 30 ∨ s = 31 ∨ s = 32 ∨ s = 33 ∨ s = 34 ∨ s = 35 ∨ s = 36 ∨ s = 37 ∨ s = 38 ∨ s = 39 ∨ s = 40 ∨ s = 41 ∨ s = 42 ∨ s = 43 ∨ s = 44 ∨ s = 45 by omega) with rfl | rfl | rfl | rfl | rfl | rfl | rfl | rfl | rfl | rfl | rfl | rfl | rfl | rfl | rfl | rfl | rfl | rfl | rfl | rfl | rfl | rfl | rfl | rfl | rfl | rfl
  · cases h; exact k_l20 h11
  · cases h; exact k_l21 h11
  · cases h; exact k_l22 h11
  · cases h; exact k_l23 h11
  · cases h; exact k_l24 h11
  · cases h; exact k_l25 h11
  · cases h; exact k_l26 h11
  · cases h; exact k_l27 h11
  · cases h; exact k_l28 h11
  · cases h; exact k_l29 h11
  · cases h; exact k_l30 h11
  · cases h; exact k_l31 h11
  · cases h; exact k_l32 h11
  · cases h; exact k_l33 h11
  · cases h; exact k_l34 h11
  · cases h; exact k_l35 h11
  · cases h; exact k_l36 h11
  · cases h; exact k_l37 h11
  · cases h; exact k_l38 h11
  · cases h; exact k_l39 h11
  · cases h; exact k_l40 h11
  · cases h; exact k_l41 h11
  · cases h; exact k_l42 h11
  · cases h; exact k_l43 h11
  · cases h; exact k_l44 h11
  · cases h; exact k_l45 h11
theorem fl_2s (μ : ab_M) (z : Nat) : as_I (as_I (a_fl (a_fl μ 28 50 z) 29 50 z) 11 28 z 50) 11 29 z 50 = a_fl (a_fl μ 28 50 (z + 1)) 29 50 (z + 1) := by
  refine Prod.ext ?_ rfl
  funext t n k
  show (if t = 11 ∧ n = 29 ∧ k = z then (50 : Int) else if t = 11 ∧ n = 28 ∧ k = z then 50 else if t = 11 ∧ n = 29 ∧ k < z then 50 else if t = 11 ∧ n = 28 ∧ k < z then 50 else μ.1 t n k) = (if t = 11 ∧ n = 29 ∧ k < z + 1 then 50 else if t = 11 ∧ n = 28 ∧ k < z + 1 then 50 else μ.1 t n k)
  repeat' split
  all_goals first | rfl | (exfalso; omega)
theorem lp_50 {d : Nat} {μ : ab_M} (h11 : ag_C μ 11 = 20) : ∀ (N z : Nat), 64 - z < N → z ≤ 64 → Wg (d + 1) 109 (a_fl (a_fl (k_5 μ) 28 50 z) 29 50 z) 257 [(0, ab_r 10 (some 0)), (1, ab_i (z : Int))] [] (fun vv μ' => vv = none ∧ μ' = a_fl (a_fl (k_5 μ) 28 50 64) 29 50 64)
  | 0, _, h, _ => by omega
  | N + 1, z, h1, h2 => by
    have r28 : ag_R (k_5 μ) 10 0 11 = some 28 := rfl
    have r29 : ag_R (k_5 μ) 10 0 12 = some 29 := rfl
    have l28 : ag_L (k_5 μ) 11 28 = 64 := k_L h11 28 64 rfl
    have l29 : ag_L (k_5 μ) 11 29 = 64 := k_L h11 29 64 rfl
    refine wg_s rfl rfl ?_
    refine wg_s rfl rfl ?_
    refine wg_if rfl rfl (fun h260 => ?_) (fun h260 => ?_)
    · have e : z = 64 := by omega
      subst e
      exact wg_ret rfl rfl trivial ⟨rfl, rfl⟩
    · refine wg_s rfl rfl ?_
      refine wg_gr rfl rfl (show _ = some 28 from r28) ?_
      refine wg_s rfl rfl ?_
      refine wg_s rfl rfl ?_
      refine wg_axs rfl (show _ = 64 from l28) (by omega) (by omega) ?_
      refine wg_s rfl rfl ?_
      refine wg_gr rfl rfl (show _ = some 29 from r29) ?_
      refine wg_s rfl rfl ?_
      refine wg_s rfl rfl ?_
      refine wg_axs rfl (show _ = 64 from l29) (by omega) (by omega) ?_
      refine wg_iinc rfl rfl rfl (by omega) (by omega) rfl ?_
      refine wg_s rfl rfl ?_
      have hrec := lp_50 (d := d) h11 N (z + 1) (by omega) (by omega)
      rw [← fl_2s] at hrec
      exact hrec
theorem sp_M (d : Nat) {μ : ab_M} (h11 : ag_C μ 11 = 20) (h12 : ag_C μ 12 = 0) (h13 : ag_C μ 13 = 0) : Wp (d + 2) 109 [ab_r 10 (some 0)] μ (fun vv μ' => vv = none ∧ μ' = a_fl (a_fl (k_5 μ) 28 50 64) 29 50 64) := by
  refine wp_of ?_
  refine wg_s rfl rfl ?_
  refine wg_s rfl rfl ?_
  refine wg_s rfl rfl ?_
  refine wg_s rfl rfl ?_
  refine wg_na (z := 8) (c := 20) rfl (show ag_C μ 11 = 20 by omega) (by omega) ?_
  refine wg_s rfl rfl ?_
  refine wg_s rfl rfl ?_
  refine wg_s rfl rfl ?_
  refine wg_na (z := 8) (c := 21) rfl (show ag_C μ 11 + 1 = 21 by omega) (by omega) ?_
  refine wg_s rfl rfl ?_
  refine wg_s rfl rfl ?_
  refine wg_s rfl rfl ?_
  refine wg_na (z := 8) (c := 22) rfl (show ag_C μ 11 + 1 + 1 = 22 by omega) (by omega) ?_
  refine wg_s rfl rfl ?_
  refine wg_s rfl rfl ?_
  refine wg_s rfl rfl ?_
  refine wg_na (z := 8) (c := 23) rfl (show ag_C μ 11 + 1 + 1 + 1 = 23 by omega) (by omega) ?_
  refine wg_s rfl rfl ?_
  refine wg_s rfl rfl ?_
  refine wg_s rfl rfl ?_
  refine wg_na (z := 8) (c := 24) rfl (show ag_C μ 11 + 1 + 1 + 1 + 1 = 24 by omega) (by omega) ?_
  refine wg_s rfl rfl ?_
  refine wg_s rfl rfl ?_
  refine wg_s rfl rfl ?_
  refine wg_na (z := 8) (c := 25) rfl (show ag_C μ 11 + 1 + 1 + 1 + 1 + 1 = 25 by omega) (by omega) ?_
  refine wg_s rfl rfl ?_
  show Wg (d + 1) 109 (k_1 μ) 52 [(0, ab_r 10 (some 0))] [] _
  refine wg_s rfl rfl ?_
  refine wg_s rfl rfl ?_
  refine wg_na (z := 8) (c := 26) rfl (show ag_C μ 11 + 1 + 1 + 1 + 1 + 1 + 1 = 26 by omega) (by omega) ?_
  refine wg_s rfl rfl ?_
  refine wg_s rfl rfl ?_
  refine wg_s rfl rfl ?_
  refine wg_na (z := 8) (c := 27) rfl (show ag_C μ 11 + 1 + 1 + 1 + 1 + 1 + 1 + 1 = 27 by omega) (by omega) ?_
  refine wg_s rfl rfl ?_
  refine wg_s rfl rfl ?_
  refine wg_s rfl rfl ?_
  refine wg_na (z := 64) (c := 28) rfl (show ag_C μ 11 + 1 + 1 + 1 + 1 + 1 + 1 + 1 + 1 = 28 by omega) (by omega) ?_
  refine wg_s rfl rfl ?_
  refine wg_s rfl rfl ?_
  refine wg_s rfl rfl ?_
  refine wg_na (z := 64) (c := 29) rfl (show ag_C μ 11 + 1 + 1 + 1 + 1 + 1 + 1 + 1 + 1 + 1 = 29 by omega) (by omega) ?_
  refine wg_s rfl rfl ?_
  refine wg_s rfl rfl ?_
  refine wg_s rfl rfl ?_
  refine wg_na (z := 200) (c := 0) rfl (show ag_C μ 12 = 0 from h12) (by omega) ?_
  refine wg_s rfl rfl ?_
  show Wg (d + 1) 109 (k_2 μ) 93 [(0, ab_r 10 (some 0))] [] _
  refine wg_s rfl rfl ?_
  refine wg_s rfl rfl ?_
  refine wg_s rfl rfl ?_
  refine wg_s rfl rfl ?_
  refine wg_s rfl rfl ?_
  refine wg_s rfl rfl ?_
  refine wg_s rfl rfl ?_
  refine wg_s rfl rfl ?_
  refine wg_na (z := 4) (c := 0) rfl (show ag_C μ 13 = 0 from h13) (by omega) ?_
  refine wg_s rfl rfl ?_
  refine wg_s rfl rfl ?_
  refine wg_s rfl rfl ?_
  refine wg_na (z := 4) (c := 30) rfl (show ag_C μ 11 + 1 + 1 + 1 + 1 + 1 + 1 + 1 + 1 + 1 + 1 = 30 by omega) (by omega) ?_
  refine wg_s rfl rfl ?_
  refine wg_s rfl rfl ?_
  refine wg_s rfl rfl ?_
  refine wg_na (z := 4) (c := 31) rfl (show ag_C μ 11 + 1 + 1 + 1 + 1 + 1 + 1 + 1 + 1 + 1 + 1 + 1 = 31 by omega) (by omega) ?_
  refine wg_s rfl rfl ?_
  refine wg_s rfl rfl ?_
  refine wg_s rfl rfl ?_
  have h31L : ∀ m : ab_M, m.2.2.2.1 = (as_N (as_R (as_N (as_R (as_N (as_I (as_I (k_2 μ) 10 0 21 (-1)) 10 0 22 (-1)) 13 4 4) 10 0 23 (some 0)) 11 4 4) 10 0 24 (some 30)) 11 4 4).2.2.2.1 → ag_L m 11 31 = 4 := fun m e => by
    unfold ag_L; rw [e]
    show (if 11 = 11 ∧ 31 = _ then 4 else _) = 4
    exact if_pos ⟨rfl, show 31 = ag_C μ 11 + 1 + 1 + 1 + 1 + 1 + 1 + 1 + 1 + 1 + 1 + 1 by omega⟩
  refine wg_axs (N := 4) rfl (h31L _ rfl) (by decide) (by decide) ?_
  refine wg_s rfl rfl ?_
  refine wg_s rfl rfl ?_
  refine wg_s rfl rfl ?_
  refine wg_axs (N := 4) rfl (h31L _ rfl) (by decide) (by decide) ?_
  refine wg_s rfl rfl ?_
  refine wg_s rfl rfl ?_
  refine wg_s rfl rfl ?_
  refine wg_axs (N := 4) rfl (h31L _ rfl) (by decide) (by decide) ?_
  refine wg_s rfl rfl ?_
  refine wg_s rfl rfl ?_
  refine wg_s rfl rfl ?_
  refine wg_axs (N := 4) rfl (h31L _ rfl) (by decide) (by decide) ?_
  refine wg_s rfl rfl ?_
  show Wg (d + 1) 109 (k_3 μ) 141 [(0, ab_r 10 (some 0))] [] _
  refine wg_s rfl rfl ?_
  refine wg_s rfl rfl ?_
  refine wg_na (z := 64) (c := 32) rfl (show ag_C μ 11 + 1 + 1 + 1 + 1 + 1 + 1 + 1 + 1 + 1 + 1 + 1 + 1 = 32 by omega) (by omega) ?_
  refine wg_s rfl rfl ?_
  refine wg_s rfl rfl ?_
  refine wg_s rfl rfl ?_
  refine wg_na (z := 64) (c := 33) rfl (show ag_C μ 11 + 1 + 1 + 1 + 1 + 1 + 1 + 1 + 1 + 1 + 1 + 1 + 1 + 1 = 33 by omega) (by omega) ?_
  refine wg_s rfl rfl ?_
  refine wg_s rfl rfl ?_
  refine wg_s rfl rfl ?_
  refine wg_na (z := 64) (c := 34) rfl (show ag_C μ 11 + 1 + 1 + 1 + 1 + 1 + 1 + 1 + 1 + 1 + 1 + 1 + 1 + 1 + 1 = 34 by omega) (by omega) ?_
  refine wg_s rfl rfl ?_
  refine wg_s rfl rfl ?_
  refine wg_s rfl rfl ?_
  refine wg_na (z := 64) (c := 35) rfl (show ag_C μ 11 + 1 + 1 + 1 + 1 + 1 + 1 + 1 + 1 + 1 + 1 + 1 + 1 + 1 + 1 + 1 = 35 by omega) (by omega) ?_
  refine wg_s rfl rfl ?_
  refine wg_s rfl rfl ?_
  refine wg_s rfl rfl ?_
  refine wg_na (z := 64) (c := 36) rfl (show ag_C μ 11 + 1 + 1 + 1 + 1 + 1 + 1 + 1 + 1 + 1 + 1 + 1 + 1 + 1 + 1 + 1 + 1 = 36 by omega) (by omega) ?_
  refine wg_s rfl rfl ?_
  refine wg_s rfl rfl ?_
  refine wg_s rfl rfl ?_
  refine wg_na (z := 64) (c := 37) rfl (show ag_C μ 11 + 1 + 1 + 1 + 1 + 1 + 1 + 1 + 1 + 1 + 1 + 1 + 1 + 1 + 1 + 1 + 1 + 1 = 37 by omega) (by omega) ?_
  refine wg_s rfl rfl ?_
  refine wg_s rfl rfl ?_
  refine wg_s rfl rfl ?_
  refine wg_na (z := 64) (c := 38) rfl (show ag_C μ 11 + 1 + 1 + 1 + 1 + 1 + 1 + 1 + 1 + 1 + 1 + 1 + 1 + 1 + 1 + 1 + 1 + 1 + 1 = 38 by omega) (by omega) ?_
  refine wg_s rfl rfl ?_
  show Wg (d + 1) 109 (k_4 μ) 197 [(0, ab_r 10 (some 0))] [] _
  refine wg_s rfl rfl ?_
  refine wg_s rfl rfl ?_
  refine wg_na (z := 64) (c := 39) rfl (show ag_C μ 11 + 1 + 1 + 1 + 1 + 1 + 1 + 1 + 1 + 1 + 1 + 1 + 1 + 1 + 1 + 1 + 1 + 1 + 1 + 1 = 39 by omega) (by omega) ?_
  refine wg_s rfl rfl ?_
  refine wg_s rfl rfl ?_
  refine wg_s rfl rfl ?_
  refine wg_na (z := 64) (c := 40) rfl (show ag_C μ 11 + 1 + 1 + 1 + 1 + 1 + 1 + 1 + 1 + 1 + 1 + 1 + 1 + 1 + 1 + 1 + 1 + 1 + 1 + 1 + 1 = 40 by omega) (by omega) ?_
  refine wg_s rfl rfl ?_
  refine wg_s rfl rfl ?_
  refine wg_s rfl rfl ?_
  refine wg_na (z := 4008) (c := 41) rfl (show ag_C μ 11 + 1 + 1 + 1 + 1 + 1 + 1 + 1 + 1 + 1 + 1 + 1 + 1 + 1 + 1 + 1 + 1 + 1 + 1 + 1 + 1 + 1 = 41 by omega) (by omega) ?_
  refine wg_s rfl rfl ?_
  refine wg_s rfl rfl ?_
  refine wg_s rfl rfl ?_
  refine wg_na (z := 4008) (c := 42) rfl (show ag_C μ 11 + 1 + 1 + 1 + 1 + 1 + 1 + 1 + 1 + 1 + 1 + 1 + 1 + 1 + 1 + 1 + 1 + 1 + 1 + 1 + 1 + 1 + 1 = 42 by omega) (by omega) ?_
  refine wg_s rfl rfl ?_
  refine wg_s rfl rfl ?_
  refine wg_s rfl rfl ?_
  refine wg_na (z := 8) (c := 43) rfl (show ag_C μ 11 + 1 + 1 + 1 + 1 + 1 + 1 + 1 + 1 + 1 + 1 + 1 + 1 + 1 + 1 + 1 + 1 + 1 + 1 + 1 + 1 + 1 + 1 + 1 = 43 by omega) (by omega) ?_
  refine wg_s rfl rfl ?_
  refine wg_s rfl rfl ?_
  refine wg_s rfl rfl ?_
  refine wg_na (z := 8) (c := 44) rfl (show ag_C μ 11 + 1 + 1 + 1 + 1 + 1 + 1 + 1 + 1 + 1 + 1 + 1 + 1 + 1 + 1 + 1 + 1 + 1 + 1 + 1 + 1 + 1 + 1 + 1 + 1 = 44 by omega) (by omega) ?_
  refine wg_s rfl rfl ?_
  refine wg_s rfl rfl ?_
  refine wg_s rfl rfl ?_
  refine wg_na (z := 8) (c := 45) rfl (show ag_C μ 11 + 1 + 1 + 1 + 1 + 1 + 1 + 1 + 1 + 1 + 1 + 1 + 1 + 1 + 1 + 1 + 1 + 1 + 1 + 1 + 1 + 1 + 1 + 1 + 1 + 1 = 45 by omega) (by omega) ?_
  refine wg_s rfl rfl ?_
  show Wg (d + 1) 109 (k_5 μ) 255 [(0, ab_r 10 (some 0))] [] _
  refine wg_s rfl rfl ?_
  refine wg_s rfl rfl ?_
  have := lp_50 (d := d) h11 65 0 (by omega) (by omega)
  rw [a_fl_0, a_fl_0] at this
  exact this
