/-! ===== the beginning: both are made ===== -/
section
variable {d k : Nat} {μ : ab_M} {pc : Nat} {l : ab_L} {st : List ab_V} {Q : Option ab_V → ab_M → Prop} {nx a b : Nat}
theorem wg_nw {x c : Nat} (hi : ab_ins k pc = some (.new x, nx, a, b)) (hC : ag_C μ a = c) (K : Wg d k (as_N μ a 0 (ab_nf a)) nx l (ab_r a (some c) :: st) Q) : Wg d k μ pc l st Q := by
  refine wg_s hi rfl ?_
  rw [hC]; exact K
theorem wg_na {x : ArrayType} {c z : Nat} (hi : ab_ins k pc = some (.newarray x, nx, a, b)) (hC : ag_C μ a = c) (hz : z ≤ 100000) (K : Wg d k (as_N μ a z z) nx l (ab_r a (some c) :: st) Q) : Wg d k μ pc l (ab_i (z : Int) :: st) Q := by
  refine wg_c hi rfl ⟨by omega, by omega⟩ ?_
  rw [hC]; exact K
theorem wg_nr {x c z : Nat} (hi : ab_ins k pc = some (.anewarray x, nx, a, b)) (hC : ag_C μ a = c) (hz : z ≤ 100000) (K : Wg d k (as_N μ a z z) nx l (ab_r a (some c) :: st) Q) : Wg d k μ pc l (ab_i (z : Int) :: st) Q := by
  refine wg_c hi rfl ⟨by omega, by omega⟩ ?_
  rw [hC]; exact K
theorem wg_nm {x c : Nat} (hi : ab_ins k pc = some (.multianewarray x 2, nx, a, b)) (hC : ag_C μ 18 = c) (K : Wg d k (as_W μ 6 6) nx l (ab_r 18 (some c) :: st) Q) : Wg d k μ pc l (ab_i 6 :: ab_i 6 :: st) Q := by
  refine wg_c hi rfl ⟨⟨by omega, by omega⟩, by omega, by omega⟩ ?_
  rw [hC]; exact K
end
def tp_in (μ : ab_M) (s : Nat) : ab_M := as_I (as_R (as_N μ 11 200 200) 7 0 0 (some s)) 7 0 1 0
def rd_in (μ : ab_M) (s : Nat) : ab_M := as_I (as_I (as_I (as_I (as_I (as_I (as_I (as_R (as_N μ 11 4 4) 0 0 0 (some s)) 0 0 1 0) 0 0 2 0) 0 0 3 (-1)) 0 0 4 (-1)) 0 0 5 0) 0 0 6 0) 0 0 7 0
def la_in (μ : ab_M) (c : Nat) : ab_M := as_I (as_R (as_N μ 17 16 16) 5 c 0 (some c)) 5 c 1 0
def bp_in (μ : ab_M) : ab_M := as_I (as_I (as_R (as_N (as_R (as_N (as_R (as_N (as_R (as_N (as_R (as_W (as_R (as_W (as_I (as_I (as_R (as_N (as_R (as_N μ 11 6 6) 1 0 0 (some 2)) 11 6 6) 1 0 1 (some 3)) 1 0 2 0) 1 0 3 0) 6 6) 1 0 4 (some 0)) 6 6) 1 0 5 (some 1)) 11 7 7) 1 0 6 (some 16)) 11 6 6) 1 0 7 (some 17)) 11 6 6) 1 0 8 (some 18)) 11 6 6) 1 0 9 (some 19)) 1 0 10 (-1)) 1 0 11 0
theorem sp_tapeInit (d s : Nat) {μ : ab_M} (hC : ag_C μ 11 = s) : Wp (d + 1) 61 [ab_r 7 (some 0)] μ (fun vv μ' => vv = none ∧ μ' = tp_in μ s) := by
  refine wp_of ?_
  refine wg_s rfl rfl ?_
  refine wg_s rfl rfl ?_
  refine wg_s rfl rfl ?_
  refine wg_s rfl rfl ?_
  refine wg_na (z := 200) (c := s) rfl hC (by omega) ?_
  refine wg_s rfl rfl ?_
  refine wg_s rfl rfl ?_
  refine wg_s rfl rfl ?_
  refine wg_s rfl rfl ?_
  exact wg_ret rfl rfl trivial ⟨rfl, rfl⟩
theorem sp_readerInit (d s : Nat) {μ : ab_M} (hC : ag_C μ 11 = s) : Wp (d + 1) 0 [ab_r 0 (some 0)] μ (fun vv μ' => vv = none ∧ μ' = rd_in μ s) := by
  refine wp_of ?_
  refine wg_s rfl rfl ?_
  refine wg_s rfl rfl ?_
  refine wg_s rfl rfl ?_
  refine wg_s rfl rfl ?_
  refine wg_na (z := 4) (c := s) rfl hC (by omega) ?_
  refine wg_s rfl rfl ?_
  refine wg_s rfl rfl ?_
  refine wg_s rfl rfl ?_
  refine wg_s rfl rfl ?_
  refine wg_s rfl rfl ?_
  refine wg_s rfl rfl ?_
  refine wg_s rfl rfl ?_
  refine wg_s rfl rfl ?_
  refine wg_s rfl rfl ?_
  refine wg_s rfl rfl ?_
  refine wg_s rfl rfl ?_
  refine wg_s rfl rfl ?_
  refine wg_s rfl rfl ?_
  refine wg_s rfl rfl ?_
  refine wg_s rfl rfl ?_
  refine wg_s rfl rfl ?_
  refine wg_s rfl rfl ?_
  refine wg_s rfl rfl ?_
  refine wg_s rfl rfl ?_
  refine wg_s rfl rfl ?_
  refine wg_s rfl rfl ?_
  refine wg_s rfl rfl ?_
  exact wg_ret rfl rfl trivial ⟨rfl, rfl⟩
theorem sp_lastingInit (d c : Nat) {μ : ab_M} (hC : ag_C μ 17 = c) : Wp (d + 1) 48 [ab_r 5 (some c)] μ (fun vv μ' => vv = none ∧ μ' = la_in μ c) := by
  refine wp_of ?_
  refine wg_s rfl rfl ?_
  refine wg_s rfl rfl ?_
  refine wg_s rfl rfl ?_
  refine wg_s rfl rfl ?_
  refine wg_nr (z := 16) (c := c) rfl hC (by omega) ?_
  refine wg_s rfl rfl ?_
  refine wg_s rfl rfl ?_
  refine wg_s rfl rfl ?_
  refine wg_s rfl rfl ?_
  exact wg_ret rfl rfl trivial ⟨rfl, rfl⟩
theorem sp_pairingInit (d : Nat) {μ : ab_M} (hC : ag_C μ 11 = 2) (h18 : ag_C μ 18 = 0) : Wp (d + 1) 19 [ab_r 1 (some 0)] μ (fun vv μ' => vv = none ∧ μ' = bp_in μ) := by
  refine wp_of ?_
  refine wg_s rfl rfl ?_
  refine wg_s rfl rfl ?_
  refine wg_s rfl rfl ?_
  refine wg_s rfl rfl ?_
  refine wg_na (z := 6) (c := 2) rfl (show ag_C μ 11 = 2 by omega) (by omega) ?_
  refine wg_s rfl rfl ?_
  refine wg_s rfl rfl ?_
  refine wg_s rfl rfl ?_
  refine wg_na (z := 6) (c := 3) rfl (show ag_C μ 11 + 1 = 3 by omega) (by omega) ?_
  refine wg_s rfl rfl ?_
  refine wg_s rfl rfl ?_
  refine wg_s rfl rfl ?_
  refine wg_s rfl rfl ?_
  refine wg_s rfl rfl ?_
  refine wg_s rfl rfl ?_
  refine wg_s rfl rfl ?_
  refine wg_s rfl rfl ?_
  refine wg_s rfl rfl ?_
  refine wg_s rfl rfl ?_
  refine wg_nm (c := 0) rfl h18 ?_
  refine wg_s rfl rfl ?_
  refine wg_s rfl rfl ?_
  refine wg_s rfl rfl ?_
  refine wg_s rfl rfl ?_
  refine wg_nm (c := 1) rfl (show ag_C μ 18 + 1 = 1 by omega) ?_
  refine wg_s rfl rfl ?_
  refine wg_s rfl rfl ?_
  refine wg_s rfl rfl ?_
  refine wg_na (z := 7) (c := 16) rfl (show ag_C μ 11 + 1 + 1 + 6 + 6 = 16 by omega) (by omega) ?_
  refine wg_s rfl rfl ?_
  refine wg_s rfl rfl ?_
  refine wg_s rfl rfl ?_
  refine wg_na (z := 6) (c := 17) rfl (show ag_C μ 11 + 1 + 1 + 6 + 6 + 1 = 17 by omega) (by omega) ?_
  refine wg_s rfl rfl ?_
  refine wg_s rfl rfl ?_
  refine wg_s rfl rfl ?_
  refine wg_na (z := 6) (c := 18) rfl (show ag_C μ 11 + 1 + 1 + 6 + 6 + 1 + 1 = 18 by omega) (by omega) ?_
  refine wg_s rfl rfl ?_
  refine wg_s rfl rfl ?_
  refine wg_s rfl rfl ?_
  refine wg_na (z := 6) (c := 19) rfl (show ag_C μ 11 + 1 + 1 + 6 + 6 + 1 + 1 + 1 = 19 by omega) (by omega) ?_
  refine wg_s rfl rfl ?_
  refine wg_s rfl rfl ?_
  refine wg_s rfl rfl ?_
  refine wg_s rfl rfl ?_
  refine wg_s rfl rfl ?_
  refine wg_s rfl rfl ?_
  refine wg_s rfl rfl ?_
  exact wg_ret rfl rfl trivial ⟨rfl, rfl⟩
theorem sp_wo0 (d : Nat) (x : Int) {μ : ab_M} (hL : ag_L μ 20 0 = 4) (hv : ag_I μ 20 0 0 = x) : Wp (d + 1) 1 [ab_i 0] μ (fun vv μ' => vv = some (ab_i x) ∧ μ' = μ) := by
  refine wp_of ?_
  refine wg_s rfl rfl ?_
  refine wg_s rfl rfl ?_
  refine wg_at (pc2 := 4) (by decide) ?_
  refine wg_s rfl rfl ?_
  refine wg_s rfl rfl ?_
  refine wg_len rfl rfl hL ?_
  refine wg_s rfl rfl ?_
  refine wg_at (pc2 := 12) (by decide) ?_
  refine wg_s rfl rfl ?_
  refine wg_s rfl rfl ?_
  refine wg_ar rfl hL (by omega) (by omega) (show _ = x from hv) ?_
  refine wg_s rfl rfl ?_
  exact wg_ret rfl rfl trivial ⟨rfl, rfl⟩
theorem sp_wo1 (d : Nat) (x : Int) {μ : ab_M} (hL : ag_L μ 20 0 = 4) (hv : ag_I μ 20 0 1 = x) : Wp (d + 1) 1 [ab_i 1] μ (fun vv μ' => vv = some (ab_i x) ∧ μ' = μ) := by
  refine wp_of ?_
  refine wg_s rfl rfl ?_
  refine wg_s rfl rfl ?_
  refine wg_at (pc2 := 4) (by decide) ?_
  refine wg_s rfl rfl ?_
  refine wg_s rfl rfl ?_
  refine wg_len rfl rfl hL ?_
  refine wg_s rfl rfl ?_
  refine wg_at (pc2 := 12) (by decide) ?_
  refine wg_s rfl rfl ?_
  refine wg_s rfl rfl ?_
  refine wg_ar rfl hL (by omega) (by omega) (show _ = x from hv) ?_
  refine wg_s rfl rfl ?_
  exact wg_ret rfl rfl trivial ⟨rfl, rfl⟩
theorem sp_wo2 (d : Nat) (x : Int) {μ : ab_M} (hL : ag_L μ 20 0 = 4) (hv : ag_I μ 20 0 2 = x) : Wp (d + 1) 1 [ab_i 2] μ (fun vv μ' => vv = some (ab_i x) ∧ μ' = μ) := by
  refine wp_of ?_
  refine wg_s rfl rfl ?_
  refine wg_s rfl rfl ?_
  refine wg_at (pc2 := 4) (by decide) ?_
  refine wg_s rfl rfl ?_
  refine wg_s rfl rfl ?_
  refine wg_len rfl rfl hL ?_
  refine wg_s rfl rfl ?_
  refine wg_at (pc2 := 12) (by decide) ?_
  refine wg_s rfl rfl ?_
  refine wg_s rfl rfl ?_
  refine wg_ar rfl hL (by omega) (by omega) (show _ = x from hv) ?_
  refine wg_s rfl rfl ?_
  exact wg_ret rfl rfl trivial ⟨rfl, rfl⟩
theorem sp_wo3 (d : Nat) (x : Int) {μ : ab_M} (hL : ag_L μ 20 0 = 4) (hv : ag_I μ 20 0 3 = x) : Wp (d + 1) 1 [ab_i 3] μ (fun vv μ' => vv = some (ab_i x) ∧ μ' = μ) := by
  refine wp_of ?_
  refine wg_s rfl rfl ?_
  refine wg_s rfl rfl ?_
  refine wg_at (pc2 := 4) (by decide) ?_
  refine wg_s rfl rfl ?_
  refine wg_s rfl rfl ?_
  refine wg_len rfl rfl hL ?_
  refine wg_s rfl rfl ?_
  refine wg_at (pc2 := 12) (by decide) ?_
  refine wg_s rfl rfl ?_
  refine wg_s rfl rfl ?_
  refine wg_ar rfl hL (by omega) (by omega) (show _ = x from hv) ?_
  refine wg_s rfl rfl ?_
  exact wg_ret rfl rfl trivial ⟨rfl, rfl⟩
def c_1 (μ : ab_M) : ab_M := as_R (as_N (as_R (as_N (as_R (as_N μ 15 8 8) 9 0 0 (some 0)) 14 8 8) 9 0 1 (some 0)) 16 4 4) 9 0 2 (some 0)
def c_2 (μ : ab_M) : ab_M := as_R (rd_in (as_N (as_R (tp_in (as_N (c_1 μ) 7 0 (ab_nf 7)) 0) 9 0 3 (some 0)) 0 0 (ab_nf 0)) 1) 9 0 4 (some 0)
def c_3 (μ : ab_M) : ab_M := as_R (bp_in (as_N (c_2 μ) 1 0 (ab_nf 1))) 9 0 5 (some 0)
def c_4 (μ : ab_M) : ab_M := as_I (as_I (as_I (as_R (x_tm (as_N (c_3 μ) 8 0 (ab_nf 8)) 0 0 7 2 0) 9 0 6 (some 0)) 9 0 7 0) 9 0 8 0) 9 0 9 0
def c_5 (μ : ab_M) : ab_M := as_R (la_in (as_N (as_R (la_in (as_N (as_R (la_in (as_N (as_R (la_in (as_N (c_4 μ) 5 0 (ab_nf 5)) 0) 16 0 0 (some 0)) 5 0 (ab_nf 5)) 1) 16 0 1 (some 1)) 5 0 (ab_nf 5)) 2) 16 0 2 (some 2)) 5 0 (ab_nf 5)) 3) 16 0 3 (some 3)
theorem sp_X (d : Nat) {μ : ab_M} (h15 : ag_C μ 15 = 0) (h14 : ag_C μ 14 = 0) (h16 : ag_C μ 16 = 0) (h7 : ag_C μ 7 = 0) (h0 : ag_C μ 0 = 0) (h1 : ag_C μ 1 = 0) (h8 : ag_C μ 8 = 0) (h5 : ag_C μ 5 = 0) (h11 : ag_C μ 11 = 0) (h18 : ag_C μ 18 = 0) (h17 : ag_C μ 17 = 0) (hL : ag_L μ 20 0 = 4) (hv : ag_I μ 20 0 0 = 0 ∧ ag_I μ 20 0 1 = 7 ∧ ag_I μ 20 0 2 = 2 ∧ ag_I μ 20 0 3 = 0) : Wp (d + 3) 69 [ab_r 9 (some 0)] μ (fun vv μ' => vv = none ∧ μ' = c_5 μ) := by
  refine wp_of ?_
  refine wg_s rfl rfl ?_
  refine wg_s rfl rfl ?_
  refine wg_s rfl rfl ?_
  refine wg_s rfl rfl ?_
  refine wg_nr (z := 8) (c := 0) rfl h15 (by omega) ?_
  refine wg_s rfl rfl ?_
  refine wg_s rfl rfl ?_
  refine wg_s rfl rfl ?_
  refine wg_nr (z := 8) (c := 0) rfl (show ag_C μ 14 = 0 from h14) (by omega) ?_
  refine wg_s rfl rfl ?_
  refine wg_s rfl rfl ?_
  refine wg_s rfl rfl ?_
  refine wg_nr (z := 4) (c := 0) rfl (show ag_C μ 16 = 0 from h16) (by omega) ?_
  refine wg_s rfl rfl ?_
  refine wg_s rfl rfl ?_
  refine wg_nw (c := 0) rfl (show ag_C μ 7 = 0 from h7) ?_
  refine wg_s rfl rfl ?_
  refine wg_cv rfl rfl (sp_tapeInit _ 0 (show ag_C μ 11 = 0 from h11)) ?_
  refine wg_s rfl rfl ?_
  refine wg_s rfl rfl ?_
  refine wg_nw (c := 0) rfl (show ag_C μ 0 = 0 from h0) ?_
  refine wg_s rfl rfl ?_
  refine wg_cv rfl rfl (sp_readerInit _ 1 (show ag_C μ 11 + 1 = 1 by omega)) ?_
  refine wg_s rfl rfl ?_
  refine wg_s rfl rfl ?_
  refine wg_nw (c := 0) rfl (show ag_C μ 1 = 0 from h1) ?_
  refine wg_s rfl rfl ?_
  refine wg_cv rfl rfl (sp_pairingInit _ (show ag_C μ 11 + 1 + 1 = 2 by omega) (show ag_C μ 18 = 0 from h18)) ?_
  refine wg_s rfl rfl ?_
  refine wg_s rfl rfl ?_
  refine wg_nw (c := 0) rfl (show ag_C μ 8 = 0 from h8) ?_
  refine wg_s rfl rfl ?_
  refine wg_s rfl rfl ?_
  refine wg_cf rfl rfl (sp_wo0 _ 0 (by exact hL) (by exact hv.1)) ?_
  refine wg_s rfl rfl ?_
  refine wg_cf rfl rfl (sp_wo1 _ 7 (by exact hL) (by exact hv.2.1)) ?_
  refine wg_s rfl rfl ?_
  refine wg_cf rfl rfl (sp_wo2 _ 2 (by exact hL) (by exact hv.2.2.1)) ?_
  refine wg_s rfl rfl ?_
  refine wg_cf rfl rfl (sp_wo3 _ 0 (by exact hL) (by exact hv.2.2.2)) ?_
  refine wg_cv rfl rfl (sp_termsInit _ _ _ _ _ _ _) ?_
  refine wg_s rfl rfl ?_
  refine wg_s rfl rfl ?_
  refine wg_s rfl rfl ?_
  refine wg_s rfl rfl ?_
  refine wg_s rfl rfl ?_
  refine wg_s rfl rfl ?_
  refine wg_s rfl rfl ?_
  refine wg_s rfl rfl ?_
  refine wg_s rfl rfl ?_
  refine wg_s rfl rfl ?_
  refine wg_s rfl rfl ?_
  refine wg_s rfl rfl ?_
  show Wg (d + 2) 69 (c_4 μ) 107 [(0, ab_r 9 (some 0)), (1, ab_i 0)] [] _
  have hr2 : ag_R (c_4 μ) 9 0 2 = some 0 := rfl
  have hL4 : ag_L (c_4 μ) 16 0 = 4 := by
    show (if 16 = 16 ∧ 0 = ag_C μ 16 then 4 else _) = 4
    exact if_pos ⟨rfl, h16.symm⟩
  refine wg_s rfl rfl ?_
  refine wg_s rfl rfl ?_
  refine wg_s rfl rfl ?_
  refine wg_at (pc2 := 112) (by decide) ?_
  refine wg_s rfl rfl ?_
  refine wg_gr rfl rfl (show _ = some 0 from hr2) ?_
  refine wg_s rfl rfl ?_
  refine wg_nw (c := 0) rfl (show ag_C μ 5 = 0 by omega) ?_
  refine wg_s rfl rfl ?_
  refine wg_cv rfl rfl (sp_lastingInit _ 0 (show ag_C μ 17 = 0 by omega)) ?_
  refine wg_aas (t := 16) rfl rfl (show _ = 4 from hL4) (by decide) (by decide) ?_
  refine wg_iinc rfl rfl rfl (by decide) (by decide) rfl ?_
  refine wg_s rfl rfl ?_
  refine wg_s rfl rfl ?_
  refine wg_s rfl rfl ?_
  refine wg_s rfl rfl ?_
  refine wg_at (pc2 := 112) (by decide) ?_
  refine wg_s rfl rfl ?_
  refine wg_gr rfl rfl (show _ = some 0 from hr2) ?_
  refine wg_s rfl rfl ?_
  refine wg_nw (c := 1) rfl (show ag_C μ 5 + 1 = 1 by omega) ?_
  refine wg_s rfl rfl ?_
  refine wg_cv rfl rfl (sp_lastingInit _ 1 (show ag_C μ 17 + 1 = 1 by omega)) ?_
  refine wg_aas (t := 16) rfl rfl (show _ = 4 from hL4) (by decide) (by decide) ?_
  refine wg_iinc rfl rfl rfl (by decide) (by decide) rfl ?_
  refine wg_s rfl rfl ?_
  refine wg_s rfl rfl ?_
  refine wg_s rfl rfl ?_
  refine wg_s rfl rfl ?_
  refine wg_at (pc2 := 112) (by decide) ?_
  refine wg_s rfl rfl ?_
  refine wg_gr rfl rfl (show _ = some 0 from hr2) ?_
  refine wg_s rfl rfl ?_
  refine wg_nw (c := 2) rfl (show ag_C μ 5 + 1 + 1 = 2 by omega) ?_
  refine wg_s rfl rfl ?_
  refine wg_cv rfl rfl (sp_lastingInit _ 2 (show ag_C μ 17 + 1 + 1 = 2 by omega)) ?_
  refine wg_aas (t := 16) rfl rfl (show _ = 4 from hL4) (by decide) (by decide) ?_
  refine wg_iinc rfl rfl rfl (by decide) (by decide) rfl ?_
  refine wg_s rfl rfl ?_
  refine wg_s rfl rfl ?_
  refine wg_s rfl rfl ?_
  refine wg_s rfl rfl ?_
  refine wg_at (pc2 := 112) (by decide) ?_
  refine wg_s rfl rfl ?_
  refine wg_gr rfl rfl (show _ = some 0 from hr2) ?_
  refine wg_s rfl rfl ?_
  refine wg_nw (c := 3) rfl (show ag_C μ 5 + 1 + 1 + 1 = 3 by omega) ?_
  refine wg_s rfl rfl ?_
  refine wg_cv rfl rfl (sp_lastingInit _ 3 (show ag_C μ 17 + 1 + 1 + 1 = 3 by omega)) ?_
  refine wg_aas (t := 16) rfl rfl (show _ = 4 from hL4) (by decide) (by decide) ?_
  refine wg_iinc rfl rfl rfl (by decide) (by decide) rfl ?_
  refine wg_s rfl rfl ?_
  refine wg_s rfl rfl ?_
  refine wg_s rfl rfl ?_
  refine wg_s rfl rfl ?_
  refine wg_at (pc2 := 131) (by decide) ?_
  exact wg_ret rfl rfl trivial ⟨rfl, rfl⟩
