/-! ===== the class: a new home, a new helper ===== -/
theorem ag_R_y (μ : ab_M) (t n k : Nat) (o : Option Nat) : ag_R (as_R μ t n k o) t n k = o := ab_u3_eq _ _ _ _ _
theorem ag_R_n {μ : ab_M} {t n k : Nat} {o : Option Nat} {t' n' k' : Nat} (h : ¬ (t' = t ∧ n' = n ∧ k' = k)) : ag_R (as_R μ t n k o) t' n' k' = ag_R μ t' n' k' := by
  show (if t' = t ∧ n' = n ∧ k' = k then o else μ.2.2.1 t' n' k') = _
  rw [if_neg h]; rfl
/-- ahead of the likes -/
def h_in (μ : ab_M) (c : Nat) (k a b h : Int) : ab_M := as_I (as_I (as_I (as_I (as_R (as_R (as_N (as_R (as_N μ 11 8 8) 4 c 4 (some (ag_C μ 11))) 11 501 501) 4 c 5 (some (ag_C μ 11 + 1))) 4 c 6 none) 4 c 0 k) 4 c 1 a) 4 c 2 b) 4 c 3 h
theorem sp_homeInit (d c : Nat) (k a b h : Int) (μ : ab_M) : Wp (d + 2) 47 [ab_r 4 (some c), ab_i k, ab_i a, ab_i b, ab_i h] μ (fun vv μ' => vv = none ∧ μ' = a_fl (h_in μ c k a b h) (ag_C μ 11) 50 8) := by
  refine wp_of ?_
  have hg : ag_R (h_in μ c k a b h) 4 c 4 = some (ag_C μ 11) := by
    show ag_R (as_R (as_R (as_N (as_R (as_N μ 11 8 8) 4 c 4 (some (ag_C μ 11))) 11 501 501) 4 c 5 (some (ag_C μ 11 + 1))) 4 c 6 none) 4 c 4 = _
    rw [ag_R_n (by omega), ag_R_n (by omega)]
    rw [ag_R_N, if_neg (by omega)]; exact ag_R_y _ _ _ _ _
  have hL8 : ag_L (h_in μ c k a b h) 11 (ag_C μ 11) = 8 := by
    show ag_L (as_N (as_R (as_N μ 11 8 8) 4 c 4 (some (ag_C μ 11))) 11 501 501) 11 (ag_C μ 11) = 8
    rw [ag_L_N, if_neg (by show ¬ (_ ∧ ag_C μ 11 = ag_C (as_N μ 11 8 8) 11); rw [ag_C_N, if_pos rfl]; omega)]
    show ag_L (as_N μ 11 8 8) 11 (ag_C μ 11) = 8
    rw [ag_L_N, if_pos ⟨rfl, rfl⟩]
  refine wg_s rfl rfl ?_
  refine wg_s rfl rfl ?_
  refine wg_s rfl rfl ?_
  refine wg_s rfl rfl ?_
  refine wg_c rfl rfl ⟨by omega, by omega⟩ ?_
  refine wg_s rfl rfl ?_
  refine wg_s rfl rfl ?_
  refine wg_s rfl rfl ?_
  refine wg_c rfl rfl ⟨by omega, by omega⟩ ?_
  refine wg_s rfl rfl ?_
  refine wg_s rfl rfl ?_
  refine wg_s rfl rfl ?_
  refine wg_s rfl rfl ?_
  refine wg_s rfl rfl ?_
  refine wg_s rfl rfl ?_
  refine wg_s rfl rfl ?_
  refine wg_s rfl rfl ?_
  refine wg_s rfl rfl ?_
  refine wg_s rfl rfl ?_
  refine wg_s rfl rfl ?_
  refine wg_s rfl rfl ?_
  refine wg_s rfl rfl ?_
  refine wg_s rfl rfl ?_
  refine wg_s rfl rfl ?_
  refine wg_s rfl rfl ?_
  refine wg_s rfl rfl ?_
  refine wg_gr rfl rfl hg ?_
  refine wg_s rfl rfl ?_
  refine wg_cv rfl rfl (sp_fill _ _ (ag_C μ 11) 8 50 hL8 (by omega)) ?_
  exact wg_ret rfl rfl trivial ⟨rfl, rfl⟩
def p_in (μ : ab_M) (c : Nat) (k a b h : Int) : ab_M := as_I (as_I (as_I (as_I (as_R (as_R (as_N μ 11 8 8) 3 c 3 (some (ag_C μ 11))) 3 c 5 none) 3 c 0 k) 3 c 1 a) 3 c 2 b) 3 c 4 h
theorem sp_helperInit (d c : Nat) (k a b h : Int) (μ : ab_M) : Wp (d + 2) 46 [ab_r 3 (some c), ab_i k, ab_i a, ab_i b, ab_i h] μ (fun vv μ' => vv = none ∧ μ' = a_fl (p_in μ c k a b h) (ag_C μ 11) 50 8) := by
  refine wp_of ?_
  have hg : ag_R (p_in μ c k a b h) 3 c 3 = some (ag_C μ 11) := by
    show ag_R (as_R (as_R (as_N μ 11 8 8) 3 c 3 (some (ag_C μ 11))) 3 c 5 none) 3 c 3 = _
    rw [ag_R_n (by omega)]; exact ag_R_y _ _ _ _ _
  have hL8 : ag_L (p_in μ c k a b h) 11 (ag_C μ 11) = 8 := by
    show ag_L (as_N μ 11 8 8) 11 (ag_C μ 11) = 8
    rw [ag_L_N, if_pos ⟨rfl, rfl⟩]
  refine wg_s rfl rfl ?_
  refine wg_s rfl rfl ?_
  refine wg_s rfl rfl ?_
  refine wg_s rfl rfl ?_
  refine wg_c rfl rfl ⟨by omega, by omega⟩ ?_
  refine wg_s rfl rfl ?_
  refine wg_s rfl rfl ?_
  refine wg_s rfl rfl ?_
  refine wg_s rfl rfl ?_
  refine wg_s rfl rfl ?_
  refine wg_s rfl rfl ?_
  refine wg_s rfl rfl ?_
  refine wg_s rfl rfl ?_
  refine wg_s rfl rfl ?_
  refine wg_s rfl rfl ?_
  refine wg_s rfl rfl ?_
  refine wg_s rfl rfl ?_
  refine wg_s rfl rfl ?_
  refine wg_s rfl rfl ?_
  refine wg_s rfl rfl ?_
  refine wg_s rfl rfl ?_
  refine wg_s rfl rfl ?_
  refine wg_gr rfl rfl hg ?_
  refine wg_s rfl rfl ?_
  refine wg_cv rfl rfl (sp_fill _ _ (ag_C μ 11) 8 50 hL8 (by omega)) ?_
  exact wg_ret rfl rfl trivial ⟨rfl, rfl⟩
