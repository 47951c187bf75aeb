/-- a try: Math.max -/
theorem tr_max (d : Nat) (x y : Int) (μ : ab_M) : Wp (d + 1) 156 [ab_i x, ab_i y] μ (fun v μ' => v = some (ab_i (max x y)) ∧ μ' = μ) := by
  refine wp_of ?_
  refine wg_s rfl rfl ?_
  refine wg_s rfl rfl ?_
  refine wg_if rfl rfl (fun h => ?_) (fun h => ?_)
  · refine wg_s rfl rfl ?_
    refine wg_ret rfl rfl trivial ⟨by congr 1; congr 1; omega, rfl⟩
  · refine wg_s rfl rfl ?_
    refine wg_s rfl rfl ?_
    refine wg_ret rfl rfl trivial ⟨by congr 1; congr 1; omega, rfl⟩
theorem i_vc : Claimed_1_1 ∧ Claimed_1_2 := sorry
