/-! ===== the class: filling an array ===== -/
def a_fl (μ : ab_M) (s : Nat) (x : Int) (z : Nat) : ab_M := ((fun t' n' k' => if t' = 11 ∧ n' = s ∧ k' < z then x else μ.1 t' n' k'), μ.2)
theorem ag_I_fl (μ : ab_M) (s : Nat) (x : Int) (z t' n' k' : Nat) : ag_I (a_fl μ s x z) t' n' k' = if t' = 11 ∧ n' = s ∧ k' < z then x else ag_I μ t' n' k' := rfl
theorem a_fl_0 (μ : ab_M) (s : Nat) (x : Int) : a_fl μ s x 0 = μ := by
  unfold a_fl
  have : (fun t' n' k' => if t' = 11 ∧ n' = s ∧ k' < 0 then x else μ.1 t' n' k') = μ.1 := by
    funext t' n' k'; rw [if_neg (by omega)]
  rw [this]
theorem a_fl_s (μ : ab_M) (s : Nat) (x : Int) (z : Nat) : as_I (a_fl μ s x z) 11 s z x = a_fl μ s x (z + 1) := by
  unfold as_I a_fl ab_u3
  have : (fun t' n' k' => if t' = 11 ∧ n' = s ∧ k' = z then x else if t' = 11 ∧ n' = s ∧ k' < z then x else μ.1 t' n' k') = (fun t' n' k' => if t' = 11 ∧ n' = s ∧ k' < z + 1 then x else μ.1 t' n' k') := by
    funext t' n' k'
    by_cases h : t' = 11 ∧ n' = s ∧ k' = z
    · rw [if_pos h, if_pos (by omega)]
    · rw [if_neg h]
      by_cases h2 : t' = 11 ∧ n' = s ∧ k' < z
      · rw [if_pos h2, if_pos (by omega)]
      · rw [if_neg h2, if_neg (by omega)]
  rw [← this]
theorem lp_fill {d : Nat} {μ : ab_M} (s L : Nat) (x : Int) (hL : ag_L μ 11 s = L) (hL2 : L ≤ 1000) : ∀ (N z : Nat), L - z < N → z ≤ L → Wg d 161 (a_fl μ s x z) 5 [(0, ab_r 11 (some s)), (1, ab_i x), (2, ab_i (z : Int)), (3, ab_i (L : Int))] [] (fun vv μ' => vv = none ∧ μ' = a_fl μ s x L) := by
  intro N
  induction N with
  | zero => intro z hn; omega
  | succ N ih =>
    intro z hn hz2
    refine wg_s rfl rfl ?_
    refine wg_s rfl rfl ?_
    refine wg_if rfl rfl (fun h7 => ?_) (fun h7 => ?_)
    · have e : z = L := by omega
      subst e
      exact wg_ret rfl rfl trivial ⟨rfl, rfl⟩
    · refine wg_s rfl rfl ?_
      refine wg_s rfl rfl ?_
      refine wg_s rfl rfl ?_
      refine wg_axs rfl hL (by omega) (by omega) ?_
      refine wg_iinc rfl rfl rfl (by omega) (by omega) rfl ?_
      refine wg_s rfl rfl ?_
      have := ih (z + 1) (by omega) (by omega)
      rw [← a_fl_s] at this
      exact this
theorem sp_fill (d : Nat) (μ : ab_M) (s L : Nat) (x : Int) (hL : ag_L μ 11 s = L) (hL2 : L ≤ 1000) : Wp (d + 1) 161 [ab_r 11 (some s), ab_i x] μ (fun vv μ' => vv = none ∧ μ' = a_fl μ s x L) := by
  refine wp_of ?_
  refine wg_s rfl rfl ?_
  refine wg_s rfl rfl ?_
  refine wg_s rfl rfl ?_
  refine wg_len rfl rfl hL ?_
  refine wg_s rfl rfl ?_
  have := lp_fill (d := d) (μ := μ) s L x hL hL2 (L + 1) 0 (by omega) (by omega)
  rw [a_fl_0] at this
  exact this
