/-! ===== the class: shares, on ===== -/
theorem jg_eq (μ : ab_M) (t n k : Nat) (x : Int) : ag_J (as_J μ t n k x) t n k = x := ab_u3_eq _ _ _ _ _
theorem jg_k (μ : ab_M) {t n k t' n' k' : Nat} (x : Int) (h : k' ≠ k) : ag_J (as_J μ t n k x) t' n' k' = ag_J μ t' n' k' := ab_u3_k _ _ h
theorem sp_mult (d : Nat) (c u v p w : Nat) (μ : ab_M) (hu : ag_J μ 2 c 0 = (u : Int)) (hv : ag_J μ 2 c 1 = (v : Int)) (hw : 1 ≤ w) (hv1 : 1 ≤ v) (huv : u * p ≤ v * w) (h45 : v * w < 2 ^ 45) : Wp (d + 2) 43 [ab_r 2 (some c), ab_i (p : Int), ab_i (w : Int)] μ (fun vv μ' => vv = none ∧ ∃ Jf, μ' = (μ.1, Jf, μ.2.2) ∧ Jf 2 c 0 = ((u * p / Nat.gcd (u * p) (v * w) : Nat) : Int) ∧ Jf 2 c 1 = ((v * w / Nat.gcd (u * p) (v * w) : Nat) : Int)) := by
  refine wp_of ?_
  have m3 : 1 ≤ v * w := Nat.mul_pos hv1 hw
  generalize hU : u * p = U at huv
  generalize hV : v * w = V at huv h45 m3
  have eU : (u : Int) * (p : Int) = (U : Int) := by rw [← hU, Int.natCast_mul]
  have eV : (v : Int) * (w : Int) = (V : Int) := by rw [← hV, Int.natCast_mul]
  have g1 : 0 < Nat.gcd U V := Nat.gcd_pos_of_pos_right _ (by omega)
  refine wg_s rfl rfl ?_
  refine wg_if rfl rfl (fun h1 => ?_) (fun h1 => ?_)
  · refine wg_s rfl rfl ?_
    refine wg_s rfl rfl ?_
    refine wg_gj rfl rfl (show _ = (u : Int) from hu) ?_
    refine wg_s rfl rfl ?_
    refine wg_s rfl rfl ?_
    refine wg_lbin (z := (u : Int) * (p : Int)) rfl rfl (by omega) (by omega) ?_
    rw [eU]
    refine wg_s rfl rfl ?_
    refine wg_s rfl rfl ?_
    refine wg_s rfl rfl ?_
    refine wg_gj rfl rfl (show _ = (v : Int) from (jg_k _ _ (by decide)).trans hv) ?_
    refine wg_s rfl rfl ?_
    refine wg_s rfl rfl ?_
    refine wg_lbin (z := (v : Int) * (w : Int)) rfl rfl (by omega) (by omega) ?_
    rw [eV]
    refine wg_s rfl rfl ?_
    refine wg_s rfl rfl ?_
    refine wg_gj rfl rfl (show _ = (U : Int) from (jg_k _ _ (by decide)).trans (jg_eq _ _ _ _ _)) ?_
    refine wg_s rfl rfl ?_
    refine wg_gj rfl rfl (show _ = (V : Int) from jg_eq _ _ _ _ _) ?_
    refine wg_cf rfl rfl (sp_gcd _ U V _ (by omega) (by omega)) ?_
    refine wg_s rfl rfl ?_
    refine wg_s rfl rfl ?_
    refine wg_s rfl rfl ?_
    refine wg_lc_le rfl rfl (fun h41 => ?_) (fun h41 => ?_)
    · have g2 : Nat.gcd U V = 1 := by omega
      exact wg_ret rfl rfl trivial ⟨rfl, _, rfl, by rw [g2, Nat.div_one]; exact (jg_k _ _ (by decide)).trans (jg_eq _ _ _ _ _), by rw [g2, Nat.div_one]; exact jg_eq _ _ _ _ _⟩
    · refine wg_s rfl rfl ?_
      refine wg_s rfl rfl ?_
      refine wg_gj rfl rfl (show _ = (U : Int) from (jg_k _ _ (by decide)).trans (jg_eq _ _ _ _ _)) ?_
      refine wg_s rfl rfl ?_
      refine wg_c rfl rfl ⟨by omega, by omega⟩ ?_
      refine wg_s rfl rfl ?_
      refine wg_s rfl rfl ?_
      refine wg_s rfl rfl ?_
      refine wg_gj rfl rfl (show _ = (V : Int) from (jg_k _ _ (by decide)).trans (jg_eq _ _ _ _ _)) ?_
      refine wg_s rfl rfl ?_
      refine wg_c rfl rfl ⟨by omega, by omega⟩ ?_
      refine wg_s rfl rfl ?_
      exact wg_ret rfl rfl trivial ⟨rfl, _, rfl, (jg_k _ _ (by decide)).trans (jg_eq _ _ _ _ _), jg_eq _ _ _ _ _⟩
  · exfalso; omega
  
