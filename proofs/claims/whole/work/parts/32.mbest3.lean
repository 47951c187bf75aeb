/-! ===== the reference: best, paired, likes ===== -/
def m_bs (μ : ab_M) (l0 : Int) (F0 : Nat → Int) : Int × Int × (Nat → Int) := pf (ag_I μ 10 0 6).toNat (m_ok μ (l_h μ)) (pr_h (fun A => pr_r (ag_I μ 10 0 6).toNat (n_h μ) (m_ok μ (l_h μ)) (m_lk μ (l_h μ)) (m_ld μ (l_h μ)) A (n_h μ)) (fun A => pr_l (m_lk μ (l_h μ)) (m_ld μ (l_h μ)) A (n_h μ))) (n_h μ) 0 (fun _ => -1) (-1, l0, F0)
theorem sp_mbest (d : Nat) (μ : ab_M) (hW : WM μ) (hl9 : WK μ) : Wp (d + 7) 127 [ab_r 10 (some 0)] μ (fun v μ' => SK μ μ' ∧ ∃ l0 F0, v = some (ab_i (if (n_h μ ≤ 6 ∧ n_p μ ≤ 6) then (m_bs μ l0 F0).1 else -1))) := by
  refine wp_of ?_
  refine wg_s rfl rfl ?_
  refine wg_call rfl rfl (sp_mseeks _ _ hW hl9) (fun v μ' hv => ?_)
  obtain ⟨hK, hy, hno⟩ := hv
  by_cases h6 : (n_h μ ≤ 6 ∧ n_p μ ≤ 6)
  · obtain ⟨rfl, l0, F0, hE⟩ := hy h6
    refine wg_s rfl rfl ?_
    refine wg_s rfl rfl ?_
    refine wg_gi rfl rfl (show _ = (m_bs μ l0 F0).1 from hE.2.2.1) ?_
    refine wg_s rfl rfl ?_
    exact wg_ret rfl rfl trivial ⟨hK, l0, F0, by rw [if_pos h6]⟩
  · have ev := hno h6
    subst ev
    refine wg_s rfl rfl ?_
    refine wg_s rfl rfl ?_
    exact wg_ret rfl rfl trivial ⟨hK, 0, fun _ => 0, by rw [if_neg h6]⟩
theorem sp_mlikes (d : Nat) (μ : ab_M) (hW : WM μ) (hl9 : WK μ) : Wp (d + 7) 129 [ab_r 10 (some 0)] μ (fun v μ' => SK μ μ' ∧ ∃ l0 F0, v = some (ab_i (if (n_h μ ≤ 6 ∧ n_p μ ≤ 6) then (m_bs μ l0 F0).2.1 else -1))) := by
  refine wp_of ?_
  refine wg_s rfl rfl ?_
  refine wg_call rfl rfl (sp_mseeks _ _ hW hl9) (fun v μ' hv => ?_)
  obtain ⟨hK, hy, hno⟩ := hv
  by_cases h6 : (n_h μ ≤ 6 ∧ n_p μ ≤ 6)
  · obtain ⟨rfl, l0, F0, hE⟩ := hy h6
    refine wg_s rfl rfl ?_
    refine wg_s rfl rfl ?_
    refine wg_gi rfl rfl (show _ = (m_bs μ l0 F0).2.1 from hE.2.2.2.1) ?_
    refine wg_s rfl rfl ?_
    exact wg_ret rfl rfl trivial ⟨hK, l0, F0, by rw [if_pos h6]⟩
  · have ev := hno h6
    subst ev
    refine wg_s rfl rfl ?_
    refine wg_s rfl rfl ?_
    exact wg_ret rfl rfl trivial ⟨hK, 0, fun _ => 0, by rw [if_neg h6]⟩
theorem sp_mpaired (d : Nat) (h : Int) (μ : ab_M) (hW : WM μ) (hl9 : WK μ) : Wp (d + 7) 128 [ab_r 10 (some 0), ab_i h] μ (fun v μ' => SK μ μ' ∧ ∃ l0 F0, v = some (ab_i (if ((0 ≤ h ∧ h < ag_I μ 10 0 1) ∧ m_lf μ h (ag_I μ 10 0 26).toNat < 0 ∧ (n_h μ ≤ 6 ∧ n_p μ ≤ 6)) then (m_bs μ l0 F0).2.2 (cn (f_h μ) h.toNat) else -1))) := by
  refine wp_of ?_
  obtain ⟨hM0, h1, h66, h26, h0, h14⟩ := id hW
  refine wg_s rfl rfl ?_
  refine wg_s rfl rfl ?_
  refine wg_cf rfl rfl (sp_isHome _ _ _ hW) ?_
  refine wg_eqb rfl (fun h5 => ?_) (fun h5 => ?_)
  · refine wg_s rfl rfl ?_
    refine wg_s rfl rfl ?_
    exact wg_ret rfl rfl trivial ⟨SK_refl μ, 0, fun _ => 0, by rw [if_neg (by omega)]⟩
  · refine wg_s rfl rfl ?_
    refine wg_s rfl rfl ?_
    refine wg_cf rfl rfl (sp_lifeOf _ _ _ hW) ?_
    refine wg_if rfl rfl (fun h13 => ?_) (fun h13 => ?_)
    · refine wg_s rfl rfl ?_
      refine wg_s rfl rfl ?_
      exact wg_ret rfl rfl trivial ⟨SK_refl μ, 0, fun _ => 0, by rw [if_neg (by omega)]⟩
    · refine wg_s rfl rfl ?_
      have hft : f_h μ h.toNat = true := by unfold f_h; rw [decide_eq_true_eq, tnc (show 0 ≤ h by omega)]; omega
      refine wg_call rfl rfl (sp_mseeks _ _ hW hl9) (fun v μ' hv => ?_)
      obtain ⟨hK, hy, hno⟩ := hv
      by_cases h6 : (n_h μ ≤ 6 ∧ n_p μ ≤ 6)
      · obtain ⟨rfl, l0, F0, hE⟩ := hy h6
        have hM := (SK_W hK hW).1
        refine wg_s rfl rfl ?_
        refine wg_s rfl rfl ?_
        refine wg_gm rfl rfl hM ?_
        refine wg_s rfl rfl ?_
        have hn : cn (f_h μ) h.toNat < n_h μ := by
          have h1 : cn (f_h μ) (h.toNat + 1) ≤ n_h μ := cn_mono _ (by omega)
          have h2 : cn (f_h μ) (h.toNat + 1) = cn (f_h μ) h.toNat + 1 := by show cn _ h.toNat + _ = _; rw [if_pos hft]
          omega
        have hx : ag_I μ' 11 45 h.toNat = (m_bs μ l0 F0).2.2 (cn (f_h μ) h.toNat) := by
          have := hE.2.2.2.2 _ hn
          rw [show l_h μ (cn (f_h μ) h.toNat) = h.toNat from ith_c _ _ _ (by omega) hft] at this
          exact this
        refine wg_iav rfl hM rfl (by omega) (by omega) hx ?_
        exact wg_ret rfl rfl trivial ⟨hK, l0, F0, by rw [if_pos ⟨h5, by omega, h6⟩]⟩
      · have ev := hno h6
        subst ev
        refine wg_s rfl rfl ?_
        refine wg_s rfl rfl ?_
        refine wg_s rfl rfl ?_
        exact wg_ret rfl rfl trivial ⟨hK, 0, fun _ => 0, by rw [if_neg (fun q => h6 q.2.2)]⟩
