/-! ===== the class: home ===== -/
def h_new (μ : ab_M) (n : Int) (k a b h : Int) : ab_M := as_I (as_R (a_fl (h_in (as_N μ 4 0 (ab_nf 4)) (ag_C μ 4) k a b h) (ag_C μ 11) 50 8) 15 0 n.toNat (some (ag_C μ 4))) 9 0 7 (n + 1)
theorem sp_xhome (d : Nat) (p q r u : Int) {ν μ : ab_M} {hl hw pl tm : Nat → Nat} {ow : Nat → Nat × Nat} {tc : Nat} (hI : IX ν μ hl hw pl tm ow tc) (hZ : WR ν) : Wp (d + 3) 70 [ab_r 9 (some 0), ab_i p, ab_i q, ab_i r, ab_i u] μ (fun vv μ' => (((0 ≤ p ∧ p ≤ 3) ∧ (0 ≤ q ∧ q ≤ 4095) ∧ (0 ≤ r ∧ r ≤ 4095) ∧ (0 ≤ u ∧ u ≤ 40)) ∧ ag_I ν 10 0 1 < 8 → vv = some (ab_i (ag_I ν 10 0 1)) ∧ μ' = h_new μ (ag_I ν 10 0 1) p q r u) ∧ (¬ (((0 ≤ p ∧ p ≤ 3) ∧ (0 ≤ q ∧ q ≤ 4095) ∧ (0 ≤ r ∧ r ≤ 4095) ∧ (0 ≤ u ∧ u ≤ 40)) ∧ ag_I ν 10 0 1 < 8) → vv = some (ab_i (-1)) ∧ μ' = μ)) := by
  refine wp_of ?_
  obtain ⟨hX, hC, hH, hP, hL, hK, hT, hR, hS⟩ := id hI
  obtain ⟨z1, z6, z26, z0, z14⟩ := id hZ
  obtain ⟨c7, c8, c9, cC4, cC3, cC6, cC11⟩ := id hC
  refine wg_s rfl rfl ?_
  refine wg_s rfl rfl ?_
  refine wg_cf rfl rfl (sp_within _ _ _ _) ?_
  refine wg_eqb rfl (fun h5 => ?_) (fun h5 => ?_)
  · refine wg_s rfl rfl ?_
    exact wg_ret rfl rfl trivial ⟨fun h => absurd h (by omega), fun _ => ⟨rfl, rfl⟩⟩
  · refine wg_s rfl rfl ?_
    refine wg_cf rfl rfl (sp_areTraits _ _ _) ?_
    refine wg_eqb rfl (fun h12 => ?_) (fun h12 => ?_)
    · refine wg_s rfl rfl ?_
      exact wg_ret rfl rfl trivial ⟨fun h => absurd h (by omega), fun _ => ⟨rfl, rfl⟩⟩
    · refine wg_s rfl rfl ?_
      refine wg_cf rfl rfl (sp_areTraits _ _ _) ?_
      refine wg_eqb rfl (fun h19 => ?_) (fun h19 => ?_)
      · refine wg_s rfl rfl ?_
        exact wg_ret rfl rfl trivial ⟨fun h => absurd h (by omega), fun _ => ⟨rfl, rfl⟩⟩
      · refine wg_s rfl rfl ?_
        refine wg_s rfl rfl ?_
        refine wg_cf rfl rfl (sp_within _ _ _ _) ?_
        refine wg_eqb rfl (fun h29 => ?_) (fun h29 => ?_)
        · refine wg_s rfl rfl ?_
          exact wg_ret rfl rfl trivial ⟨fun h => absurd h (by omega), fun _ => ⟨rfl, rfl⟩⟩
        · refine wg_s rfl rfl ?_
          refine wg_gi rfl rfl (show _ = ag_I ν 10 0 1 from c7) ?_
          refine wg_s rfl rfl ?_
          refine wg_if rfl rfl (fun h38 => ?_) (fun h38 => ?_)
          · refine wg_s rfl rfl ?_
            refine wg_gx rfl rfl hX ?_
            refine wg_s rfl rfl ?_
            refine wg_gi rfl rfl (show _ = ag_I ν 10 0 1 from c7) ?_
            refine wg_s rfl rfl ?_
            refine wg_s rfl rfl ?_
            refine wg_s rfl rfl ?_
            refine wg_s rfl rfl ?_
            refine wg_s rfl rfl ?_
            refine wg_s rfl rfl ?_
            refine wg_cv rfl rfl (sp_homeInit _ _ _ _ _ _ _) ?_
            refine wg_aas (t := 15) rfl rfl (show ag_L μ 15 0 = 8 from xf_l hX rfl) (by omega) (by omega) ?_
            refine wg_s rfl rfl ?_
            refine wg_s rfl rfl ?_
            refine wg_gi rfl rfl (show _ = ag_I ν 10 0 1 from c7) ?_
            refine wg_s rfl rfl ?_
            refine wg_iadd rfl (by omega) (by omega) ?_
            refine wg_s rfl rfl ?_
            refine wg_s rfl rfl ?_
            refine wg_gi rfl rfl (show _ = ag_I ν 10 0 1 + 1 from rfl) ?_
            refine wg_s rfl rfl ?_
            refine wg_isub rfl (by omega) (by omega) ?_
            refine wg_ret rfl rfl trivial ⟨fun _ => ⟨?_, rfl⟩, fun h => absurd ?_ h⟩
            · congr 2; omega
            · omega
          · refine wg_s rfl rfl ?_
            exact wg_ret rfl rfl trivial ⟨fun h => absurd h (by omega), fun _ => ⟨rfl, rfl⟩⟩
def p_new (μ : ab_M) (n : Int) (k a b h : Int) : ab_M := as_I (as_R (a_fl (p_in (as_N μ 3 0 (ab_nf 3)) (ag_C μ 3) k a b h) (ag_C μ 11) 50 8) 14 0 n.toNat (some (ag_C μ 3))) 9 0 8 (n + 1)
theorem sp_xhelper (d : Nat) (p q r u : Int) {ν μ : ab_M} {hl hw pl tm : Nat → Nat} {ow : Nat → Nat × Nat} {tc : Nat} (hI : IX ν μ hl hw pl tm ow tc) (hZ : WR ν) : Wp (d + 3) 71 [ab_r 9 (some 0), ab_i p, ab_i q, ab_i r, ab_i u] μ (fun vv μ' => (((0 ≤ p ∧ p ≤ 4095) ∧ (0 ≤ q ∧ q ≤ 4095) ∧ (0 ≤ r ∧ r ≤ 40) ∧ (0 ≤ u ∧ u ≤ 500)) ∧ ag_I ν 10 0 6 < 8 → vv = some (ab_i (ag_I ν 10 0 6)) ∧ μ' = p_new μ (ag_I ν 10 0 6) p q r u) ∧ (¬ (((0 ≤ p ∧ p ≤ 4095) ∧ (0 ≤ q ∧ q ≤ 4095) ∧ (0 ≤ r ∧ r ≤ 40) ∧ (0 ≤ u ∧ u ≤ 500)) ∧ ag_I ν 10 0 6 < 8) → vv = some (ab_i (-1)) ∧ μ' = μ)) := by
  refine wp_of ?_
  obtain ⟨hX, hC, hH, hP, hL, hK, hT, hR, hS⟩ := id hI
  obtain ⟨z1, z6, z26, z0, z14⟩ := id hZ
  obtain ⟨c7, c8, c9, cC4, cC3, cC6, cC11⟩ := id hC
  refine wg_s rfl rfl ?_
  refine wg_cf rfl rfl (sp_areTraits _ _ _) ?_
  refine wg_eqb rfl (fun h4 => ?_) (fun h4 => ?_)
  · refine wg_s rfl rfl ?_
    exact wg_ret rfl rfl trivial ⟨fun h => absurd h (by omega), fun _ => ⟨rfl, rfl⟩⟩
  · refine wg_s rfl rfl ?_
    refine wg_cf rfl rfl (sp_areTraits _ _ _) ?_
    refine wg_eqb rfl (fun h11 => ?_) (fun h11 => ?_)
    · refine wg_s rfl rfl ?_
      exact wg_ret rfl rfl trivial ⟨fun h => absurd h (by omega), fun _ => ⟨rfl, rfl⟩⟩
    · refine wg_s rfl rfl ?_
      refine wg_s rfl rfl ?_
      refine wg_cf rfl rfl (sp_within _ _ _ _) ?_
      refine wg_eqb rfl (fun h20 => ?_) (fun h20 => ?_)
      · refine wg_s rfl rfl ?_
        exact wg_ret rfl rfl trivial ⟨fun h => absurd h (by omega), fun _ => ⟨rfl, rfl⟩⟩
      · refine wg_s rfl rfl ?_
        refine wg_cf rfl rfl (sp_isWeek _ _ _) ?_
        refine wg_eqb rfl (fun h28 => ?_) (fun h28 => ?_)
        · refine wg_s rfl rfl ?_
          exact wg_ret rfl rfl trivial ⟨fun h => absurd h (by omega), fun _ => ⟨rfl, rfl⟩⟩
        · refine wg_s rfl rfl ?_
          refine wg_gi rfl rfl (show _ = ag_I ν 10 0 6 from c8) ?_
          refine wg_s rfl rfl ?_
          refine wg_if rfl rfl (fun h37 => ?_) (fun h37 => ?_)
          · refine wg_s rfl rfl ?_
            refine wg_gx rfl rfl hX ?_
            refine wg_s rfl rfl ?_
            refine wg_gi rfl rfl (show _ = ag_I ν 10 0 6 from c8) ?_
            refine wg_s rfl rfl ?_
            refine wg_s rfl rfl ?_
            refine wg_s rfl rfl ?_
            refine wg_s rfl rfl ?_
            refine wg_s rfl rfl ?_
            refine wg_s rfl rfl ?_
            refine wg_cv rfl rfl (sp_helperInit _ _ _ _ _ _ _) ?_
            refine wg_aas (t := 14) rfl rfl (show ag_L μ 14 0 = 8 from xf_l hX rfl) (by omega) (by omega) ?_
            refine wg_s rfl rfl ?_
            refine wg_s rfl rfl ?_
            refine wg_gi rfl rfl (show _ = ag_I ν 10 0 6 from c8) ?_
            refine wg_s rfl rfl ?_
            refine wg_iadd rfl (by omega) (by omega) ?_
            refine wg_s rfl rfl ?_
            refine wg_s rfl rfl ?_
            refine wg_gi rfl rfl (show _ = ag_I ν 10 0 6 + 1 from rfl) ?_
            refine wg_s rfl rfl ?_
            refine wg_isub rfl (by omega) (by omega) ?_
            refine wg_ret rfl rfl trivial ⟨fun _ => ⟨?_, rfl⟩, fun h => absurd ?_ h⟩
            · congr 2; omega
            · omega
          · refine wg_s rfl rfl ?_
            exact wg_ret rfl rfl trivial ⟨fun h => absurd h (by omega), fun _ => ⟨rfl, rfl⟩⟩
