/-! THE WHOLE, of the abstract machine: every script comes to 1 -/
set_option maxRecDepth 100000 in
theorem pure_main {L : Nat} {xs : Nat → Int32} {z : Bool} (hL : L ≤ 3072) : Wg 40 164 (ab_m0 L xs z) 0 [(0, ab_r 20 (some 2))] [] (fun v μ' => v = some (ab_i 1) ∧ ag_c μ' ≤ 600000 ∧ ag_s μ' ≤ 7302250) := by
  refine wg_nw (c := 0) rfl rfl ?_
  refine wg_s rfl rfl ?_
  refine wg_cv rfl rfl (sp_X 37 rfl rfl rfl rfl rfl rfl rfl rfl rfl rfl rfl rfl ⟨rfl, rfl, rfl, rfl⟩) ?_
  refine wg_s rfl rfl ?_
  refine wg_nw (c := 0) rfl rfl ?_
  refine wg_s rfl rfl ?_
  refine wg_cv rfl rfl (sp_M 38 rfl rfl rfl) ?_
  refine wg_s rfl rfl ?_
  refine wg_s rfl rfl ?_
  refine wg_s rfl rfl ?_
  exact lp_law hL (L + 7) 0 (M0_ L xs z) ⟨⟨_, _, _, _, _, _, M0_IX⟩, M0_WZ, M0_FM, M0_c.2.2, M0_c.1, M0_c.2.1⟩ (by omega) (by omega)
