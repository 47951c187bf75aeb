/-! ===== the law: every script ===== -/
theorem inv_k {L k : Nat} {μ : ab_M} (h : INV L (100 + 3 * k + 3) (20000 + 516 * k + 516) μ) : INV L (100 + 3 * (k + 1)) (20000 + 516 * (k + 1)) μ := by
  rw [show 100 + 3 * (k + 1) = 100 + 3 * k + 3 by omega, show 20000 + 516 * (k + 1) = 20000 + 516 * k + 516 by omega]
  exact h
theorem lp_law {L : Nat} (hL6 : L ≤ 3072) : ∀ (N k : Nat) (μ : ab_M), INV L (100 + 3 * k) (20000 + 516 * k) μ → L + 6 - 6 * k < N → 6 * k ≤ L + 6 → Wg 40 164 μ 18 [(0, ab_r 20 (some 2)), (1, ab_r 9 (some 0)), (2, ab_r 10 (some 0)), (3, ab_i ((6 * k : Nat) : Int))] [] (fun v μ' => v = some (ab_i 1) ∧ ag_c μ' ≤ 600000 ∧ ag_s μ' ≤ 7302250)
  | 0, _, _, _, h, _ => by omega
  | N + 1, k, μ, hI, h1, h2 => by
    have hL : ag_L μ 20 2 = L := hI.2.2.2.1
    refine wg_s rfl rfl ?_
    refine wg_s rfl rfl ?_
    refine wg_len rfl rfl hL ?_
    refine wg_s rfl rfl ?_
    refine wg_isub rfl (by omega) (by omega) ?_
    refine wg_if rfl rfl (fun h24 => ?_) (fun h24 => ?_)
    · refine wg_s rfl rfl ?_
      exact wg_ret rfl rfl (Or.inr rfl) ⟨rfl, by have := hI.2.2.2.2.1; omega, by have := hI.2.2.2.2.2; omega⟩
    · refine wg_s rfl rfl ?_
      refine wg_s rfl rfl ?_
      refine wg_ar rfl hL (by omega) (by omega) (show _ = ag_I μ 20 2 (6 * k) from congrArg (ag_I μ 20 2) (by omega)) ?_
      refine wg_s rfl rfl ?_
      refine wg_s rfl rfl ?_
      generalize ab_and (ag_I μ 20 2 (6 * k)) 31 = sv
      refine wg_s rfl rfl ?_
      by_cases hs0 : sv = 0
      · subst hs0
        refine wg_at (pc2 := 140) (by decide) ?_
        refine wg_s rfl rfl ?_
        refine wg_s rfl rfl ?_
        refine wg_s rfl rfl ?_
        refine wg_s rfl rfl ?_
        refine wg_iadd rfl (by omega) (by omega) ?_
        refine wg_ar rfl hL (by omega) (by omega) (show _ = ag_I μ 20 2 (6 * k + 1) from congrArg (ag_I μ 20 2) (by omega)) ?_
        refine wg_s rfl rfl ?_
        refine wg_s rfl rfl ?_
        refine wg_s rfl rfl ?_
        refine wg_iadd rfl (by omega) (by omega) ?_
        refine wg_ar rfl hL (by omega) (by omega) (show _ = ag_I μ 20 2 (6 * k + 2) from congrArg (ag_I μ 20 2) (by omega)) ?_
        refine wg_s rfl rfl ?_
        refine wg_s rfl rfl ?_
        refine wg_s rfl rfl ?_
        refine wg_iadd rfl (by omega) (by omega) ?_
        refine wg_ar rfl hL (by omega) (by omega) (show _ = ag_I μ 20 2 (6 * k + 3) from congrArg (ag_I μ 20 2) (by omega)) ?_
        refine wg_s rfl rfl ?_
        refine wg_s rfl rfl ?_
        refine wg_s rfl rfl ?_
        refine wg_iadd rfl (by omega) (by omega) ?_
        refine wg_ar rfl hL (by omega) (by omega) (show _ = ag_I μ 20 2 (6 * k + 4) from congrArg (ag_I μ 20 2) (by omega)) ?_
        refine wg_call rfl rfl (pr_home _ _ _ _ hI) (fun v μ1 hq => ?_)
        obtain ⟨⟨hL1, hs1⟩, y, rfl, hM⟩ := hq
        refine wg_s rfl rfl ?_
        refine wg_s rfl rfl ?_
        refine wg_s rfl rfl ?_
        refine wg_s rfl rfl ?_
        refine wg_iadd rfl (by omega) (by omega) ?_
        refine wg_ar rfl hL1 (by omega) (by omega) (show _ = ag_I μ 20 2 (6 * k + 1) from (congrArg (ag_I μ1 20 2) (by omega)).trans (hs1 _)) ?_
        refine wg_s rfl rfl ?_
        refine wg_s rfl rfl ?_
        refine wg_s rfl rfl ?_
        refine wg_iadd rfl (by omega) (by omega) ?_
        refine wg_ar rfl hL1 (by omega) (by omega) (show _ = ag_I μ 20 2 (6 * k + 2) from (congrArg (ag_I μ1 20 2) (by omega)).trans (hs1 _)) ?_
        refine wg_s rfl rfl ?_
        refine wg_s rfl rfl ?_
        refine wg_s rfl rfl ?_
        refine wg_iadd rfl (by omega) (by omega) ?_
        refine wg_ar rfl hL1 (by omega) (by omega) (show _ = ag_I μ 20 2 (6 * k + 3) from (congrArg (ag_I μ1 20 2) (by omega)).trans (hs1 _)) ?_
        refine wg_s rfl rfl ?_
        refine wg_s rfl rfl ?_
        refine wg_s rfl rfl ?_
        refine wg_iadd rfl (by omega) (by omega) ?_
        refine wg_ar rfl hL1 (by omega) (by omega) (show _ = ag_I μ 20 2 (6 * k + 4) from (congrArg (ag_I μ1 20 2) (by omega)).trans (hs1 _)) ?_
        refine wg_call rfl rfl hM (fun v2 μ2 hq2 => ?_)
        obtain ⟨rfl, hI2⟩ := hq2
        refine wg_if rfl rfl (fun h188 => ?_) (fun h188 => ?_)
        · refine wg_iinc rfl rfl rfl (by omega) (by omega) rfl ?_
          refine wg_s rfl rfl ?_
          have hrec := lp_law hL6 N (k + 1) μ2 (inv_k hI2) (by omega) (by omega)
          rw [show ((6 * (k + 1) : Nat) : Int) = ((6 * k : Nat) : Int) + 6 by omega] at hrec
          exact hrec
        · exact absurd rfl h188
      by_cases hs1 : sv = 1
      · subst hs1
        refine wg_at (pc2 := 193) (by decide) ?_
        refine wg_s rfl rfl ?_
        refine wg_s rfl rfl ?_
        refine wg_s rfl rfl ?_
        refine wg_s rfl rfl ?_
        refine wg_iadd rfl (by omega) (by omega) ?_
        refine wg_ar rfl hL (by omega) (by omega) (show _ = ag_I μ 20 2 (6 * k + 1) from congrArg (ag_I μ 20 2) (by omega)) ?_
        refine wg_s rfl rfl ?_
        refine wg_s rfl rfl ?_
        refine wg_s rfl rfl ?_
        refine wg_iadd rfl (by omega) (by omega) ?_
        refine wg_ar rfl hL (by omega) (by omega) (show _ = ag_I μ 20 2 (6 * k + 2) from congrArg (ag_I μ 20 2) (by omega)) ?_
        refine wg_s rfl rfl ?_
        refine wg_s rfl rfl ?_
        refine wg_s rfl rfl ?_
        refine wg_iadd rfl (by omega) (by omega) ?_
        refine wg_ar rfl hL (by omega) (by omega) (show _ = ag_I μ 20 2 (6 * k + 3) from congrArg (ag_I μ 20 2) (by omega)) ?_
        refine wg_s rfl rfl ?_
        refine wg_s rfl rfl ?_
        refine wg_s rfl rfl ?_
        refine wg_iadd rfl (by omega) (by omega) ?_
        refine wg_ar rfl hL (by omega) (by omega) (show _ = ag_I μ 20 2 (6 * k + 4) from congrArg (ag_I μ 20 2) (by omega)) ?_
        refine wg_call rfl rfl (pr_helper _ _ _ _ hI) (fun v μ1 hq => ?_)
        obtain ⟨⟨hL1, hs1⟩, y, rfl, hM⟩ := hq
        refine wg_s rfl rfl ?_
        refine wg_s rfl rfl ?_
        refine wg_s rfl rfl ?_
        refine wg_s rfl rfl ?_
        refine wg_iadd rfl (by omega) (by omega) ?_
        refine wg_ar rfl hL1 (by omega) (by omega) (show _ = ag_I μ 20 2 (6 * k + 1) from (congrArg (ag_I μ1 20 2) (by omega)).trans (hs1 _)) ?_
        refine wg_s rfl rfl ?_
        refine wg_s rfl rfl ?_
        refine wg_s rfl rfl ?_
        refine wg_iadd rfl (by omega) (by omega) ?_
        refine wg_ar rfl hL1 (by omega) (by omega) (show _ = ag_I μ 20 2 (6 * k + 2) from (congrArg (ag_I μ1 20 2) (by omega)).trans (hs1 _)) ?_
        refine wg_s rfl rfl ?_
        refine wg_s rfl rfl ?_
        refine wg_s rfl rfl ?_
        refine wg_iadd rfl (by omega) (by omega) ?_
        refine wg_ar rfl hL1 (by omega) (by omega) (show _ = ag_I μ 20 2 (6 * k + 3) from (congrArg (ag_I μ1 20 2) (by omega)).trans (hs1 _)) ?_
        refine wg_s rfl rfl ?_
        refine wg_s rfl rfl ?_
        refine wg_s rfl rfl ?_
        refine wg_iadd rfl (by omega) (by omega) ?_
        refine wg_ar rfl hL1 (by omega) (by omega) (show _ = ag_I μ 20 2 (6 * k + 4) from (congrArg (ag_I μ1 20 2) (by omega)).trans (hs1 _)) ?_
        refine wg_call rfl rfl hM (fun v2 μ2 hq2 => ?_)
        obtain ⟨rfl, hI2⟩ := hq2
        refine wg_if rfl rfl (fun h241 => ?_) (fun h241 => ?_)
        · refine wg_iinc rfl rfl rfl (by omega) (by omega) rfl ?_
          refine wg_s rfl rfl ?_
          have hrec := lp_law hL6 N (k + 1) μ2 (inv_k hI2) (by omega) (by omega)
          rw [show ((6 * (k + 1) : Nat) : Int) = ((6 * k : Nat) : Int) + 6 by omega] at hrec
          exact hrec
        · exact absurd rfl h241
      by_cases hs2 : sv = 2
      · subst hs2
        refine wg_at (pc2 := 246) (by decide) ?_
        refine wg_s rfl rfl ?_
        refine wg_s rfl rfl ?_
        refine wg_s rfl rfl ?_
        refine wg_s rfl rfl ?_
        refine wg_iadd rfl (by omega) (by omega) ?_
        refine wg_ar rfl hL (by omega) (by omega) (show _ = ag_I μ 20 2 (6 * k + 1) from congrArg (ag_I μ 20 2) (by omega)) ?_
        refine wg_s rfl rfl ?_
        refine wg_s rfl rfl ?_
        refine wg_s rfl rfl ?_
        refine wg_iadd rfl (by omega) (by omega) ?_
        refine wg_ar rfl hL (by omega) (by omega) (show _ = ag_I μ 20 2 (6 * k + 2) from congrArg (ag_I μ 20 2) (by omega)) ?_
        refine wg_call rfl rfl (pr_check _ _ hI) (fun v μ1 hq => ?_)
        obtain ⟨⟨hL1, hs1⟩, y, rfl, hM⟩ := hq
        refine wg_s rfl rfl ?_
        refine wg_s rfl rfl ?_
        refine wg_s rfl rfl ?_
        refine wg_s rfl rfl ?_
        refine wg_iadd rfl (by omega) (by omega) ?_
        refine wg_ar rfl hL1 (by omega) (by omega) (show _ = ag_I μ 20 2 (6 * k + 1) from (congrArg (ag_I μ1 20 2) (by omega)).trans (hs1 _)) ?_
        refine wg_s rfl rfl ?_
        refine wg_s rfl rfl ?_
        refine wg_s rfl rfl ?_
        refine wg_iadd rfl (by omega) (by omega) ?_
        refine wg_ar rfl hL1 (by omega) (by omega) (show _ = ag_I μ 20 2 (6 * k + 2) from (congrArg (ag_I μ1 20 2) (by omega)).trans (hs1 _)) ?_
        refine wg_call rfl rfl hM (fun v2 μ2 hq2 => ?_)
        obtain ⟨rfl, hI2⟩ := hq2
        refine wg_if rfl rfl (fun h274 => ?_) (fun h274 => ?_)
        · refine wg_iinc rfl rfl rfl (by omega) (by omega) rfl ?_
          refine wg_s rfl rfl ?_
          have hrec := lp_law hL6 N (k + 1) μ2 (inv_k hI2) (by omega) (by omega)
          rw [show ((6 * (k + 1) : Nat) : Int) = ((6 * k : Nat) : Int) + 6 by omega] at hrec
          exact hrec
        · exact absurd rfl h274
      by_cases hs3 : sv = 3
      · subst hs3
        refine wg_at (pc2 := 279) (by decide) ?_
        refine wg_s rfl rfl ?_
        refine wg_s rfl rfl ?_
        refine wg_s rfl rfl ?_
        refine wg_s rfl rfl ?_
        refine wg_iadd rfl (by omega) (by omega) ?_
        refine wg_ar rfl hL (by omega) (by omega) (show _ = ag_I μ 20 2 (6 * k + 1) from congrArg (ag_I μ 20 2) (by omega)) ?_
        refine wg_s rfl rfl ?_
        refine wg_s rfl rfl ?_
        refine wg_s rfl rfl ?_
        refine wg_iadd rfl (by omega) (by omega) ?_
        refine wg_ar rfl hL (by omega) (by omega) (show _ = ag_I μ 20 2 (6 * k + 2) from congrArg (ag_I μ 20 2) (by omega)) ?_
        refine wg_s rfl rfl ?_
        refine wg_s rfl rfl ?_
        refine wg_s rfl rfl ?_
        refine wg_iadd rfl (by omega) (by omega) ?_
        refine wg_ar rfl hL (by omega) (by omega) (show _ = ag_I μ 20 2 (6 * k + 3) from congrArg (ag_I μ 20 2) (by omega)) ?_
        refine wg_if rfl rfl (fun h295 => ?_) (fun h295 => ?_)
        · refine wg_s rfl rfl ?_
          refine wg_s rfl rfl ?_
          refine wg_s rfl rfl ?_
          refine wg_s rfl rfl ?_
          refine wg_iadd rfl (by omega) (by omega) ?_
          refine wg_ar rfl hL (by omega) (by omega) (show _ = ag_I μ 20 2 (6 * k + 4) from congrArg (ag_I μ 20 2) (by omega)) ?_
          refine wg_call rfl rfl (by first | exact pr_like0 _ _ _ _ rfl hI | exact pr_like1 _ _ _ _ (by decide) hI) (fun v μ1 hq => ?_)
          obtain ⟨⟨hL1, hs1⟩, y, rfl, hM⟩ := hq
          refine wg_s rfl rfl ?_
          refine wg_s rfl rfl ?_
          refine wg_s rfl rfl ?_
          refine wg_s rfl rfl ?_
          refine wg_iadd rfl (by omega) (by omega) ?_
          refine wg_ar rfl hL1 (by omega) (by omega) (show _ = ag_I μ 20 2 (6 * k + 1) from (congrArg (ag_I μ1 20 2) (by omega)).trans (hs1 _)) ?_
          refine wg_s rfl rfl ?_
          refine wg_s rfl rfl ?_
          refine wg_s rfl rfl ?_
          refine wg_iadd rfl (by omega) (by omega) ?_
          refine wg_ar rfl hL1 (by omega) (by omega) (show _ = ag_I μ 20 2 (6 * k + 2) from (congrArg (ag_I μ1 20 2) (by omega)).trans (hs1 _)) ?_
          refine wg_s rfl rfl ?_
          refine wg_s rfl rfl ?_
          refine wg_s rfl rfl ?_
          refine wg_iadd rfl (by omega) (by omega) ?_
          refine wg_ar rfl hL1 (by omega) (by omega) (show _ = ag_I μ 20 2 (6 * k + 3) from (congrArg (ag_I μ1 20 2) (by omega)).trans (hs1 _)) ?_
          refine wg_if rfl rfl (fun h327 => ?_) (fun h327 => absurd h295 h327)
          refine wg_s rfl rfl ?_
          refine wg_s rfl rfl ?_
          refine wg_s rfl rfl ?_
          refine wg_s rfl rfl ?_
          refine wg_iadd rfl (by omega) (by omega) ?_
          refine wg_ar rfl hL1 (by omega) (by omega) (show _ = ag_I μ 20 2 (6 * k + 4) from (congrArg (ag_I μ1 20 2) (by omega)).trans (hs1 _)) ?_
          refine wg_call rfl rfl hM (fun v2 μ2 hq2 => ?_)
          obtain ⟨rfl, hI2⟩ := hq2
          refine wg_if rfl rfl (fun h343 => ?_) (fun h343 => ?_)
          · refine wg_iinc rfl rfl rfl (by omega) (by omega) rfl ?_
            refine wg_s rfl rfl ?_
            have hrec := lp_law hL6 N (k + 1) μ2 (inv_k hI2) (by omega) (by omega)
            rw [show ((6 * (k + 1) : Nat) : Int) = ((6 * k : Nat) : Int) + 6 by omega] at hrec
            exact hrec
          · exact absurd rfl h343
        · refine wg_s rfl rfl ?_
          refine wg_s rfl rfl ?_
          refine wg_s rfl rfl ?_
          refine wg_s rfl rfl ?_
          refine wg_s rfl rfl ?_
          refine wg_iadd rfl (by omega) (by omega) ?_
          refine wg_ar rfl hL (by omega) (by omega) (show _ = ag_I μ 20 2 (6 * k + 4) from congrArg (ag_I μ 20 2) (by omega)) ?_
          refine wg_call rfl rfl (by first | exact pr_like0 _ _ _ _ rfl hI | exact pr_like1 _ _ _ _ (by decide) hI) (fun v μ1 hq => ?_)
          obtain ⟨⟨hL1, hs1⟩, y, rfl, hM⟩ := hq
          refine wg_s rfl rfl ?_
          refine wg_s rfl rfl ?_
          refine wg_s rfl rfl ?_
          refine wg_s rfl rfl ?_
          refine wg_iadd rfl (by omega) (by omega) ?_
          refine wg_ar rfl hL1 (by omega) (by omega) (show _ = ag_I μ 20 2 (6 * k + 1) from (congrArg (ag_I μ1 20 2) (by omega)).trans (hs1 _)) ?_
          refine wg_s rfl rfl ?_
          refine wg_s rfl rfl ?_
          refine wg_s rfl rfl ?_
          refine wg_iadd rfl (by omega) (by omega) ?_
          refine wg_ar rfl hL1 (by omega) (by omega) (show _ = ag_I μ 20 2 (6 * k + 2) from (congrArg (ag_I μ1 20 2) (by omega)).trans (hs1 _)) ?_
          refine wg_s rfl rfl ?_
          refine wg_s rfl rfl ?_
          refine wg_s rfl rfl ?_
          refine wg_iadd rfl (by omega) (by omega) ?_
          refine wg_ar rfl hL1 (by omega) (by omega) (show _ = ag_I μ 20 2 (6 * k + 3) from (congrArg (ag_I μ1 20 2) (by omega)).trans (hs1 _)) ?_
          refine wg_if rfl rfl (fun h327 => absurd h327 h295) (fun h327 => ?_)
          refine wg_s rfl rfl ?_
          refine wg_s rfl rfl ?_
          refine wg_s rfl rfl ?_
          refine wg_s rfl rfl ?_
          refine wg_s rfl rfl ?_
          refine wg_iadd rfl (by omega) (by omega) ?_
          refine wg_ar rfl hL1 (by omega) (by omega) (show _ = ag_I μ 20 2 (6 * k + 4) from (congrArg (ag_I μ1 20 2) (by omega)).trans (hs1 _)) ?_
          refine wg_call rfl rfl hM (fun v2 μ2 hq2 => ?_)
          obtain ⟨rfl, hI2⟩ := hq2
          refine wg_if rfl rfl (fun h343 => ?_) (fun h343 => ?_)
          · refine wg_iinc rfl rfl rfl (by omega) (by omega) rfl ?_
            refine wg_s rfl rfl ?_
            have hrec := lp_law hL6 N (k + 1) μ2 (inv_k hI2) (by omega) (by omega)
            rw [show ((6 * (k + 1) : Nat) : Int) = ((6 * k : Nat) : Int) + 6 by omega] at hrec
            exact hrec
          · exact absurd rfl h343
      by_cases hs4 : sv = 4
      · subst hs4
        refine wg_at (pc2 := 348) (by decide) ?_
        refine wg_s rfl rfl ?_
        refine wg_s rfl rfl ?_
        refine wg_s rfl rfl ?_
        refine wg_s rfl rfl ?_
        refine wg_iadd rfl (by omega) (by omega) ?_
        refine wg_ar rfl hL (by omega) (by omega) (show _ = ag_I μ 20 2 (6 * k + 1) from congrArg (ag_I μ 20 2) (by omega)) ?_
        refine wg_s rfl rfl ?_
        refine wg_s rfl rfl ?_
        refine wg_s rfl rfl ?_
        refine wg_iadd rfl (by omega) (by omega) ?_
        refine wg_ar rfl hL (by omega) (by omega) (show _ = ag_I μ 20 2 (6 * k + 2) from congrArg (ag_I μ 20 2) (by omega)) ?_
        refine wg_call rfl rfl (pr_why _ _ hI) (fun v μ1 hq => ?_)
        obtain ⟨⟨hL1, hs1⟩, y, rfl, hM⟩ := hq
        refine wg_s rfl rfl ?_
        refine wg_s rfl rfl ?_
        refine wg_s rfl rfl ?_
        refine wg_s rfl rfl ?_
        refine wg_iadd rfl (by omega) (by omega) ?_
        refine wg_ar rfl hL1 (by omega) (by omega) (show _ = ag_I μ 20 2 (6 * k + 1) from (congrArg (ag_I μ1 20 2) (by omega)).trans (hs1 _)) ?_
        refine wg_s rfl rfl ?_
        refine wg_s rfl rfl ?_
        refine wg_s rfl rfl ?_
        refine wg_iadd rfl (by omega) (by omega) ?_
        refine wg_ar rfl hL1 (by omega) (by omega) (show _ = ag_I μ 20 2 (6 * k + 2) from (congrArg (ag_I μ1 20 2) (by omega)).trans (hs1 _)) ?_
        refine wg_call rfl rfl hM (fun v2 μ2 hq2 => ?_)
        obtain ⟨rfl, hI2⟩ := hq2
        refine wg_if rfl rfl (fun h376 => ?_) (fun h376 => ?_)
        · refine wg_iinc rfl rfl rfl (by omega) (by omega) rfl ?_
          refine wg_s rfl rfl ?_
          have hrec := lp_law hL6 N (k + 1) μ2 (inv_k hI2) (by omega) (by omega)
          rw [show ((6 * (k + 1) : Nat) : Int) = ((6 * k : Nat) : Int) + 6 by omega] at hrec
          exact hrec
        · exact absurd rfl h376
      by_cases hs5 : sv = 5
      · subst hs5
        refine wg_at (pc2 := 381) (by decide) ?_
        refine wg_s rfl rfl ?_
        refine wg_call rfl rfl (pr_best  hI) (fun v μ1 hq => ?_)
        obtain ⟨⟨hL1, hs1⟩, y, rfl, hM⟩ := hq
        refine wg_s rfl rfl ?_
        refine wg_call rfl rfl hM (fun v2 μ2 hq2 => ?_)
        obtain ⟨rfl, hI2⟩ := hq2
        refine wg_if rfl rfl (fun h389 => ?_) (fun h389 => ?_)
        · refine wg_iinc rfl rfl rfl (by omega) (by omega) rfl ?_
          refine wg_s rfl rfl ?_
          have hrec := lp_law hL6 N (k + 1) μ2 (inv_k hI2) (by omega) (by omega)
          rw [show ((6 * (k + 1) : Nat) : Int) = ((6 * k : Nat) : Int) + 6 by omega] at hrec
          exact hrec
        · exact absurd rfl h389
      by_cases hs6 : sv = 6
      · subst hs6
        refine wg_at (pc2 := 394) (by decide) ?_
        refine wg_s rfl rfl ?_
        refine wg_s rfl rfl ?_
        refine wg_s rfl rfl ?_
        refine wg_s rfl rfl ?_
        refine wg_iadd rfl (by omega) (by omega) ?_
        refine wg_ar rfl hL (by omega) (by omega) (show _ = ag_I μ 20 2 (6 * k + 1) from congrArg (ag_I μ 20 2) (by omega)) ?_
        refine wg_call rfl rfl (pr_paired _ hI) (fun v μ1 hq => ?_)
        obtain ⟨⟨hL1, hs1⟩, y, rfl, hM⟩ := hq
        refine wg_s rfl rfl ?_
        refine wg_s rfl rfl ?_
        refine wg_s rfl rfl ?_
        refine wg_s rfl rfl ?_
        refine wg_iadd rfl (by omega) (by omega) ?_
        refine wg_ar rfl hL1 (by omega) (by omega) (show _ = ag_I μ 20 2 (6 * k + 1) from (congrArg (ag_I μ1 20 2) (by omega)).trans (hs1 _)) ?_
        refine wg_call rfl rfl hM (fun v2 μ2 hq2 => ?_)
        obtain ⟨rfl, hI2⟩ := hq2
        refine wg_if rfl rfl (fun h412 => ?_) (fun h412 => ?_)
        · refine wg_iinc rfl rfl rfl (by omega) (by omega) rfl ?_
          refine wg_s rfl rfl ?_
          have hrec := lp_law hL6 N (k + 1) μ2 (inv_k hI2) (by omega) (by omega)
          rw [show ((6 * (k + 1) : Nat) : Int) = ((6 * k : Nat) : Int) + 6 by omega] at hrec
          exact hrec
        · exact absurd rfl h412
      by_cases hs7 : sv = 7
      · subst hs7
        refine wg_at (pc2 := 417) (by decide) ?_
        refine wg_s rfl rfl ?_
        refine wg_call rfl rfl (pr_likes  hI) (fun v μ1 hq => ?_)
        obtain ⟨⟨hL1, hs1⟩, y, rfl, hM⟩ := hq
        refine wg_s rfl rfl ?_
        refine wg_call rfl rfl hM (fun v2 μ2 hq2 => ?_)
        obtain ⟨rfl, hI2⟩ := hq2
        refine wg_if rfl rfl (fun h425 => ?_) (fun h425 => ?_)
        · refine wg_iinc rfl rfl rfl (by omega) (by omega) rfl ?_
          refine wg_s rfl rfl ?_
          have hrec := lp_law hL6 N (k + 1) μ2 (inv_k hI2) (by omega) (by omega)
          rw [show ((6 * (k + 1) : Nat) : Int) = ((6 * k : Nat) : Int) + 6 by omega] at hrec
          exact hrec
        · exact absurd rfl h425
      by_cases hs8 : sv = 8
      · subst hs8
        refine wg_at (pc2 := 430) (by decide) ?_
        refine wg_s rfl rfl ?_
        refine wg_s rfl rfl ?_
        refine wg_s rfl rfl ?_
        refine wg_s rfl rfl ?_
        refine wg_iadd rfl (by omega) (by omega) ?_
        refine wg_ar rfl hL (by omega) (by omega) (show _ = ag_I μ 20 2 (6 * k + 1) from congrArg (ag_I μ 20 2) (by omega)) ?_
        refine wg_s rfl rfl ?_
        refine wg_s rfl rfl ?_
        refine wg_s rfl rfl ?_
        refine wg_iadd rfl (by omega) (by omega) ?_
        refine wg_ar rfl hL (by omega) (by omega) (show _ = ag_I μ 20 2 (6 * k + 2) from congrArg (ag_I μ 20 2) (by omega)) ?_
        refine wg_call rfl rfl (pr_live _ _ hI) (fun v μ1 hq => ?_)
        obtain ⟨⟨hL1, hs1⟩, y, rfl, hM⟩ := hq
        refine wg_s rfl rfl ?_
        refine wg_s rfl rfl ?_
        refine wg_s rfl rfl ?_
        refine wg_s rfl rfl ?_
        refine wg_iadd rfl (by omega) (by omega) ?_
        refine wg_ar rfl hL1 (by omega) (by omega) (show _ = ag_I μ 20 2 (6 * k + 1) from (congrArg (ag_I μ1 20 2) (by omega)).trans (hs1 _)) ?_
        refine wg_s rfl rfl ?_
        refine wg_s rfl rfl ?_
        refine wg_s rfl rfl ?_
        refine wg_iadd rfl (by omega) (by omega) ?_
        refine wg_ar rfl hL1 (by omega) (by omega) (show _ = ag_I μ 20 2 (6 * k + 2) from (congrArg (ag_I μ1 20 2) (by omega)).trans (hs1 _)) ?_
        refine wg_call rfl rfl hM (fun v2 μ2 hq2 => ?_)
        obtain ⟨rfl, hI2⟩ := hq2
        refine wg_if rfl rfl (fun h458 => ?_) (fun h458 => ?_)
        · refine wg_iinc rfl rfl rfl (by omega) (by omega) rfl ?_
          refine wg_s rfl rfl ?_
          have hrec := lp_law hL6 N (k + 1) μ2 (inv_k hI2) (by omega) (by omega)
          rw [show ((6 * (k + 1) : Nat) : Int) = ((6 * k : Nat) : Int) + 6 by omega] at hrec
          exact hrec
        · exact absurd rfl h458
      by_cases hs9 : sv = 9
      · subst hs9
        refine wg_at (pc2 := 463) (by decide) ?_
        refine wg_s rfl rfl ?_
        refine wg_s rfl rfl ?_
        refine wg_s rfl rfl ?_
        refine wg_s rfl rfl ?_
        refine wg_iadd rfl (by omega) (by omega) ?_
        refine wg_ar rfl hL (by omega) (by omega) (show _ = ag_I μ 20 2 (6 * k + 1) from congrArg (ag_I μ 20 2) (by omega)) ?_
        refine wg_call rfl rfl (pr_weeks _ hI) (fun v μ1 hq => ?_)
        obtain ⟨⟨hL1, hs1⟩, y, rfl, hM⟩ := hq
        refine wg_s rfl rfl ?_
        refine wg_s rfl rfl ?_
        refine wg_s rfl rfl ?_
        refine wg_s rfl rfl ?_
        refine wg_iadd rfl (by omega) (by omega) ?_
        refine wg_ar rfl hL1 (by omega) (by omega) (show _ = ag_I μ 20 2 (6 * k + 1) from (congrArg (ag_I μ1 20 2) (by omega)).trans (hs1 _)) ?_
        refine wg_call rfl rfl hM (fun v2 μ2 hq2 => ?_)
        obtain ⟨rfl, hI2⟩ := hq2
        refine wg_if rfl rfl (fun h481 => ?_) (fun h481 => ?_)
        · refine wg_iinc rfl rfl rfl (by omega) (by omega) rfl ?_
          refine wg_s rfl rfl ?_
          have hrec := lp_law hL6 N (k + 1) μ2 (inv_k hI2) (by omega) (by omega)
          rw [show ((6 * (k + 1) : Nat) : Int) = ((6 * k : Nat) : Int) + 6 by omega] at hrec
          exact hrec
        · exact absurd rfl h481
      by_cases hs10 : sv = 10
      · subst hs10
        refine wg_at (pc2 := 486) (by decide) ?_
        refine wg_s rfl rfl ?_
        refine wg_s rfl rfl ?_
        refine wg_s rfl rfl ?_
        refine wg_s rfl rfl ?_
        refine wg_iadd rfl (by omega) (by omega) ?_
        refine wg_ar rfl hL (by omega) (by omega) (show _ = ag_I μ 20 2 (6 * k + 1) from congrArg (ag_I μ 20 2) (by omega)) ?_
        refine wg_s rfl rfl ?_
        refine wg_s rfl rfl ?_
        refine wg_s rfl rfl ?_
        refine wg_iadd rfl (by omega) (by omega) ?_
        refine wg_ar rfl hL (by omega) (by omega) (show _ = ag_I μ 20 2 (6 * k + 2) from congrArg (ag_I μ 20 2) (by omega)) ?_
        refine wg_s rfl rfl ?_
        refine wg_s rfl rfl ?_
        refine wg_s rfl rfl ?_
        refine wg_iadd rfl (by omega) (by omega) ?_
        refine wg_ar rfl hL (by omega) (by omega) (show _ = ag_I μ 20 2 (6 * k + 3) from congrArg (ag_I μ 20 2) (by omega)) ?_
        refine wg_s rfl rfl ?_
        refine wg_s rfl rfl ?_
        refine wg_s rfl rfl ?_
        refine wg_iadd rfl (by omega) (by omega) ?_
        refine wg_ar rfl hL (by omega) (by omega) (show _ = ag_I μ 20 2 (6 * k + 4) from congrArg (ag_I μ 20 2) (by omega)) ?_
        refine wg_s rfl rfl ?_
        refine wg_s rfl rfl ?_
        refine wg_s rfl rfl ?_
        refine wg_iadd rfl (by omega) (by omega) ?_
        refine wg_ar rfl hL (by omega) (by omega) (show _ = ag_I μ 20 2 (6 * k + 5) from congrArg (ag_I μ 20 2) (by omega)) ?_
        refine wg_call rfl rfl (pr_feed _ _ _ _ _ hI) (fun v μ1 hq => ?_)
        obtain ⟨⟨hL1, hs1⟩, y, rfl, hM⟩ := hq
        refine wg_s rfl rfl ?_
        refine wg_s rfl rfl ?_
        refine wg_s rfl rfl ?_
        refine wg_s rfl rfl ?_
        refine wg_iadd rfl (by omega) (by omega) ?_
        refine wg_ar rfl hL1 (by omega) (by omega) (show _ = ag_I μ 20 2 (6 * k + 1) from (congrArg (ag_I μ1 20 2) (by omega)).trans (hs1 _)) ?_
        refine wg_s rfl rfl ?_
        refine wg_s rfl rfl ?_
        refine wg_s rfl rfl ?_
        refine wg_iadd rfl (by omega) (by omega) ?_
        refine wg_ar rfl hL1 (by omega) (by omega) (show _ = ag_I μ 20 2 (6 * k + 2) from (congrArg (ag_I μ1 20 2) (by omega)).trans (hs1 _)) ?_
        refine wg_s rfl rfl ?_
        refine wg_s rfl rfl ?_
        refine wg_s rfl rfl ?_
        refine wg_iadd rfl (by omega) (by omega) ?_
        refine wg_ar rfl hL1 (by omega) (by omega) (show _ = ag_I μ 20 2 (6 * k + 3) from (congrArg (ag_I μ1 20 2) (by omega)).trans (hs1 _)) ?_
        refine wg_s rfl rfl ?_
        refine wg_s rfl rfl ?_
        refine wg_s rfl rfl ?_
        refine wg_iadd rfl (by omega) (by omega) ?_
        refine wg_ar rfl hL1 (by omega) (by omega) (show _ = ag_I μ 20 2 (6 * k + 4) from (congrArg (ag_I μ1 20 2) (by omega)).trans (hs1 _)) ?_
        refine wg_s rfl rfl ?_
        refine wg_s rfl rfl ?_
        refine wg_s rfl rfl ?_
        refine wg_iadd rfl (by omega) (by omega) ?_
        refine wg_ar rfl hL1 (by omega) (by omega) (show _ = ag_I μ 20 2 (6 * k + 5) from (congrArg (ag_I μ1 20 2) (by omega)).trans (hs1 _)) ?_
        refine wg_call rfl rfl hM (fun v2 μ2 hq2 => ?_)
        obtain ⟨rfl, hI2⟩ := hq2
        refine wg_if rfl rfl (fun h544 => ?_) (fun h544 => ?_)
        · refine wg_iinc rfl rfl rfl (by omega) (by omega) rfl ?_
          refine wg_s rfl rfl ?_
          have hrec := lp_law hL6 N (k + 1) μ2 (inv_k hI2) (by omega) (by omega)
          rw [show ((6 * (k + 1) : Nat) : Int) = ((6 * k : Nat) : Int) + 6 by omega] at hrec
          exact hrec
        · exact absurd rfl h544
      by_cases hs11 : sv = 11
      · subst hs11
        refine wg_at (pc2 := 549) (by decide) ?_
        refine wg_s rfl rfl ?_
        refine wg_s rfl rfl ?_
        refine wg_s rfl rfl ?_
        refine wg_s rfl rfl ?_
        refine wg_iadd rfl (by omega) (by omega) ?_
        refine wg_ar rfl hL (by omega) (by omega) (show _ = ag_I μ 20 2 (6 * k + 1) from congrArg (ag_I μ 20 2) (by omega)) ?_
        refine wg_call rfl rfl (pr_end _ hI) (fun v μ1 hq => ?_)
        obtain ⟨⟨hL1, hs1⟩, y, rfl, hM⟩ := hq
        refine wg_s rfl rfl ?_
        refine wg_s rfl rfl ?_
        refine wg_s rfl rfl ?_
        refine wg_s rfl rfl ?_
        refine wg_iadd rfl (by omega) (by omega) ?_
        refine wg_ar rfl hL1 (by omega) (by omega) (show _ = ag_I μ 20 2 (6 * k + 1) from (congrArg (ag_I μ1 20 2) (by omega)).trans (hs1 _)) ?_
        refine wg_call rfl rfl hM (fun v2 μ2 hq2 => ?_)
        obtain ⟨rfl, hI2⟩ := hq2
        refine wg_if rfl rfl (fun h567 => ?_) (fun h567 => ?_)
        · refine wg_iinc rfl rfl rfl (by omega) (by omega) rfl ?_
          refine wg_s rfl rfl ?_
          have hrec := lp_law hL6 N (k + 1) μ2 (inv_k hI2) (by omega) (by omega)
          rw [show ((6 * (k + 1) : Nat) : Int) = ((6 * k : Nat) : Int) + 6 by omega] at hrec
          exact hrec
        · exact absurd rfl h567
      by_cases hs12 : sv = 12
      · subst hs12
        refine wg_at (pc2 := 572) (by decide) ?_
        refine wg_s rfl rfl ?_
        refine wg_call rfl rfl (pr_agree  hI) (fun v μ1 hq => ?_)
        obtain ⟨⟨hL1, hs1⟩, y, rfl, hM⟩ := hq
        refine wg_s rfl rfl ?_
        refine wg_call rfl rfl hM (fun v2 μ2 hq2 => ?_)
        obtain ⟨rfl, hI2⟩ := hq2
        refine wg_if rfl rfl (fun h580 => ?_) (fun h580 => ?_)
        · refine wg_iinc rfl rfl rfl (by omega) (by omega) rfl ?_
          refine wg_s rfl rfl ?_
          have hrec := lp_law hL6 N (k + 1) μ2 (inv_k hI2) (by omega) (by omega)
          rw [show ((6 * (k + 1) : Nat) : Int) = ((6 * k : Nat) : Int) + 6 by omega] at hrec
          exact hrec
        · exact absurd rfl h580
      by_cases hs13 : sv = 13
      · subst hs13
        refine wg_at (pc2 := 585) (by decide) ?_
        refine wg_s rfl rfl ?_
        refine wg_s rfl rfl ?_
        refine wg_s rfl rfl ?_
        refine wg_s rfl rfl ?_
        refine wg_iadd rfl (by omega) (by omega) ?_
        refine wg_ar rfl hL (by omega) (by omega) (show _ = ag_I μ 20 2 (6 * k + 1) from congrArg (ag_I μ 20 2) (by omega)) ?_
        refine wg_call rfl rfl (pr_fault _ hI) (fun v μ1 hq => ?_)
        obtain ⟨⟨hL1, hs1⟩, y, rfl, hM⟩ := hq
        refine wg_s rfl rfl ?_
        refine wg_s rfl rfl ?_
        refine wg_s rfl rfl ?_
        refine wg_s rfl rfl ?_
        refine wg_iadd rfl (by omega) (by omega) ?_
        refine wg_ar rfl hL1 (by omega) (by omega) (show _ = ag_I μ 20 2 (6 * k + 1) from (congrArg (ag_I μ1 20 2) (by omega)).trans (hs1 _)) ?_
        refine wg_call rfl rfl hM (fun v2 μ2 hq2 => ?_)
        obtain ⟨rfl, hI2⟩ := hq2
        refine wg_if rfl rfl (fun h603 => ?_) (fun h603 => ?_)
        · refine wg_iinc rfl rfl rfl (by omega) (by omega) rfl ?_
          refine wg_s rfl rfl ?_
          have hrec := lp_law hL6 N (k + 1) μ2 (inv_k hI2) (by omega) (by omega)
          rw [show ((6 * (k + 1) : Nat) : Int) = ((6 * k : Nat) : Int) + 6 by omega] at hrec
          exact hrec
        · exact absurd rfl h603
      by_cases hs14 : sv = 14
      · subst hs14
        refine wg_at (pc2 := 608) (by decide) ?_
        refine wg_s rfl rfl ?_
        refine wg_s rfl rfl ?_
        refine wg_s rfl rfl ?_
        refine wg_s rfl rfl ?_
        refine wg_iadd rfl (by omega) (by omega) ?_
        refine wg_ar rfl hL (by omega) (by omega) (show _ = ag_I μ 20 2 (6 * k + 1) from congrArg (ag_I μ 20 2) (by omega)) ?_
        refine wg_s rfl rfl ?_
        refine wg_s rfl rfl ?_
        refine wg_s rfl rfl ?_
        refine wg_iadd rfl (by omega) (by omega) ?_
        refine wg_ar rfl hL (by omega) (by omega) (show _ = ag_I μ 20 2 (6 * k + 2) from congrArg (ag_I μ 20 2) (by omega)) ?_
        refine wg_s rfl rfl ?_
        refine wg_s rfl rfl ?_
        refine wg_s rfl rfl ?_
        refine wg_iadd rfl (by omega) (by omega) ?_
        refine wg_ar rfl hL (by omega) (by omega) (show _ = ag_I μ 20 2 (6 * k + 3) from congrArg (ag_I μ 20 2) (by omega)) ?_
        refine wg_s rfl rfl ?_
        refine wg_s rfl rfl ?_
        refine wg_s rfl rfl ?_
        refine wg_iadd rfl (by omega) (by omega) ?_
        refine wg_ar rfl hL (by omega) (by omega) (show _ = ag_I μ 20 2 (6 * k + 4) from congrArg (ag_I μ 20 2) (by omega)) ?_
        refine wg_call rfl rfl (pr_report _ _ _ _ hI) (fun v μ1 hq => ?_)
        obtain ⟨⟨hL1, hs1⟩, y, rfl, hM⟩ := hq
        refine wg_s rfl rfl ?_
        refine wg_s rfl rfl ?_
        refine wg_s rfl rfl ?_
        refine wg_s rfl rfl ?_
        refine wg_iadd rfl (by omega) (by omega) ?_
        refine wg_ar rfl hL1 (by omega) (by omega) (show _ = ag_I μ 20 2 (6 * k + 1) from (congrArg (ag_I μ1 20 2) (by omega)).trans (hs1 _)) ?_
        refine wg_s rfl rfl ?_
        refine wg_s rfl rfl ?_
        refine wg_s rfl rfl ?_
        refine wg_iadd rfl (by omega) (by omega) ?_
        refine wg_ar rfl hL1 (by omega) (by omega) (show _ = ag_I μ 20 2 (6 * k + 2) from (congrArg (ag_I μ1 20 2) (by omega)).trans (hs1 _)) ?_
        refine wg_s rfl rfl ?_
        refine wg_s rfl rfl ?_
        refine wg_s rfl rfl ?_
        refine wg_iadd rfl (by omega) (by omega) ?_
        refine wg_ar rfl hL1 (by omega) (by omega) (show _ = ag_I μ 20 2 (6 * k + 3) from (congrArg (ag_I μ1 20 2) (by omega)).trans (hs1 _)) ?_
        refine wg_s rfl rfl ?_
        refine wg_s rfl rfl ?_
        refine wg_s rfl rfl ?_
        refine wg_iadd rfl (by omega) (by omega) ?_
        refine wg_ar rfl hL1 (by omega) (by omega) (show _ = ag_I μ 20 2 (6 * k + 4) from (congrArg (ag_I μ1 20 2) (by omega)).trans (hs1 _)) ?_
        refine wg_call rfl rfl hM (fun v2 μ2 hq2 => ?_)
        obtain ⟨rfl, hI2⟩ := hq2
        refine wg_if rfl rfl (fun h656 => ?_) (fun h656 => ?_)
        · refine wg_iinc rfl rfl rfl (by omega) (by omega) rfl ?_
          refine wg_s rfl rfl ?_
          have hrec := lp_law hL6 N (k + 1) μ2 (inv_k hI2) (by omega) (by omega)
          rw [show ((6 * (k + 1) : Nat) : Int) = ((6 * k : Nat) : Int) + 6 by omega] at hrec
          exact hrec
        · exact absurd rfl h656
      by_cases hs15 : sv = 15
      · subst hs15
        refine wg_at (pc2 := 661) (by decide) ?_
        refine wg_s rfl rfl ?_
        refine wg_s rfl rfl ?_
        refine wg_s rfl rfl ?_
        refine wg_s rfl rfl ?_
        refine wg_iadd rfl (by omega) (by omega) ?_
        refine wg_ar rfl hL (by omega) (by omega) (show _ = ag_I μ 20 2 (6 * k + 1) from congrArg (ag_I μ 20 2) (by omega)) ?_
        refine wg_s rfl rfl ?_
        refine wg_s rfl rfl ?_
        refine wg_s rfl rfl ?_
        refine wg_iadd rfl (by omega) (by omega) ?_
        refine wg_ar rfl hL (by omega) (by omega) (show _ = ag_I μ 20 2 (6 * k + 2) from congrArg (ag_I μ 20 2) (by omega)) ?_
        refine wg_call rfl rfl (pr_judge _ _ hI) (fun v μ1 hq => ?_)
        obtain ⟨⟨hL1, hs1⟩, y, rfl, hM⟩ := hq
        refine wg_s rfl rfl ?_
        refine wg_s rfl rfl ?_
        refine wg_s rfl rfl ?_
        refine wg_s rfl rfl ?_
        refine wg_iadd rfl (by omega) (by omega) ?_
        refine wg_ar rfl hL1 (by omega) (by omega) (show _ = ag_I μ 20 2 (6 * k + 1) from (congrArg (ag_I μ1 20 2) (by omega)).trans (hs1 _)) ?_
        refine wg_s rfl rfl ?_
        refine wg_s rfl rfl ?_
        refine wg_s rfl rfl ?_
        refine wg_iadd rfl (by omega) (by omega) ?_
        refine wg_ar rfl hL1 (by omega) (by omega) (show _ = ag_I μ 20 2 (6 * k + 2) from (congrArg (ag_I μ1 20 2) (by omega)).trans (hs1 _)) ?_
        refine wg_call rfl rfl hM (fun v2 μ2 hq2 => ?_)
        obtain ⟨rfl, hI2⟩ := hq2
        refine wg_if rfl rfl (fun h689 => ?_) (fun h689 => ?_)
        · refine wg_iinc rfl rfl rfl (by omega) (by omega) rfl ?_
          refine wg_s rfl rfl ?_
          have hrec := lp_law hL6 N (k + 1) μ2 (inv_k hI2) (by omega) (by omega)
          rw [show ((6 * (k + 1) : Nat) : Int) = ((6 * k : Nat) : Int) + 6 by omega] at hrec
          exact hrec
        · exact absurd rfl h689
      by_cases hs16 : sv = 16
      · subst hs16
        refine wg_at (pc2 := 694) (by decide) ?_
        refine wg_s rfl rfl ?_
        refine wg_s rfl rfl ?_
        refine wg_s rfl rfl ?_
        refine wg_s rfl rfl ?_
        refine wg_iadd rfl (by omega) (by omega) ?_
        refine wg_ar rfl hL (by omega) (by omega) (show _ = ag_I μ 20 2 (6 * k + 1) from congrArg (ag_I μ 20 2) (by omega)) ?_
        refine wg_s rfl rfl ?_
        refine wg_s rfl rfl ?_
        refine wg_s rfl rfl ?_
        refine wg_iadd rfl (by omega) (by omega) ?_
        refine wg_ar rfl hL (by omega) (by omega) (show _ = ag_I μ 20 2 (6 * k + 2) from congrArg (ag_I μ 20 2) (by omega)) ?_
        refine wg_call rfl rfl (pr_judged _ _ hI) (fun v μ1 hq => ?_)
        obtain ⟨⟨hL1, hs1⟩, y, rfl, hM⟩ := hq
        refine wg_s rfl rfl ?_
        refine wg_s rfl rfl ?_
        refine wg_s rfl rfl ?_
        refine wg_s rfl rfl ?_
        refine wg_iadd rfl (by omega) (by omega) ?_
        refine wg_ar rfl hL1 (by omega) (by omega) (show _ = ag_I μ 20 2 (6 * k + 1) from (congrArg (ag_I μ1 20 2) (by omega)).trans (hs1 _)) ?_
        refine wg_s rfl rfl ?_
        refine wg_s rfl rfl ?_
        refine wg_s rfl rfl ?_
        refine wg_iadd rfl (by omega) (by omega) ?_
        refine wg_ar rfl hL1 (by omega) (by omega) (show _ = ag_I μ 20 2 (6 * k + 2) from (congrArg (ag_I μ1 20 2) (by omega)).trans (hs1 _)) ?_
        refine wg_call rfl rfl hM (fun v2 μ2 hq2 => ?_)
        obtain ⟨rfl, hI2⟩ := hq2
        refine wg_if rfl rfl (fun h722 => ?_) (fun h722 => ?_)
        · refine wg_iinc rfl rfl rfl (by omega) (by omega) rfl ?_
          refine wg_s rfl rfl ?_
          have hrec := lp_law hL6 N (k + 1) μ2 (inv_k hI2) (by omega) (by omega)
          rw [show ((6 * (k + 1) : Nat) : Int) = ((6 * k : Nat) : Int) + 6 by omega] at hrec
          exact hrec
        · exact absurd rfl h722
      by_cases hs17 : sv = 17
      · subst hs17
        refine wg_at (pc2 := 727) (by decide) ?_
        refine wg_s rfl rfl ?_
        refine wg_s rfl rfl ?_
        refine wg_s rfl rfl ?_
        refine wg_s rfl rfl ?_
        refine wg_iadd rfl (by omega) (by omega) ?_
        refine wg_ar rfl hL (by omega) (by omega) (show _ = ag_I μ 20 2 (6 * k + 1) from congrArg (ag_I μ 20 2) (by omega)) ?_
        refine wg_call rfl rfl (pr_notice _ hI) (fun v μ1 hq => ?_)
        obtain ⟨⟨hL1, hs1⟩, y, rfl, hM⟩ := hq
        refine wg_s rfl rfl ?_
        refine wg_s rfl rfl ?_
        refine wg_s rfl rfl ?_
        refine wg_s rfl rfl ?_
        refine wg_iadd rfl (by omega) (by omega) ?_
        refine wg_ar rfl hL1 (by omega) (by omega) (show _ = ag_I μ 20 2 (6 * k + 1) from (congrArg (ag_I μ1 20 2) (by omega)).trans (hs1 _)) ?_
        refine wg_call rfl rfl hM (fun v2 μ2 hq2 => ?_)
        obtain ⟨rfl, hI2⟩ := hq2
        refine wg_if rfl rfl (fun h745 => ?_) (fun h745 => ?_)
        · refine wg_iinc rfl rfl rfl (by omega) (by omega) rfl ?_
          refine wg_s rfl rfl ?_
          have hrec := lp_law hL6 N (k + 1) μ2 (inv_k hI2) (by omega) (by omega)
          rw [show ((6 * (k + 1) : Nat) : Int) = ((6 * k : Nat) : Int) + 6 by omega] at hrec
          exact hrec
        · exact absurd rfl h745
      by_cases hs18 : sv = 18
      · subst hs18
        refine wg_at (pc2 := 750) (by decide) ?_
        refine wg_s rfl rfl ?_
        refine wg_s rfl rfl ?_
        refine wg_s rfl rfl ?_
        refine wg_s rfl rfl ?_
        refine wg_iadd rfl (by omega) (by omega) ?_
        refine wg_ar rfl hL (by omega) (by omega) (show _ = ag_I μ 20 2 (6 * k + 1) from congrArg (ag_I μ 20 2) (by omega)) ?_
        refine wg_s rfl rfl ?_
        refine wg_s rfl rfl ?_
        refine wg_s rfl rfl ?_
        refine wg_iadd rfl (by omega) (by omega) ?_
        refine wg_ar rfl hL (by omega) (by omega) (show _ = ag_I μ 20 2 (6 * k + 2) from congrArg (ag_I μ 20 2) (by omega)) ?_
        refine wg_call rfl rfl (pr_homeOf _ _ hI) (fun v μ1 hq => ?_)
        obtain ⟨⟨hL1, hs1⟩, y, rfl, hM⟩ := hq
        refine wg_s rfl rfl ?_
        refine wg_s rfl rfl ?_
        refine wg_s rfl rfl ?_
        refine wg_s rfl rfl ?_
        refine wg_iadd rfl (by omega) (by omega) ?_
        refine wg_ar rfl hL1 (by omega) (by omega) (show _ = ag_I μ 20 2 (6 * k + 1) from (congrArg (ag_I μ1 20 2) (by omega)).trans (hs1 _)) ?_
        refine wg_s rfl rfl ?_
        refine wg_s rfl rfl ?_
        refine wg_s rfl rfl ?_
        refine wg_iadd rfl (by omega) (by omega) ?_
        refine wg_ar rfl hL1 (by omega) (by omega) (show _ = ag_I μ 20 2 (6 * k + 2) from (congrArg (ag_I μ1 20 2) (by omega)).trans (hs1 _)) ?_
        refine wg_call rfl rfl hM (fun v2 μ2 hq2 => ?_)
        obtain ⟨rfl, hI2⟩ := hq2
        refine wg_if rfl rfl (fun h778 => ?_) (fun h778 => ?_)
        · refine wg_iinc rfl rfl rfl (by omega) (by omega) rfl ?_
          refine wg_s rfl rfl ?_
          have hrec := lp_law hL6 N (k + 1) μ2 (inv_k hI2) (by omega) (by omega)
          rw [show ((6 * (k + 1) : Nat) : Int) = ((6 * k : Nat) : Int) + 6 by omega] at hrec
          exact hrec
        · exact absurd rfl h778
      by_cases hs19 : sv = 19
      · subst hs19
        refine wg_at (pc2 := 783) (by decide) ?_
        refine wg_s rfl rfl ?_
        refine wg_s rfl rfl ?_
        refine wg_s rfl rfl ?_
        refine wg_s rfl rfl ?_
        refine wg_iadd rfl (by omega) (by omega) ?_
        refine wg_ar rfl hL (by omega) (by omega) (show _ = ag_I μ 20 2 (6 * k + 1) from congrArg (ag_I μ 20 2) (by omega)) ?_
        refine wg_s rfl rfl ?_
        refine wg_s rfl rfl ?_
        refine wg_s rfl rfl ?_
        refine wg_iadd rfl (by omega) (by omega) ?_
        refine wg_ar rfl hL (by omega) (by omega) (show _ = ag_I μ 20 2 (6 * k + 2) from congrArg (ag_I μ 20 2) (by omega)) ?_
        refine wg_s rfl rfl ?_
        refine wg_s rfl rfl ?_
        refine wg_s rfl rfl ?_
        refine wg_iadd rfl (by omega) (by omega) ?_
        refine wg_ar rfl hL (by omega) (by omega) (show _ = ag_I μ 20 2 (6 * k + 3) from congrArg (ag_I μ 20 2) (by omega)) ?_
        refine wg_if rfl rfl (fun h799 => ?_) (fun h799 => ?_)
        · refine wg_s rfl rfl ?_
          refine wg_call rfl rfl (pr_share _ _ _ hI) (fun v μ1 hq => ?_)
          obtain ⟨⟨hL1, hs1⟩, y, rfl, hM⟩ := hq
          refine wg_s rfl rfl ?_
          refine wg_s rfl rfl ?_
          refine wg_s rfl rfl ?_
          refine wg_s rfl rfl ?_
          refine wg_iadd rfl (by omega) (by omega) ?_
          refine wg_ar rfl hL1 (by omega) (by omega) (show _ = ag_I μ 20 2 (6 * k + 1) from (congrArg (ag_I μ1 20 2) (by omega)).trans (hs1 _)) ?_
          refine wg_s rfl rfl ?_
          refine wg_s rfl rfl ?_
          refine wg_s rfl rfl ?_
          refine wg_iadd rfl (by omega) (by omega) ?_
          refine wg_ar rfl hL1 (by omega) (by omega) (show _ = ag_I μ 20 2 (6 * k + 2) from (congrArg (ag_I μ1 20 2) (by omega)).trans (hs1 _)) ?_
          refine wg_s rfl rfl ?_
          refine wg_s rfl rfl ?_
          refine wg_s rfl rfl ?_
          refine wg_iadd rfl (by omega) (by omega) ?_
          refine wg_ar rfl hL1 (by omega) (by omega) (show _ = ag_I μ 20 2 (6 * k + 3) from (congrArg (ag_I μ1 20 2) (by omega)).trans (hs1 _)) ?_
          refine wg_if rfl rfl (fun h826 => ?_) (fun h826 => absurd h799 h826)
          refine wg_s rfl rfl ?_
          refine wg_call rfl rfl hM (fun v2 μ2 hq2 => ?_)
          obtain ⟨rfl, hI2⟩ := hq2
          refine wg_lc_eq rfl rfl (fun h837 => ?_) (fun h837 => ?_)
          · refine wg_iinc rfl rfl rfl (by omega) (by omega) rfl ?_
            refine wg_s rfl rfl ?_
            have hrec := lp_law hL6 N (k + 1) μ2 (inv_k hI2) (by omega) (by omega)
            rw [show ((6 * (k + 1) : Nat) : Int) = ((6 * k : Nat) : Int) + 6 by omega] at hrec
            exact hrec
          · refine wg_s rfl rfl ?_
            exact absurd rfl h837
        · refine wg_s rfl rfl ?_
          refine wg_s rfl rfl ?_
          refine wg_call rfl rfl (pr_share _ _ _ hI) (fun v μ1 hq => ?_)
          obtain ⟨⟨hL1, hs1⟩, y, rfl, hM⟩ := hq
          refine wg_s rfl rfl ?_
          refine wg_s rfl rfl ?_
          refine wg_s rfl rfl ?_
          refine wg_s rfl rfl ?_
          refine wg_iadd rfl (by omega) (by omega) ?_
          refine wg_ar rfl hL1 (by omega) (by omega) (show _ = ag_I μ 20 2 (6 * k + 1) from (congrArg (ag_I μ1 20 2) (by omega)).trans (hs1 _)) ?_
          refine wg_s rfl rfl ?_
          refine wg_s rfl rfl ?_
          refine wg_s rfl rfl ?_
          refine wg_iadd rfl (by omega) (by omega) ?_
          refine wg_ar rfl hL1 (by omega) (by omega) (show _ = ag_I μ 20 2 (6 * k + 2) from (congrArg (ag_I μ1 20 2) (by omega)).trans (hs1 _)) ?_
          refine wg_s rfl rfl ?_
          refine wg_s rfl rfl ?_
          refine wg_s rfl rfl ?_
          refine wg_iadd rfl (by omega) (by omega) ?_
          refine wg_ar rfl hL1 (by omega) (by omega) (show _ = ag_I μ 20 2 (6 * k + 3) from (congrArg (ag_I μ1 20 2) (by omega)).trans (hs1 _)) ?_
          refine wg_if rfl rfl (fun h826 => absurd h826 h799) (fun h826 => ?_)
          refine wg_s rfl rfl ?_
          refine wg_s rfl rfl ?_
          refine wg_call rfl rfl hM (fun v2 μ2 hq2 => ?_)
          obtain ⟨rfl, hI2⟩ := hq2
          refine wg_lc_eq rfl rfl (fun h837 => ?_) (fun h837 => ?_)
          · refine wg_iinc rfl rfl rfl (by omega) (by omega) rfl ?_
            refine wg_s rfl rfl ?_
            have hrec := lp_law hL6 N (k + 1) μ2 (inv_k hI2) (by omega) (by omega)
            rw [show ((6 * (k + 1) : Nat) : Int) = ((6 * k : Nat) : Int) + 6 by omega] at hrec
            exact hrec
          · refine wg_s rfl rfl ?_
            exact absurd rfl h837
      by_cases hs20 : sv = 20
      · subst hs20
        refine wg_at (pc2 := 843) (by decide) ?_
        refine wg_s rfl rfl ?_
        refine wg_s rfl rfl ?_
        refine wg_s rfl rfl ?_
        refine wg_s rfl rfl ?_
        refine wg_iadd rfl (by omega) (by omega) ?_
        refine wg_ar rfl hL (by omega) (by omega) (show _ = ag_I μ 20 2 (6 * k + 1) from congrArg (ag_I μ 20 2) (by omega)) ?_
        refine wg_s rfl rfl ?_
        refine wg_s rfl rfl ?_
        refine wg_s rfl rfl ?_
        refine wg_iadd rfl (by omega) (by omega) ?_
        refine wg_ar rfl hL (by omega) (by omega) (show _ = ag_I μ 20 2 (6 * k + 2) from congrArg (ag_I μ 20 2) (by omega)) ?_
        refine wg_call rfl rfl (pr_until _ _ hI) (fun v μ1 hq => ?_)
        obtain ⟨⟨hL1, hs1⟩, y, rfl, hM⟩ := hq
        refine wg_s rfl rfl ?_
        refine wg_s rfl rfl ?_
        refine wg_s rfl rfl ?_
        refine wg_s rfl rfl ?_
        refine wg_iadd rfl (by omega) (by omega) ?_
        refine wg_ar rfl hL1 (by omega) (by omega) (show _ = ag_I μ 20 2 (6 * k + 1) from (congrArg (ag_I μ1 20 2) (by omega)).trans (hs1 _)) ?_
        refine wg_s rfl rfl ?_
        refine wg_s rfl rfl ?_
        refine wg_s rfl rfl ?_
        refine wg_iadd rfl (by omega) (by omega) ?_
        refine wg_ar rfl hL1 (by omega) (by omega) (show _ = ag_I μ 20 2 (6 * k + 2) from (congrArg (ag_I μ1 20 2) (by omega)).trans (hs1 _)) ?_
        refine wg_call rfl rfl hM (fun v2 μ2 hq2 => ?_)
        obtain ⟨rfl, hI2⟩ := hq2
        refine wg_if rfl rfl (fun h871 => ?_) (fun h871 => ?_)
        · refine wg_iinc rfl rfl rfl (by omega) (by omega) rfl ?_
          refine wg_s rfl rfl ?_
          have hrec := lp_law hL6 N (k + 1) μ2 (inv_k hI2) (by omega) (by omega)
          rw [show ((6 * (k + 1) : Nat) : Int) = ((6 * k : Nat) : Int) + 6 by omega] at hrec
          exact hrec
        · exact absurd rfl h871
      by_cases hs21 : sv = 21
      · subst hs21
        refine wg_at (pc2 := 876) (by decide) ?_
        refine wg_s rfl rfl ?_
        refine wg_s rfl rfl ?_
        refine wg_s rfl rfl ?_
        refine wg_s rfl rfl ?_
        refine wg_iadd rfl (by omega) (by omega) ?_
        refine wg_ar rfl hL (by omega) (by omega) (show _ = ag_I μ 20 2 (6 * k + 1) from congrArg (ag_I μ 20 2) (by omega)) ?_
        refine wg_s rfl rfl ?_
        refine wg_s rfl rfl ?_
        refine wg_s rfl rfl ?_
        refine wg_iadd rfl (by omega) (by omega) ?_
        refine wg_ar rfl hL (by omega) (by omega) (show _ = ag_I μ 20 2 (6 * k + 2) from congrArg (ag_I μ 20 2) (by omega)) ?_
        refine wg_call rfl rfl (pr_lasting _ _ hI) (fun v μ1 hq => ?_)
        obtain ⟨⟨hL1, hs1⟩, y, rfl, hM⟩ := hq
        refine wg_s rfl rfl ?_
        refine wg_s rfl rfl ?_
        refine wg_s rfl rfl ?_
        refine wg_s rfl rfl ?_
        refine wg_iadd rfl (by omega) (by omega) ?_
        refine wg_ar rfl hL1 (by omega) (by omega) (show _ = ag_I μ 20 2 (6 * k + 1) from (congrArg (ag_I μ1 20 2) (by omega)).trans (hs1 _)) ?_
        refine wg_s rfl rfl ?_
        refine wg_s rfl rfl ?_
        refine wg_s rfl rfl ?_
        refine wg_iadd rfl (by omega) (by omega) ?_
        refine wg_ar rfl hL1 (by omega) (by omega) (show _ = ag_I μ 20 2 (6 * k + 2) from (congrArg (ag_I μ1 20 2) (by omega)).trans (hs1 _)) ?_
        refine wg_call rfl rfl hM (fun v2 μ2 hq2 => ?_)
        obtain ⟨rfl, hI2⟩ := hq2
        refine wg_if rfl rfl (fun h904 => ?_) (fun h904 => ?_)
        · refine wg_iinc rfl rfl rfl (by omega) (by omega) rfl ?_
          refine wg_s rfl rfl ?_
          have hrec := lp_law hL6 N (k + 1) μ2 (inv_k hI2) (by omega) (by omega)
          rw [show ((6 * (k + 1) : Nat) : Int) = ((6 * k : Nat) : Int) + 6 by omega] at hrec
          exact hrec
        · exact absurd rfl h904
      by_cases hs22 : sv = 22
      · subst hs22
        refine wg_at (pc2 := 909) (by decide) ?_
        refine wg_s rfl rfl ?_
        refine wg_s rfl rfl ?_
        refine wg_s rfl rfl ?_
        refine wg_s rfl rfl ?_
        refine wg_iadd rfl (by omega) (by omega) ?_
        refine wg_ar rfl hL (by omega) (by omega) (show _ = ag_I μ 20 2 (6 * k + 1) from congrArg (ag_I μ 20 2) (by omega)) ?_
        refine wg_call rfl rfl (pr_about _ hI) (fun v μ1 hq => ?_)
        obtain ⟨⟨hL1, hs1⟩, y, rfl, hM⟩ := hq
        refine wg_s rfl rfl ?_
        refine wg_s rfl rfl ?_
        refine wg_s rfl rfl ?_
        refine wg_s rfl rfl ?_
        refine wg_iadd rfl (by omega) (by omega) ?_
        refine wg_ar rfl hL1 (by omega) (by omega) (show _ = ag_I μ 20 2 (6 * k + 1) from (congrArg (ag_I μ1 20 2) (by omega)).trans (hs1 _)) ?_
        refine wg_call rfl rfl hM (fun v2 μ2 hq2 => ?_)
        obtain ⟨rfl, hI2⟩ := hq2
        refine wg_if rfl rfl (fun h927 => ?_) (fun h927 => ?_)
        · refine wg_iinc rfl rfl rfl (by omega) (by omega) rfl ?_
          refine wg_s rfl rfl ?_
          have hrec := lp_law hL6 N (k + 1) μ2 (inv_k hI2) (by omega) (by omega)
          rw [show ((6 * (k + 1) : Nat) : Int) = ((6 * k : Nat) : Int) + 6 by omega] at hrec
          exact hrec
        · exact absurd rfl h927
      refine wg_at (pc2 := 932) (show ab_sw _ _ _ _ _ _ = 932 from if_pos (by omega)) ?_
      refine wg_iinc rfl rfl rfl (by omega) (by omega) rfl ?_
      refine wg_s rfl rfl ?_
      have hrec := lp_law hL6 N (k + 1) μ (inv_k (inv_same hI)) (by omega) (by omega)
      rw [show ((6 * (k + 1) : Nat) : Int) = ((6 * k : Nat) : Int) + 6 by omega] at hrec
      exact hrec
