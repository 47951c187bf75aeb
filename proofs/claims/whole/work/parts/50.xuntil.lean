/-! ===== the class: until ===== -/
theorem sp_first (d : Nat) {ν μ : ab_M} {hl hw pl tm : Nat → Nat} {ow : Nat → Nat × Nat} {tc : Nat} (hI : IX ν μ hl hw pl tm ow tc) (hZ : WR ν) (h16 : W16 ν) (k : Nat) (hk : k < 4) (hE : WE ν) (hWL : WL ν) (p : Int) (hp : 1 ≤ p ∧ p ≤ 100) : Wp (d + 4) 54 [ab_r 5 (some k), ab_i p, ab_i (ag_I ν 10 0 0)] μ (fun vv μ' => vv = some (ab_i (m_un ν k p 501 0)) ∧ XE μ μ' ∧ MK μ μ' ∧ (ag_c μ' = ag_c μ + 1 ∧ ag_s μ' = ag_s μ + ab_nf 2)) := by
  refine wp_of ?_
  obtain ⟨hX, hC, hH, hP, hL, hK, hT, hR, hS⟩ := id hI
  obtain ⟨z1, z6, z26, z0, z14⟩ := id hZ
  obtain ⟨c7, c8, c9, cC4, cC3, cC6, cC11⟩ := id hC
  have hk1 : ag_I μ 5 k 1 = (ck ν k : Int) := (hK k hk).trans (m_ct_cn ν k _)
  have hk16 : ((ck ν k : Nat) : Int) ≤ 16 := by have := h16 (k : Int); rw [m_ct_cn] at this; exact this
  have hkx := hX.2.2.2 k hk
  have hI0 := IX_E (XE_N2 μ 0 (ab_nf 2)) hI
  refine wg_s rfl rfl ?_
  refine wg_s rfl rfl ?_
  refine wg_cv rfl rfl (sp_frac _ _ _) ?_
  refine wg_s rfl rfl ?_
  refine wg_s rfl rfl ?_
  refine wg_s rfl rfl ?_
  refine wg_s rfl rfl ?_
  refine wg_cf rfl rfl (sp_nextEnding _ (μ := as_J (as_J (as_N μ 2 0 (ab_nf 2)) 2 (ag_C μ 2) 0 1) 2 (ag_C μ 2) 1 1) hI0 hZ h16 k hk hE hWL (-1)) ?_
  refine wg_s rfl rfl ?_
  refine wg_s rfl rfl ?_
  refine wg_s rfl rfl ?_
  refine wg_mono (lp_first (d := d) (μ := as_N μ 2 0 (ab_nf 2)) hI0 hZ h16 k hk hE hWL p hp (ag_C μ 2) 503 (-1) _ 0 (by omega) (by omega) (by omega) ⟨(jg_k _ _ (by decide)).trans (jg_eq _ _ _ _ _), jg_eq _ _ _ _ _⟩ (by show ¬ (100 * (1 : Int) < p * (1 : Int)); omega) (nb_rng _ _).1) (fun vv μ' h => ?_)
  obtain ⟨h1, Jf, rfl⟩ := h
  exact ⟨h1, XE_N2 μ 0 (ab_nf 2), MK_N2 μ 0 (ab_nf 2), ⟨rfl, rfl⟩⟩
theorem sp_xuntil (d : Nat) (k p : Int) {ν μ : ab_M} {hl hw pl tm : Nat → Nat} {ow : Nat → Nat × Nat} {tc : Nat} (hI : IX ν μ hl hw pl tm ow tc) (hZ : WR ν) (hW16 : W16 ν) (hE : WE ν) (hWL : WL ν) : Wp (d + 5) 90 [ab_r 9 (some 0), ab_i k, ab_i p] μ (fun vv μ' => vv = some (ab_i (if (0 ≤ k ∧ k ≤ 3) ∧ (1 ≤ p ∧ p ≤ 100) then m_un ν k p 501 0 else -1)) ∧ XE μ μ' ∧ MK μ μ' ∧ ag_c μ' ≤ ag_c μ + 1 ∧ ag_s μ' ≤ ag_s μ + 100) := by
  refine wp_of ?_
  obtain ⟨hX, hC, hH, hP, hL, hK, hT, hR, hS⟩ := id hI
  obtain ⟨z1, z6, z26, z0, z14⟩ := id hZ
  obtain ⟨c7, c8, c9, cC4, cC3, cC6, cC11⟩ := id hC
  by_cases hh : 0 ≤ k ∧ k < 4
  · obtain ⟨n, rfl⟩ : ∃ n : Nat, k = n := ⟨k.toNat, by omega⟩
    refine wg_s rfl rfl ?_
    refine wg_s rfl rfl ?_
    refine wg_cf rfl rfl (sp_kindAt_t _ _ hI hZ hh) ?_
    refine wg_s rfl rfl ?_
    refine wg_s rfl rfl ?_
    refine wg_s rfl rfl ?_
    refine wg_s rfl rfl ?_
    refine wg_s rfl rfl ?_
    refine wg_if rfl rfl (fun h12 => ?_) (fun h12 => ?_)
    · refine wg_s rfl rfl ?_
      refine wg_ret rfl rfl trivial ⟨?_, XE_refl μ, MK_refl μ, by omega, by omega⟩
      rw [if_neg (by omega)]
    · refine wg_s rfl rfl ?_
      refine wg_s rfl rfl ?_
      refine wg_if rfl rfl (fun h18 => ?_) (fun h18 => ?_)
      · refine wg_s rfl rfl ?_
        refine wg_s rfl rfl ?_
        refine wg_s rfl rfl ?_
        refine wg_gi rfl rfl (show _ = ag_I ν 10 0 0 from c9) ?_
        refine wg_call rfl rfl (sp_first d hI hZ hW16 n (by omega) hE hWL p (by omega)) (fun vv μ' h => ?_)
        obtain ⟨rfl, a1, a2, ⟨a3, a4⟩⟩ := h
        refine wg_ret rfl rfl trivial ⟨?_, a1, a2, by omega, by rw [a4]; exact Nat.add_le_add_left (by decide) _⟩
        rw [if_pos ⟨by omega, by omega⟩]
      · refine wg_s rfl rfl ?_
        refine wg_ret rfl rfl trivial ⟨?_, XE_refl μ, MK_refl μ, by omega, by omega⟩
        rw [if_neg (by omega)]
  · refine wg_s rfl rfl ?_
    refine wg_s rfl rfl ?_
    refine wg_cf rfl rfl (sp_kindAt_f _ _ hI hZ hh) ?_
    refine wg_s rfl rfl ?_
    refine wg_s rfl rfl ?_
    refine wg_s rfl rfl ?_
    refine wg_s rfl rfl ?_
    refine wg_ret rfl rfl trivial ⟨?_, XE_refl μ, MK_refl μ, by omega, by omega⟩
    rw [if_neg (by omega)]
