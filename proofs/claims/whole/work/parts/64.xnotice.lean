/-! ===== the class: notice ===== -/
abbrev AGM (ν ν' : ab_M) : Prop := ∀ t n k, mrel t n → ag_I ν' t n k = ag_I ν t n k
theorem IX_AG {ν ν' μ : ab_M} {hl hw pl tm : Nat → Nat} {ow : Nat → Nat × Nat} {tc : Nat} (h : AGM ν ν') (hI : IX ν μ hl hw pl tm ow tc) : IX ν' μ hl hw pl tm ow tc := by
  obtain ⟨hX, hC, hH, hP, hL, hK, hT, hR, hS⟩ := id hI
  exact ⟨hX, XC_A (fun t n k q => h t n k (by unfold rC at q; unfold mrel; omega)) hC, XH_A (fun t n k q => h t n k (by unfold rH at q; unfold mrel; omega)) hH, XP_A (fun t n k q => h t n k (by unfold rP at q; unfold mrel; omega)) hP, XL_A (fun t n k q => h t n k (by unfold rL at q; unfold mrel; omega)) hL, XK_A (fun t n k q => h t n k (by unfold rL at q; unfold mrel; omega)) hK, XT_A (fun t n k q => h t n k (by unfold rT at q; unfold mrel; omega)) hT, XR_A (fun t n k q => h t n k (by unfold rR at q; unfold mrel; omega)) hR, hS⟩
/-- an open life has no end yet, or one that is still to come -/
def WO (ν : ab_M) : Prop := ∀ j : Nat, (j : Int) < ag_I ν 10 0 26 → ag_I ν 11 40 j < 0 → ag_I ν 11 39 j = -1 ∨ ag_I ν 10 0 0 < ag_I ν 11 39 j
theorem WU_e {ν : ab_M} (hU : WU ν) (j : Nat) (x : Int) : WU (as_I ν 11 39 j x) := by
  refine ⟨fun i hi => ?_, fun i k hik hk oi ok => ?_, fun h hh => ?_⟩
  · rw [ag_I_n (by omega)] at hi
    rw [ag_I_n (by omega), ag_I_n (by omega), ag_I_n (by omega), ag_I_n (by omega)]; exact hU.1 i hi
  · rw [ag_I_n (by omega)] at hk oi ok
    rw [ag_I_n (by omega), ag_I_n (by omega), ag_I_n (by omega), ag_I_n (by omega)]; exact hU.2.1 i k hik hk oi ok
  · rw [ag_I_n (by omega)] at hh
    rw [ag_I_n (by omega)]; exact hU.2.2 h hh
theorem WL_e {ν : ab_M} (hW : WL ν) (j : Nat) (x : Int) : WL (as_I ν 11 39 j x) := by
  intro i hi
  rw [ag_I_n (by omega)] at hi
  rw [ag_I_n (t' := 11) (n' := 32) (by omega), ag_I_n (t' := 11) (n' := 33) (by omega), ag_I_n (t' := 11) (n' := 34) (by omega), ag_I_n (t' := 11) (n' := 40) (by omega), ag_I_n (t' := 10) (by omega)]
  exact hW i hi
theorem WR_e {ν : ab_M} (hW : WR ν) (j : Nat) (x : Int) : WR (as_I ν 11 39 j x) := by
  unfold WR
  rw [ag_I_n (t' := 10) (k' := 1) (by omega), ag_I_n (t' := 10) (k' := 6) (by omega), ag_I_n (t' := 10) (k' := 26) (by omega), ag_I_n (t' := 10) (k' := 0) (by omega), ag_I_n (t' := 10) (k' := 14) (by omega)]
  exact hW
/-- of the reference's ends only the life that has just been given notice can be -/
theorem en_AG {ν : ab_M} (hO : WO ν) (h0 : 0 ≤ ag_I ν 10 0 0) (j : Nat) (e : Int) (hj : (j : Int) < ag_I ν 10 0 26) (ho : ag_I ν 11 40 j < 0) : AGM (if e = ag_I ν 10 0 0 then as_I (as_I ν 11 39 j e) 11 40 j (ag_I ν 10 0 0 - ag_I ν 11 34 j) else as_I ν 11 39 j e) (m_en (as_I ν 11 39 j e) (ag_I ν 10 0 26).toNat) := by
  intro t n k hm
  have g34 : ag_I (as_I ν 11 39 j e) 11 34 k = ag_I ν 11 34 k := ag_I_n (by omega)
  have g40 : ag_I (as_I ν 11 39 j e) 11 40 k = ag_I ν 11 40 k := ag_I_n (by omega)
  have g0 : ag_I (as_I ν 11 39 j e) 10 0 0 = ag_I ν 10 0 0 := ag_I_n (by omega)
  rw [ag_I_en]
  by_cases c : t = 11 ∧ n = 40
  · obtain ⟨rfl, rfl⟩ := c
    by_cases kj : k = j
    · subst kj
      by_cases ec : e = ag_I ν 10 0 0
      · rw [if_pos ec, if_pos ⟨rfl, rfl, by omega, by rw [g40]; exact ho, by rw [ag_I_y, g0]; exact ec⟩, ag_I_y, g0, g34]
      · rw [if_neg ec, if_neg (fun q => ec (by have := q.2.2.2.2; rw [ag_I_y, g0] at this; exact this))]
    · have hno : ¬ (11 = 11 ∧ 40 = 40 ∧ k < (ag_I ν 10 0 26).toNat ∧ m_E (as_I ν 11 39 j e) k) := by
        intro q
        obtain ⟨_, _, q1, q2, q3⟩ := q
        rw [g40] at q2
        rw [ag_I_n (by omega), g0] at q3
        have := hO k (by omega) q2
        omega
      rw [if_neg hno]
      by_cases ec : e = ag_I ν 10 0 0
      · rw [if_pos ec, ag_I_n (μ := as_I ν 11 39 j e) (by omega)]
      · rw [if_neg ec]
  · rw [if_neg (fun q => c ⟨q.1, q.2.1⟩)]
    by_cases ec : e = ag_I ν 10 0 0
    · rw [if_pos ec, ag_I_n (μ := as_I ν 11 39 j e) (by omega)]
    · rw [if_neg ec]
theorem sp_endBy (d j : Nat) {ν μ : ab_M} {hl hw pl tm : Nat → Nat} {ow : Nat → Nat × Nat} {tc : Nat} (hI : IX ν μ hl hw pl tm ow tc) (hZ : WR ν) (hWL : WL ν) (hT2 : WT ν) (hj : (j : Int) < ag_I ν 10 0 26) : Wp (d + 1) 58 [ab_r 6 (some j), ab_i (ag_I ν 10 0 0)] μ (fun vv μ' => vv = some (ab_i (m_ne ν j)) ∧ μ' = μ) := by
  refine wp_of ?_
  obtain ⟨hX, hC, hH, hP, hL, hK, hT, hR, hS⟩ := id hI
  obtain ⟨z1, z6, z26, z0, z14⟩ := id hZ
  obtain ⟨c7, c8, c9, cC4, cC3, cC6, cC11⟩ := id hC
  obtain ⟨⟨j0, j1, j3, j4⟩, ⟨j2, jt⟩, jr, j17⟩ := hL j hj
  have hw1 := hWL j hj
  have ht1 := hT2 j hj
  refine wg_s rfl rfl ?_
  refine wg_s rfl rfl ?_
  refine wg_gi rfl rfl (show _ = ag_I ν 11 34 j from j1) ?_
  refine wg_isub rfl (by omega) (by omega) ?_
  refine wg_s rfl rfl ?_
  refine wg_gr rfl rfl (show _ = some (tm j) from j2) ?_
  refine wg_gi rfl rfl (show _ = ag_I ν 11 38 j from jr 3 (by omega)) ?_
  refine wg_if rfl rfl (fun h13 => ?_) (fun h13 => ?_)
  · refine wg_s rfl rfl ?_
    refine wg_s rfl rfl ?_
    refine wg_gr rfl rfl (show _ = some (tm j) from j2) ?_
    refine wg_gi rfl rfl (show _ = ag_I ν 11 37 j from jr 2 (by omega)) ?_
    refine wg_iadd rfl (by omega) (by omega) ?_
    refine wg_ret rfl rfl trivial ⟨?_, rfl⟩
    unfold m_ne
    first | rw [if_pos (by omega)] | rw [if_neg (by omega)]
  · refine wg_s rfl rfl ?_
    refine wg_s rfl rfl ?_
    refine wg_ret rfl rfl trivial ⟨?_, rfl⟩
    unfold m_ne
    first | rw [if_pos (by omega)] | rw [if_neg (by omega)]
theorem m_ne_rng {ν : ab_M} (hZ : WR ν) (hT : WT ν) {j : Nat} (hj : (j : Int) < ag_I ν 10 0 26) : ag_I ν 10 0 0 ≤ m_ne ν j ∧ m_ne ν j ≤ ag_I ν 10 0 0 + 20 := by
  have := hT j hj
  unfold m_ne; split <;> omega
theorem sp_xnotice1 (d n : Nat) {ν μ : ab_M} {hl hw pl tm : Nat → Nat} {ow : Nat → Nat × Nat} {tc : Nat} (hI : IX ν μ hl hw pl tm ow tc) (hZ : WR ν) (hWL : WL ν) (hU : WU ν) (hT2 : WT ν) (hO : WO ν) (hn : (n : Int) < ag_I ν 10 0 1) : Wp (d + 3) 87 [ab_r 9 (some 0), ab_i (n : Int)] μ (fun vv μ' => (0 ≤ m_l ν n ∧ ag_I ν 11 39 (m_l ν n).toNat < 0 ∧ m_ne ν (m_l ν n).toNat ≤ 500 → vv = some (ab_i (m_ne ν (m_l ν n).toNat)) ∧ IX (m_en (as_I ν 11 39 (m_l ν n).toNat (m_ne ν (m_l ν n).toNat)) (ag_I ν 10 0 26).toNat) μ' hl hw pl tm ow tc ∧ MK μ μ' ∧ ag_c μ' = ag_c μ ∧ ag_s μ' = ag_s μ) ∧ (¬ (0 ≤ m_l ν n ∧ ag_I ν 11 39 (m_l ν n).toNat < 0 ∧ m_ne ν (m_l ν n).toNat ≤ 500) → vv = some (ab_i (-1)) ∧ μ' = μ)) := by
  refine wp_of ?_
  obtain ⟨hX, hC, hH, hP, hL, hK, hT, hR, hS⟩ := id hI
  obtain ⟨z1, z6, z26, z0, z14⟩ := id hZ
  obtain ⟨c7, c8, c9, cC4, cC3, cC6, cC11⟩ := id hC
  obtain ⟨e15, e4, ⟨e44, e45, e46⟩, h8, hrng, how, hlk, hwk⟩ := hH n hn
  have hh : 0 ≤ (n : Int) ∧ (n : Int) < ag_I ν 10 0 1 := ⟨by omega, hn⟩
  by_cases ho : 0 ≤ m_l ν n
  · have hr := m_lf_rng ν n (ag_I ν 10 0 26).toNat
    have ho' : 0 ≤ m_lf ν n (ag_I ν 10 0 26).toNat := ho
    have hj : ((m_l ν n).toNat : Int) < ag_I ν 10 0 26 := by show ((m_lf ν n (ag_I ν 10 0 26).toNat).toNat : Int) < _; omega
    obtain ⟨o32, o40⟩ : ag_I ν 11 32 (m_l ν n).toNat = n ∧ ag_I ν 11 40 (m_l ν n).toNat < 0 := m_lf_o ho
    obtain ⟨⟨j0, j1, j3, j4⟩, ⟨j2, jt⟩, jr, j17⟩ := hL (m_l ν n).toNat hj
    have hoj := hO _ hj o40
    have hne := m_ne_rng hZ hT2 hj
    refine wg_s rfl rfl ?_
    refine wg_s rfl rfl ?_
    refine wg_cf rfl rfl (sp_homeAt_t _ _ hI hZ hh) ?_
    refine wg_s rfl rfl ?_
    refine wg_s rfl rfl ?_
    refine wg_s rfl rfl ?_
    refine wg_s rfl rfl ?_
    refine wg_gn rfl rfl (show _ = some (m_l ν n).toNat from e46.trans (opS ho)) ?_
    refine wg_s rfl rfl ?_
    refine wg_s rfl rfl ?_
    refine wg_gn rfl rfl (show _ = some (m_l ν n).toNat from e46.trans (opS ho)) ?_
    refine wg_gi rfl rfl (show _ = ag_I ν 11 39 (m_l ν n).toNat from j3) ?_
    refine wg_s rfl rfl ?_
    refine wg_if rfl rfl (fun h25 => ?_) (fun h25 => ?_)
    · refine wg_s rfl rfl ?_
      refine wg_gn rfl rfl (show _ = some (m_l ν n).toNat from e46.trans (opS ho)) ?_
      refine wg_s rfl rfl ?_
      refine wg_gi rfl rfl (show _ = ag_I ν 10 0 0 from c9) ?_
      refine wg_cf rfl rfl (sp_endBy _ _ hI hZ hWL hT2 hj) ?_
      refine wg_s rfl rfl ?_
      refine wg_s rfl rfl ?_
      refine wg_s rfl rfl ?_
      refine wg_if rfl rfl (fun h46 => ?_) (fun h46 => ?_)
      · refine wg_s rfl rfl ?_
        refine wg_gn rfl rfl (show _ = some (m_l ν n).toNat from e46.trans (opS ho)) ?_
        refine wg_s rfl rfl ?_
        refine wg_s rfl rfl ?_
        refine wg_s rfl rfl ?_
        refine wg_s rfl rfl ?_
        have hI1 := IX_setEnd hI (m_l ν n).toNat (m_ne ν (m_l ν n).toNat)
        have el : m_l (as_I ν 11 39 (m_l ν n).toNat (m_ne ν (m_l ν n).toNat)) n = m_l ν n := m_lf_c (ν := ν) (fun i => ag_I_n (by omega)) (fun i => ag_I_n (by omega)) _ _
        have hp1 := sp_part d n hI1 (WR_e hZ _ _) (WL_e hWL _ _) (WU_e hU _ _) hn
        rw [el, ag_I_y] at hp1
        refine wg_call rfl rfl hp1 (fun vv μ2 hq => ?_)
        have hfin : (m_ne ν (m_l ν n).toNat ≤ ag_I ν 10 0 0 ∧ vv = some (ab_i 1) ∧ μ2 = x_pa (as_I μ 6 (m_l ν n).toNat 3 (m_ne ν (m_l ν n).toNat)) n (ag_I ν 11 33 (m_l ν n).toNat).toNat (m_l ν n).toNat) ∨ (ag_I ν 10 0 0 < m_ne ν (m_l ν n).toNat ∧ vv = some (ab_i 0) ∧ μ2 = as_I μ 6 (m_l ν n).toNat 3 (m_ne ν (m_l ν n).toNat)) := by
          by_cases c : m_ne ν (m_l ν n).toNat ≤ ag_I ν 10 0 0
          · exact Or.inl ⟨c, hq.1 ⟨ho, by omega, by rw [ag_I_n (by omega)]; exact c⟩⟩
          · exact Or.inr ⟨by omega, hq.2 (fun w => c (by have := w.2.2; rw [ag_I_n (by omega)] at this; exact this))⟩
        have hA := en_AG hO z0.1 (m_l ν n).toNat (m_ne ν (m_l ν n).toNat) hj o40
        rcases hfin with ⟨c, rfl, rfl⟩ | ⟨c, rfl, rfl⟩
        · refine wg_s rfl rfl ?_
          refine wg_s rfl rfl ?_
          refine wg_ret rfl rfl trivial ⟨fun _ => ⟨rfl, ?_, ?_, rfl, rfl⟩, fun h => absurd ⟨ho, by omega, by omega⟩ h⟩
          · rw [if_pos (by omega)] at hA
            refine IX_AG hA ?_
            have := IX_part hI1 (WR_e hZ _ _) (WL_e hWL _ _) (WU_e hU _ _) (m_l ν n).toNat (ag_I ν 10 0 0 - ag_I ν 11 34 (m_l ν n).toNat) (by rw [ag_I_n (by omega)]; exact hj) (by rw [ag_I_n (by omega)]; exact o40) (by have := hWL _ hj; omega)
            rw [ag_I_n (t' := 11) (n' := 32) (by omega), o32, ag_I_n (t' := 11) (n' := 33) (by omega)] at this
            exact this
          · exact MK_trans (b := as_I μ 6 (m_l ν n).toNat 3 (m_ne ν (m_l ν n).toNat)) ⟨fun t m i q => ag_I_n (by unfold mrel at q; omega), fun _ _ => rfl, fun _ _ _ => rfl⟩ (MK_part _ _ _ _)
        · refine wg_s rfl rfl ?_
          refine wg_s rfl rfl ?_
          refine wg_ret rfl rfl trivial ⟨fun _ => ⟨rfl, ?_, ?_, rfl, rfl⟩, fun h => absurd ⟨ho, by omega, by omega⟩ h⟩
          · rw [if_neg (by omega)] at hA
            exact IX_AG hA hI1
          · exact ⟨fun t m i q => ag_I_n (by unfold mrel at q; omega), fun _ _ => rfl, fun _ _ _ => rfl⟩
      · refine wg_s rfl rfl ?_
        exact wg_ret rfl rfl trivial ⟨fun h => absurd h (by omega), fun _ => ⟨rfl, rfl⟩⟩
    · refine wg_s rfl rfl ?_
      exact wg_ret rfl rfl trivial ⟨fun h => absurd h (by omega), fun _ => ⟨rfl, rfl⟩⟩
  · refine wg_s rfl rfl ?_
    refine wg_s rfl rfl ?_
    refine wg_cf rfl rfl (sp_homeAt_t _ _ hI hZ hh) ?_
    refine wg_s rfl rfl ?_
    refine wg_s rfl rfl ?_
    refine wg_s rfl rfl ?_
    refine wg_s rfl rfl ?_
    refine wg_gn rfl rfl (show _ = none from e46.trans (opN (by omega))) ?_
    refine wg_s rfl rfl ?_
    refine wg_s rfl rfl ?_
    exact wg_ret rfl rfl trivial ⟨fun h => absurd h (by omega), fun _ => ⟨rfl, rfl⟩⟩
theorem sp_xnotice0 (d : Nat) (h : Int) {ν μ : ab_M} {hl hw pl tm : Nat → Nat} {ow : Nat → Nat × Nat} {tc : Nat} (hI : IX ν μ hl hw pl tm ow tc) (hZ : WR ν) (hh : ¬ (0 ≤ h ∧ h < ag_I ν 10 0 1)) : Wp (d + 3) 87 [ab_r 9 (some 0), ab_i h] μ (fun vv μ' => vv = some (ab_i (-1)) ∧ μ' = μ) := by
  refine wp_of ?_
  obtain ⟨hX, hC, hH, hP, hL, hK, hT, hR, hS⟩ := id hI
  obtain ⟨z1, z6, z26, z0, z14⟩ := id hZ
  obtain ⟨c7, c8, c9, cC4, cC3, cC6, cC11⟩ := id hC
  refine wg_s rfl rfl ?_
  refine wg_s rfl rfl ?_
  refine wg_cf rfl rfl (sp_homeAt_f _ _ hI hZ hh) ?_
  refine wg_s rfl rfl ?_
  refine wg_s rfl rfl ?_
  refine wg_s rfl rfl ?_
  refine wg_s rfl rfl ?_
  exact wg_ret rfl rfl trivial ⟨rfl, rfl⟩
