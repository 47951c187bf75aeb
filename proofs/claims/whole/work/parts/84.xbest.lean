/-! ===== the best pairing: the class's is the reference's ===== -/
def x_ok (ν : ab_M) (i j : Nat) : Bool := decide (m_why ν (l_h ν i) (l_p ν j) = 0)
abbrev x_lk (ν : ab_M) : Nat → Nat → Int := fun i j => m_lk ν (l_h ν) i (l_p ν j)
abbrev x_ld (ν : ab_M) : Nat → Nat → Int := fun i j => m_ld ν (l_h ν) i (l_p ν j)
abbrev x_T (ν : ab_M) (M : Int) (t0 : Int × (Nat → Int)) : Int × (Nat → Int) := pf (n_p ν) (x_ok ν) (hM_ (n_h ν) (n_p ν) (x_ok ν) (x_lk ν) (x_ld ν) M) (n_h ν) 0 A0_ t0
theorem x_bd {ν : ab_M} (hZ : WR ν) (hK : WK ν) : ∀ i j, i < n_h ν → j < n_p ν → (0 ≤ x_lk ν i j ∧ x_lk ν i j ≤ 99) ∧ (0 ≤ x_ld ν i j ∧ x_ld ν i j ≤ 99) := by
  intro i j hi hj
  have h1 := (ith_p (f_h ν) _ i hi).1
  have h2 := (ith_p (f_p ν) _ j hj).1
  have z1 := hZ.1
  have z6 := hZ.2.1
  exact hK (8 * l_h ν i + l_p ν j) (by show 8 * ith _ _ _ + ith _ _ _ < 64; omega)
theorem pr_h_inv {R L : (Nat → Int) → Int} {A : Nat → Int} {s : Int × Int × (Nat → Int)} (h1 : R A ≤ 36) (h2 : 0 ≤ L A) (h : s.1 ≤ 36 ∧ (s.1 < 0 ∨ 0 ≤ s.2.1)) : (pr_h R L A s).1 ≤ 36 ∧ ((pr_h R L A s).1 < 0 ∨ 0 ≤ (pr_h R L A s).2.1) := by
  unfold pr_h
  split
  · exact ⟨h1, Or.inr h2⟩
  · exact h
theorem best_eq {ν : ab_M} (hZ : WR ν) (hK : WK ν) (h6 : n_h ν ≤ 6 ∧ n_p ν ≤ 6) (l0 : Int) (F0 : Nat → Int) (t0 : Int × (Nat → Int)) (ht : t0.1 = -1) : (0 ≤ (m_bs ν l0 F0).1 ∧ (m_bs ν l0 F0).1 ≤ 36) ∧ 0 ≤ (m_bs ν l0 F0).2.1 ∧ (∀ M : Int, M < (m_bs ν l0 F0).1 → x_T ν M t0 = t0) ∧ ((x_T ν (m_bs ν l0 F0).1 t0).1 = (m_bs ν l0 F0).2.1 ∧ (m_bs ν l0 F0).2.2 = ph (f_p ν) (ag_I ν 10 0 6).toNat (x_T ν (m_bs ν l0 F0).1 t0).2) := by
  have hbd := x_bd hZ hK
  have hf : ∀ i p, i < n_h ν → p < (ag_I ν 10 0 6).toNat → m_ok ν (l_h ν) i p = true → f_p ν p = true := by
    intro i p _ _ h
    unfold m_ok at h
    rw [Bool.and_eq_true] at h
    exact h.1
  have hx : ∀ i j, i < n_h ν → j < cn (f_p ν) (ag_I ν 10 0 6).toNat → x_ok ν i j = m_ok ν (l_h ν) i (ith (f_p ν) (ag_I ν 10 0 6).toNat j) := by
    intro i j _ hj
    have := (ith_p (f_p ν) _ j hj).2.1
    unfold m_ok x_ok
    rw [show m_fr ν ((ith (f_p ν) (ag_I ν 10 0 6).toNat j : Nat) : Int) (ag_I ν 10 0 26).toNat = true from this]
    rfl
  have e0 : (fun _ => -1 : Nat → Int) = ph (f_p ν) (ag_I ν 10 0 6).toNat A0_ := by
    funext k; unfold ph; rw [if_pos (show (-1 : Int) < 0 by omega)]
  have em : m_bs ν l0 F0 = pf (n_p ν) (x_ok ν) (fun A s => pr_h (fun A => pr_r (ag_I ν 10 0 6).toNat (n_h ν) (m_ok ν (l_h ν)) (m_lk ν (l_h ν)) (m_ld ν (l_h ν)) A (n_h ν)) (fun A => pr_l (m_lk ν (l_h ν)) (m_ld ν (l_h ν)) A (n_h ν)) (ph (f_p ν) (ag_I ν 10 0 6).toNat A) s) (n_h ν) 0 A0_ (-1, l0, F0) := by
    unfold m_bs
    rw [e0]
    exact pf_map _ (n_h ν) hf hx (n_h ν) 0 A0_ _ (by omega) (fun k hk => by omega)
  have hRr : ∀ A, val (n_p ν) (x_ok ν) A (n_h ν) → pr_r (ag_I ν 10 0 6).toNat (n_h ν) (m_ok ν (l_h ν)) (m_lk ν (l_h ν)) (m_ld ν (l_h ν)) (ph (f_p ν) (ag_I ν 10 0 6).toNat A) (n_h ν) = pr_r (n_p ν) (n_h ν) (x_ok ν) (x_lk ν) (x_ld ν) A (n_h ν) := fun A hv => ph_r hf hx hv (n_h ν) (Nat.le_refl _)
  have hLl : ∀ A, pr_l (m_lk ν (l_h ν)) (m_ld ν (l_h ν)) (ph (f_p ν) (ag_I ν 10 0 6).toNat A) (n_h ν) = pr_l (x_lk ν) (x_ld ν) A (n_h ν) := fun A => ph_l A (n_h ν)
  have hv0 : val (n_p ν) (x_ok ν) A0_ 0 := fun k hk => by omega
  have hrel : ∀ M, RlM (ph (f_p ν) (ag_I ν 10 0 6).toNat) M t0 (m_bs ν l0 F0) (x_T ν M t0) := by
    intro M
    rw [em]
    refine pf_rel _ _ _ (n_h ν) 0 A0_ hv0 (fun A' s t _ hv hR => ?_) _ _ (Or.inl ⟨by show (-1 : Int) < 0; omega, rfl⟩)
    rw [Nat.zero_add] at hv
    exact RlM_h ht (hRr A' hv) (hLl A') (pr_r_rng _ _ _ _ _ _ _).1 (xl_rng hbd _ (Nat.le_refl _) hv).1 hR
  have hpos : 0 ≤ (m_bs ν l0 F0).1 := by
    obtain ⟨A', s', e⟩ := pf_last (m := (ag_I ν 10 0 6).toNat) (ok := m_ok ν (l_h ν)) (pr_h (fun A => pr_r (ag_I ν 10 0 6).toNat (n_h ν) (m_ok ν (l_h ν)) (m_lk ν (l_h ν)) (m_ld ν (l_h ν)) A (n_h ν)) (fun A => pr_l (m_lk ν (l_h ν)) (m_ld ν (l_h ν)) A (n_h ν))) (n_h ν) 0 (fun _ => -1) (-1, l0, F0)
    unfold m_bs
    rw [e]
    unfold pr_h
    split
    · exact (pr_r_rng _ _ _ _ _ _ _).1
    · rename_i c; omega
  have hinv : (m_bs ν l0 F0).1 ≤ 36 ∧ ((m_bs ν l0 F0).1 < 0 ∨ 0 ≤ (m_bs ν l0 F0).2.1) := by
    rw [em]
    refine pf_rel (S := Int × Int × (Nat → Int)) (T := Unit) _ (fun _ t => t) (fun s _ => s.1 ≤ 36 ∧ (s.1 < 0 ∨ 0 ≤ s.2.1)) (n_h ν) 0 A0_ hv0 (fun A' s t _ hv hR => ?_) _ () ⟨by show (-1 : Int) ≤ 36; omega, Or.inl (by show (-1 : Int) < 0; omega)⟩
    rw [Nat.zero_add] at hv
    refine pr_h_inv ?_ ?_ hR
    · show pr_r (ag_I ν 10 0 6).toNat (n_h ν) (m_ok ν (l_h ν)) (m_lk ν (l_h ν)) (m_ld ν (l_h ν)) (ph (f_p ν) (ag_I ν 10 0 6).toNat A') (n_h ν) ≤ 36
      rw [hRr A' hv]
      have h1 := (pr_r_rng (n_p ν) (n_h ν) (x_ok ν) (x_lk ν) (x_ld ν) A' (n_h ν)).2
      refine Int.le_trans h1 ?_
      have : n_h ν * n_p ν ≤ 6 * 6 := Nat.mul_le_mul h6.1 h6.2
      have e : ((n_h ν : Nat) : Int) * ((n_p ν : Nat) : Int) = ((n_h ν * n_p ν : Nat) : Int) := (Int.natCast_mul _ _).symm
      rw [e]; omega
    · show 0 ≤ pr_l (m_lk ν (l_h ν)) (m_ld ν (l_h ν)) (ph (f_p ν) (ag_I ν 10 0 6).toNat A') (n_h ν)
      rw [hLl A']
      exact (xl_rng hbd _ (Nat.le_refl _) hv).1
  refine ⟨⟨hpos, hinv.1⟩, hinv.2.elim (fun q => by omega) id, fun M hM => ?_, ?_⟩
  · rcases hrel M with q | q
    · omega
    · exact q.2.1 hM
  · rcases hrel (m_bs ν l0 F0).1 with q | q
    · omega
    · exact q.2.2 rfl
theorem best_val {ν : ab_M} (M : Int) (t0 : Int × (Nat → Int)) : x_T ν M t0 = t0 ∨ val (n_p ν) (x_ok ν) (x_T ν M t0).2 (n_h ν) := by
  refine pf_rel (T := Unit) _ (fun _ t => t) (fun s _ => s = t0 ∨ val (n_p ν) (x_ok ν) s.2 (n_h ν)) (n_h ν) 0 A0_ (fun k hk => by omega) (fun A' s t _ hv hR => ?_) _ () (Or.inl rfl)
  rw [Nat.zero_add] at hv
  show h_M _ _ _ _ s = t0 ∨ val _ _ (h_M _ _ _ _ s).2 _
  unfold h_M
  split
  · exact Or.inr hv
  · exact hR
theorem sp_letKnow (d : Nat) {ν μ0 : ab_M} {hl hw pl tm : Nat → Nat} {ow : Nat → Nat × Nat} {tc : Nat} (hI0 : IX ν μ0 hl hw pl tm ow tc) (hZ : WR ν) {μ : ab_M} (hP : PB μ0 μ) (h6 : n_h ν ≤ 6 ∧ n_p ν ≤ 6) (g2 : ag_I μ 1 0 2 = (n_h ν : Int) ∧ ag_I μ 1 0 3 = (n_p ν : Int)) (hho : ∀ i, i < n_h ν → ag_I μ 11 2 i = (l_h ν i : Int)) (hhp : ∀ j, j < n_p ν → ag_I μ 11 3 j = (l_p ν j : Int)) (i j : Nat) (hi : i < n_h ν) (hj : j < n_p ν) : Wp (d + 3) 108 [ab_r 9 (some 0), ab_i (i : Int), ab_i (j : Int)] μ (fun vv μ' => vv = none ∧ μ' = if x_ok ν i j = true then as_I (as_I μ 11 (4 + i) j (x_lk ν i j)) 11 (10 + i) j (x_ld ν i j) else μ) := by
  refine wp_of ?_
  have hI := IX_E (PB_XE hP) hI0
  obtain ⟨hX, hC, hH, hP1, hL1, hK, hT, hR, hS⟩ := id hI
  obtain ⟨z1, z6, z26, z0, z14⟩ := id hZ
  have rh := ith_p (f_h ν) _ i hi
  have rp := ith_p (f_p ν) _ j hj
  have rh1 : ((l_h ν i : Nat) : Int) < ag_I ν 10 0 1 := by have := rh.1; show ((ith (f_h ν) (ag_I ν 10 0 1).toNat i : Nat) : Int) < _; omega
  have rp1 : ((l_p ν j : Nat) : Int) < ag_I ν 10 0 6 := by have := rp.1; show ((ith (f_p ν) (ag_I ν 10 0 6).toNat j : Nat) : Int) < _; omega
  obtain ⟨e15, e4, ⟨e44, e45, e46⟩, ⟨hL8, hL501⟩, hrng, how, hlk, hwk⟩ := hH (l_h ν i) rh1
  obtain ⟨p14, p3, ⟨p33, p35⟩, pL8, prng, pow, plk⟩ := hP1 (l_p ν j) rp1
  refine wg_s rfl rfl ?_
  refine wg_gx rfl rfl hX ?_
  refine wg_s rfl rfl ?_
  refine wg_cf2 rfl rfl (sp_homeIn _ (n_h ν) _ hX g2.1 h6.1) (show _ = ab_i ((l_h ν i : Nat) : Int) from congrArg ab_i ((if_pos (by omega)).trans (hho i hi))) ?_
  refine wg_s rfl rfl ?_
  refine wg_s rfl rfl ?_
  refine wg_gx rfl rfl hX ?_
  refine wg_s rfl rfl ?_
  refine wg_cf2 rfl rfl (sp_helperIn _ (n_p ν) _ hX g2.2 h6.2) (show _ = ab_i ((l_p ν j : Nat) : Int) from congrArg ab_i ((if_pos (by omega)).trans (hhp j hj))) ?_
  refine wg_s rfl rfl ?_
  refine wg_s rfl rfl ?_
  refine wg_s rfl rfl ?_
  refine wg_cf rfl rfl (sp_homeAt_t _ _ hI hZ (by omega)) ?_
  refine wg_s rfl rfl ?_
  refine wg_s rfl rfl ?_
  refine wg_s rfl rfl ?_
  refine wg_cf rfl rfl (sp_helperAt_t _ _ hI hZ (by omega)) ?_
  refine wg_s rfl rfl ?_
  refine wg_s rfl rfl ?_
  refine wg_s rfl rfl ?_
  refine wg_s rfl rfl ?_
  refine wg_s rfl rfl ?_
  refine wg_s rfl rfl ?_
  refine wg_s rfl rfl ?_
  refine wg_s rfl rfl ?_
  refine wg_cf rfl rfl (sp_hind _ (l_h ν i) (l_p ν j) hI hZ rh1 rp1) ?_
  refine wg_if rfl rfl (fun h52 => ?_) (fun h52 => ?_)
  · exact wg_ret rfl rfl trivial ⟨rfl, by rw [if_neg (show ¬ x_ok ν i j = true from fun w => h52 (of_decide_eq_true w))]⟩
  
  · refine wg_s rfl rfl ?_
    refine wg_gx rfl rfl hX ?_
    refine wg_s rfl rfl ?_
    refine wg_s rfl rfl ?_
    refine wg_s rfl rfl ?_
    refine wg_gr rfl rfl (show _ = some (hl (l_h ν i)) from e44) ?_
    refine wg_s rfl rfl ?_
    refine wg_ax rfl hL8 (by omega) (by omega) (show _ = x_lk ν i j from hlk (l_p ν j) (by omega)) ?_
    refine wg_s rfl rfl ?_
    refine wg_gr rfl rfl (show _ = some (pl (l_p ν j)) from p33) ?_
    refine wg_s rfl rfl ?_
    refine wg_ax rfl pL8 (by omega) (by omega) (show _ = x_ld ν i j from plk (l_h ν i) (by omega)) ?_
    refine wg_cv rfl rfl (sp_allow _ (n_h ν) (n_p ν) i j _ _ hX g2.1 g2.2 hi hj h6.1 h6.2) ?_
    exact wg_ret rfl rfl trivial ⟨rfl, by rw [if_pos (show x_ok ν i j = true from decide_eq_true (Decidable.not_not.mp h52))]⟩
