/-! ===== the class: a new helper: the relation ===== -/
theorem pn_I {μ : ab_M} {n k a b h : Int} {t m i : Nat} (h1 : ¬ (t = 9 ∧ m = 0 ∧ i = 8)) (h2 : ¬ (t = 3 ∧ m = ag_C μ 3)) (h3 : ¬ (t = 11 ∧ ag_C μ 11 ≤ m)) : ag_I (p_new μ n k a b h) t m i = ag_I μ t m i := by
  unfold p_new p_in
  simp only [ag_I_I, ag_I_R, ag_I_N, a_fl_I, ag_R_I, ag_R_R, ag_R_N, a_fl_R, ag_L_I, ag_L_R, ag_L_N, a_fl_L, ag_C_I, ag_C_R, ag_C_N, a_fl_C, Nat.reduceEqDiff, if_false, if_true, false_and, true_and]
  repeat rw [if_neg (by omega)]
theorem pn_R {μ : ab_M} {n k a b h : Int} {t m i : Nat} (h1 : ¬ (t = 14 ∧ m = 0 ∧ i = n.toNat)) (h2 : ¬ (t = 3 ∧ m = ag_C μ 3)) (h3 : ¬ (t = 11 ∧ ag_C μ 11 ≤ m)) : ag_R (p_new μ n k a b h) t m i = ag_R μ t m i := by
  unfold p_new p_in
  simp only [ag_I_I, ag_I_R, ag_I_N, a_fl_I, ag_R_I, ag_R_R, ag_R_N, a_fl_R, ag_L_I, ag_L_R, ag_L_N, a_fl_L, ag_C_I, ag_C_R, ag_C_N, a_fl_C, Nat.reduceEqDiff, if_false, if_true, false_and, true_and]
  repeat rw [if_neg (by omega)]
theorem pn_L {μ : ab_M} {n k a b h : Int} {t m : Nat} (h2 : t ≠ 3) (h3 : ¬ (t = 11 ∧ ag_C μ 11 ≤ m)) : ag_L (p_new μ n k a b h) t m = ag_L μ t m := by
  unfold p_new p_in
  simp only [ag_I_I, ag_I_R, ag_I_N, a_fl_I, ag_R_I, ag_R_R, ag_R_N, a_fl_R, ag_L_I, ag_L_R, ag_L_N, a_fl_L, ag_C_I, ag_C_R, ag_C_N, a_fl_C, Nat.reduceEqDiff, if_false, if_true, false_and, true_and]
  repeat rw [if_neg (by omega)]
theorem pn_C {μ : ab_M} {n k a b h : Int} {t : Nat} (h2 : t ≠ 3) (h3 : t ≠ 11) : ag_C (p_new μ n k a b h) t = ag_C μ t := by
  unfold p_new p_in
  simp only [ag_I_I, ag_I_R, ag_I_N, a_fl_I, ag_R_I, ag_R_R, ag_R_N, a_fl_R, ag_L_I, ag_L_R, ag_L_N, a_fl_L, ag_C_I, ag_C_R, ag_C_N, a_fl_C, Nat.reduceEqDiff, if_false, if_true, false_and, true_and]
  repeat rw [if_neg (by omega)]
theorem pn_C3 {μ : ab_M} {n k a b h : Int} : ag_C (p_new μ n k a b h) 3 = ag_C μ 3 + 1 := by
  unfold p_new p_in
  simp only [ag_I_I, ag_I_R, ag_I_N, a_fl_I, ag_R_I, ag_R_R, ag_R_N, a_fl_R, ag_L_I, ag_L_R, ag_L_N, a_fl_L, ag_C_I, ag_C_R, ag_C_N, a_fl_C, Nat.reduceEqDiff, if_false, if_true, false_and, true_and]
theorem pn_C11 {μ : ab_M} {n k a b h : Int} : ag_C (p_new μ n k a b h) 11 = ag_C μ 11 + 1 := by
  unfold p_new p_in
  simp only [ag_I_I, ag_I_R, ag_I_N, a_fl_I, ag_R_I, ag_R_R, ag_R_N, a_fl_R, ag_L_I, ag_L_R, ag_L_N, a_fl_L, ag_C_I, ag_C_R, ag_C_N, a_fl_C, Nat.reduceEqDiff, if_false, if_true, false_and, true_and]
theorem pn_c {μ : ab_M} {n k a b h : Int} : ag_c (p_new μ n k a b h) = ag_c μ + 2 ∧ ag_s (p_new μ n k a b h) = ag_s μ + 14 := ⟨rfl, rfl⟩
theorem pn_v {μ : ab_M} {n k a b h : Int} : ag_I (p_new μ n k a b h) 9 0 8 = n + 1 ∧ (ag_I (p_new μ n k a b h) 3 (ag_C μ 3) 0 = k ∧ ag_I (p_new μ n k a b h) 3 (ag_C μ 3) 1 = a ∧ ag_I (p_new μ n k a b h) 3 (ag_C μ 3) 2 = b ∧ ag_I (p_new μ n k a b h) 3 (ag_C μ 3) 4 = h) ∧ (∀ i, i < 8 → ag_I (p_new μ n k a b h) 11 (ag_C μ 11) i = 50) := by
  refine ⟨?_, ⟨?_, ?_, ?_, ?_⟩, fun i hi => ?_⟩ <;> unfold p_new p_in <;> simp [ag_I_I, ag_I_R, ag_I_N, a_fl_I, ag_R_I, ag_R_R, ag_R_N, a_fl_R, ag_L_I, ag_L_R, ag_L_N, a_fl_L, ag_C_I, ag_C_R, ag_C_N, a_fl_C, Nat.reduceEqDiff, if_false, if_true, false_and, true_and]
  exact hi
theorem pn_r {μ : ab_M} {n k a b h : Int} : ag_R (p_new μ n k a b h) 14 0 n.toNat = some (ag_C μ 3) ∧ (ag_R (p_new μ n k a b h) 3 (ag_C μ 3) 3 = some (ag_C μ 11) ∧ ag_R (p_new μ n k a b h) 3 (ag_C μ 3) 5 = none) ∧ ag_L (p_new μ n k a b h) 11 (ag_C μ 11) = 8 := by
  refine ⟨?_, ⟨?_, ?_⟩, ?_⟩ <;> unfold p_new p_in <;> simp [ag_I_I, ag_I_R, ag_I_N, a_fl_I, ag_R_I, ag_R_R, ag_R_N, a_fl_R, ag_L_I, ag_L_R, ag_L_N, a_fl_L, ag_C_I, ag_C_R, ag_C_N, a_fl_C, Nat.reduceEqDiff, if_false, if_true, false_and, true_and]
abbrev m_pn (ν : ab_M) (k a b h : Int) : ab_M := as_I (as_I (as_I (as_I (as_I ν 11 24 (ag_I ν 10 0 6).toNat k) 11 25 (ag_I ν 10 0 6).toNat a) 11 26 (ag_I ν 10 0 6).toNat b) 11 27 (ag_I ν 10 0 6).toNat h) 10 0 6 (ag_I ν 10 0 6 + 1)
theorem mp_I {ν : ab_M} {k a b h : Int} {t m i : Nat} (h1 : ¬ (t = 10 ∧ m = 0 ∧ i = 6)) (h2 : ¬ (t = 11 ∧ 24 ≤ m ∧ m ≤ 27 ∧ i = (ag_I ν 10 0 6).toNat)) : ag_I (m_pn ν k a b h) t m i = ag_I ν t m i := by
  unfold m_pn
  simp only [ag_I_I]
  repeat rw [if_neg (by omega)]
theorem mp_v {ν : ab_M} {k a b h : Int} : ag_I (m_pn ν k a b h) 10 0 6 = ag_I ν 10 0 6 + 1 ∧ ag_I (m_pn ν k a b h) 11 24 (ag_I ν 10 0 6).toNat = k ∧ ag_I (m_pn ν k a b h) 11 25 (ag_I ν 10 0 6).toNat = a ∧ ag_I (m_pn ν k a b h) 11 26 (ag_I ν 10 0 6).toNat = b ∧ ag_I (m_pn ν k a b h) 11 27 (ag_I ν 10 0 6).toNat = h := by
  refine ⟨?_, ?_, ?_, ?_, ?_⟩ <;> unfold m_pn <;> simp [ag_I_I]
theorem IX_helper {ν μ : ab_M} {hl hw pl tm : Nat → Nat} {ow : Nat → Nat × Nat} {tc : Nat} (hI : IX ν μ hl hw pl tm ow tc) (hZ : WR ν) (hWL : WL ν) (hU : WU ν) (h8 : ag_I ν 10 0 6 < 8) (h50 : ∀ x, x < 8 → ag_I ν 11 29 (8 * x + (ag_I ν 10 0 6).toNat) = 50) (k a b h : Int) : IX (m_pn ν k a b h) (p_new μ (ag_I ν 10 0 6) k a b h) hl hw (hl2 pl (ag_I ν 10 0 6).toNat (ag_C μ 11)) tm (ow2 ow (ag_C μ 11) (2, (ag_I ν 10 0 6).toNat)) tc := by
  obtain ⟨hX, hC, hH, hP, hL, hK, hT, hR, hS⟩ := id hI
  obtain ⟨z1, z6, z26, z0, z14⟩ := id hZ
  obtain ⟨c7, c8, c9, cC4, cC3, cC6, cC11⟩ := id hC
  have g26 : ag_I (m_pn ν k a b h) 10 0 26 = ag_I ν 10 0 26 := mp_I (by omega) (by omega)
  have g1 : ag_I (m_pn ν k a b h) 10 0 1 = ag_I ν 10 0 1 := mp_I (by omega) (by omega)
  have g20 : ∀ j, ag_I (m_pn ν k a b h) 11 20 j = ag_I ν 11 20 j := fun j => mp_I (by omega) (by omega)
  have g32 : ∀ j, ag_I (m_pn ν k a b h) 11 32 j = ag_I ν 11 32 j := fun j => mp_I (by omega) (by omega)
  have g33 : ∀ j, ag_I (m_pn ν k a b h) 11 33 j = ag_I ν 11 33 j := fun j => mp_I (by omega) (by omega)
  have g40 : ∀ j, ag_I (m_pn ν k a b h) 11 40 j = ag_I ν 11 40 j := fun j => mp_I (by omega) (by omega)
  refine ⟨?_, ?_, ?_, ?_, ?_, ?_, ?_, ?_, ?_⟩
  · refine XF_B (fun t n b q => pn_R ?_ ?_ ?_) (fun t n N q => pn_L ?_ ?_) (fun k hk => pn_L (by omega) (by omega)) hX
    · unfold fxr at q; omega
    · unfold fxr at q; omega
    · unfold fxr at q; omega
    · have := xs_l_s q; omega
    · have := xs_l_s q; omega
  · refine ⟨?_, pn_v.1.trans mp_v.1.symm, ?_, ?_, ?_, ?_, ?_⟩
    · rw [pn_I (by omega) (by omega) (by omega), g1]; exact c7
    · rw [pn_I (by omega) (by omega) (by omega), mp_I (by omega) (by omega)]; exact c9
    · rw [pn_C (by omega) (by omega), g1]; exact cC4
    · rw [pn_C3, mp_v.1]; omega
    · rw [pn_C (by omega) (by omega), g26]; exact cC6
    · rw [pn_C11]; omega
  · refine XH_A (ν := ν) (fun t n q w => ?_) ?_
    · unfold rH at w; exact mp_I (by omega) (by omega)
    · intro m hm
      obtain ⟨e15, ⟨e40, e41, e42, e43⟩, ⟨e44, e45, e46⟩, ⟨hL8, hL501⟩, hrng, ⟨how1, how2⟩, hlk, hwk⟩ := hH m hm
      refine ⟨?_, ⟨?_, ?_, ?_, ?_⟩, ⟨?_, ?_, ?_⟩, ⟨?_, ?_⟩, ?_, ⟨?_, ?_⟩, fun p hp => ?_, fun q w hw2 => ?_⟩
      · rw [pn_R (by omega) (by omega) (by omega)]; exact e15
      · rw [pn_I (by omega) (by omega) (by omega)]; exact e40
      · rw [pn_I (by omega) (by omega) (by omega)]; exact e41
      · rw [pn_I (by omega) (by omega) (by omega)]; exact e42
      · rw [pn_I (by omega) (by omega) (by omega)]; exact e43
      · rw [pn_R (by omega) (by omega) (by omega)]; exact e44
      · rw [pn_R (by omega) (by omega) (by omega)]; exact e45
      · rw [pn_R (by omega) (by omega) (by omega)]; exact e46
      · rw [pn_L (by omega) (by omega)]; exact hL8
      · rw [pn_L (by omega) (by omega)]; exact hL501
      · rw [pn_C11]; omega
      · rw [ow2, if_neg (by omega)]; exact how1
      · rw [ow2, if_neg (by omega)]; exact how2
      · rw [pn_I (by omega) (by omega) (by omega)]; exact hlk p hp
      · rw [pn_I (by omega) (by omega) (by omega)]; exact hwk q w hw2
  · intro m hm
    rw [mp_v.1] at hm
    rw [g26, m_pf_c g33 g40]
    by_cases e : m = (ag_I ν 10 0 6).toNat
    · subst e
      have v := @pn_v μ (ag_I ν 10 0 6) k a b h
      have r := @pn_r μ (ag_I ν 10 0 6) k a b h
      have u := @mp_v ν k a b h
      rw [cC3] at v r
      have el : m_pf ν ((ag_I ν 10 0 6).toNat : Int) (ag_I ν 10 0 26).toNat = -1 := m_pf_no _ (fun j hj q => by have := hU.1 j (by omega); omega)
      refine ⟨r.1, ⟨v.2.1.1.trans u.2.1.symm, v.2.1.2.1.trans u.2.2.1.symm, v.2.1.2.2.1.trans u.2.2.2.1.symm, v.2.1.2.2.2.trans u.2.2.2.2.symm⟩, ⟨?_, ?_⟩, ?_, ?_, ?_, fun p hp => ?_⟩
      · rw [r.2.1.1, hl2, if_pos rfl]
      · rw [r.2.1.2, el]; rfl
      · rw [hl2, if_pos rfl]; exact r.2.2
      · rw [hl2, if_pos rfl, pn_C11]; omega
      · rw [hl2, if_pos rfl, ow2, if_pos rfl]
      · rw [hl2, if_pos rfl, v.2.2 p hp, mp_I (by omega) (by omega), h50 p hp]
    · have hm2 : (m : Int) < ag_I ν 10 0 6 := by omega
      obtain ⟨p14, ⟨p30, p31, p32, p34⟩, ⟨p33, p35⟩, pL8, prng, pow, plk⟩ := hP m hm2
      refine ⟨?_, ⟨?_, ?_, ?_, ?_⟩, ⟨?_, ?_⟩, ?_, ?_, ?_, fun p hp => ?_⟩
      · rw [pn_R (by omega) (by omega) (by omega)]; exact p14
      · rw [pn_I (by omega) (by omega) (by omega), mp_I (by omega) (by omega)]; exact p30
      · rw [pn_I (by omega) (by omega) (by omega), mp_I (by omega) (by omega)]; exact p31
      · rw [pn_I (by omega) (by omega) (by omega), mp_I (by omega) (by omega)]; exact p32
      · rw [pn_I (by omega) (by omega) (by omega), mp_I (by omega) (by omega)]; exact p34
      · rw [pn_R (by omega) (by omega) (by omega), hl2, if_neg e]; exact p33
      · rw [pn_R (by omega) (by omega) (by omega)]; exact p35
      · rw [hl2, if_neg e, pn_L (by omega) (by omega)]; exact pL8
      · rw [hl2, if_neg e, pn_C11]; omega
      · rw [hl2, if_neg e, ow2, if_neg (by omega)]; exact pow
      · rw [hl2, if_neg e, pn_I (by omega) (by omega) (by omega), mp_I (by omega) (by omega)]; exact plk p hp
  · refine XL_A (ν := ν) (fun t n q w => ?_) (XL_B (fun t n k w => pn_I (by omega) (by omega) (by omega)) (fun n k w => pn_R (by omega) (by omega) (by omega)) (fun k i x _ _ => pn_R (by omega) (by omega) (by omega)) (by rw [pn_C (by omega) (by omega)]; omega) hL)
    unfold rL at w; exact mp_I (by omega) (by omega)
  · refine XK_A (ν := ν) (fun t n q w => ?_) (XK_B (fun k hk => pn_I (by omega) (by omega) (by omega)) hK)
    unfold rL at w; exact mp_I (by omega) (by omega)
  · refine XT_A (ν := ν) (fun t n q w => ?_) (XT_B (pn_I (by omega) (by omega) (by omega)) (fun i => pn_I (by omega) (by omega) (by omega)) hT)
    unfold rT at w; exact mp_I (by omega) (by omega)
  · refine XR_A (ν := ν) (fun t n q w => ?_) (XR_B ⟨pn_I (by omega) (by omega) (by omega), pn_I (by omega) (by omega) (by omega)⟩ (pn_R (by omega) (by omega) (by omega)) (fun n q w => pn_I (by omega) (by omega) (by omega)) (by rw [pn_C (by omega) (by omega)]; omega) hR)
    unfold rR at w; exact mp_I (by omega) (by omega)
  · exact XS_B (fun _ _ _ _ => pn_I (by omega) (by omega) (by omega)) hS
theorem MK_helper {μ : ab_M} {n k a b h : Int} (h11 : 46 ≤ ag_C μ 11) : MK μ (p_new μ n k a b h) := ⟨fun t m i q => pn_I (by unfold mrel at q; omega) (by unfold mrel at q; omega) (by unfold mrel at q; omega), fun m i => pn_R (by omega) (by omega) (by omega), fun t m q => pn_L (by unfold mrel at q; omega) (by unfold mrel at q; omega)⟩

