/-! ===== the class: a new home, a new helper: the relation ===== -/
theorem a_fl_I {μ : ab_M} {s z t n k : Nat} {x : Int} : ag_I (a_fl μ s x z) t n k = if t = 11 ∧ n = s ∧ k < z then x else ag_I μ t n k := rfl
theorem a_fl_R {μ : ab_M} {s z t n k : Nat} {x : Int} : ag_R (a_fl μ s x z) t n k = ag_R μ t n k := rfl
theorem a_fl_L {μ : ab_M} {s z t n : Nat} {x : Int} : ag_L (a_fl μ s x z) t n = ag_L μ t n := rfl
theorem a_fl_C {μ : ab_M} {s z t : Nat} {x : Int} : ag_C (a_fl μ s x z) t = ag_C μ t := rfl
theorem hn_I {μ : ab_M} {n k a b h : Int} {t m i : Nat} (h1 : ¬ (t = 9 ∧ m = 0 ∧ i = 7)) (h2 : ¬ (t = 4 ∧ m = ag_C μ 4)) (h3 : ¬ (t = 11 ∧ ag_C μ 11 ≤ m)) : ag_I (h_new μ n k a b h) t m i = ag_I μ t m i := by
  unfold h_new h_in
  simp only [ag_I_I, ag_I_R, ag_I_N, a_fl_I, ag_R_I, ag_R_R, ag_R_N, a_fl_R, ag_L_I, ag_L_R, ag_L_N, a_fl_L, ag_C_I, ag_C_R, ag_C_N, a_fl_C, Nat.reduceEqDiff, if_false, if_true, false_and, true_and]
  repeat rw [if_neg (by omega)]
theorem hn_R {μ : ab_M} {n k a b h : Int} {t m i : Nat} (h1 : ¬ (t = 15 ∧ m = 0 ∧ i = n.toNat)) (h2 : ¬ (t = 4 ∧ m = ag_C μ 4)) (h3 : ¬ (t = 11 ∧ ag_C μ 11 ≤ m)) : ag_R (h_new μ n k a b h) t m i = ag_R μ t m i := by
  unfold h_new h_in
  simp only [ag_I_I, ag_I_R, ag_I_N, a_fl_I, ag_R_I, ag_R_R, ag_R_N, a_fl_R, ag_L_I, ag_L_R, ag_L_N, a_fl_L, ag_C_I, ag_C_R, ag_C_N, a_fl_C, Nat.reduceEqDiff, if_false, if_true, false_and, true_and]
  repeat rw [if_neg (by omega)]
theorem hn_L {μ : ab_M} {n k a b h : Int} {t m : Nat} (h2 : t ≠ 4) (h3 : ¬ (t = 11 ∧ ag_C μ 11 ≤ m)) : ag_L (h_new μ n k a b h) t m = ag_L μ t m := by
  unfold h_new h_in
  simp only [ag_I_I, ag_I_R, ag_I_N, a_fl_I, ag_R_I, ag_R_R, ag_R_N, a_fl_R, ag_L_I, ag_L_R, ag_L_N, a_fl_L, ag_C_I, ag_C_R, ag_C_N, a_fl_C, Nat.reduceEqDiff, if_false, if_true, false_and, true_and]
  repeat rw [if_neg (by omega)]
theorem hn_C {μ : ab_M} {n k a b h : Int} {t : Nat} (h2 : t ≠ 4) (h3 : t ≠ 11) : ag_C (h_new μ n k a b h) t = ag_C μ t := by
  unfold h_new h_in
  simp only [ag_I_I, ag_I_R, ag_I_N, a_fl_I, ag_R_I, ag_R_R, ag_R_N, a_fl_R, ag_L_I, ag_L_R, ag_L_N, a_fl_L, ag_C_I, ag_C_R, ag_C_N, a_fl_C, Nat.reduceEqDiff, if_false, if_true, false_and, true_and]
  repeat rw [if_neg (by omega)]
theorem hn_C4 {μ : ab_M} {n k a b h : Int} : ag_C (h_new μ n k a b h) 4 = ag_C μ 4 + 1 := by
  unfold h_new h_in
  simp only [ag_I_I, ag_I_R, ag_I_N, a_fl_I, ag_R_I, ag_R_R, ag_R_N, a_fl_R, ag_L_I, ag_L_R, ag_L_N, a_fl_L, ag_C_I, ag_C_R, ag_C_N, a_fl_C, Nat.reduceEqDiff, if_false, if_true, false_and, true_and]
theorem hn_C11 {μ : ab_M} {n k a b h : Int} : ag_C (h_new μ n k a b h) 11 = ag_C μ 11 + 2 := by
  unfold h_new h_in
  simp only [ag_I_I, ag_I_R, ag_I_N, a_fl_I, ag_R_I, ag_R_R, ag_R_N, a_fl_R, ag_L_I, ag_L_R, ag_L_N, a_fl_L, ag_C_I, ag_C_R, ag_C_N, a_fl_C, Nat.reduceEqDiff, if_false, if_true, false_and, true_and]
theorem hn_c {μ : ab_M} {n k a b h : Int} : ag_c (h_new μ n k a b h) = ag_c μ + 3 ∧ ag_s (h_new μ n k a b h) = ag_s μ + 516 := ⟨rfl, rfl⟩
theorem hn_v {μ : ab_M} {n k a b h : Int} : ag_I (h_new μ n k a b h) 9 0 7 = n + 1 ∧ (ag_I (h_new μ n k a b h) 4 (ag_C μ 4) 0 = k ∧ ag_I (h_new μ n k a b h) 4 (ag_C μ 4) 1 = a ∧ ag_I (h_new μ n k a b h) 4 (ag_C μ 4) 2 = b ∧ ag_I (h_new μ n k a b h) 4 (ag_C μ 4) 3 = h) ∧ (∀ i, i < 8 → ag_I (h_new μ n k a b h) 11 (ag_C μ 11) i = 50) := by
  refine ⟨?_, ⟨?_, ?_, ?_, ?_⟩, fun i hi => ?_⟩ <;> unfold h_new h_in <;> simp [ag_I_I, ag_I_R, ag_I_N, a_fl_I, ag_R_I, ag_R_R, ag_R_N, a_fl_R, ag_L_I, ag_L_R, ag_L_N, a_fl_L, ag_C_I, ag_C_R, ag_C_N, a_fl_C, Nat.reduceEqDiff, if_false, if_true, false_and, true_and]
  exact hi
theorem hn_r {μ : ab_M} {n k a b h : Int} : ag_R (h_new μ n k a b h) 15 0 n.toNat = some (ag_C μ 4) ∧ (ag_R (h_new μ n k a b h) 4 (ag_C μ 4) 4 = some (ag_C μ 11) ∧ ag_R (h_new μ n k a b h) 4 (ag_C μ 4) 5 = some (ag_C μ 11 + 1) ∧ ag_R (h_new μ n k a b h) 4 (ag_C μ 4) 6 = none) ∧ (ag_L (h_new μ n k a b h) 11 (ag_C μ 11) = 8 ∧ ag_L (h_new μ n k a b h) 11 (ag_C μ 11 + 1) = 501) := by
  refine ⟨?_, ⟨?_, ?_, ?_⟩, ?_, ?_⟩ <;> unfold h_new h_in <;> simp [ag_I_I, ag_I_R, ag_I_N, a_fl_I, ag_R_I, ag_R_R, ag_R_N, a_fl_R, ag_L_I, ag_L_R, ag_L_N, a_fl_L, ag_C_I, ag_C_R, ag_C_N, a_fl_C, Nat.reduceEqDiff, if_false, if_true, false_and, true_and]

theorem xs_l_s {t n N : Nat} (h : xs_l t n = some N) : (t = 11 ∧ n < 20) ∨ (14 ≤ t ∧ t ≤ 22) := by
  unfold xs_l at h
  simp only [cond_eq_ite, Nat.beq_eq, Bool.or_eq_true, Nat.blt_eq] at h
  repeat' (split at h)
  all_goals first | omega | simp at h
theorem m_ct_c2 {ν ν' : ab_M} (k : Int) : ∀ n, (∀ j, j < n → ag_I ν' 11 20 (ag_I ν' 11 32 j).toNat = ag_I ν 11 20 (ag_I ν 11 32 j).toNat) → m_ct ν' k n = m_ct ν k n
  | 0, _ => rfl
  | n + 1, h => by
    unfold m_ct
    rw [m_ct_c2 k n (fun j hj => h j (by omega)), h n (by omega)]
theorem m_lf_no {ν : ab_M} {h : Int} : ∀ n, (∀ j, j < n → ¬ (ag_I ν 11 32 j = h ∧ ag_I ν 11 40 j < 0)) → m_lf ν h n = -1
  | 0, _ => rfl
  | n + 1, q => by
    unfold m_lf
    rw [if_neg (q n (by omega))]
    exact m_lf_no n (fun j hj => q j (by omega))
theorem m_pf_no {ν : ab_M} {h : Int} : ∀ n, (∀ j, j < n → ¬ (ag_I ν 11 33 j = h ∧ ag_I ν 11 40 j < 0)) → m_pf ν h n = -1
  | 0, _ => rfl
  | n + 1, q => by
    unfold m_pf
    rw [if_neg (q n (by omega))]
    exact m_pf_no n (fun j hj => q j (by omega))
abbrev m_hn (ν : ab_M) (k a b h : Int) : ab_M := as_I (as_I (as_I (as_I (as_I ν 11 20 (ag_I ν 10 0 1).toNat k) 11 21 (ag_I ν 10 0 1).toNat a) 11 22 (ag_I ν 10 0 1).toNat b) 11 23 (ag_I ν 10 0 1).toNat h) 10 0 1 (ag_I ν 10 0 1 + 1)
theorem mh_I {ν : ab_M} {k a b h : Int} {t m i : Nat} (h1 : ¬ (t = 10 ∧ m = 0 ∧ i = 1)) (h2 : ¬ (t = 11 ∧ 20 ≤ m ∧ m ≤ 23 ∧ i = (ag_I ν 10 0 1).toNat)) : ag_I (m_hn ν k a b h) t m i = ag_I ν t m i := by
  unfold m_hn
  simp only [ag_I_I]
  repeat rw [if_neg (by omega)]
theorem mh_v {ν : ab_M} {k a b h : Int} : ag_I (m_hn ν k a b h) 10 0 1 = ag_I ν 10 0 1 + 1 ∧ ag_I (m_hn ν k a b h) 11 20 (ag_I ν 10 0 1).toNat = k ∧ ag_I (m_hn ν k a b h) 11 21 (ag_I ν 10 0 1).toNat = a ∧ ag_I (m_hn ν k a b h) 11 22 (ag_I ν 10 0 1).toNat = b ∧ ag_I (m_hn ν k a b h) 11 23 (ag_I ν 10 0 1).toNat = h := by
  refine ⟨?_, ?_, ?_, ?_, ?_⟩ <;> unfold m_hn <;> simp [ag_I_I]
abbrev hl2 (hl : Nat → Nat) (n s : Nat) : Nat → Nat := fun x => if x = n then s else hl x
abbrev ow2 (ow : Nat → Nat × Nat) (s : Nat) (w : Nat × Nat) : Nat → Nat × Nat := fun x => if x = s then w else ow x
theorem IX_home {ν μ : ab_M} {hl hw pl tm : Nat → Nat} {ow : Nat → Nat × Nat} {tc : Nat} (hI : IX ν μ hl hw pl tm ow tc) (hZ : WR ν) (hWL : WL ν) (hU : WU ν) (h8 : ag_I ν 10 0 1 < 8) (h50 : ∀ p, p < 8 → ag_I ν 11 28 (8 * (ag_I ν 10 0 1).toNat + p) = 50) (k a b h : Int) : IX (m_hn ν k a b h) (h_new μ (ag_I ν 10 0 1) k a b h) (hl2 hl (ag_I ν 10 0 1).toNat (ag_C μ 11)) (hl2 hw (ag_I ν 10 0 1).toNat (ag_C μ 11 + 1)) pl tm (ow2 (ow2 ow (ag_C μ 11) (0, (ag_I ν 10 0 1).toNat)) (ag_C μ 11 + 1) (1, (ag_I ν 10 0 1).toNat)) tc := by
  obtain ⟨hX, hC, hH, hP, hL, hK, hT, hR, hS⟩ := id hI
  obtain ⟨z1, z6, z26, z0, z14⟩ := id hZ
  obtain ⟨c7, c8, c9, cC4, cC3, cC6, cC11⟩ := id hC
  have g26 : ag_I (m_hn ν k a b h) 10 0 26 = ag_I ν 10 0 26 := mh_I (by omega) (by omega)
  have g6 : ag_I (m_hn ν k a b h) 10 0 6 = ag_I ν 10 0 6 := mh_I (by omega) (by omega)
  have g32 : ∀ j, ag_I (m_hn ν k a b h) 11 32 j = ag_I ν 11 32 j := fun j => mh_I (by omega) (by omega)
  have g33 : ∀ j, ag_I (m_hn ν k a b h) 11 33 j = ag_I ν 11 33 j := fun j => mh_I (by omega) (by omega)
  have g40 : ∀ j, ag_I (m_hn ν k a b h) 11 40 j = ag_I ν 11 40 j := fun j => mh_I (by omega) (by omega)
  have gk : ∀ j : Nat, (j : Int) < ag_I ν 10 0 26 → ag_I (m_hn ν k a b h) 11 20 (ag_I (m_hn ν k a b h) 11 32 j).toNat = ag_I ν 11 20 (ag_I ν 11 32 j).toNat := by
    intro j hj
    rw [g32]
    have := hU.1 j hj
    have := hWL j hj
    exact mh_I (by omega) (by omega)
  have em : ∀ x : Int, m_l (m_hn ν k a b h) x = m_l ν x := by
    intro x
    show m_lf _ _ _ = m_lf _ _ _
    rw [g26]
    exact m_lf_c g32 g40 x _
  refine ⟨?_, ?_, ?_, ?_, ?_, ?_, ?_, ?_, ?_⟩
  · refine XF_B (fun t n b q => hn_R ?_ ?_ ?_) (fun t n N q => hn_L ?_ ?_) (fun k hk => hn_L (by omega) (by omega)) hX
    · unfold fxr at q; omega
    · unfold fxr at q; omega
    · unfold fxr at q; omega
    · have := xs_l_s q; omega
    · have := xs_l_s q; omega
  · refine ⟨hn_v.1.trans mh_v.1.symm, ?_, ?_, ?_, ?_, ?_, ?_⟩
    · rw [hn_I (by omega) (by omega) (by omega), g6]; exact c8
    · rw [hn_I (by omega) (by omega) (by omega), mh_I (by omega) (by omega)]; exact c9
    · rw [hn_C4, mh_v.1]; omega
    · rw [hn_C (by omega) (by omega), g6]; exact cC3
    · rw [hn_C (by omega) (by omega), g26]; exact cC6
    · rw [hn_C11]; omega
  · intro m hm
    rw [mh_v.1] at hm
    rw [em]
    by_cases e : m = (ag_I ν 10 0 1).toNat
    · subst e
      have v := @hn_v μ (ag_I ν 10 0 1) k a b h
      have r := @hn_r μ (ag_I ν 10 0 1) k a b h
      have u := @mh_v ν k a b h
      rw [cC4] at v r
      have el : m_l ν ((ag_I ν 10 0 1).toNat : Int) = -1 := m_lf_no _ (fun j hj q => by have := hU.1 j (by omega); omega)
      refine ⟨r.1, ⟨v.2.1.1.trans u.2.1.symm, v.2.1.2.1.trans u.2.2.1.symm, v.2.1.2.2.1.trans u.2.2.2.1.symm, v.2.1.2.2.2.trans u.2.2.2.2.symm⟩, ⟨?_, ?_, ?_⟩, ⟨?_, ?_⟩, ?_, ⟨?_, ?_⟩, fun p hp => ?_, fun q => ?_⟩
      · rw [r.2.1.1, hl2, if_pos rfl]
      · rw [r.2.1.2.1, hl2, if_pos rfl]
      · rw [r.2.1.2.2, el]; rfl
      · rw [hl2, if_pos rfl]; exact r.2.2.1
      · rw [hl2, if_pos rfl]; exact r.2.2.2
      · rw [hl2, if_pos rfl, hl2, if_pos rfl, hn_C11]; omega
      · rw [hl2, if_pos rfl, ow2, if_neg (by omega), ow2, if_pos rfl]
      · rw [hl2, if_pos rfl, ow2, if_pos rfl]
      · rw [hl2, if_pos rfl, v.2.2 p hp, mh_I (by omega) (by omega), h50 p hp]
      · rw [el] at q; omega
    · have hm2 : (m : Int) < ag_I ν 10 0 1 := by omega
      obtain ⟨e15, ⟨e40, e41, e42, e43⟩, ⟨e44, e45, e46⟩, ⟨hL8, hL501⟩, hrng, ⟨how1, how2⟩, hlk, hwk⟩ := hH m hm2
      refine ⟨?_, ⟨?_, ?_, ?_, ?_⟩, ⟨?_, ?_, ?_⟩, ⟨?_, ?_⟩, ?_, ⟨?_, ?_⟩, fun p hp => ?_, fun q w hw2 => ?_⟩
      · rw [hn_R (by omega) (by omega) (by omega)]; exact e15
      · rw [hn_I (by omega) (by omega) (by omega), mh_I (by omega) (by omega)]; exact e40
      · rw [hn_I (by omega) (by omega) (by omega), mh_I (by omega) (by omega)]; exact e41
      · rw [hn_I (by omega) (by omega) (by omega), mh_I (by omega) (by omega)]; exact e42
      · rw [hn_I (by omega) (by omega) (by omega), mh_I (by omega) (by omega)]; exact e43
      · rw [hn_R (by omega) (by omega) (by omega), hl2, if_neg e]; exact e44
      · rw [hn_R (by omega) (by omega) (by omega), hl2, if_neg e]; exact e45
      · rw [hn_R (by omega) (by omega) (by omega)]; exact e46
      · rw [hl2, if_neg e, hn_L (by omega) (by omega)]; exact hL8
      · rw [hl2, if_neg e, hn_L (by omega) (by omega)]; exact hL501
      · rw [hl2, if_neg e, hl2, if_neg e, hn_C11]; omega
      · rw [hl2, if_neg e, ow2, if_neg (by omega), ow2, if_neg (by omega)]; exact how1
      · rw [hl2, if_neg e, ow2, if_neg (by omega), ow2, if_neg (by omega)]; exact how2
      · rw [hl2, if_neg e, hn_I (by omega) (by omega) (by omega), mh_I (by omega) (by omega)]; exact hlk p hp
      · rw [hl2, if_neg e, hn_I (by omega) (by omega) (by omega), hwk q w hw2]
        unfold m_ju
        rw [mh_I (by omega) (by omega), mh_I (by omega) (by omega), mh_I (by omega) (by omega), mh_I (by omega) (by omega)]
  · intro m hm
    rw [g6] at hm
    obtain ⟨p14, ⟨p30, p31, p32, p34⟩, ⟨p33, p35⟩, pL8, prng, pow, plk⟩ := hP m hm
    refine ⟨?_, ⟨?_, ?_, ?_, ?_⟩, ⟨?_, ?_⟩, ?_, ?_, ?_, fun p hp => ?_⟩
    · rw [hn_R (by omega) (by omega) (by omega)]; exact p14
    · rw [hn_I (by omega) (by omega) (by omega), mh_I (by omega) (by omega)]; exact p30
    · rw [hn_I (by omega) (by omega) (by omega), mh_I (by omega) (by omega)]; exact p31
    · rw [hn_I (by omega) (by omega) (by omega), mh_I (by omega) (by omega)]; exact p32
    · rw [hn_I (by omega) (by omega) (by omega), mh_I (by omega) (by omega)]; exact p34
    · rw [hn_R (by omega) (by omega) (by omega)]; exact p33
    · rw [hn_R (by omega) (by omega) (by omega), g26, m_pf_c g33 g40]; exact p35
    · rw [hn_L (by omega) (by omega)]; exact pL8
    · rw [hn_C11]; omega
    · rw [ow2, if_neg (by omega), ow2, if_neg (by omega)]; exact pow
    · rw [hn_I (by omega) (by omega) (by omega), mh_I (by omega) (by omega)]; exact plk p hp
  · intro j hj
    rw [g26] at hj
    obtain ⟨⟨j0, j1, j3, j4⟩, ⟨j2, jt⟩, jr, j17⟩ := hL j hj
    refine ⟨⟨?_, ?_, ?_, ?_⟩, ⟨?_, ?_⟩, fun b hb => ?_, ?_⟩
    · rw [hn_I (by omega) (by omega) (by omega), mh_I (by omega) (by omega)]; exact j0
    · rw [hn_I (by omega) (by omega) (by omega), mh_I (by omega) (by omega)]; exact j1
    · rw [hn_I (by omega) (by omega) (by omega), mh_I (by omega) (by omega)]; exact j3
    · rw [hn_I (by omega) (by omega) (by omega), mh_I (by omega) (by omega)]; exact j4
    · rw [hn_R (by omega) (by omega) (by omega)]; exact j2
    · rw [hn_C (by omega) (by omega)]; exact jt
    · rw [hn_I (by omega) (by omega) (by omega), mh_I (by omega) (by omega)]; exact jr b hb
    · rw [hn_R (by omega) (by omega) (by omega), gk j hj, m_ct_c2 _ _ (fun i hi => gk i (by omega))]; exact j17
  · intro q hq
    rw [hn_I (by omega) (by omega) (by omega), g26, m_ct_c2 _ _ (fun i hi => gk i (by omega))]; exact hK q hq
  · refine XT_A (fun t n q w => ?_) (XT_B (hn_I (by omega) (by omega) (by omega)) (fun i => hn_I (by omega) (by omega) (by omega)) hT)
    unfold rT at w; exact mh_I (by omega) (by omega)
  · refine XR_A (fun t n q w => ?_) (XR_B ⟨hn_I (by omega) (by omega) (by omega), hn_I (by omega) (by omega) (by omega)⟩ (hn_R (by omega) (by omega) (by omega)) (fun n q w => hn_I (by omega) (by omega) (by omega)) (by rw [hn_C (by omega) (by omega)]; omega) hR)
    unfold rR at w; exact mh_I (by omega) (by omega)
  · exact XS_B (fun _ _ _ _ => hn_I (by omega) (by omega) (by omega)) hS
theorem MK_home {μ : ab_M} {n k a b h : Int} (h11 : 46 ≤ ag_C μ 11) : MK μ (h_new μ n k a b h) := ⟨fun t m i q => hn_I (by unfold mrel at q; omega) (by unfold mrel at q; omega) (by unfold mrel at q; omega), fun m i => hn_R (by omega) (by omega) (by omega), fun t m q => hn_L (by unfold mrel at q; omega) (by unfold mrel at q; omega)⟩
