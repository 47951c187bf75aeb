/-! ===== the class: live: the relation ===== -/
theorem m_lf_c2 {ν ν' : ab_M} (h : Int) : ∀ n, (∀ j, j < n → ag_I ν' 11 32 j = ag_I ν 11 32 j ∧ ag_I ν' 11 40 j = ag_I ν 11 40 j) → m_lf ν' h n = m_lf ν h n
  | 0, _ => rfl
  | n + 1, q => by unfold m_lf; rw [m_lf_c2 h n (fun j hj => q j (by omega)), (q n (by omega)).1, (q n (by omega)).2]
theorem m_pf_c2 {ν ν' : ab_M} (h : Int) : ∀ n, (∀ j, j < n → ag_I ν' 11 33 j = ag_I ν 11 33 j ∧ ag_I ν' 11 40 j = ag_I ν 11 40 j) → m_pf ν' h n = m_pf ν h n
  | 0, _ => rfl
  | n + 1, q => by unfold m_pf; rw [m_pf_c2 h n (fun j hj => q j (by omega)), (q n (by omega)).1, (q n (by omega)).2]
theorem xl_I {μ : ab_M} {h p k : Nat} {ct w : Int} {t s : Nat} {t' m i : Nat} (h1 : ¬ (t' = 6 ∧ m = ag_C μ 6)) (h2 : ¬ (t' = 5 ∧ m = k ∧ i = 1)) (h3 : ¬ (t' = 11 ∧ m = s)) : ag_I (x_li μ h p k ct w t s) t' m i = ag_I μ t' m i := by
  unfold x_li r_in
  simp only [ag_I_I, ag_I_R, ag_I_N, a_fl_I, ag_R_I, ag_R_R, ag_R_N, a_fl_R, ag_L_I, ag_L_R, ag_L_N, a_fl_L, ag_C_I, ag_C_R, ag_C_N, a_fl_C, Nat.reduceEqDiff, if_false, if_true, false_and, true_and]
  repeat rw [if_neg (by omega)]
theorem xl_R {μ : ab_M} {h p k : Nat} {ct w : Int} {t s : Nat} {t' m i : Nat} (h1 : ¬ (t' = 6 ∧ m = ag_C μ 6)) (h2 : ¬ (t' = 17 ∧ m = k ∧ i = ct.toNat)) (h3 : ¬ (t' = 4 ∧ m = h ∧ i = 6)) (h4 : ¬ (t' = 3 ∧ m = p ∧ i = 5)) : ag_R (x_li μ h p k ct w t s) t' m i = ag_R μ t' m i := by
  unfold x_li r_in
  simp only [ag_I_I, ag_I_R, ag_I_N, a_fl_I, ag_R_I, ag_R_R, ag_R_N, a_fl_R, ag_L_I, ag_L_R, ag_L_N, a_fl_L, ag_C_I, ag_C_R, ag_C_N, a_fl_C, Nat.reduceEqDiff, if_false, if_true, false_and, true_and]
  repeat rw [if_neg (by omega)]
theorem xl_L {μ : ab_M} {h p k : Nat} {ct w : Int} {t s : Nat} {t' m : Nat} (h1 : t' ≠ 6) : ag_L (x_li μ h p k ct w t s) t' m = ag_L μ t' m := by
  unfold x_li r_in
  simp only [ag_I_I, ag_I_R, ag_I_N, a_fl_I, ag_R_I, ag_R_R, ag_R_N, a_fl_R, ag_L_I, ag_L_R, ag_L_N, a_fl_L, ag_C_I, ag_C_R, ag_C_N, a_fl_C, Nat.reduceEqDiff, if_false, if_true, false_and, true_and]
  repeat rw [if_neg (by omega)]
theorem xl_C {μ : ab_M} {h p k : Nat} {ct w : Int} {t s : Nat} {t' : Nat} (h1 : t' ≠ 6) : ag_C (x_li μ h p k ct w t s) t' = ag_C μ t' := by
  unfold x_li r_in
  simp only [ag_I_I, ag_I_R, ag_I_N, a_fl_I, ag_R_I, ag_R_R, ag_R_N, a_fl_R, ag_L_I, ag_L_R, ag_L_N, a_fl_L, ag_C_I, ag_C_R, ag_C_N, a_fl_C, Nat.reduceEqDiff, if_false, if_true, false_and, true_and]
  repeat rw [if_neg (by omega)]
theorem xl_C6 {μ : ab_M} {h p k : Nat} {ct w : Int} {t s : Nat} : ag_C (x_li μ h p k ct w t s) 6 = ag_C μ 6 + 1 := by
  unfold x_li r_in
  simp only [ag_I_I, ag_I_R, ag_I_N, a_fl_I, ag_R_I, ag_R_R, ag_R_N, a_fl_R, ag_L_I, ag_L_R, ag_L_N, a_fl_L, ag_C_I, ag_C_R, ag_C_N, a_fl_C, Nat.reduceEqDiff, if_false, if_true, false_and, true_and]
theorem xl_c {μ : ab_M} {h p k : Nat} {ct w : Int} {t s : Nat} : ag_c (x_li μ h p k ct w t s) = ag_c μ + 1 ∧ ag_s (x_li μ h p k ct w t s) = ag_s μ + 5 := ⟨rfl, rfl⟩
theorem xl_v {μ : ab_M} {h p k : Nat} {ct w : Int} {t s : Nat} : (ag_I (x_li μ h p k ct w t s) 6 (ag_C μ 6) 0 = p ∧ ag_I (x_li μ h p k ct w t s) 6 (ag_C μ 6) 1 = w ∧ ag_I (x_li μ h p k ct w t s) 6 (ag_C μ 6) 3 = -1 ∧ ag_I (x_li μ h p k ct w t s) 6 (ag_C μ 6) 4 = 0) ∧ ag_I (x_li μ h p k ct w t s) 5 k 1 = ct + 1 ∧ (∀ i, i < 501 → ag_I (x_li μ h p k ct w t s) 11 s i = 2) := by
  refine ⟨⟨?_, ?_, ?_, ?_⟩, ?_, fun i hi => ?_⟩ <;> unfold x_li r_in <;> simp [ag_I_I, ag_I_R, ag_I_N, a_fl_I, ag_R_I, ag_R_R, ag_R_N, a_fl_R, ag_L_I, ag_L_R, ag_L_N, a_fl_L, ag_C_I, ag_C_R, ag_C_N, a_fl_C, Nat.reduceEqDiff, if_false, if_true, false_and, true_and]
  intro q; omega
theorem xl_r {μ : ab_M} {h p k : Nat} {ct w : Int} {t s : Nat} : ag_R (x_li μ h p k ct w t s) 6 (ag_C μ 6) 2 = some t ∧ ag_R (x_li μ h p k ct w t s) 17 k ct.toNat = some (ag_C μ 6) ∧ ag_R (x_li μ h p k ct w t s) 4 h 6 = some (ag_C μ 6) ∧ ag_R (x_li μ h p k ct w t s) 3 p 5 = some (ag_C μ 6) := by
  refine ⟨?_, ?_, ?_, ?_⟩ <;> unfold x_li r_in <;> simp [ag_I_I, ag_I_R, ag_I_N, a_fl_I, ag_R_I, ag_R_R, ag_R_N, a_fl_R, ag_L_I, ag_L_R, ag_L_N, a_fl_L, ag_C_I, ag_C_R, ag_C_N, a_fl_C, Nat.reduceEqDiff, if_false, if_true, false_and, true_and]
theorem m_rs_I {ν : ab_M} {h n : Int} {t m i : Nat} : ag_I (m_rs ν h n) t m i = if t = 11 ∧ (m = 41 ∨ m = 42) ∧ 501 * h ≤ (i : Int) ∧ (i : Int) < 501 * h + n then -1 else ag_I ν t m i := rfl
abbrev m_lr (ν : ab_M) (h p : Int) : ab_M := m_rs (m_li ν h p) h 501
theorem ml_I {ν : ab_M} {h p : Int} {t m i : Nat} (h1 : ¬ (t = 10 ∧ m = 0 ∧ i = 26)) (h2 : ¬ (t = 11 ∧ 32 ≤ m ∧ m ≤ 40 ∧ i = (ag_I ν 10 0 26).toNat)) (h3 : ¬ (t = 11 ∧ (m = 41 ∨ m = 42) ∧ 501 * h ≤ (i : Int) ∧ (i : Int) < 501 * h + 501)) : ag_I (m_lr ν h p) t m i = ag_I ν t m i := by
  unfold m_lr
  rw [m_rs_I, if_neg (by omega)]
  unfold m_li
  simp only [ag_I_I]
  repeat rw [if_neg (by omega)]
theorem ml_v {ν : ab_M} {h p : Int} : ag_I (m_lr ν h p) 10 0 26 = ag_I ν 10 0 26 + 1 ∧ (ag_I (m_lr ν h p) 11 32 (ag_I ν 10 0 26).toNat = h ∧ ag_I (m_lr ν h p) 11 33 (ag_I ν 10 0 26).toNat = p ∧ ag_I (m_lr ν h p) 11 34 (ag_I ν 10 0 26).toNat = ag_I ν 10 0 0 ∧ ag_I (m_lr ν h p) 11 39 (ag_I ν 10 0 26).toNat = -1 ∧ ag_I (m_lr ν h p) 11 40 (ag_I ν 10 0 26).toNat = -1) ∧ (∀ b, b < 4 → ag_I (m_lr ν h p) 11 (35 + b) (ag_I ν 10 0 26).toNat = ag_I ν 11 31 b) ∧ (∀ m i : Nat, m = 41 ∨ m = 42 → 501 * h ≤ (i : Int) ∧ (i : Int) < 501 * h + 501 → ag_I (m_lr ν h p) 11 m i = -1) := by
  refine ⟨?_, ⟨?_, ?_, ?_, ?_, ?_⟩, fun b hb => ?_, fun m i hm hi => ?_⟩
  · unfold m_lr; rw [m_rs_I, if_neg (by omega)]; unfold m_li; simp [ag_I_I]
  · unfold m_lr; rw [m_rs_I, if_neg (by omega)]; unfold m_li; simp [ag_I_I]
  · unfold m_lr; rw [m_rs_I, if_neg (by omega)]; unfold m_li; simp [ag_I_I]
  · unfold m_lr; rw [m_rs_I, if_neg (by omega)]; unfold m_li; simp [ag_I_I]
  · unfold m_lr; rw [m_rs_I, if_neg (by omega)]; unfold m_li; simp [ag_I_I]
  · unfold m_lr; rw [m_rs_I, if_neg (by omega)]; unfold m_li; simp [ag_I_I]
  · unfold m_lr; rw [m_rs_I, if_neg (by omega)]; unfold m_li
    have : b = 0 ∨ b = 1 ∨ b = 2 ∨ b = 3 := by omega
    rcases this with rfl | rfl | rfl | rfl <;> simp [ag_I_I]
  · unfold m_lr; rw [m_rs_I, if_pos ⟨rfl, hm, hi⟩]
theorem IX_live {ν μ : ab_M} {hl hw pl tm : Nat → Nat} {ow : Nat → Nat × Nat} {tc : Nat} (hI : IX ν μ hl hw pl tm ow tc) (hZ : WR ν) (hU : WU ν) (h p : Int) (hh : 0 ≤ h ∧ h < ag_I ν 10 0 1) (hp : 0 ≤ p ∧ p < ag_I ν 10 0 6) : IX (m_lr ν h p) (x_li μ h.toNat p.toNat (ag_I ν 11 20 h.toNat).toNat (m_ct ν (ag_I ν 11 20 h.toNat) (ag_I ν 10 0 26).toNat) (ag_I ν 10 0 0) tc (hw h.toNat)) hl hw pl (hl2 tm (ag_I ν 10 0 26).toNat tc) ow tc := by
  obtain ⟨hX, hC, hH, hP, hL, hK, hT, hR, hS⟩ := id hI
  obtain ⟨z1, z6, z26, z0, z14⟩ := id hZ
  obtain ⟨c7, c8, c9, cC4, cC3, cC6, cC11⟩ := id hC
  have u := @ml_v ν h p
  have v := @xl_v μ h.toNat p.toNat (ag_I ν 11 20 h.toNat).toNat (m_ct ν (ag_I ν 11 20 h.toNat) (ag_I ν 10 0 26).toNat) (ag_I ν 10 0 0) tc (hw h.toNat)
  have r := @xl_r μ h.toNat p.toNat (ag_I ν 11 20 h.toNat).toNat (m_ct ν (ag_I ν 11 20 h.toNat) (ag_I ν 10 0 26).toNat) (ag_I ν 10 0 0) tc (hw h.toNat)
  rw [cC6] at v r
  have g1 : ag_I (m_lr ν h p) 10 0 1 = ag_I ν 10 0 1 := ml_I (by omega) (by omega) (by omega)
  have g6 : ag_I (m_lr ν h p) 10 0 6 = ag_I ν 10 0 6 := ml_I (by omega) (by omega) (by omega)
  have g20 : ∀ j, ag_I (m_lr ν h p) 11 20 j = ag_I ν 11 20 j := fun j => ml_I (by omega) (by omega) (by omega)
  have gj : ∀ b j : Nat, 32 ≤ b ∧ b ≤ 40 → j < (ag_I ν 10 0 26).toNat → ag_I (m_lr ν h p) 11 b j = ag_I ν 11 b j := fun b j hb hj => ml_I (by omega) (by omega) (by omega)
  have gct : ∀ k (n : Nat), n ≤ (ag_I ν 10 0 26).toNat → m_ct (m_lr ν h p) k n = m_ct ν k n := fun k n hn => m_ct_c2 k n (fun j hj => by rw [gj 32 j (by omega) (by omega), g20])
  have tL : (ag_I ν 10 0 26 + 1).toNat = (ag_I ν 10 0 26).toNat + 1 := by omega
  have hk3 := hU.2.2 h.toNat (by omega)
  have ex : ∀ x, x < 501 → ∀ m : Nat, (m : Int) < ag_I ν 10 0 1 → hl m = hw h.toNat → False := by
    intro x _ m hm q
    have a := (hH m hm).2.2.2.2.2.1.1
    have b := (hH h.toNat (by omega)).2.2.2.2.2.1.2
    rw [q] at a
    exact absurd (Prod.mk.inj (a.symm.trans b)).1 (by omega)
  have ew : ∀ m : Nat, (m : Int) < ag_I ν 10 0 1 → hw m = hw h.toNat → m = h.toNat := by
    intro m hm q
    have a := (hH m hm).2.2.2.2.2.1.2
    have b := (hH h.toNat (by omega)).2.2.2.2.2.1.2
    rw [q] at a
    exact (Prod.mk.inj (a.symm.trans b)).2
  have ep : ∀ m : Nat, (m : Int) < ag_I ν 10 0 6 → pl m = hw h.toNat → False := by
    intro m hm q
    have a := (hP m hm).2.2.2.2.2.1
    have b := (hH h.toNat (by omega)).2.2.2.2.2.1.2
    rw [q] at a
    exact absurd (Prod.mk.inj (a.symm.trans b)).1 (by omega)
  have ehr := (hH h.toNat (by omega)).2.2.2.2.1.2.1
  refine ⟨?_, ?_, ?_, ?_, ?_, ?_, ?_, ?_, ?_⟩
  · refine XF_B (fun t n b q => xl_R ?_ ?_ ?_ ?_) (fun t n N q => xl_L ?_) (fun k hk => xl_L (by omega)) hX
    · unfold fxr at q; omega
    · unfold fxr at q; omega
    · unfold fxr at q; omega
    · unfold fxr at q; omega
    · have := xs_l_s q; omega
  · refine ⟨?_, ?_, ?_, ?_, ?_, ?_, ?_⟩
    · rw [xl_I (by omega) (by omega) (by omega), g1]; exact c7
    · rw [xl_I (by omega) (by omega) (by omega), g6]; exact c8
    · rw [xl_I (by omega) (by omega) (by omega), ml_I (by omega) (by omega) (by omega)]; exact c9
    · rw [xl_C (by omega), g1]; exact cC4
    · rw [xl_C (by omega), g6]; exact cC3
    · rw [xl_C6, u.1]; omega
    · rw [xl_C (by omega)]; exact cC11
  · intro m hm
    rw [g1] at hm
    obtain ⟨e15, ⟨e40, e41, e42, e43⟩, ⟨e44, e45, e46⟩, ⟨hL8, hL501⟩, hrng, ⟨how1, how2⟩, hlk, hwk⟩ := hH m hm
    have em : m_l (m_lr ν h p) m = if (m : Int) = h then ag_I ν 10 0 26 else m_l ν m := by
      show m_lf _ _ _ = _
      rw [u.1, tL]
      show (if _ ∧ _ then (((ag_I ν 10 0 26).toNat : Nat) : Int) else m_lf _ _ _) = _
      rw [m_lf_c2 (ν := ν) (m : Int) _ (fun j hj => ⟨gj 32 j (by omega) hj, gj 40 j (by omega) hj⟩), u.2.1.1, u.2.1.2.2.2.2]
      by_cases e : (m : Int) = h
      · rw [if_pos e, if_pos ⟨e.symm, by omega⟩]; omega
      · rw [if_neg e, if_neg (by omega)]
    refine ⟨?_, ⟨?_, ?_, ?_, ?_⟩, ⟨?_, ?_, ?_⟩, ⟨?_, ?_⟩, ?_, ⟨how1, how2⟩, fun q hq => ?_, fun q w hw2 => ?_⟩
    · rw [xl_R (by omega) (by omega) (by omega) (by omega)]; exact e15
    · rw [xl_I (by omega) (by omega) (by omega), g20]; exact e40
    · rw [xl_I (by omega) (by omega) (by omega), ml_I (by omega) (by omega) (by omega)]; exact e41
    · rw [xl_I (by omega) (by omega) (by omega), ml_I (by omega) (by omega) (by omega)]; exact e42
    · rw [xl_I (by omega) (by omega) (by omega), ml_I (by omega) (by omega) (by omega)]; exact e43
    · rw [xl_R (by omega) (by omega) (by omega) (by omega)]; exact e44
    · rw [xl_R (by omega) (by omega) (by omega) (by omega)]; exact e45
    · rw [em]
      by_cases e : (m : Int) = h
      · have e2 : m = h.toNat := by omega
        rw [if_pos e, e2, r.2.2.1, opS z26.1]
      · rw [if_neg e, xl_R (by omega) (by omega) (by omega) (by omega)]; exact e46
    · rw [xl_L (by omega)]; exact hL8
    · rw [xl_L (by omega)]; exact hL501
    · rw [xl_C (by omega)]; exact hrng
    · rw [xl_I (by omega) (by omega) (fun w => ex 0 (by omega) m hm w.2), ml_I (by omega) (by omega) (by omega)]; exact hlk q hq
    · rw [em] at q ⊢
      by_cases e : (m : Int) = h
      · have e2 : m = h.toNat := by omega
        rw [if_pos e] at q ⊢
        rw [e2, v.2.2 w hw2]
        unfold m_ju
        rw [u.2.2.2 41 (501 * ((h.toNat : Nat) : Int) + (w : Int)).toNat (Or.inl rfl) (by omega), u.2.2.2 42 (501 * ((h.toNat : Nat) : Int) + (w : Int)).toNat (Or.inr rfl) (by omega)]
        unfold m_jv
        rw [if_neg (by omega), if_neg (by omega)]
      · rw [if_neg e] at q ⊢
        have hq : (m_l ν (m : Int)).toNat < (ag_I ν 10 0 26).toNat := by
          have hr := m_lf_rng ν m (ag_I ν 10 0 26).toNat
          have q' : 0 ≤ m_lf ν m (ag_I ν 10 0 26).toNat := q
          show (m_lf ν (m : Int) (ag_I ν 10 0 26).toNat).toNat < _
          omega
        rw [xl_I (by omega) (by omega) (fun w => e (by have := ew m hm w.2; omega)), hwk q w hw2]
        unfold m_ju
        rw [ml_I (by omega) (by omega) (by omega), ml_I (by omega) (by omega) (by omega), gj 35 _ (by omega) hq, gj 36 _ (by omega) hq]
  · intro m hm
    rw [g6] at hm
    obtain ⟨p14, ⟨p30, p31, p32, p34⟩, ⟨p33, p35⟩, pL8, prng, pow, plk⟩ := hP m hm
    have em : m_pf (m_lr ν h p) m (ag_I (m_lr ν h p) 10 0 26).toNat = if (m : Int) = p then ag_I ν 10 0 26 else m_pf ν m (ag_I ν 10 0 26).toNat := by
      rw [u.1, tL]
      show (if _ ∧ _ then (((ag_I ν 10 0 26).toNat : Nat) : Int) else m_pf _ _ _) = _
      rw [m_pf_c2 (ν := ν) (m : Int) _ (fun j hj => ⟨gj 33 j (by omega) hj, gj 40 j (by omega) hj⟩), u.2.1.2.1, u.2.1.2.2.2.2]
      by_cases e : (m : Int) = p
      · rw [if_pos e, if_pos ⟨e.symm, by omega⟩]; omega
      · rw [if_neg e, if_neg (by omega)]
    refine ⟨?_, ⟨?_, ?_, ?_, ?_⟩, ⟨?_, ?_⟩, ?_, ?_, pow, fun q hq => ?_⟩
    · rw [xl_R (by omega) (by omega) (by omega) (by omega)]; exact p14
    · rw [xl_I (by omega) (by omega) (by omega), ml_I (by omega) (by omega) (by omega)]; exact p30
    · rw [xl_I (by omega) (by omega) (by omega), ml_I (by omega) (by omega) (by omega)]; exact p31
    · rw [xl_I (by omega) (by omega) (by omega), ml_I (by omega) (by omega) (by omega)]; exact p32
    · rw [xl_I (by omega) (by omega) (by omega), ml_I (by omega) (by omega) (by omega)]; exact p34
    · rw [xl_R (by omega) (by omega) (by omega) (by omega)]; exact p33
    · rw [em]
      by_cases e : (m : Int) = p
      · have e2 : m = p.toNat := by omega
        rw [if_pos e, e2, r.2.2.2, opS z26.1]
      · rw [if_neg e, xl_R (by omega) (by omega) (by omega) (by omega)]; exact p35
    · rw [xl_L (by omega)]; exact pL8
    · rw [xl_C (by omega)]; exact prng
    · rw [xl_I (by omega) (by omega) (fun w => ep m hm w.2), ml_I (by omega) (by omega) (by omega)]; exact plk q hq
  · intro j hj
    rw [u.1] at hj
    by_cases e : j = (ag_I ν 10 0 26).toNat
    · subst e
      refine ⟨⟨?_, ?_, ?_, ?_⟩, ⟨?_, ?_⟩, fun b hb => ?_, ?_⟩
      · rw [v.1.1, u.2.1.2.1]; omega
      · rw [v.1.2.1, u.2.1.2.2.1]
      · rw [v.1.2.2.1, u.2.1.2.2.2.1]
      · rw [v.1.2.2.2, u.2.1.2.2.2.2]; rfl
      · rw [r.1, hl2, if_pos rfl]
      · rw [xl_C (by omega), hl2, if_pos rfl]; exact hR.2.1.2
      · rw [hl2, if_pos rfl, xl_I (by omega) (by omega) (by omega), u.2.2.1 b hb]; exact hR.2.2 b hb
      · rw [u.2.1.1, g20, gct _ _ (Nat.le_refl _)]; exact r.2.1
    · obtain ⟨⟨j0, j1, j3, j4⟩, ⟨j2, jt⟩, jr, j17⟩ := hL j (by omega)
      refine ⟨⟨?_, ?_, ?_, ?_⟩, ⟨?_, ?_⟩, fun b hb => ?_, ?_⟩
      · rw [xl_I (by omega) (by omega) (by omega), gj 33 j (by omega) (by omega)]; exact j0
      · rw [xl_I (by omega) (by omega) (by omega), gj 34 j (by omega) (by omega)]; exact j1
      · rw [xl_I (by omega) (by omega) (by omega), gj 39 j (by omega) (by omega)]; exact j3
      · rw [xl_I (by omega) (by omega) (by omega), gj 40 j (by omega) (by omega)]; exact j4
      · rw [xl_R (by omega) (by omega) (by omega) (by omega), hl2, if_neg e]; exact j2
      · rw [xl_C (by omega), hl2, if_neg e]; exact jt
      · rw [hl2, if_neg e, xl_I (by omega) (by omega) (by omega), gj (35 + b) j (by omega) (by omega)]; exact jr b hb
      · rw [gj 32 j (by omega) (by omega), g20, gct _ _ (by omega), xl_R (by omega) (fun w => ?_) (by omega) (by omega)]
        · exact j17
        · have hk4 := hU.2.2 (ag_I ν 11 32 j).toNat (by have := hU.1 j (by omega); omega)
          have e3 : ag_I ν 11 20 (ag_I ν 11 32 j).toNat = ag_I ν 11 20 h.toNat := by omega
          have h4 := m_ct_lt (ν := ν) (j := j) (n := (ag_I ν 10 0 26).toNat) (by omega) e3
          have h5 := m_ct_rng ν (ag_I ν 11 20 h.toNat) j
          rw [e3] at w
          omega
  · intro k hk
    rw [u.1, tL]
    show _ = m_ct _ _ _ + (if _ then (1 : Int) else 0)
    rw [gct _ _ (Nat.le_refl _), u.2.1.1, g20]
    by_cases e : ag_I ν 11 20 h.toNat = (k : Int)
    · rw [if_pos e]
      have e2 : k = (ag_I ν 11 20 h.toNat).toNat := by omega
      have v5 := v.2.1
      rw [← e2] at v5
      rw [e] at v5 ⊢
      exact v5
    · rw [if_neg e, xl_I (by omega) (by omega) (by omega), Int.add_zero]; exact hK k hk
  · refine XT_A (ν := ν) (fun t n q w => ?_) (XT_B (xl_I (by omega) (by omega) (by omega)) (fun i => xl_I (by omega) (by omega) (by omega)) hT)
    unfold rT at w; exact ml_I (by omega) (by omega) (by omega)
  · refine XR_A (ν := ν) (fun t n q w => ?_) (XR_B ⟨xl_I (by omega) (by omega) (by omega), xl_I (by omega) (by omega) (by omega)⟩ (xl_R (by omega) (by omega) (by omega) (by omega)) (fun n q w => xl_I (by omega) (by omega) (by omega)) (by rw [xl_C (by omega)]; omega) hR)
    unfold rR at w; exact ml_I (by omega) (by omega) (by omega)
  · exact XS_B (fun _ _ _ _ => xl_I (by omega) (by omega) (by omega)) hS
theorem MK_live {μ : ab_M} {h p k : Nat} {ct w : Int} {t s : Nat} (hs : 46 ≤ s) : MK μ (x_li μ h p k ct w t s) := ⟨fun t m i q => xl_I (by unfold mrel at q; omega) (by unfold mrel at q; omega) (by unfold mrel at q; omega), fun m i => xl_R (by omega) (by omega) (by omega) (by omega), fun t m q => xl_L (by unfold mrel at q; omega)⟩
