/-! ===== the class: agreement ===== -/
def x_tm (μ : ab_M) (c : Nat) (a b e f : Int) : ab_M := as_I (as_I (as_I (as_I μ 8 c 0 a) 8 c 1 b) 8 c 2 e) 8 c 3 f
def x_ag (μ : ab_M) (R : Nat → Int) : ab_M := as_R (x_tm (as_N (as_I μ 7 0 1 0) 8 0 (ab_nf 8)) (ag_C μ 8) (R 0) (R 1) (R 2) (R 3)) 9 0 6 (some (ag_C μ 8))
/-- what the reference's agreement does to what both look at -/
def AGR (ν ν' : ab_M) (P : Int × Int × Int × (Nat → Int)) : Prop := (∀ t n k, mrel t n → ¬ scQ t n k → ag_I ν' t n k = ag_I ν t n k) ∧ ag_I ν' 10 0 14 = 0 ∧ ag_I ν' 10 0 21 = P.1 ∧ ag_I ν' 10 0 22 = P.2.1 ∧ ∀ w, w < 4 → ag_I ν' 11 31 w = if P.1 = 0 then P.2.2.2 w else ag_I ν 11 31 w
def WB (ν : ab_M) : Prop := ∀ i : Nat, -128 ≤ ag_I ν 12 0 i ∧ ag_I ν 12 0 i ≤ 127
abbrev U_ (ν : ab_M) (i : Nat) : Int := ag_I ν 12 0 i % 256
theorem tu_U {ν : ab_M} (h : WB ν) (l : Nat) : tu (T_ ν) (U_ ν) l := by
  intro i _
  have := h i
  show ag_I ν 12 0 i = ag_I ν 12 0 i % 256 ∨ (ag_I ν 12 0 i < 0 ∧ 128 ≤ ag_I ν 12 0 i % 256)
  omega
theorem pa_U {ν : ab_M} (h : WB ν) : m_pa ν = pa (U_ ν) (ag_I ν 10 0 14).toNat 5 0 S0_ R0_ := pa_c (tu_U h _) 5 0 S0_ R0_ (by omega)
theorem RS_I {ν μ : ab_M} {hl hw pl tm : Nat → Nat} {ow : Nat → Nat × Nat} {tc : Nat} (hI : IX ν μ hl hw pl tm ow tc) (hZ : WR ν) : RS μ (ag_I ν 10 0 14).toNat (U_ ν) := by
  obtain ⟨hX, hC, hH, hP, hL, hK, hT, hR, hS⟩ := hI
  have z14 := hZ.2.2.2.2
  exact ⟨hX, hS, hT.1.trans (by omega), by omega, fun i hi => ⟨hT.2 i (by omega), by show 0 ≤ ag_I ν 12 0 i % 256; omega, by show ag_I ν 12 0 i % 256 ≤ 255; omega⟩⟩
theorem IX_ag0 {ν ν' μ μ1 : ab_M} {hl hw pl tm : Nat → Nat} {ow : Nat → Nat × Nat} {tc : Nat} (hI : IX ν μ hl hw pl tm ow tc) (hM : SX μ μ1) {P : Int × Int × Int × (Nat → Int)} (h3 : ag_I μ1 0 0 3 = P.1) (h4 : ag_I μ1 0 0 4 = P.2.1) (hA : AGR ν ν' P) (hP0 : P.1 ≠ 0) : IX ν' (as_I μ1 7 0 1 0) hl hw pl tm ow tc := by
  obtain ⟨hX, hC, hH, hP, hL, hK, hT, hR, hS⟩ := id hI
  obtain ⟨c7, c8, c9, cC4, cC3, cC6, cC11⟩ := id hC
  obtain ⟨s1, s2⟩ := hM
  obtain ⟨a1, a14, a21, a22, a31⟩ := hA
  have hν : ∀ {r : Nat → Nat → Nat → Prop}, (∀ t n k, r t n k → mrel t n ∧ ¬ scQ t n k) → AG r ν ν' := fun hr t n k hh => a1 t n k (hr t n k hh).1 (hr t n k hh).2
  have iI : ∀ {t n k : Nat}, ¬ (t = 7 ∧ n = 0 ∧ k = 1) → ¬ (t = 0 ∧ n = 0) → ¬ (t = 11 ∧ n = 1) → ag_I (as_I μ1 7 0 1 0) t n k = ag_I μ t n k := fun q1 q2 q3 => (ag_I_n q1).trans (s2 _ _ _ q2 q3)
  have e2 : (as_I μ1 7 0 1 0).2 = μ.2 := s1
  have iR : ∀ t n k, ag_R (as_I μ1 7 0 1 0) t n k = ag_R μ t n k := fun t n k => by unfold ag_R; rw [e2]
  have iL : ∀ t n, ag_L (as_I μ1 7 0 1 0) t n = ag_L μ t n := fun t n => by unfold ag_L; rw [e2]
  have iC : ∀ t, ag_C (as_I μ1 7 0 1 0) t = ag_C μ t := fun t => by unfold ag_C; rw [e2]
  refine ⟨XF_B (fun t n b _ => iR t n b) (fun t n _ _ => iL t n) (fun k _ => iL 17 k) hX, XC_A (hν (fun t n k q => by unfold rC at q; unfold mrel scQ; omega)) ⟨(iI (by omega) (by omega) (by omega)).trans c7, (iI (by omega) (by omega) (by omega)).trans c8, (iI (by omega) (by omega) (by omega)).trans c9, (iC 4).trans cC4, (iC 3).trans cC3, (iC 6).trans cC6, by rw [iC]; exact cC11⟩, XH_A (hν (fun t n k q => by unfold rH at q; unfold mrel scQ; omega)) (XH_B (fun t n k _ => iI (by omega) (by omega) (by omega)) (fun t n k _ => iR t n k) (fun n _ => iL 11 n) (by rw [iC]; omega) hH), XP_A (hν (fun t n k q => by unfold rP at q; unfold mrel scQ; omega)) (XP_B (fun t n k _ => iI (by omega) (by omega) (by omega)) (fun t n k _ => iR t n k) (fun n _ => iL 11 n) (by rw [iC]; omega) hP), XL_A (hν (fun t n k q => by unfold rL at q; unfold mrel scQ; omega)) (XL_B (fun t n k _ => iI (by omega) (by omega) (by omega)) (fun n k _ => iR 6 n k) (fun k i _ _ _ => iR 17 k i) (by rw [iC]; omega) hL), XK_A (hν (fun t n k q => by unfold rL at q; unfold mrel scQ; omega)) (XK_B (fun k _ => iI (by omega) (by omega) (by omega)) hK), ⟨(ag_I_y _ _ _ _ _).trans a14.symm, fun i hi => by rw [a14] at hi; omega⟩, ⟨⟨?_, ?_⟩, ⟨(iR 9 0 6).trans hR.2.1.1, by rw [iC]; exact hR.2.1.2⟩, fun b hb => ?_⟩, XS_B (fun _ _ _ _ => iI (by omega) (by omega) (by omega)) hS⟩
  · rw [a21]; exact (ag_I_n (by omega)).trans h3
  · rw [a22]; exact (ag_I_n (by omega)).trans h4
  · rw [a31 b hb, if_neg hP0]; exact (iI (by omega) (by omega) (by omega)).trans (hR.2.2 b hb)
theorem IX_ag1 {ν ν' μ μ1 : ab_M} {hl hw pl tm : Nat → Nat} {ow : Nat → Nat × Nat} {tc : Nat} (hI : IX ν μ hl hw pl tm ow tc) (hM : SX μ μ1) {P : Int × Int × Int × (Nat → Int)} (h3 : ag_I μ1 0 0 3 = P.1) (h4 : ag_I μ1 0 0 4 = P.2.1) (hA : AGR ν ν' P) (hP0 : P.1 = 0) : IX ν' (x_ag μ1 P.2.2.2) hl hw pl tm ow (ag_C μ 8) := by
  obtain ⟨hX, hC, hH, hP, hL, hK, hT, hR, hS⟩ := id hI
  obtain ⟨c7, c8, c9, cC4, cC3, cC6, cC11⟩ := id hC
  obtain ⟨s1, s2⟩ := hM
  obtain ⟨a1, a14, a21, a22, a31⟩ := hA
  have hν : ∀ {r : Nat → Nat → Nat → Prop}, (∀ t n k, r t n k → mrel t n ∧ ¬ scQ t n k) → AG r ν ν' := fun hr t n k hh => a1 t n k (hr t n k hh).1 (hr t n k hh).2
  have eC8 : ag_C μ1 8 = ag_C μ 8 := by unfold ag_C; rw [s1]
  have iI : ∀ {t n k : Nat}, ¬ (t = 7 ∧ n = 0 ∧ k = 1) → ¬ (t = 0 ∧ n = 0) → ¬ (t = 11 ∧ n = 1) → ¬ (t = 8 ∧ n = ag_C μ 8) → ag_I (x_ag μ1 P.2.2.2) t n k = ag_I μ t n k := fun {t n k} q1 q2 q3 q4 => by
    rw [← s2 t n k q2 q3]
    rw [← eC8] at q4
    unfold x_ag x_tm
    simp only [ag_I_I, ag_I_R, ag_I_N, a_fl_I, ag_R_I, ag_R_R, ag_R_N, a_fl_R, ag_L_I, ag_L_R, ag_L_N, a_fl_L, ag_C_I, ag_C_R, ag_C_N, a_fl_C, Nat.reduceEqDiff, if_false, if_true, false_and, true_and]
    repeat rw [if_neg (by omega)]
    all_goals exact if_neg (by omega)
  have e2 : μ1.2 = μ.2 := s1
  have iR : ∀ {t n k : Nat}, ¬ (t = 9 ∧ n = 0 ∧ k = 6) → t ≠ 8 → ag_R (x_ag μ1 P.2.2.2) t n k = ag_R μ t n k := fun {t n k} q1 q2 => by
    rw [show ag_R μ t n k = ag_R μ1 t n k from by unfold ag_R; rw [e2]]
    unfold x_ag x_tm
    simp only [ag_I_I, ag_I_R, ag_I_N, a_fl_I, ag_R_I, ag_R_R, ag_R_N, a_fl_R, ag_L_I, ag_L_R, ag_L_N, a_fl_L, ag_C_I, ag_C_R, ag_C_N, a_fl_C, Nat.reduceEqDiff, if_false, if_true, false_and, true_and]
    repeat rw [if_neg (by omega)]
    all_goals exact if_neg (by omega)
  have iL : ∀ {t n : Nat}, t ≠ 8 → ag_L (x_ag μ1 P.2.2.2) t n = ag_L μ t n := fun {t n} q1 => by
    rw [show ag_L μ t n = ag_L μ1 t n from by unfold ag_L; rw [e2]]
    unfold x_ag x_tm
    simp only [ag_I_I, ag_I_R, ag_I_N, a_fl_I, ag_R_I, ag_R_R, ag_R_N, a_fl_R, ag_L_I, ag_L_R, ag_L_N, a_fl_L, ag_C_I, ag_C_R, ag_C_N, a_fl_C, Nat.reduceEqDiff, if_false, if_true, false_and, true_and]
    repeat rw [if_neg (by omega)]
    all_goals exact if_neg (by omega)
  have iC : ∀ {t : Nat}, t ≠ 8 → ag_C (x_ag μ1 P.2.2.2) t = ag_C μ t := fun {t} q1 => by
    rw [show ag_C μ t = ag_C μ1 t from by unfold ag_C; rw [e2]]
    unfold x_ag x_tm
    simp only [ag_I_I, ag_I_R, ag_I_N, a_fl_I, ag_R_I, ag_R_R, ag_R_N, a_fl_R, ag_L_I, ag_L_R, ag_L_N, a_fl_L, ag_C_I, ag_C_R, ag_C_N, a_fl_C, Nat.reduceEqDiff, if_false, if_true, false_and, true_and]
    repeat rw [if_neg (by omega)]
    all_goals exact if_neg (by omega)
  have iC8 : ag_C (x_ag μ1 P.2.2.2) 8 = ag_C μ 8 + 1 := by
    rw [← eC8]
    unfold x_ag x_tm
    simp only [ag_I_I, ag_I_R, ag_I_N, a_fl_I, ag_R_I, ag_R_R, ag_R_N, a_fl_R, ag_L_I, ag_L_R, ag_L_N, a_fl_L, ag_C_I, ag_C_R, ag_C_N, a_fl_C, Nat.reduceEqDiff, if_false, if_true, false_and, true_and]
  refine ⟨XF_B (fun t n b q => iR (by unfold fxr at q; omega) (by unfold fxr at q; omega)) (fun t n N q => iL (by have := xs_l_s q; omega)) (fun k _ => iL (by omega)) hX, XC_A (hν (fun t n k q => by unfold rC at q; unfold mrel scQ; omega)) ⟨(iI (by omega) (by omega) (by omega) (by omega)).trans c7, (iI (by omega) (by omega) (by omega) (by omega)).trans c8, (iI (by omega) (by omega) (by omega) (by omega)).trans c9, (iC (by omega)).trans cC4, (iC (by omega)).trans cC3, (iC (by omega)).trans cC6, by rw [iC (by omega)]; exact cC11⟩, XH_A (hν (fun t n k q => by unfold rH at q; unfold mrel scQ; omega)) (XH_B (fun t n k _ => iI (by omega) (by omega) (by omega) (by omega)) (fun t n k _ => iR (by omega) (by omega)) (fun n _ => iL (by omega)) (by rw [iC (by omega)]; omega) hH), XP_A (hν (fun t n k q => by unfold rP at q; unfold mrel scQ; omega)) (XP_B (fun t n k _ => iI (by omega) (by omega) (by omega) (by omega)) (fun t n k _ => iR (by omega) (by omega)) (fun n _ => iL (by omega)) (by rw [iC (by omega)]; omega) hP), XL_A (hν (fun t n k q => by unfold rL at q; unfold mrel scQ; omega)) (XL_B (fun t n k _ => iI (by omega) (by omega) (by omega) (by omega)) (fun n k _ => iR (by omega) (by omega)) (fun k i _ _ _ => iR (by omega) (by omega)) (by rw [iC8]; omega) hL), XK_A (hν (fun t n k q => by unfold rL at q; unfold mrel scQ; omega)) (XK_B (fun k _ => iI (by omega) (by omega) (by omega) (by omega)) hK), ⟨?_, fun i hi => by rw [a14] at hi; omega⟩, ⟨⟨?_, ?_⟩, ⟨?_, by rw [iC8]; omega⟩, fun b hb => ?_⟩, XS_B (fun _ _ _ _ => iI (by omega) (by omega) (by omega) (by omega)) hS⟩
  · rw [a14]; unfold x_ag x_tm; simp [ag_I_I, ag_I_R, ag_I_N, a_fl_I, ag_R_I, ag_R_R, ag_R_N, a_fl_R, ag_L_I, ag_L_R, ag_L_N, a_fl_L, ag_C_I, ag_C_R, ag_C_N, a_fl_C, Nat.reduceEqDiff, if_false, if_true, false_and, true_and]
  · rw [a21, ← h3]; unfold x_ag x_tm; simp [ag_I_I, ag_I_R, ag_I_N, a_fl_I, ag_R_I, ag_R_R, ag_R_N, a_fl_R, ag_L_I, ag_L_R, ag_L_N, a_fl_L, ag_C_I, ag_C_R, ag_C_N, a_fl_C, Nat.reduceEqDiff, if_false, if_true, false_and, true_and]
  · rw [a22, ← h4]; unfold x_ag x_tm; simp [ag_I_I, ag_I_R, ag_I_N, a_fl_I, ag_R_I, ag_R_R, ag_R_N, a_fl_R, ag_L_I, ag_L_R, ag_L_N, a_fl_L, ag_C_I, ag_C_R, ag_C_N, a_fl_C, Nat.reduceEqDiff, if_false, if_true, false_and, true_and]
  · rw [← eC8]; unfold x_ag x_tm; simp [ag_I_I, ag_I_R, ag_I_N, a_fl_I, ag_R_I, ag_R_R, ag_R_N, a_fl_R, ag_L_I, ag_L_R, ag_L_N, a_fl_L, ag_C_I, ag_C_R, ag_C_N, a_fl_C, Nat.reduceEqDiff, if_false, if_true, false_and, true_and]
  · rw [a31 b hb, if_pos hP0, ← eC8]
    unfold x_ag x_tm
    rcases (show b = 0 ∨ b = 1 ∨ b = 2 ∨ b = 3 by omega) with rfl | rfl | rfl | rfl <;> simp [ag_I_I, ag_I_R, ag_I_N, a_fl_I, ag_R_I, ag_R_R, ag_R_N, a_fl_R, ag_L_I, ag_L_R, ag_L_N, a_fl_L, ag_C_I, ag_C_R, ag_C_N, a_fl_C, Nat.reduceEqDiff, if_false, if_true, false_and, true_and]
theorem MK_ag0 {μ μ1 : ab_M} (hM : SX μ μ1) : MK μ (as_I μ1 7 0 1 0) := by
  have e2 : (as_I μ1 7 0 1 0).2 = μ.2 := hM.1
  exact ⟨fun t m i q => (ag_I_n (by unfold mrel at q; omega)).trans (hM.2 t m i (by unfold mrel at q; omega) (by unfold mrel at q; omega)), fun m i => by unfold ag_R; rw [e2], fun t m _ => by unfold ag_L; rw [e2]⟩
theorem MK_ag1 {μ μ1 : ab_M} (R : Nat → Int) (hM : SX μ μ1) : MK μ (x_ag μ1 R) := by
  have e2 : μ1.2 = μ.2 := hM.1
  refine ⟨fun t m i q => ?_, fun m i => ?_, fun t m q => ?_⟩
  · rw [← hM.2 t m i (by unfold mrel at q; omega) (by unfold mrel at q; omega)]
    unfold mrel at q
    unfold x_ag x_tm
    simp only [ag_I_I, ag_I_R, ag_I_N, a_fl_I, ag_R_I, ag_R_R, ag_R_N, a_fl_R, ag_L_I, ag_L_R, ag_L_N, a_fl_L, ag_C_I, ag_C_R, ag_C_N, a_fl_C, Nat.reduceEqDiff, if_false, if_true, false_and, true_and]
    repeat rw [if_neg (by omega)]
    all_goals exact if_neg (by omega)
  · rw [show ag_R μ 10 m i = ag_R μ1 10 m i from by unfold ag_R; rw [e2]]
    unfold x_ag x_tm
    simp [ag_I_I, ag_I_R, ag_I_N, a_fl_I, ag_R_I, ag_R_R, ag_R_N, a_fl_R, ag_L_I, ag_L_R, ag_L_N, a_fl_L, ag_C_I, ag_C_R, ag_C_N, a_fl_C, Nat.reduceEqDiff, if_false, if_true, false_and, true_and]
  · rw [show ag_L μ t m = ag_L μ1 t m from by unfold ag_L; rw [e2]]
    unfold mrel at q
    unfold x_ag x_tm
    simp only [ag_I_I, ag_I_R, ag_I_N, a_fl_I, ag_R_I, ag_R_R, ag_R_N, a_fl_R, ag_L_I, ag_L_R, ag_L_N, a_fl_L, ag_C_I, ag_C_R, ag_C_N, a_fl_C, Nat.reduceEqDiff, if_false, if_true, false_and, true_and]
    repeat rw [if_neg (by omega)]
    all_goals exact if_neg (by omega)
theorem sp_cut0 (d : Nat) (n : Int) {μ : ab_M} (hn : ag_I μ 7 0 1 = n) (h0 : 0 ≤ n) : Wp (d + 1) 66 [ab_r 7 (some 0), ab_i 0] μ (fun vv μ' => vv = some (ab_i 1) ∧ μ' = as_I μ 7 0 1 0) := by
  refine wp_of ?_
  refine wg_s rfl rfl ?_
  refine wg_s rfl rfl ?_
  refine wg_at (pc2 := 4) (by decide) ?_
  refine wg_s rfl rfl ?_
  refine wg_s rfl rfl ?_
  refine wg_gi rfl rfl (show _ = n from hn) ?_
  refine wg_if rfl rfl (fun h9 => ?_) (fun h9 => absurd h0 h9)
  refine wg_s rfl rfl ?_
  refine wg_s rfl rfl ?_
  refine wg_s rfl rfl ?_
  refine wg_s rfl rfl ?_
  exact wg_ret rfl rfl (Or.inr rfl) ⟨rfl, rfl⟩
theorem sp_number0 (d : Nat) (x : Int) {μ : ab_M} (hX : XF μ) (hx : ag_I μ 11 1 0 = x) : Wp (d + 1) 4 [ab_r 0 (some 0), ab_i 0] μ (fun vv μ' => vv = some (ab_i x) ∧ μ' = μ) := by
  refine wp_of ?_
  refine wg_s rfl rfl ?_
  refine wg_s rfl rfl ?_
  refine wg_at (pc2 := 4) (by decide) ?_
  refine wg_s rfl rfl ?_
  refine wg_s rfl rfl ?_
  refine wg_gx rfl rfl hX ?_
  refine wg_len rfl rfl (xf_l hX rfl) ?_
  refine wg_s rfl rfl ?_
  refine wg_at (pc2 := 13) (by decide) ?_
  refine wg_s rfl rfl ?_
  refine wg_gx rfl rfl hX ?_
  refine wg_s rfl rfl ?_
  refine wg_ax rfl (xf_l hX rfl) (by omega) (by omega) (show _ = x from hx) ?_
  refine wg_s rfl rfl ?_
  exact wg_ret rfl rfl trivial ⟨rfl, rfl⟩
theorem sp_number1 (d : Nat) (x : Int) {μ : ab_M} (hX : XF μ) (hx : ag_I μ 11 1 1 = x) : Wp (d + 1) 4 [ab_r 0 (some 0), ab_i 1] μ (fun vv μ' => vv = some (ab_i x) ∧ μ' = μ) := by
  refine wp_of ?_
  refine wg_s rfl rfl ?_
  refine wg_s rfl rfl ?_
  refine wg_at (pc2 := 4) (by decide) ?_
  refine wg_s rfl rfl ?_
  refine wg_s rfl rfl ?_
  refine wg_gx rfl rfl hX ?_
  refine wg_len rfl rfl (xf_l hX rfl) ?_
  refine wg_s rfl rfl ?_
  refine wg_at (pc2 := 13) (by decide) ?_
  refine wg_s rfl rfl ?_
  refine wg_gx rfl rfl hX ?_
  refine wg_s rfl rfl ?_
  refine wg_ax rfl (xf_l hX rfl) (by omega) (by omega) (show _ = x from hx) ?_
  refine wg_s rfl rfl ?_
  exact wg_ret rfl rfl trivial ⟨rfl, rfl⟩
theorem sp_number2 (d : Nat) (x : Int) {μ : ab_M} (hX : XF μ) (hx : ag_I μ 11 1 2 = x) : Wp (d + 1) 4 [ab_r 0 (some 0), ab_i 2] μ (fun vv μ' => vv = some (ab_i x) ∧ μ' = μ) := by
  refine wp_of ?_
  refine wg_s rfl rfl ?_
  refine wg_s rfl rfl ?_
  refine wg_at (pc2 := 4) (by decide) ?_
  refine wg_s rfl rfl ?_
  refine wg_s rfl rfl ?_
  refine wg_gx rfl rfl hX ?_
  refine wg_len rfl rfl (xf_l hX rfl) ?_
  refine wg_s rfl rfl ?_
  refine wg_at (pc2 := 13) (by decide) ?_
  refine wg_s rfl rfl ?_
  refine wg_gx rfl rfl hX ?_
  refine wg_s rfl rfl ?_
  refine wg_ax rfl (xf_l hX rfl) (by omega) (by omega) (show _ = x from hx) ?_
  refine wg_s rfl rfl ?_
  exact wg_ret rfl rfl trivial ⟨rfl, rfl⟩
theorem sp_number3 (d : Nat) (x : Int) {μ : ab_M} (hX : XF μ) (hx : ag_I μ 11 1 3 = x) : Wp (d + 1) 4 [ab_r 0 (some 0), ab_i 3] μ (fun vv μ' => vv = some (ab_i x) ∧ μ' = μ) := by
  refine wp_of ?_
  refine wg_s rfl rfl ?_
  refine wg_s rfl rfl ?_
  refine wg_at (pc2 := 4) (by decide) ?_
  refine wg_s rfl rfl ?_
  refine wg_s rfl rfl ?_
  refine wg_gx rfl rfl hX ?_
  refine wg_len rfl rfl (xf_l hX rfl) ?_
  refine wg_s rfl rfl ?_
  refine wg_at (pc2 := 13) (by decide) ?_
  refine wg_s rfl rfl ?_
  refine wg_gx rfl rfl hX ?_
  refine wg_s rfl rfl ?_
  refine wg_ax rfl (xf_l hX rfl) (by omega) (by omega) (show _ = x from hx) ?_
  refine wg_s rfl rfl ?_
  exact wg_ret rfl rfl trivial ⟨rfl, rfl⟩
theorem sp_clauses (d : Nat) (x : Int) {μ : ab_M} (hx : ag_I μ 0 0 2 = x) : Wp (d + 1) 5 [ab_r 0 (some 0)] μ (fun vv μ' => vv = some (ab_i x) ∧ μ' = μ) := by
  refine wp_of ?_
  refine wg_s rfl rfl ?_
  refine wg_gi rfl rfl (show _ = x from hx) ?_
  exact wg_ret rfl rfl trivial ⟨rfl, rfl⟩
theorem sp_termsInit (d c : Nat) (a b e f : Int) (μ : ab_M) : Wp (d + 1) 67 [ab_r 8 (some c), ab_i a, ab_i b, ab_i e, ab_i f] μ (fun vv μ' => vv = none ∧ μ' = x_tm μ c a b e f) := by
  refine wp_of ?_
  refine wg_s rfl rfl ?_
  refine wg_s rfl rfl ?_
  refine wg_s rfl rfl ?_
  refine wg_s rfl rfl ?_
  refine wg_s rfl rfl ?_
  refine wg_s rfl rfl ?_
  refine wg_s rfl rfl ?_
  refine wg_s rfl rfl ?_
  refine wg_s rfl rfl ?_
  refine wg_s rfl rfl ?_
  refine wg_s rfl rfl ?_
  refine wg_s rfl rfl ?_
  refine wg_s rfl rfl ?_
  refine wg_s rfl rfl ?_
  exact wg_ret rfl rfl trivial ⟨rfl, rfl⟩
theorem sp_xagree (d : Nat) {ν μ : ab_M} {hl hw pl tm : Nat → Nat} {ow : Nat → Nat × Nat} {tc : Nat} (hI : IX ν μ hl hw pl tm ow tc) (hZ : WR ν) (hB : WB ν) : Wp (d + 10) 82 [ab_r 9 (some 0)] μ (fun vv μ' => vv = some (ab_i (if (m_pa ν).1 = 0 then (m_pa ν).2.2.1 else -1)) ∧ MK μ μ' ∧ (ag_c μ' ≤ ag_c μ + 1 ∧ ag_s μ' ≤ ag_s μ + 4) ∧ ∃ tc', ∀ ν', AGR ν ν' (m_pa ν) → IX ν' μ' hl hw pl tm ow tc') := by
  refine wp_of ?_
  obtain ⟨hX, hC, hH, hP, hL, hK, hT, hR, hS⟩ := id hI
  obtain ⟨z1, z6, z26, z0, z14⟩ := id hZ
  obtain ⟨c7, c8, c9, cC4, cC3, cC6, cC11⟩ := id hC
  have hrs := RS_I hI hZ
  have hrd := sp_read d hrs
  rw [← pa_U hB] at hrd
  refine wg_s rfl rfl ?_
  refine wg_gx rfl rfl hX ?_
  refine wg_s rfl rfl ?_
  refine wg_gx rfl rfl hX ?_
  refine wg_call rfl rfl hrd (fun vv μ1 hq => ?_)
  obtain ⟨rfl, q2, q3, q4⟩ := hq
  have hXe : XF μ1 := (RS_X hrs q2).1
  have hx94 : ag_R μ1 9 0 4 = some 0 := hXe.1 9 0 4 0 rfl
  have hXn : XF (as_N (as_I μ1 7 0 1 0) 8 0 (ab_nf 8)) := XF_B (μ := μ1) (fun t n b q => by rw [ag_R_N]; exact if_neg (by unfold fxr at q; omega)) (fun t n N q => by rw [ag_L_N]; exact if_neg (by have := xs_l_s q; omega)) (fun k _ => by rw [ag_L_N]; exact if_neg (by omega)) hXe
  refine wg_s rfl rfl ?_
  refine wg_s rfl rfl ?_
  refine wg_gx rfl rfl hXe ?_
  refine wg_s rfl rfl ?_
  refine wg_cf rfl rfl (sp_cut0 _ _ (show _ = ag_I ν 10 0 14 from (q2.2 7 0 1 (by omega) (by omega)).trans hT.1) z14.1) ?_
  refine wg_s rfl rfl ?_
  refine wg_s rfl rfl ?_
  refine wg_neb rfl (fun hc => ?_) (fun hc => ?_)
  · obtain ⟨e2, eN⟩ := q4 hc
    refine wg_s rfl rfl ?_
    refine wg_s rfl rfl ?_
    refine wg_s rfl rfl ?_
    refine wg_s rfl rfl ?_
    refine wg_gr rfl rfl (by exact hx94) ?_
    refine wg_s rfl rfl ?_
    refine wg_cf rfl rfl (sp_number0 _ ((m_pa ν).2.2.2 0) hXn (by exact eN 0 (by omega))) ?_
    refine wg_s rfl rfl ?_
    refine wg_gr rfl rfl (by exact hx94) ?_
    refine wg_s rfl rfl ?_
    refine wg_cf rfl rfl (sp_number1 _ ((m_pa ν).2.2.2 1) hXn (by exact eN 1 (by omega))) ?_
    refine wg_s rfl rfl ?_
    refine wg_gr rfl rfl (by exact hx94) ?_
    refine wg_s rfl rfl ?_
    refine wg_cf rfl rfl (sp_number2 _ ((m_pa ν).2.2.2 2) hXn (by exact eN 2 (by omega))) ?_
    refine wg_s rfl rfl ?_
    refine wg_gr rfl rfl (by exact hx94) ?_
    refine wg_s rfl rfl ?_
    refine wg_cf rfl rfl (sp_number3 _ ((m_pa ν).2.2.2 3) hXn (by exact eN 3 (by omega))) ?_
    refine wg_cv rfl rfl (sp_termsInit _ _ _ _ _ _ _) ?_
    refine wg_s rfl rfl ?_
    refine wg_s rfl rfl ?_
    refine wg_gr rfl rfl (by exact hx94) ?_
    refine wg_cf rfl rfl (sp_clauses _ ((m_pa ν).2.2.1) (by exact e2)) ?_
    refine wg_ret rfl rfl trivial ⟨?_, MK_ag1 _ q2, ⟨?_, ?_⟩, ag_C μ 8, fun ν' hA => IX_ag1 hI q2 q3.1 q3.2 hA hc⟩
    · rw [if_pos hc]
    · show ag_c μ1 + 1 ≤ _; rw [show ag_c μ1 = ag_c μ from by unfold ag_c; rw [q2.1]]; omega
    · show ag_s μ1 + 4 ≤ _; rw [show ag_s μ1 = ag_s μ from by unfold ag_s; rw [q2.1]]; omega
  · refine wg_s rfl rfl ?_
    refine wg_ret rfl rfl trivial ⟨?_, MK_ag0 q2, ⟨?_, ?_⟩, tc, fun ν' hA => IX_ag0 hI q2 q3.1 q3.2 hA hc⟩
    · rw [if_neg hc]
    · show ag_c μ1 ≤ _; rw [show ag_c μ1 = ag_c μ from by unfold ag_c; rw [q2.1]]; omega
    · show ag_s μ1 ≤ _; rw [show ag_s μ1 = ag_s μ from by unfold ag_s; rw [q2.1]]; omega
