/-! ===== the class: a pair parts ===== -/
def x_pa (μ : ab_M) (h p j : Nat) : ab_M := as_R (as_I (as_R μ 3 p 5 none) 6 j 4 1) 4 h 6 none
theorem m_lf_iff {ν ν' : ab_M} (h : Int) : ∀ n, (∀ j, j < n → ((ag_I ν' 11 32 j = h ∧ ag_I ν' 11 40 j < 0) ↔ (ag_I ν 11 32 j = h ∧ ag_I ν 11 40 j < 0))) → m_lf ν' h n = m_lf ν h n
  | 0, _ => rfl
  | n + 1, q => by
    unfold m_lf
    rw [m_lf_iff h n (fun j hj => q j (by omega))]
    by_cases e : ag_I ν 11 32 n = h ∧ ag_I ν 11 40 n < 0
    · rw [if_pos e, if_pos ((q n (by omega)).mpr e)]
    · rw [if_neg e, if_neg (fun w => e ((q n (by omega)).mp w))]
theorem m_pf_iff {ν ν' : ab_M} (h : Int) : ∀ n, (∀ j, j < n → ((ag_I ν' 11 33 j = h ∧ ag_I ν' 11 40 j < 0) ↔ (ag_I ν 11 33 j = h ∧ ag_I ν 11 40 j < 0))) → m_pf ν' h n = m_pf ν h n
  | 0, _ => rfl
  | n + 1, q => by
    unfold m_pf
    rw [m_pf_iff h n (fun j hj => q j (by omega))]
    by_cases e : ag_I ν 11 33 n = h ∧ ag_I ν 11 40 n < 0
    · rw [if_pos e, if_pos ((q n (by omega)).mpr e)]
    · rw [if_neg e, if_neg (fun w => e ((q n (by omega)).mp w))]
theorem WU_o {ν : ab_M} (hU : WU ν) {i j : Nat} (hi : (i : Int) < ag_I ν 10 0 26) (hj : (j : Int) < ag_I ν 10 0 26) (oi : ag_I ν 11 40 i < 0) (oj : ag_I ν 11 40 j < 0) (e : ag_I ν 11 32 i = ag_I ν 11 32 j ∨ ag_I ν 11 33 i = ag_I ν 11 33 j) : i = j := by
  rcases Nat.lt_trichotomy i j with q | q | q
  · have := hU.2.1 i j q hj oi oj; omega
  · exact q
  · have := hU.2.1 j i q hi oj oi; omega
theorem IX_part {ν μ : ab_M} {hl hw pl tm : Nat → Nat} {ow : Nat → Nat × Nat} {tc : Nat} (hI : IX ν μ hl hw pl tm ow tc) (hZ : WR ν) (hWL : WL ν) (hU : WU ν) (j : Nat) (x : Int) (hj : (j : Int) < ag_I ν 10 0 26) (ho : ag_I ν 11 40 j < 0) (hx : 0 ≤ x) : IX (as_I ν 11 40 j x) (x_pa μ (ag_I ν 11 32 j).toNat (ag_I ν 11 33 j).toNat j) hl hw pl tm ow tc := by
  obtain ⟨hX, hC, hH, hP, hL, hK, hT, hR, hS⟩ := id hI
  obtain ⟨z1, z6, z26, z0, z14⟩ := id hZ
  have hwl := hWL j hj
  have hν : ∀ {r : Nat → Nat → Nat → Prop}, (∀ k, ¬ r 11 40 k) → AG r ν (as_I ν 11 40 j x) := fun hr t n k hh => ag_I_n (fun e => by obtain ⟨rfl, rfl, rfl⟩ := e; exact hr _ hh)
  have g32 : ∀ i, ag_I (as_I ν 11 40 j x) 11 32 i = ag_I ν 11 32 i := fun i => ag_I_n (by omega)
  have g33 : ∀ i, ag_I (as_I ν 11 40 j x) 11 33 i = ag_I ν 11 33 i := fun i => ag_I_n (by omega)
  have g40 : ∀ i, i ≠ j → ag_I (as_I ν 11 40 j x) 11 40 i = ag_I ν 11 40 i := fun i hi => ag_I_n (by omega)
  have y40 : ag_I (as_I ν 11 40 j x) 11 40 j = x := ag_I_y _ _ _ _ _
  have el : ∀ m : Nat, m_l (as_I ν 11 40 j x) m = if (m : Int) = ag_I ν 11 32 j then -1 else m_l ν m := by
    intro m
    show m_lf _ _ (ag_I ν 10 0 26).toNat = _
    by_cases e : (m : Int) = ag_I ν 11 32 j
    · rw [if_pos e]
      refine m_lf_no _ (fun i hi q => ?_)
      by_cases ij : i = j
      · subst ij; rw [y40] at q; omega
      · rw [g32, g40 i ij] at q
        exact ij (WU_o hU (by omega) hj q.2 ho (Or.inl (by omega)))
    · rw [if_neg e]
      refine m_lf_iff _ _ (fun i hi => ?_)
      by_cases ij : i = j
      · subst ij; rw [g32]; constructor <;> (intro q; omega)
      · rw [g32, g40 i ij]
  have ep : ∀ m : Nat, m_pf (as_I ν 11 40 j x) m (ag_I ν 10 0 26).toNat = if (m : Int) = ag_I ν 11 33 j then -1 else m_pf ν m (ag_I ν 10 0 26).toNat := by
    intro m
    by_cases e : (m : Int) = ag_I ν 11 33 j
    · rw [if_pos e]
      refine m_pf_no _ (fun i hi q => ?_)
      by_cases ij : i = j
      · subst ij; rw [y40] at q; omega
      · rw [g33, g40 i ij] at q
        exact ij (WU_o hU (by omega) hj q.2 ho (Or.inr (by omega)))
    · rw [if_neg e]
      refine m_pf_iff _ _ (fun i hi => ?_)
      by_cases ij : i = j
      · subst ij; rw [g33]; constructor <;> (intro q; omega)
      · rw [g33, g40 i ij]
  have iI : ∀ {t n k : Nat}, ¬ (t = 6 ∧ n = j ∧ k = 4) → ag_I (x_pa μ (ag_I ν 11 32 j).toNat (ag_I ν 11 33 j).toNat j) t n k = ag_I μ t n k := fun q => ag_I_n q
  have iR : ∀ {t n k : Nat}, ¬ (t = 3 ∧ n = (ag_I ν 11 33 j).toNat ∧ k = 5) → ¬ (t = 4 ∧ n = (ag_I ν 11 32 j).toNat ∧ k = 6) → ag_R (x_pa μ (ag_I ν 11 32 j).toNat (ag_I ν 11 33 j).toNat j) t n k = ag_R μ t n k := fun q1 q2 => (ag_R_n q2).trans (ag_R_n q1)
  refine ⟨?_, XC_A (hν (fun k => by unfold rC; omega)) ?_, ?_, ?_, ?_, ?_, XT_A (hν (fun k => by unfold rT; omega)) (XT_B (iI (by omega)) (fun _ => iI (by omega)) hT), XR_A (hν (fun k => by unfold rR; omega)) (XR_B ⟨iI (by omega), iI (by omega)⟩ (iR (by omega) (by omega)) (fun _ _ _ => iI (by omega)) (Nat.le_refl _) hR), XS_B (fun _ _ _ _ => iI (by omega)) hS⟩
  · exact XF_B (fun t n b q => iR (by unfold fxr at q; omega) (by unfold fxr at q; omega)) (fun _ _ _ _ => rfl) (fun _ _ => rfl) hX
  · obtain ⟨c7, c8, c9, cC4, cC3, cC6, cC11⟩ := id hC
    exact ⟨(iI (by omega)).trans c7, (iI (by omega)).trans c8, (iI (by omega)).trans c9, cC4, cC3, cC6, cC11⟩
  · intro m hm
    rw [ag_I_n (by omega)] at hm
    obtain ⟨e15, ⟨e40, e41, e42, e43⟩, ⟨e44, e45, e46⟩, h8, hrng, how, hlk, hwk⟩ := hH m hm
    rw [el]
    refine ⟨?_, ⟨?_, ?_, ?_, ?_⟩, ⟨?_, ?_, ?_⟩, h8, hrng, how, fun q hq => ?_, fun q w hw2 => ?_⟩
    · rw [iR (by omega) (by omega)]; exact e15
    · rw [iI (by omega), ag_I_n (by omega)]; exact e40
    · rw [iI (by omega), ag_I_n (by omega)]; exact e41
    · rw [iI (by omega), ag_I_n (by omega)]; exact e42
    · rw [iI (by omega), ag_I_n (by omega)]; exact e43
    · rw [iR (by omega) (by omega)]; exact e44
    · rw [iR (by omega) (by omega)]; exact e45
    · by_cases e : (m : Int) = ag_I ν 11 32 j
      · have e2 : m = (ag_I ν 11 32 j).toNat := by omega
        rw [if_pos e, e2]
        exact ag_R_y _ _ _ _ _
      · rw [if_neg e, iR (by omega) (by omega)]; exact e46
    · rw [iI (by omega), ag_I_n (by omega)]; exact hlk q hq
    · by_cases e : (m : Int) = ag_I ν 11 32 j
      · rw [if_pos e] at q; omega
      · rw [if_neg e] at q ⊢
        rw [iI (by omega), hwk q w hw2]
        unfold m_ju
        rw [ag_I_n (by omega), ag_I_n (by omega), ag_I_n (by omega), ag_I_n (by omega)]
  · intro m hm
    rw [ag_I_n (by omega)] at hm
    obtain ⟨p14, ⟨p30, p31, p32, p34⟩, ⟨p33, p35⟩, pL8, prng, pow, plk⟩ := hP m hm
    have ep2 : m_pf (as_I ν 11 40 j x) m (ag_I (as_I ν 11 40 j x) 10 0 26).toNat = _ := ep m
    rw [ep2]
    refine ⟨?_, ⟨?_, ?_, ?_, ?_⟩, ⟨?_, ?_⟩, pL8, prng, pow, fun q hq => ?_⟩
    · rw [iR (by omega) (by omega)]; exact p14
    · rw [iI (by omega), ag_I_n (by omega)]; exact p30
    · rw [iI (by omega), ag_I_n (by omega)]; exact p31
    · rw [iI (by omega), ag_I_n (by omega)]; exact p32
    · rw [iI (by omega), ag_I_n (by omega)]; exact p34
    · rw [iR (by omega) (by omega)]; exact p33
    · by_cases e : (m : Int) = ag_I ν 11 33 j
      · have e2 : m = (ag_I ν 11 33 j).toNat := by omega
        rw [if_pos e, e2]
        exact (ag_R_n (by omega)).trans (ag_R_y _ _ _ _ _)
      · rw [if_neg e, iR (by omega) (by omega)]; exact p35
    · rw [iI (by omega), ag_I_n (by omega)]; exact plk q hq
  · intro i hi
    rw [ag_I_n (by omega)] at hi
    obtain ⟨⟨j0, j1, j3, j4⟩, ⟨j2, jt⟩, jr, j17⟩ := hL i hi
    refine ⟨⟨?_, ?_, ?_, ?_⟩, ⟨?_, jt⟩, fun b hb => ?_, ?_⟩
    · rw [iI (by omega), g33]; exact j0
    · rw [iI (by omega), ag_I_n (by omega)]; exact j1
    · rw [iI (by omega), ag_I_n (by omega)]; exact j3
    · by_cases ij : i = j
      · subst ij
        rw [y40, bI_t hx]
        exact ag_I_y _ _ _ _ _
      · rw [iI (by omega), g40 i ij]; exact j4
    · rw [iR (by omega) (by omega)]; exact j2
    · rw [iI (by omega), ag_I_n (by omega)]; exact jr b hb
    · rw [iR (by omega) (by omega), g32, ag_I_n (by omega), m_ct_c (ν := ν) (fun i => ag_I_n (by omega)) g32]; exact j17
  · intro k hk
    rw [iI (by omega), m_ct_c (ν := ν) (fun i => ag_I_n (by omega)) g32]; exact hK k hk
theorem MK_part (μ : ab_M) (h p j : Nat) : MK μ (x_pa μ h p j) := ⟨fun t m i q => ag_I_n (by unfold mrel at q; omega), fun m i => (ag_R_n (by omega)).trans (ag_R_n (by omega)), fun t m q => rfl⟩
/-- notice: the week of the end is written down -/
theorem IX_setEnd {ν μ : ab_M} {hl hw pl tm : Nat → Nat} {ow : Nat → Nat × Nat} {tc : Nat} (hI : IX ν μ hl hw pl tm ow tc) (j : Nat) (x : Int) : IX (as_I ν 11 39 j x) (as_I μ 6 j 3 x) hl hw pl tm ow tc := by
  obtain ⟨hX, hC, hH, hP, hL, hK, hT, hR, hS⟩ := id hI
  have hν : ∀ {r : Nat → Nat → Nat → Prop}, (∀ k, ¬ r 11 39 k) → AG r ν (as_I ν 11 39 j x) := fun hr t n k hh => ag_I_n (fun e => by obtain ⟨rfl, rfl, rfl⟩ := e; exact hr _ hh)
  refine ⟨hX, XC_A (hν (fun k => by unfold rC; omega)) ?_, XH_A (hν (fun k => by unfold rH; omega)) (XH_B (fun t n k h => ag_I_n (by omega)) (fun _ _ _ _ => rfl) (fun _ _ => rfl) (Nat.le_refl _) hH), XP_A (hν (fun k => by unfold rP; omega)) (XP_B (fun t n k h => ag_I_n (by omega)) (fun _ _ _ _ => rfl) (fun _ _ => rfl) (Nat.le_refl _) hP), ?_, ?_, XT_A (hν (fun k => by unfold rT; omega)) (XT_B (ag_I_n (by omega)) (fun _ => ag_I_n (by omega)) hT), XR_A (hν (fun k => by unfold rR; omega)) (XR_B ⟨ag_I_n (by omega), ag_I_n (by omega)⟩ rfl (fun _ _ _ => ag_I_n (by omega)) (Nat.le_refl _) hR), XS_B (fun _ _ _ _ => ag_I_n (by omega)) hS⟩
  · obtain ⟨c7, c8, c9, cC4, cC3, cC6, cC11⟩ := id hC
    exact ⟨(ag_I_n (by omega)).trans c7, (ag_I_n (by omega)).trans c8, (ag_I_n (by omega)).trans c9, cC4, cC3, cC6, cC11⟩
  · intro i hi
    rw [ag_I_n (by omega)] at hi
    obtain ⟨⟨j0, j1, j3, j4⟩, ⟨j2, jt⟩, jr, j17⟩ := hL i hi
    refine ⟨⟨?_, ?_, ?_, ?_⟩, ⟨j2, jt⟩, fun b hb => ?_, ?_⟩
    · rw [ag_I_n (by omega), ag_I_n (by omega)]; exact j0
    · rw [ag_I_n (by omega), ag_I_n (by omega)]; exact j1
    · by_cases ij : i = j
      · subst ij; rw [ag_I_y, ag_I_y]
      · rw [ag_I_n (by omega), ag_I_n (by omega)]; exact j3
    · rw [ag_I_n (by omega), ag_I_n (by omega)]; exact j4
    · rw [ag_I_n (by omega), ag_I_n (by omega)]; exact jr b hb
    · rw [ag_I_n (t' := 11) (n' := 32) (by omega), ag_I_n (by omega), m_ct_c (ν := ν) (fun i => ag_I_n (by omega)) (fun i => ag_I_n (by omega))]; exact j17
  · intro k hk
    rw [ag_I_n (by omega), m_ct_c (ν := ν) (fun i => ag_I_n (by omega)) (fun i => ag_I_n (by omega))]; exact hK k hk
theorem sp_part (d n : Nat) {ν μ : ab_M} {hl hw pl tm : Nat → Nat} {ow : Nat → Nat × Nat} {tc : Nat} (hI : IX ν μ hl hw pl tm ow tc) (hZ : WR ν) (hWL : WL ν) (hU : WU ν) (hn : (n : Int) < ag_I ν 10 0 1) : Wp (d + 2) 103 [ab_r 9 (some 0), ab_r 4 (some n)] μ (fun vv μ' => (0 ≤ m_l ν n ∧ ag_I ν 11 39 (m_l ν n).toNat ≠ -1 ∧ ag_I ν 11 39 (m_l ν n).toNat ≤ ag_I ν 10 0 0 → vv = some (ab_i 1) ∧ μ' = x_pa μ n (ag_I ν 11 33 (m_l ν n).toNat).toNat (m_l ν n).toNat) ∧ (¬ (0 ≤ m_l ν n ∧ ag_I ν 11 39 (m_l ν n).toNat ≠ -1 ∧ ag_I ν 11 39 (m_l ν n).toNat ≤ ag_I ν 10 0 0) → vv = some (ab_i 0) ∧ μ' = μ)) := by
  refine wp_of ?_
  obtain ⟨hX, hC, hH, hP, hL, hK, hT, hR, hS⟩ := id hI
  obtain ⟨z1, z6, z26, z0, z14⟩ := id hZ
  obtain ⟨c7, c8, c9, cC4, cC3, cC6, cC11⟩ := id hC
  obtain ⟨e15, e4, ⟨e44, e45, e46⟩, h8, hrng, how, hlk, hwk⟩ := hH n hn
  by_cases ho : 0 ≤ m_l ν n
  · have hr := m_lf_rng ν n (ag_I ν 10 0 26).toNat
    have ho' : 0 ≤ m_lf ν n (ag_I ν 10 0 26).toNat := ho
    have hj : ((m_l ν n).toNat : Int) < ag_I ν 10 0 26 := by show ((m_lf ν n (ag_I ν 10 0 26).toNat).toNat : Int) < _; omega
    obtain ⟨⟨j0, j1, j3, j4⟩, ⟨j2, jt⟩, jr, j17⟩ := hL (m_l ν n).toNat hj
    have hp : 0 ≤ ag_I ν 11 33 (m_l ν n).toNat ∧ ag_I ν 11 33 (m_l ν n).toNat < ag_I ν 10 0 6 := ⟨(hWL _ hj).2.1.1, (hU.1 _ hj).2⟩
    refine wg_s rfl rfl ?_
    refine wg_s rfl rfl ?_
    refine wg_s rfl rfl ?_
    refine wg_gn rfl rfl (show _ = some (m_l ν n).toNat from e46.trans (opS ho)) ?_
    refine wg_s rfl rfl ?_
    refine wg_s rfl rfl ?_
    refine wg_gn rfl rfl (show _ = some (m_l ν n).toNat from e46.trans (opS ho)) ?_
    refine wg_gi rfl rfl (show _ = ag_I ν 11 39 (m_l ν n).toNat from j3) ?_
    refine wg_s rfl rfl ?_
    refine wg_if rfl rfl (fun h19 => ?_) (fun h19 => ?_)
    · refine wg_s rfl rfl ?_
      exact wg_ret rfl rfl (Or.inl rfl) ⟨fun h => absurd h (by omega), fun _ => ⟨rfl, rfl⟩⟩
    · refine wg_s rfl rfl ?_
      refine wg_gn rfl rfl (show _ = some (m_l ν n).toNat from e46.trans (opS ho)) ?_
      refine wg_gi rfl rfl (show _ = ag_I ν 11 39 (m_l ν n).toNat from j3) ?_
      refine wg_s rfl rfl ?_
      refine wg_gi rfl rfl (show _ = ag_I ν 10 0 0 from c9) ?_
      refine wg_if rfl rfl (fun h33 => ?_) (fun h33 => ?_)
      · refine wg_s rfl rfl ?_
        refine wg_s rfl rfl ?_
        refine wg_gn rfl rfl (show _ = some (m_l ν n).toNat from e46.trans (opS ho)) ?_
        refine wg_gi rfl rfl (show _ = ag_I ν 11 33 (m_l ν n).toNat from j0) ?_
        refine wg_cf rfl rfl (sp_helperAt_t _ _ hI hZ hp) ?_
        refine wg_s rfl rfl ?_
        refine wg_s rfl rfl ?_
        refine wg_s rfl rfl ?_
        refine wg_s rfl rfl ?_
        refine wg_s rfl rfl ?_
        refine wg_s rfl rfl ?_
        refine wg_s rfl rfl ?_
        refine wg_gn rfl rfl (show _ = some (m_l ν n).toNat from (ag_R_n (by omega)).trans (e46.trans (opS ho))) ?_
        refine wg_s rfl rfl ?_
        refine wg_c rfl rfl (Or.inr rfl) ?_
        refine wg_s rfl rfl ?_
        refine wg_s rfl rfl ?_
        refine wg_s rfl rfl ?_
        refine wg_s rfl rfl ?_
        exact wg_ret rfl rfl (Or.inr rfl) ⟨fun _ => ⟨rfl, rfl⟩, fun h => absurd ⟨ho, by omega, by omega⟩ h⟩
      · refine wg_s rfl rfl ?_
        exact wg_ret rfl rfl (Or.inl rfl) ⟨fun h => absurd h (by omega), fun _ => ⟨rfl, rfl⟩⟩
  · refine wg_s rfl rfl ?_
    refine wg_s rfl rfl ?_
    refine wg_s rfl rfl ?_
    refine wg_gn rfl rfl (show _ = none from e46.trans (opN (by omega))) ?_
    refine wg_s rfl rfl ?_
    refine wg_s rfl rfl ?_
    exact wg_ret rfl rfl (Or.inl rfl) ⟨fun h => absurd h (by omega), fun _ => ⟨rfl, rfl⟩⟩
