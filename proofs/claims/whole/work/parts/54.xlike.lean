/-! ===== the class: end, like: the relation ===== -/
theorem IX_end {ν μ : ab_M} {hl hw pl tm : Nat → Nat} {ow : Nat → Nat × Nat} {tc : Nat} (hI : IX ν μ hl hw pl tm ow tc) (q : Int) (hq : 0 ≤ q ∧ q ≤ ag_I ν 10 0 14) : IX (as_I ν 10 0 14 q) (as_I μ 7 0 1 q) hl hw pl tm ow tc := by
  obtain ⟨hX, hC, hH, hP, hL, hK, hT, hR, hS⟩ := hI
  have hν : ∀ {r : Nat → Nat → Nat → Prop}, (¬ r 10 0 14) → AG r ν (as_I ν 10 0 14 q) := fun hr t n k hh => ag_I_n (fun e => by obtain ⟨rfl, rfl, rfl⟩ := e; exact hr hh)
  refine ⟨hX, XC_A (hν (by unfold rC; omega)) hC, XH_A (hν (by unfold rH; omega)) (XH_B (fun t n k h => ag_I_n (by omega)) (fun _ _ _ _ => rfl) (fun _ _ => rfl) (Nat.le_refl _) hH), XP_A (hν (by unfold rP; omega)) (XP_B (fun t n k h => ag_I_n (by omega)) (fun _ _ _ _ => rfl) (fun _ _ => rfl) (Nat.le_refl _) hP), XL_A (hν (by unfold rL; omega)) (XL_B (fun t n k h => ag_I_n (by omega)) (fun _ _ _ => rfl) (fun _ _ _ _ _ => rfl) (Nat.le_refl _) hL), XK_A (hν (by unfold rL; omega)) (XK_B (fun _ _ => ag_I_n (by omega)) hK), ⟨?_, fun i hi => ?_⟩, XR_A (hν (by unfold rR; omega)) (XR_B ⟨ag_I_n (by omega), ag_I_n (by omega)⟩ rfl (fun _ _ _ => ag_I_n (by omega)) (Nat.le_refl _) hR), XS_B (fun _ _ _ _ => ag_I_n (by omega)) hS⟩
  · rw [ag_I_y, ag_I_y]
  · rw [ag_I_y] at hi
    rw [ag_I_n (by omega), ag_I_n (by omega)]
    exact hT.2 i (by omega)
/-- a home likes -/
theorem IX_likeH {ν μ : ab_M} {hl hw pl tm : Nat → Nat} {ow : Nat → Nat × Nat} {tc : Nat} (hI : IX ν μ hl hw pl tm ow tc) (h p : Nat) (q : Int) (hh : (h : Int) < ag_I ν 10 0 1) (hp : p < 8) : IX (as_I ν 11 28 (8 * h + p) q) (as_I μ 11 (hl h) p q) hl hw pl tm ow tc := by
  obtain ⟨hX, hC, hH, hP, hL, hK, hT, hR, hS⟩ := hI
  have hν : ∀ {r : Nat → Nat → Nat → Prop}, (∀ k, ¬ r 11 28 k) → AG r ν (as_I ν 11 28 (8 * h + p) q) := fun hr t n k hh => ag_I_n (fun e => by obtain ⟨rfl, rfl, rfl⟩ := e; exact hr _ hh)
  obtain ⟨_, _, _, _, ⟨⟨g1, g2⟩, _⟩, ⟨g3, _⟩, _, _⟩ := hH h hh
  refine ⟨hX, XC_A (hν (fun k => by unfold rC; omega)) hC, ?_, XP_A (hν (fun k => by unfold rP; omega)) ?_, XL_A (hν (fun k => by unfold rL; omega)) (XL_B (fun t n k h => ag_I_n (by omega)) (fun _ _ _ => rfl) (fun _ _ _ _ _ => rfl) (Nat.le_refl _) hL), XK_A (hν (fun k => by unfold rL; omega)) (XK_B (fun _ _ => ag_I_n (by omega)) hK), XT_A (hν (fun k => by unfold rT; omega)) (XT_B (ag_I_n (by omega)) (fun _ => ag_I_n (by omega)) hT), XR_A (hν (fun k => by unfold rR; omega)) (XR_B ⟨ag_I_n (by omega), ag_I_n (by omega)⟩ rfl (fun _ _ _ => ag_I_n (by omega)) (Nat.le_refl _) hR), XS_B (fun _ _ _ _ => ag_I_n (by omega)) hS⟩
  · intro n hn
    obtain ⟨e15, ⟨e40, e41, e42, e43⟩, ⟨e44, e45, e46⟩, h8, hrng, ⟨how1, how2⟩, hlk, hwk⟩ := hH n hn
    have em : m_l (as_I ν 11 28 (8 * h + p) q) n = m_l ν n := m_lf_c (ν := ν) (ν' := as_I ν 11 28 (8 * h + p) q) (fun j => ag_I_n (by omega)) (fun j => ag_I_n (by omega)) n _
    refine ⟨e15, ⟨?_, ?_, ?_, ?_⟩, ⟨e44, e45, by rw [em]; exact e46⟩, h8, hrng, ⟨how1, how2⟩, fun i hi => ?_, fun q1 w hw2 => ?_⟩
    · rw [ag_I_n (by omega), ag_I_n (by omega)]; exact e40
    · rw [ag_I_n (by omega), ag_I_n (by omega)]; exact e41
    · rw [ag_I_n (by omega), ag_I_n (by omega)]; exact e42
    · rw [ag_I_n (by omega), ag_I_n (by omega)]; exact e43
    · by_cases e : n = h ∧ i = p
      · obtain ⟨rfl, rfl⟩ := e
        rw [ag_I_y, ag_I_y]
      · rw [ag_I_n (fun w => e ⟨?_, w.2.2⟩), ag_I_n (by omega)]
        · exact hlk i hi
        · have := how1.symm.trans ((congrArg ow w.2.1).trans g3)
          exact (Prod.mk.inj this).2
    · rw [em] at q1 ⊢
      rw [ag_I_n (fun w2 => ?_)]
      · have := hwk q1 w hw2
        rw [this]
        unfold m_ju
        rw [ag_I_n (by omega), ag_I_n (by omega), ag_I_n (by omega), ag_I_n (by omega)]
      · have := how2.symm.trans ((congrArg ow w2.2.1).trans g3)
        exact absurd (Prod.mk.inj this).1 (by omega)
  · intro n hn
    obtain ⟨p14, p3, p33, pL8, prng, pow, plk⟩ := hP n hn
    refine ⟨p14, ⟨?_, ?_, ?_, ?_⟩, p33, pL8, prng, pow, fun i hi => ?_⟩
    · rw [ag_I_n (by omega)]; exact p3.1
    · rw [ag_I_n (by omega)]; exact p3.2.1
    · rw [ag_I_n (by omega)]; exact p3.2.2.1
    · rw [ag_I_n (by omega)]; exact p3.2.2.2
    · rw [ag_I_n (fun w => ?_)]
      · exact plk i hi
      · have := pow.symm.trans ((congrArg ow w.2.1).trans g3)
        exact absurd (Prod.mk.inj this).1 (by omega)
/-- a helper likes -/
theorem IX_likeP {ν μ : ab_M} {hl hw pl tm : Nat → Nat} {ow : Nat → Nat × Nat} {tc : Nat} (hI : IX ν μ hl hw pl tm ow tc) (h p : Nat) (q : Int) (hh : h < 8) (hp : (p : Int) < ag_I ν 10 0 6) (hp8 : p < 8) (h68 : ag_I ν 10 0 6 ≤ 8) : IX (as_I ν 11 29 (8 * h + p) q) (as_I μ 11 (pl p) h q) hl hw pl tm ow tc := by
  obtain ⟨hX, hC, hH, hP, hL, hK, hT, hR, hS⟩ := hI
  have hν : ∀ {r : Nat → Nat → Nat → Prop}, (∀ k, ¬ r 11 29 k) → AG r ν (as_I ν 11 29 (8 * h + p) q) := fun hr t n k hh => ag_I_n (fun e => by obtain ⟨rfl, rfl, rfl⟩ := e; exact hr _ hh)
  obtain ⟨_, _, _, _, ⟨g1, g2⟩, g3, _⟩ := hP p hp
  refine ⟨hX, XC_A (hν (fun k => by unfold rC; omega)) hC, XH_A (hν (fun k => by unfold rH; omega)) ?_, ?_, XL_A (hν (fun k => by unfold rL; omega)) (XL_B (fun t n k h => ag_I_n (by omega)) (fun _ _ _ => rfl) (fun _ _ _ _ _ => rfl) (Nat.le_refl _) hL), XK_A (hν (fun k => by unfold rL; omega)) (XK_B (fun _ _ => ag_I_n (by omega)) hK), XT_A (hν (fun k => by unfold rT; omega)) (XT_B (ag_I_n (by omega)) (fun _ => ag_I_n (by omega)) hT), XR_A (hν (fun k => by unfold rR; omega)) (XR_B ⟨ag_I_n (by omega), ag_I_n (by omega)⟩ rfl (fun _ _ _ => ag_I_n (by omega)) (Nat.le_refl _) hR), XS_B (fun _ _ _ _ => ag_I_n (by omega)) hS⟩
  · intro n hn
    obtain ⟨e15, e4, e5, h8, hrng, ⟨how1, how2⟩, hlk, hwk⟩ := hH n hn
    refine ⟨e15, ⟨?_, ?_, ?_, ?_⟩, e5, h8, hrng, ⟨how1, how2⟩, fun i hi => ?_, fun q1 w hw2 => ?_⟩
    · rw [ag_I_n (by omega)]; exact e4.1
    · rw [ag_I_n (by omega)]; exact e4.2.1
    · rw [ag_I_n (by omega)]; exact e4.2.2.1
    · rw [ag_I_n (by omega)]; exact e4.2.2.2
    · rw [ag_I_n (fun w => ?_)]
      · exact hlk i hi
      · have := how1.symm.trans ((congrArg ow w.2.1).trans g3)
        exact absurd (Prod.mk.inj this).1 (by omega)
    · rw [ag_I_n (fun w2 => ?_)]
      · exact hwk q1 w hw2
      · have := how2.symm.trans ((congrArg ow w2.2.1).trans g3)
        exact absurd (Prod.mk.inj this).1 (by omega)
  · intro n hn
    rw [ag_I_n (by omega)] at hn
    obtain ⟨p14, p3, ⟨p33, p35⟩, pL8, prng, pow, plk⟩ := hP n hn
    refine ⟨p14, ⟨?_, ?_, ?_, ?_⟩, ⟨p33, ?_⟩, pL8, prng, pow, fun i hi => ?_⟩
    · rw [ag_I_n (by omega), ag_I_n (by omega)]; exact p3.1
    · rw [ag_I_n (by omega), ag_I_n (by omega)]; exact p3.2.1
    · rw [ag_I_n (by omega), ag_I_n (by omega)]; exact p3.2.2.1
    · rw [ag_I_n (by omega), ag_I_n (by omega)]; exact p3.2.2.2
    · rw [m_pf_c (fun j => ag_I_n (by omega)) (fun j => ag_I_n (by omega)), ag_I_n (by omega)]; exact p35
    · by_cases e : n = p ∧ i = h
      · obtain ⟨rfl, rfl⟩ := e
        rw [ag_I_y, ag_I_y]
      · rw [ag_I_n (fun w => e ⟨?_, w.2.2⟩), ag_I_n (by omega)]
        · exact plk i hi
        · have := pow.symm.trans ((congrArg ow w.2.1).trans g3)
          exact (Prod.mk.inj this).2
theorem sp_xlike (d : Nat) (h p u v : Int) {ν μ : ab_M} {hl hw pl tm : Nat → Nat} {ow : Nat → Nat × Nat} {tc : Nat} (hI : IX ν μ hl hw pl tm ow tc) (hZ : WR ν) : Wp (d + 3) 73 [ab_r 9 (some 0), ab_i h, ab_i p, ab_i u, ab_i v] μ (fun vv μ' => ((0 ≤ h ∧ h < ag_I ν 10 0 1) ∧ (0 ≤ p ∧ p < ag_I ν 10 0 6) ∧ (0 ≤ v ∧ v ≤ 99) → vv = some (ab_i 1) ∧ μ' = if u = 0 then as_I μ 11 (hl h.toNat) p.toNat v else as_I μ 11 (pl p.toNat) h.toNat v) ∧ (¬ ((0 ≤ h ∧ h < ag_I ν 10 0 1) ∧ (0 ≤ p ∧ p < ag_I ν 10 0 6) ∧ (0 ≤ v ∧ v ≤ 99)) → vv = some (ab_i 0) ∧ μ' = μ)) := by
  refine wp_of ?_
  obtain ⟨hX, hC, hH, hP, hL, hK, hT, hR, hS⟩ := id hI
  obtain ⟨z1, z6, z26, z0, z14⟩ := id hZ
  obtain ⟨c7, c8, c9, cC4, cC3, cC6, cC11⟩ := id hC
  by_cases hh : (0 ≤ h ∧ h < ag_I ν 10 0 1)
  · by_cases hp : (0 ≤ p ∧ p < ag_I ν 10 0 6)
    · obtain ⟨e15, e4, ⟨e44, e45, e46⟩, ⟨hL8, hL501⟩, hrng, how, hlk, hwk⟩ := hH h.toNat (by omega)
      obtain ⟨p14, p3, ⟨p33, p35⟩, pL8, prng, pow, plk⟩ := hP p.toNat (by omega)
      refine wg_s rfl rfl ?_
      refine wg_s rfl rfl ?_
      refine wg_cf rfl rfl (sp_homeAt_t _ _ hI hZ hh) ?_
      refine wg_s rfl rfl ?_
      refine wg_s rfl rfl ?_
      refine wg_s rfl rfl ?_
      refine wg_cf rfl rfl (sp_helperAt_t _ _ hI hZ hp) ?_
      refine wg_s rfl rfl ?_
      refine wg_s rfl rfl ?_
      refine wg_s rfl rfl ?_
      refine wg_s rfl rfl ?_
      refine wg_s rfl rfl ?_
      refine wg_s rfl rfl ?_
      refine wg_s rfl rfl ?_
      refine wg_cf rfl rfl (sp_within _ _ _ _) ?_
      refine wg_neb rfl (fun h31 => ?_) (fun h31 => ?_)
      · refine wg_s rfl rfl ?_
        refine wg_if rfl rfl (fun h37 => ?_) (fun h37 => ?_)
        · refine wg_s rfl rfl ?_
          refine wg_gr rfl rfl e44 ?_
          refine wg_s rfl rfl ?_
          refine wg_s rfl rfl ?_
          refine wg_axs rfl hL8 (by omega) (by omega) ?_
          refine wg_s rfl rfl ?_
          exact wg_ret rfl rfl (Or.inr rfl) ⟨fun _ => ⟨rfl, by first | rw [if_pos h37] | rw [if_neg h37]⟩, fun h => absurd ⟨hh, hp, by omega⟩ h⟩
        · refine wg_s rfl rfl ?_
          refine wg_gr rfl rfl p33 ?_
          refine wg_s rfl rfl ?_
          refine wg_s rfl rfl ?_
          refine wg_axs rfl pL8 (by omega) (by omega) ?_
          refine wg_s rfl rfl ?_
          refine wg_s rfl rfl ?_
          exact wg_ret rfl rfl (Or.inr rfl) ⟨fun _ => ⟨rfl, by first | rw [if_pos h37] | rw [if_neg h37]⟩, fun h => absurd ⟨hh, hp, by omega⟩ h⟩
      · refine wg_s rfl rfl ?_
        exact wg_ret rfl rfl (Or.inl rfl) ⟨fun h => absurd h.2.2 (by omega), fun _ => ⟨rfl, rfl⟩⟩
    · refine wg_s rfl rfl ?_
      refine wg_s rfl rfl ?_
      refine wg_cf rfl rfl (sp_homeAt_t _ _ hI hZ hh) ?_
      refine wg_s rfl rfl ?_
      refine wg_s rfl rfl ?_
      refine wg_s rfl rfl ?_
      refine wg_cf rfl rfl (sp_helperAt_f _ _ hI hZ hp) ?_
      refine wg_s rfl rfl ?_
      refine wg_s rfl rfl ?_
      refine wg_s rfl rfl ?_
      refine wg_s rfl rfl ?_
      refine wg_s rfl rfl ?_
      refine wg_s rfl rfl ?_
      exact wg_ret rfl rfl (Or.inl rfl) ⟨fun h => absurd h.2.1 hp, fun _ => ⟨rfl, rfl⟩⟩
  · by_cases hp : (0 ≤ p ∧ p < ag_I ν 10 0 6)
    · refine wg_s rfl rfl ?_
      refine wg_s rfl rfl ?_
      refine wg_cf rfl rfl (sp_homeAt_f _ _ hI hZ hh) ?_
      refine wg_s rfl rfl ?_
      refine wg_s rfl rfl ?_
      refine wg_s rfl rfl ?_
      refine wg_cf rfl rfl (sp_helperAt_t _ _ hI hZ hp) ?_
      refine wg_s rfl rfl ?_
      refine wg_s rfl rfl ?_
      refine wg_s rfl rfl ?_
      refine wg_s rfl rfl ?_
      exact wg_ret rfl rfl (Or.inl rfl) ⟨fun h => absurd h.1 hh, fun _ => ⟨rfl, rfl⟩⟩
    · refine wg_s rfl rfl ?_
      refine wg_s rfl rfl ?_
      refine wg_cf rfl rfl (sp_homeAt_f _ _ hI hZ hh) ?_
      refine wg_s rfl rfl ?_
      refine wg_s rfl rfl ?_
      refine wg_s rfl rfl ?_
      refine wg_cf rfl rfl (sp_helperAt_f _ _ hI hZ hp) ?_
      refine wg_s rfl rfl ?_
      refine wg_s rfl rfl ?_
      refine wg_s rfl rfl ?_
      refine wg_s rfl rfl ?_
      exact wg_ret rfl rfl (Or.inl rfl) ⟨fun h => absurd h.1 hh, fun _ => ⟨rfl, rfl⟩⟩
