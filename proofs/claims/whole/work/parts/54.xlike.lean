/-! ===== the class: end, like: the relation ===== -/
theorem IX_end {ν μ : ab_M} {hl hw pl tm : Nat → Nat} {ow : Nat → Nat × Nat} {tc : Nat} (hI : IX ν μ hl hw pl tm ow tc) (q : Int) (hq : 0 ≤ q ∧ q ≤ ag_I ν 10 0 14) : IX (as_I ν 10 0 14 q) (as_I μ 7 0 1 q) hl hw pl tm ow tc := by
  obtain ⟨hX, hC, hH, hP, hL, hK, hT, hR, hS⟩ := hI
  have hν : ∀ {r : Nat → Nat → Nat → Prop}, (¬ r 10 0 14) → AG r ν (as_I ν 10 0 14 q) := fun hr t n k hh => ag_I_n (fun e => by obtain ⟨rfl, rfl, rfl⟩ := e; exact hr hh)
  refine ⟨hX, XC_A (hν (by unfold rC; omega)) hC, XH_A (hν (by unfold rH; omega)) (XH_B (fun t n k h => ag_I_n (by omega)) (fun _ _ _ _ => rfl) (fun _ _ => rfl) (Nat.le_refl _) hH), XP_A (hν (by unfold rP; omega)) (XP_B (fun t n k h => ag_I_n (by omega)) (fun _ _ _ _ => rfl) (fun _ _ => rfl) (Nat.le_refl _) hP), XL_A (hν (by unfold rL; omega)) (XL_B (fun t n k h => ag_I_n (by omega)) (fun _ _ _ => rfl) (fun _ _ _ _ _ => rfl) (Nat.le_refl _) hL), XK_A (hν (by unfold rL; omega)) (XK_B (fun _ _ => ag_I_n (by omega)) hK), ⟨?_, fun i hi => ?_⟩, XR_A (hν (by unfold rR; omega)) (XR_B ⟨ag_I_n (by omega), ag_I_n (by omega)⟩ rfl (fun _ _ _ => ag_I_n (by omega)) (Nat.le_refl _) hR), XS_B (fun _ _ => ag_I_n (by omega)) hS⟩
  · rw [ag_I_y, ag_I_y]
  · rw [ag_I_y] at hi
    rw [ag_I_n (by omega), ag_I_n (by omega)]
    exact hT.2 i (by omega)
/-- a home likes -/
theorem IX_likeH {ν μ : ab_M} {hl hw pl tm : Nat → Nat} {ow : Nat → Nat × Nat} {tc : Nat} (hI : IX ν μ hl hw pl tm ow tc) (h p : Nat) (q : Int) (hh : (h : Int) < ag_I ν 10 0 1) (hp : p < 8) : IX (as_I ν 11 28 (8 * h + p) q) (as_I μ 11 (hl h) p q) hl hw pl tm ow tc := by
  obtain ⟨hX, hC, hH, hP, hL, hK, hT, hR, hS⟩ := hI
  have hν : ∀ {r : Nat → Nat → Nat → Prop}, (∀ k, ¬ r 11 28 k) → AG r ν (as_I ν 11 28 (8 * h + p) q) := fun hr t n k hh => ag_I_n (fun e => by obtain ⟨rfl, rfl, rfl⟩ := e; exact hr _ hh)
  obtain ⟨_, _, _, _, ⟨⟨g1, g2⟩, _⟩, ⟨g3, _⟩, _, _⟩ := hH h hh
  refine ⟨hX, XC_A (hν (fun k => by unfold rC; omega)) hC, ?_, XP_A (hν (fun k => by unfold rP; omega)) ?_, XL_A (hν (fun k => by unfold rL; omega)) (XL_B (fun t n k h => ag_I_n (by omega)) (fun _ _ _ => rfl) (fun _ _ _ _ _ => rfl) (Nat.le_refl _) hL), XK_A (hν (fun k => by unfold rL; omega)) (XK_B (fun _ _ => ag_I_n (by omega)) hK), XT_A (hν (fun k => by unfold rT; omega)) (XT_B (ag_I_n (by omega)) (fun _ => ag_I_n (by omega)) hT), XR_A (hν (fun k => by unfold rR; omega)) (XR_B ⟨ag_I_n (by omega), ag_I_n (by omega)⟩ rfl (fun _ _ _ => ag_I_n (by omega)) (Nat.le_refl _) hR), XS_B (fun _ _ => ag_I_n (by omega)) hS⟩
  · intro n hn
    obtain ⟨e15, ⟨e40, e41, e42, e43⟩, ⟨e44, e45, e46⟩, h8, hrng, ⟨how1, how2⟩, hlk, hwk⟩ := hH n hn
    have em : m_l (as_I ν 11 28 (8 * h + p) q) n = m_l ν n := m_lf_c (ν := ν) (ν' := as_I ν 11 28 (8 * h + p) q) (fun j => ag_I_n (by omega)) (fun j => ag_I_n (by omega)) n _
    refine ⟨e15, ⟨?_, ?_, ?_, ?_⟩, ⟨e44, e45, by rw [em]; exact e46⟩, h8, hrng, ⟨how1, how2⟩, fun i hi => ?_, fun q1 w hw2 => ?_⟩
    · rw [ag_I_n (by omega), ag_I_n (by omega)]; exact e40
    · rw [ag_I_n (by omega), ag_I_n (by omega)]; exact e41
    · rw [ag_I_n (by omega), ag_I_n (by omega)]; exact e42
    · rw [ag_I_n (by omega), ag_I_n (by omega)]; exact e43
    · by_cases e : n = h ∧ i = p
      · obtain ⟨rfl, rfl⟩ := e
        rw [ag_I_y, ag_I_y]
      · rw [ag_I_n (fun w => e ⟨?_, w.2.2⟩), ag_I_n (by omega)]
        · exact hlk i hi
        · have := how1.symm.trans ((congrArg ow w.2.1).trans g3)
          exact (Prod.mk.inj this).2
    · rw [em] at q1 ⊢
      rw [ag_I_n (fun w2 => ?_)]
      · have := hwk q1 w hw2
        rw [this]
        unfold m_ju
        rw [ag_I_n (by omega), ag_I_n (by omega), ag_I_n (by omega), ag_I_n (by omega)]
      · have := how2.symm.trans ((congrArg ow w2.2.1).trans g3)
        exact absurd (Prod.mk.inj this).1 (by omega)
  · intro n hn
    obtain ⟨p14, p3, p33, pL8, prng, pow, plk⟩ := hP n hn
    refine ⟨p14, ⟨?_, ?_, ?_, ?_⟩, p33, pL8, prng, pow, fun i hi => ?_⟩
    · rw [ag_I_n (by omega)]; exact p3.1
    · rw [ag_I_n (by omega)]; exact p3.2.1
    · rw [ag_I_n (by omega)]; exact p3.2.2.1
    · rw [ag_I_n (by omega)]; exact p3.2.2.2
    · rw [ag_I_n (fun w => ?_)]
      · exact plk i hi
      · have := pow.symm.trans ((congrArg ow w.2.1).trans g3)
        exact absurd (Prod.mk.inj this).1 (by omega)
