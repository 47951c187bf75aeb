/-! ===== the class: check, like, end ===== -/
theorem ag_I_n {μ : ab_M} {t n k : Nat} {x : Int} {t' n' k' : Nat} (h : ¬ (t' = t ∧ n' = n ∧ k' = k)) : ag_I (as_I μ t n k x) t' n' k' = ag_I μ t' n' k' := ag_I_I.trans (if_neg h)
theorem ag_I_y (μ : ab_M) (t n k : Nat) (x : Int) : ag_I (as_I μ t n k x) t n k = x := ag_I_I.trans (if_pos ⟨rfl, rfl, rfl⟩)
theorem IX_check {ν μ : ab_M} {hl hw pl tm : Nat → Nat} {ow : Nat → Nat × Nat} {tc : Nat} (hI : IX ν μ hl hw pl tm ow tc) (p : Nat) (q : Int) (hp : (p : Int) < ag_I ν 10 0 6) : IX (as_I ν 11 27 p q) (as_I μ 3 p 4 q) hl hw pl tm ow tc := by
  obtain ⟨hX, hC, hH, hP, hL, hK, hT, hR, hS⟩ := hI
  have hν : ∀ {r : Nat → Nat → Nat → Prop}, (∀ k, ¬ r 11 27 k) → AG r ν (as_I ν 11 27 p q) := fun hr t n k hh => ag_I_n (fun e => by obtain ⟨rfl, rfl, rfl⟩ := e; exact hr _ hh)
  refine ⟨hX, XC_A (hν (fun k => by unfold rC; omega)) hC, XH_A (hν (fun k => by unfold rH; omega)) (XH_B (fun t n k h => ag_I_n (by omega)) (fun _ _ _ _ => rfl) (fun _ _ => rfl) (Nat.le_refl _) hH), ?_, XL_A (hν (fun k => by unfold rL; omega)) (XL_B (fun t n k h => ag_I_n (by omega)) (fun _ _ _ => rfl) (fun _ _ _ _ _ => rfl) (Nat.le_refl _) hL), XK_A (hν (fun k => by unfold rL; omega)) (XK_B (fun _ _ => ag_I_n (by omega)) hK), XT_A (hν (fun k => by unfold rT; omega)) (XT_B (ag_I_n (by omega)) (fun _ => ag_I_n (by omega)) hT), XR_A (hν (fun k => by unfold rR; omega)) (XR_B ⟨ag_I_n (by omega), ag_I_n (by omega)⟩ rfl (fun _ _ _ => ag_I_n (by omega)) (Nat.le_refl _) hR), XS_B (fun _ _ _ _ => ag_I_n (by omega)) hS⟩
  intro n hn
  obtain ⟨p14, ⟨p30, p31, p32, p34⟩, ⟨p33, p35⟩, pL8, prng, pow, plk⟩ := hP n hn
  refine ⟨p14, ⟨?_, ?_, ?_, ?_⟩, ⟨p33, ?_⟩, pL8, prng, pow, fun i hi => ?_⟩
  · rw [ag_I_n (by omega), ag_I_n (by omega)]; exact p30
  · rw [ag_I_n (by omega), ag_I_n (by omega)]; exact p31
  · rw [ag_I_n (by omega), ag_I_n (by omega)]; exact p32
  · by_cases e : n = p
    · subst e; rw [ag_I_y, ag_I_y]
    · rw [ag_I_n (by omega), ag_I_n (by omega)]; exact p34
  · rw [m_pf_c (fun j => ag_I_n (by omega)) (fun j => ag_I_n (by omega)), ag_I_n (by omega)]; exact p35
  · rw [ag_I_n (by omega), ag_I_n (by omega)]; exact plk i hi
theorem sp_xcheck (d : Nat) (p q : Int) {ν μ : ab_M} {hl hw pl tm : Nat → Nat} {ow : Nat → Nat × Nat} {tc : Nat} (hI : IX ν μ hl hw pl tm ow tc) (hZ : WR ν) : Wp (d + 3) 72 [ab_r 9 (some 0), ab_i p, ab_i q] μ (fun vv μ' => ((0 ≤ p ∧ p < ag_I ν 10 0 6) ∧ (0 ≤ q ∧ q ≤ 500) → vv = some (ab_i 1) ∧ μ' = as_I μ 3 p.toNat 4 q) ∧ (¬ ((0 ≤ p ∧ p < ag_I ν 10 0 6) ∧ (0 ≤ q ∧ q ≤ 500)) → vv = some (ab_i 0) ∧ μ' = μ)) := by
  refine wp_of ?_
  obtain ⟨hX, hC, hH, hP, hL, hK, hT, hR, hS⟩ := id hI
  obtain ⟨z1, z6, z26, z0, z14⟩ := id hZ
  obtain ⟨c7, c8, c9, cC4, cC3, cC6, cC11⟩ := id hC
  by_cases hp : (0 ≤ p ∧ p < ag_I ν 10 0 6)
  · refine wg_s rfl rfl ?_
    refine wg_s rfl rfl ?_
    refine wg_cf rfl rfl (sp_helperAt_t _ _ hI hZ hp) ?_
    refine wg_s rfl rfl ?_
    refine wg_s rfl rfl ?_
    refine wg_s rfl rfl ?_
    refine wg_s rfl rfl ?_
    refine wg_cf rfl rfl (sp_isWeek _ _ _) ?_
    refine wg_neb rfl (fun h14 => ?_) (fun h14 => ?_)
    · refine wg_s rfl rfl ?_
      refine wg_s rfl rfl ?_
      refine wg_s rfl rfl ?_
      refine wg_s rfl rfl ?_
      exact wg_ret rfl rfl (Or.inr rfl) ⟨fun _ => ⟨rfl, rfl⟩, fun h => absurd ⟨hp, by omega⟩ h⟩
    · refine wg_s rfl rfl ?_
      exact wg_ret rfl rfl (Or.inl rfl) ⟨fun h => absurd h.2 (by omega), fun _ => ⟨rfl, rfl⟩⟩
  · refine wg_s rfl rfl ?_
    refine wg_s rfl rfl ?_
    refine wg_cf rfl rfl (sp_helperAt_f _ _ hI hZ hp) ?_
    refine wg_s rfl rfl ?_
    refine wg_s rfl rfl ?_
    refine wg_s rfl rfl ?_
    refine wg_s rfl rfl ?_
    exact wg_ret rfl rfl (Or.inl rfl) ⟨fun h => absurd h.1 hp, fun _ => ⟨rfl, rfl⟩⟩
theorem sp_cutTo (d : Nat) (n : Int) {ν μ : ab_M} {hl hw pl tm : Nat → Nat} {ow : Nat → Nat × Nat} {tc : Nat} (hI : IX ν μ hl hw pl tm ow tc) (hZ : WR ν) : Wp (d + 1) 66 [ab_r 7 (some 0), ab_i n] μ (fun vv μ' => (0 ≤ n ∧ n ≤ ag_I ν 10 0 14 → vv = some (ab_i 1) ∧ μ' = as_I μ 7 0 1 n) ∧ (¬ (0 ≤ n ∧ n ≤ ag_I ν 10 0 14) → vv = some (ab_i 0) ∧ μ' = μ)) := by
  refine wp_of ?_
  obtain ⟨hX, hC, hH, hP, hL, hK, hT, hR, hS⟩ := id hI
  obtain ⟨z1, z6, z26, z0, z14⟩ := id hZ
  obtain ⟨c7, c8, c9, cC4, cC3, cC6, cC11⟩ := id hC
  refine wg_s rfl rfl ?_
  refine wg_if rfl rfl (fun h1 => ?_) (fun h1 => ?_)
  · refine wg_s rfl rfl ?_
    exact wg_ret rfl rfl (Or.inl rfl) ⟨fun h => absurd h (by omega), fun _ => ⟨rfl, rfl⟩⟩
  · refine wg_s rfl rfl ?_
    refine wg_s rfl rfl ?_
    refine wg_gi rfl rfl (show _ = ag_I ν 10 0 14 from hT.1) ?_
    refine wg_if rfl rfl (fun h9 => ?_) (fun h9 => ?_)
    · refine wg_s rfl rfl ?_
      refine wg_s rfl rfl ?_
      refine wg_s rfl rfl ?_
      refine wg_s rfl rfl ?_
      exact wg_ret rfl rfl (Or.inr rfl) ⟨fun _ => ⟨rfl, rfl⟩, fun h => absurd (by omega) h⟩
    · refine wg_s rfl rfl ?_
      exact wg_ret rfl rfl (Or.inl rfl) ⟨fun h => absurd h (by omega), fun _ => ⟨rfl, rfl⟩⟩
theorem sp_xend (d : Nat) (n : Int) {ν μ : ab_M} {hl hw pl tm : Nat → Nat} {ow : Nat → Nat × Nat} {tc : Nat} (hI : IX ν μ hl hw pl tm ow tc) (hZ : WR ν) : Wp (d + 2) 81 [ab_r 9 (some 0), ab_i n] μ (fun vv μ' => (0 ≤ n ∧ n ≤ ag_I ν 10 0 14 → vv = some (ab_i n) ∧ μ' = as_I μ 7 0 1 n) ∧ (¬ (0 ≤ n ∧ n ≤ ag_I ν 10 0 14) → vv = some (ab_i (-1)) ∧ μ' = μ)) := by
  refine wp_of ?_
  obtain ⟨hX, hC, hH, hP, hL, hK, hT, hR, hS⟩ := id hI
  obtain ⟨z1, z6, z26, z0, z14⟩ := id hZ
  obtain ⟨c7, c8, c9, cC4, cC3, cC6, cC11⟩ := id hC
  refine wg_s rfl rfl ?_
  refine wg_gx rfl rfl hX ?_
  refine wg_s rfl rfl ?_
  refine wg_call rfl rfl (sp_cutTo _ n hI hZ) (fun vv μ' h => ?_)
  by_cases c : 0 ≤ n ∧ n ≤ ag_I ν 10 0 14
  · obtain ⟨rfl, rfl⟩ := h.1 c
    refine wg_s rfl rfl ?_
    refine wg_s rfl rfl ?_
    refine wg_s rfl rfl ?_
    exact wg_ret rfl rfl trivial ⟨fun _ => ⟨rfl, rfl⟩, fun h => absurd c h⟩
  · obtain ⟨rfl, rfl⟩ := h.2 c
    refine wg_s rfl rfl ?_
    refine wg_s rfl rfl ?_
    exact wg_ret rfl rfl trivial ⟨fun h => absurd h c, fun _ => ⟨rfl, rfl⟩⟩
