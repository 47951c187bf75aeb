theorem sp_xholds (d : Nat) (p : Nat) {ν μ : ab_M} {hl hw pl tm : Nat → Nat} {ow : Nat → Nat × Nat} {tc : Nat} (hI : IX ν μ hl hw pl tm ow tc) (hZ : WR ν) (hp : (p : Int) < ag_I ν 10 0 6) : Wp (d + 1) 101 [ab_r 9 (some 0), ab_r 3 (some p)] μ (fun vv μ' => vv = some (ab_i (bI (ag_I ν 10 0 0 ≤ ag_I ν 11 27 p))) ∧ μ' = μ) := by
  refine wp_of ?_
  obtain ⟨hX, hC, hH, hP, hL, hK, hT, hR, hS⟩ := id hI
  obtain ⟨z1, z6, z26, z0, z14⟩ := id hZ
  obtain ⟨c7, c8, c9, cC4, cC3, cC6, cC11⟩ := id hC
  obtain ⟨p14, ⟨p30, p31, p32, p34⟩, ⟨p33, p35⟩, pL8, prng, pow, plk⟩ := hP p hp
  refine wg_s rfl rfl ?_
  refine wg_gi rfl rfl (show _ = ag_I ν 11 27 p from p34) ?_
  refine wg_s rfl rfl ?_
  refine wg_gi rfl rfl (show _ = ag_I ν 10 0 0 from c9) ?_
  refine wg_if rfl rfl (fun h8 => ?_) (fun h8 => ?_)
  · refine wg_s rfl rfl ?_
    refine wg_ret rfl rfl (by first | exact Or.inl rfl | exact Or.inr rfl) ⟨?_, rfl⟩
    first | rw [bI_t (by omega)] | rw [bI_f (by omega)]
  · refine wg_s rfl rfl ?_
    refine wg_s rfl rfl ?_
    refine wg_ret rfl rfl (by first | exact Or.inl rfl | exact Or.inr rfl) ⟨?_, rfl⟩
    first | rw [bI_t (by omega)] | rw [bI_f (by omega)]
theorem sp_hind (d : Nat) (h p : Nat) {ν μ : ab_M} {hl hw pl tm : Nat → Nat} {ow : Nat → Nat × Nat} {tc : Nat} (hI : IX ν μ hl hw pl tm ow tc) (hZ : WR ν) (hh : (h : Int) < ag_I ν 10 0 1) (hp : (p : Int) < ag_I ν 10 0 6) : Wp (d + 2) 100 [ab_r 9 (some 0), ab_r 4 (some h), ab_r 3 (some p)] μ (fun vv μ' => vv = some (ab_i (m_why ν h p)) ∧ μ' = μ) := by
  refine wp_of ?_
  obtain ⟨hX, hC, hH, hP, hL, hK, hT, hR, hS⟩ := id hI
  obtain ⟨z1, z6, z26, z0, z14⟩ := id hZ
  obtain ⟨c7, c8, c9, cC4, cC3, cC6, cC11⟩ := id hC
  obtain ⟨e15, ⟨e40, e41, e42, e43⟩, ⟨e44, e45, e46⟩, ⟨hL8, hL501⟩, hrng, how, hlk, hwk⟩ := hH h hh
  obtain ⟨p14, ⟨p30, p31, p32, p34⟩, ⟨p33, p35⟩, pL8, prng, pow, plk⟩ := hP p hp
  refine wg_s rfl rfl ?_
  refine wg_gi rfl rfl (show _ = ag_I ν 11 22 h from e42) ?_
  refine wg_s rfl rfl ?_
  refine wg_gi rfl rfl (show _ = ag_I ν 11 24 p from p30) ?_
  refine wg_s rfl rfl ?_
  refine wg_if rfl rfl (fun h9 => ?_) (fun h9 => ?_)
  · refine wg_s rfl rfl ?_
    refine wg_gi rfl rfl (show _ = ag_I ν 11 25 p from p31) ?_
    refine wg_s rfl rfl ?_
    refine wg_gi rfl rfl (show _ = ag_I ν 11 21 h from e41) ?_
    refine wg_s rfl rfl ?_
    refine wg_if rfl rfl (fun h23 => ?_) (fun h23 => ?_)
    · refine wg_s rfl rfl ?_
      refine wg_gi rfl rfl (show _ = ag_I ν 11 23 h from e43) ?_
      refine wg_s rfl rfl ?_
      refine wg_gi rfl rfl (show _ = ag_I ν 11 26 p from p32) ?_
      refine wg_if rfl rfl (fun h36 => ?_) (fun h36 => ?_)
      · refine wg_s rfl rfl ?_
        refine wg_s rfl rfl ?_
        refine wg_cf rfl rfl (sp_xholds _ _ hI hZ hp) ?_
        refine wg_eqb rfl (fun h46 => ?_) (fun h46 => ?_)
        · refine wg_s rfl rfl ?_
          refine wg_ret rfl rfl trivial ⟨?_, rfl⟩
          unfold m_why
          congr 2
          repeat (first | rw [if_pos (by omega)] | rw [if_neg (by omega)])
        · refine wg_s rfl rfl ?_
          refine wg_s rfl rfl ?_
          refine wg_ret rfl rfl trivial ⟨?_, rfl⟩
          unfold m_why
          congr 2
          repeat (first | rw [if_pos (by omega)] | rw [if_neg (by omega)])
      · refine wg_s rfl rfl ?_
        refine wg_ret rfl rfl trivial ⟨?_, rfl⟩
        unfold m_why
        congr 2
        repeat (first | rw [if_pos (by omega)] | rw [if_neg (by omega)])
    · refine wg_s rfl rfl ?_
      refine wg_ret rfl rfl trivial ⟨?_, rfl⟩
      unfold m_why
      congr 2
      repeat (first | rw [if_pos (by omega)] | rw [if_neg (by omega)])
  · refine wg_s rfl rfl ?_
    refine wg_ret rfl rfl trivial ⟨?_, rfl⟩
    unfold m_why
    congr 2
    repeat (first | rw [if_pos (by omega)] | rw [if_neg (by omega)])
theorem sp_isWeekOf (d : Nat) (j : Nat) (w : Int) {ν μ : ab_M} {hl hw pl tm : Nat → Nat} {ow : Nat → Nat × Nat} {tc : Nat} (hI : IX ν μ hl hw pl tm ow tc) (hZ : WR ν) (hj : (j : Int) < ag_I ν 10 0 26) : Wp (d + 3) 102 [ab_r 9 (some 0), ab_r 6 (some j), ab_i w] μ (fun vv μ' => vv = some (ab_i (bI ((0 ≤ w ∧ w ≤ 500) ∧ ag_I ν 11 34 j ≤ w ∧ w ≤ ag_I ν 10 0 0))) ∧ μ' = μ) := by
  refine wp_of ?_
  obtain ⟨hX, hC, hH, hP, hL, hK, hT, hR, hS⟩ := id hI
  obtain ⟨z1, z6, z26, z0, z14⟩ := id hZ
  obtain ⟨c7, c8, c9, cC4, cC3, cC6, cC11⟩ := id hC
  obtain ⟨⟨j0, j1, j3, j4⟩, ⟨j2, jt⟩, jr, j17⟩ := hL j hj
  refine wg_s rfl rfl ?_
  refine wg_cf rfl rfl (sp_isWeek _ _ _) ?_
  refine wg_eqb rfl (fun h4 => ?_) (fun h4 => ?_)
  · refine wg_s rfl rfl ?_
    refine wg_ret rfl rfl (by first | exact Or.inl rfl | exact Or.inr rfl) ⟨?_, rfl⟩
    first | rw [bI_t (by omega)] | rw [bI_f (by omega)]
  · refine wg_s rfl rfl ?_
    refine wg_s rfl rfl ?_
    refine wg_gi rfl rfl (show _ = ag_I ν 11 34 j from j1) ?_
    refine wg_if rfl rfl (fun h12 => ?_) (fun h12 => ?_)
    · refine wg_s rfl rfl ?_
      refine wg_ret rfl rfl (by first | exact Or.inl rfl | exact Or.inr rfl) ⟨?_, rfl⟩
      first | rw [bI_t (by omega)] | rw [bI_f (by omega)]
    · refine wg_s rfl rfl ?_
      refine wg_s rfl rfl ?_
      refine wg_gi rfl rfl (show _ = ag_I ν 10 0 0 from c9) ?_
      refine wg_if rfl rfl (fun h20 => ?_) (fun h20 => ?_)
      · refine wg_s rfl rfl ?_
        refine wg_ret rfl rfl (by first | exact Or.inl rfl | exact Or.inr rfl) ⟨?_, rfl⟩
        first | rw [bI_t (by omega)] | rw [bI_f (by omega)]
      · refine wg_s rfl rfl ?_
        refine wg_s rfl rfl ?_
        refine wg_ret rfl rfl (by first | exact Or.inl rfl | exact Or.inr rfl) ⟨?_, rfl⟩
        first | rw [bI_t (by omega)] | rw [bI_f (by omega)]
theorem sp_xwhy (d : Nat) (h p : Int) {ν μ : ab_M} {hl hw pl tm : Nat → Nat} {ow : Nat → Nat × Nat} {tc : Nat} (hI : IX ν μ hl hw pl tm ow tc) (hZ : WR ν)  : Wp (d + 3) 74 [ab_r 9 (some 0), ab_i h, ab_i p] μ (fun vv μ' => vv = some (ab_i (if (0 ≤ h ∧ h < ag_I ν 10 0 1) ∧ (0 ≤ p ∧ p < ag_I ν 10 0 6) then m_why ν h.toNat p.toNat else -1)) ∧ μ' = μ) := by
  refine wp_of ?_
  obtain ⟨hX, hC, hH, hP, hL, hK, hT, hR, hS⟩ := id hI
  obtain ⟨z1, z6, z26, z0, z14⟩ := id hZ
  obtain ⟨c7, c8, c9, cC4, cC3, cC6, cC11⟩ := id hC
  by_cases hh : (0 ≤ h ∧ h < ag_I ν 10 0 1)
  · by_cases hp : (0 ≤ p ∧ p < ag_I ν 10 0 6)
    · refine wg_s rfl rfl ?_
      refine wg_s rfl rfl ?_
      refine wg_cf rfl rfl (sp_homeAt_t _ _ hI hZ hh) ?_
      refine wg_s rfl rfl ?_
      refine wg_s rfl rfl ?_
      refine wg_s rfl rfl ?_
      refine wg_cf rfl rfl (sp_helperAt_t _ _ hI hZ hp) ?_
      refine wg_s rfl rfl ?_
      refine wg_s rfl rfl ?_
      refine wg_s rfl rfl ?_
      refine wg_s rfl rfl ?_
      refine wg_s rfl rfl ?_
      refine wg_s rfl rfl ?_
      refine wg_s rfl rfl ?_
      refine wg_s rfl rfl ?_
      refine wg_cf rfl rfl (sp_hind _ _ _ hI hZ (by omega) (by omega)) ?_
      refine wg_ret rfl rfl trivial ⟨?_, rfl⟩
      rw [if_pos ⟨hh, hp⟩]
    · refine wg_s rfl rfl ?_
      refine wg_s rfl rfl ?_
      refine wg_cf rfl rfl (sp_homeAt_t _ _ hI hZ hh) ?_
      refine wg_s rfl rfl ?_
      refine wg_s rfl rfl ?_
      refine wg_s rfl rfl ?_
      refine wg_cf rfl rfl (sp_helperAt_f _ _ hI hZ hp) ?_
      refine wg_s rfl rfl ?_
      refine wg_s rfl rfl ?_
      refine wg_s rfl rfl ?_
      refine wg_s rfl rfl ?_
      refine wg_s rfl rfl ?_
      refine wg_s rfl rfl ?_
      refine wg_ret rfl rfl trivial ⟨?_, rfl⟩
      rw [if_neg (by omega)]
  · by_cases hp : (0 ≤ p ∧ p < ag_I ν 10 0 6)
    · refine wg_s rfl rfl ?_
      refine wg_s rfl rfl ?_
      refine wg_cf rfl rfl (sp_homeAt_f _ _ hI hZ hh) ?_
      refine wg_s rfl rfl ?_
      refine wg_s rfl rfl ?_
      refine wg_s rfl rfl ?_
      refine wg_cf rfl rfl (sp_helperAt_t _ _ hI hZ hp) ?_
      refine wg_s rfl rfl ?_
      refine wg_s rfl rfl ?_
      refine wg_s rfl rfl ?_
      refine wg_s rfl rfl ?_
      refine wg_ret rfl rfl trivial ⟨?_, rfl⟩
      rw [if_neg (by omega)]
    · refine wg_s rfl rfl ?_
      refine wg_s rfl rfl ?_
      refine wg_cf rfl rfl (sp_homeAt_f _ _ hI hZ hh) ?_
      refine wg_s rfl rfl ?_
      refine wg_s rfl rfl ?_
      refine wg_s rfl rfl ?_
      refine wg_cf rfl rfl (sp_helperAt_f _ _ hI hZ hp) ?_
      refine wg_s rfl rfl ?_
      refine wg_s rfl rfl ?_
      refine wg_s rfl rfl ?_
      refine wg_s rfl rfl ?_
      refine wg_ret rfl rfl trivial ⟨?_, rfl⟩
      rw [if_neg (by omega)]
theorem opS {x : Int} (h : 0 ≤ x) : op x = some x.toNat := if_neg (by omega)
theorem opN {x : Int} (h : x < 0) : op x = none := if_pos h
theorem wg_gn {d k : Nat} {μ : ab_M} {pc : Nat} {l : ab_L} {st : List ab_V} {Q : Option ab_V → ab_M → Prop} {nx a b : Nat} {x n tg : Nat} {o : Option Nat} (hi : ab_ins k pc = some (.getfield x, nx, a, b)) (hf : ab_ft a b = (3, tg)) (hR : ag_R μ a n b = o) (K : Wg d k μ nx l (ab_r tg o :: st) Q) : Wg d k μ pc l (ab_r a (some n) :: st) Q := by
  refine wg_s hi (μ1 := μ) (pc1 := nx) (l1 := l) (st1 := ab_r tg o :: st) ?_ K
  dsimp only [ab_step]
  rw [show Nat.beq a a = true from Nat.beq_refl a]
  simp only [cond_true, hf, ab_gv, hR]
theorem sp_xjudge (d : Nat) (h w : Int) {ν μ : ab_M} {hl hw pl tm : Nat → Nat} {ow : Nat → Nat × Nat} {tc : Nat} (hI : IX ν μ hl hw pl tm ow tc) (hZ : WR ν) (hWL : WL ν) : Wp (d + 4) 85 [ab_r 9 (some 0), ab_i h, ab_i w] μ (fun vv μ' => vv = some (ab_i (if (0 ≤ h ∧ h < ag_I ν 10 0 1) ∧ 0 ≤ m_l ν h ∧ (ag_I ν 11 34 (m_l ν h).toNat ≤ w ∧ w ≤ ag_I ν 10 0 0) then m_ju ν h w (m_l ν h).toNat else -1)) ∧ μ' = μ) := by
  refine wp_of ?_
  obtain ⟨hX, hC, hH, hP, hL, hK, hT, hR, hS⟩ := id hI
  obtain ⟨z1, z6, z26, z0, z14⟩ := id hZ
  obtain ⟨c7, c8, c9, cC4, cC3, cC6, cC11⟩ := id hC
  by_cases hh : (0 ≤ h ∧ h < ag_I ν 10 0 1)
  · obtain ⟨n, rfl⟩ : ∃ n : Nat, h = n := ⟨h.toNat, by omega⟩
    obtain ⟨e15, ⟨e40, e41, e42, e43⟩, ⟨e44, e45, e46⟩, ⟨hL8, hL501⟩, hrng, how, hlk, hwk⟩ := hH n (by omega)
    by_cases ho : 0 ≤ m_l ν n
    · have ho2 : 0 ≤ m_lf ν n (ag_I ν 10 0 26).toNat := ho
      have hm := m_lf_rng ν n (ag_I ν 10 0 26).toNat
      have hj : (((m_l ν n).toNat : Nat) : Int) < ag_I ν 10 0 26 := by show ((m_lf ν n (ag_I ν 10 0 26).toNat).toNat : Int) < _; omega
      obtain ⟨⟨j0, j1, j3, j4⟩, ⟨j2, jt⟩, jr, j17⟩ := hL _ hj
      have hw8 := hWL _ hj
      refine wg_s rfl rfl ?_
      refine wg_s rfl rfl ?_
      refine wg_cf rfl rfl (sp_homeAt_t _ _ hI hZ hh) ?_
      refine wg_s rfl rfl ?_
      refine wg_s rfl rfl ?_
      refine wg_s rfl rfl ?_
      refine wg_s rfl rfl ?_
      refine wg_gn rfl rfl (show _ = some (m_l ν n).toNat from e46.trans (opS ho)) ?_
      refine wg_s rfl rfl ?_
      refine wg_s rfl rfl ?_
      refine wg_s rfl rfl ?_
      refine wg_gn rfl rfl (show _ = some (m_l ν n).toNat from e46.trans (opS ho)) ?_
      refine wg_s rfl rfl ?_
      refine wg_cf rfl rfl (sp_isWeekOf _ _ _ hI hZ hj) ?_
      refine wg_neb rfl (fun h26 => ?_) (fun h26 => ?_)
      · refine wg_s rfl rfl ?_
        refine wg_gn rfl rfl (show _ = some (hw n) from e45) ?_
        refine wg_s rfl rfl ?_
        refine wg_ax rfl hL501 (by omega) (by omega) (show _ = m_ju ν n w (m_l ν n).toNat from (by rw [hwk ho w.toNat (by omega), tnc (show 0 ≤ w by omega)])) ?_
        refine wg_ret rfl rfl trivial ⟨?_, rfl⟩
        rw [if_pos ⟨hh, ho, by omega⟩]
      · refine wg_s rfl rfl ?_
        refine wg_ret rfl rfl trivial ⟨?_, rfl⟩
        rw [if_neg (fun q => by omega)]
    · refine wg_s rfl rfl ?_
      refine wg_s rfl rfl ?_
      refine wg_cf rfl rfl (sp_homeAt_t _ _ hI hZ hh) ?_
      refine wg_s rfl rfl ?_
      refine wg_s rfl rfl ?_
      refine wg_s rfl rfl ?_
      refine wg_s rfl rfl ?_
      refine wg_gn rfl rfl (show _ = none from e46.trans (opN (by omega))) ?_
      refine wg_s rfl rfl ?_
      refine wg_s rfl rfl ?_
      refine wg_ret rfl rfl trivial ⟨?_, rfl⟩
      rw [if_neg (fun q => ho q.2.1)]
  · refine wg_s rfl rfl ?_
    refine wg_s rfl rfl ?_
    refine wg_cf rfl rfl (sp_homeAt_f _ _ hI hZ hh) ?_
    refine wg_s rfl rfl ?_
    refine wg_s rfl rfl ?_
    refine wg_s rfl rfl ?_
    refine wg_s rfl rfl ?_
    refine wg_ret rfl rfl trivial ⟨?_, rfl⟩
    rw [if_neg (fun q => hh q.1)]
theorem sp_faultKind (d : Nat) {ν μ : ab_M} {hl hw pl tm : Nat → Nat} {ow : Nat → Nat × Nat} {tc : Nat} (hI : IX ν μ hl hw pl tm ow tc) (hZ : WR ν) : Wp (d + 1) 6 [ab_r 0 (some 0)] μ (fun vv μ' => vv = some (ab_i (ag_I ν 10 0 21)) ∧ μ' = μ) := by
  refine wp_of ?_
  obtain ⟨hX, hC, hH, hP, hL, hK, hT, hR, hS⟩ := id hI
  obtain ⟨z1, z6, z26, z0, z14⟩ := id hZ
  obtain ⟨c7, c8, c9, cC4, cC3, cC6, cC11⟩ := id hC
  refine wg_s rfl rfl ?_
  refine wg_gi rfl rfl (show _ = ag_I ν 10 0 21 from hR.1.1) ?_
  exact wg_ret rfl rfl trivial ⟨rfl, rfl⟩
theorem sp_faultPlace (d : Nat) {ν μ : ab_M} {hl hw pl tm : Nat → Nat} {ow : Nat → Nat × Nat} {tc : Nat} (hI : IX ν μ hl hw pl tm ow tc) (hZ : WR ν) : Wp (d + 1) 7 [ab_r 0 (some 0)] μ (fun vv μ' => vv = some (ab_i (ag_I ν 10 0 22)) ∧ μ' = μ) := by
  refine wp_of ?_
  obtain ⟨hX, hC, hH, hP, hL, hK, hT, hR, hS⟩ := id hI
  obtain ⟨z1, z6, z26, z0, z14⟩ := id hZ
  obtain ⟨c7, c8, c9, cC4, cC3, cC6, cC11⟩ := id hC
  refine wg_s rfl rfl ?_
  refine wg_gi rfl rfl (show _ = ag_I ν 10 0 22 from hR.1.2) ?_
  exact wg_ret rfl rfl trivial ⟨rfl, rfl⟩
theorem sp_length (d : Nat) {ν μ : ab_M} {hl hw pl tm : Nat → Nat} {ow : Nat → Nat × Nat} {tc : Nat} (hI : IX ν μ hl hw pl tm ow tc) (hZ : WR ν) : Wp (d + 1) 62 [ab_r 7 (some 0)] μ (fun vv μ' => vv = some (ab_i (ag_I ν 10 0 14)) ∧ μ' = μ) := by
  refine wp_of ?_
  obtain ⟨hX, hC, hH, hP, hL, hK, hT, hR, hS⟩ := id hI
  obtain ⟨z1, z6, z26, z0, z14⟩ := id hZ
  obtain ⟨c7, c8, c9, cC4, cC3, cC6, cC11⟩ := id hC
  refine wg_s rfl rfl ?_
  refine wg_gi rfl rfl (show _ = ag_I ν 10 0 14 from hT.1) ?_
  exact wg_ret rfl rfl trivial ⟨rfl, rfl⟩
theorem sp_xfault (d : Nat) (p : Int) {ν μ : ab_M} {hl hw pl tm : Nat → Nat} {ow : Nat → Nat × Nat} {tc : Nat} (hI : IX ν μ hl hw pl tm ow tc) (hZ : WR ν)  : Wp (d + 2) 83 [ab_r 9 (some 0), ab_i p] μ (fun vv μ' => vv = some (ab_i (if p = 0 then ag_I ν 10 0 21 else if p = 1 then ag_I ν 10 0 22 else -1)) ∧ μ' = μ) := by
  refine wp_of ?_
  obtain ⟨hX, hC, hH, hP, hL, hK, hT, hR, hS⟩ := id hI
  obtain ⟨z1, z6, z26, z0, z14⟩ := id hZ
  obtain ⟨c7, c8, c9, cC4, cC3, cC6, cC11⟩ := id hC
  refine wg_s rfl rfl ?_
  refine wg_if rfl rfl (fun h1 => ?_) (fun h1 => ?_)
  · refine wg_s rfl rfl ?_
    refine wg_s rfl rfl ?_
    refine wg_if rfl rfl (fun h14 => ?_) (fun h14 => ?_)
    · refine wg_s rfl rfl ?_
      refine wg_ret rfl rfl trivial ⟨?_, rfl⟩
      congr 2
      repeat (first | rw [if_pos (by omega)] | rw [if_neg (by omega)])
    · refine wg_s rfl rfl ?_
      refine wg_gx rfl rfl hX ?_
      refine wg_cf rfl rfl (sp_faultPlace _ hI hZ) ?_
      refine wg_s rfl rfl ?_
      refine wg_ret rfl rfl trivial ⟨?_, rfl⟩
      congr 2
      repeat (first | rw [if_pos (by omega)] | rw [if_neg (by omega)])
  · refine wg_s rfl rfl ?_
    refine wg_gx rfl rfl hX ?_
    refine wg_cf rfl rfl (sp_faultKind _ hI hZ) ?_
    refine wg_ret rfl rfl trivial ⟨?_, rfl⟩
    congr 2
    repeat (first | rw [if_pos (by omega)] | rw [if_neg (by omega)])
theorem sp_tell (d : Nat) (j : Nat) (x : Int) {ν μ : ab_M} {hl hw pl tm : Nat → Nat} {ow : Nat → Nat × Nat} {tc : Nat} (hI : IX ν μ hl hw pl tm ow tc) (hZ : WR ν) (hj : (j : Int) < ag_I ν 10 0 26) : Wp (d + 1) 60 [ab_r 6 (some j), ab_i x] μ (fun vv μ' => vv = some (ab_i (if x = 1 then ag_I ν 11 33 j else if x = 2 then ag_I ν 11 34 j else if x = 3 then ag_I ν 11 39 j else if x = 4 then ag_I ν 11 35 j else if x = 5 then ag_I ν 11 36 j else -1)) ∧ μ' = μ) := by
  refine wp_of ?_
  obtain ⟨hX, hC, hH, hP, hL, hK, hT, hR, hS⟩ := id hI
  obtain ⟨z1, z6, z26, z0, z14⟩ := id hZ
  obtain ⟨c7, c8, c9, cC4, cC3, cC6, cC11⟩ := id hC
  obtain ⟨⟨j0, j1, j3, j4⟩, ⟨j2, jt⟩, jr, j17⟩ := hL j hj
  refine wg_s rfl rfl ?_
  refine wg_s rfl rfl ?_
  by_cases hs0 : x = 1
  · subst hs0
    refine wg_at (pc2 := 36) (by decide) ?_
    refine wg_s rfl rfl ?_
    refine wg_gi rfl rfl (show _ = ag_I ν 11 33 j from j0) ?_
    refine wg_ret rfl rfl trivial ⟨?_, rfl⟩
    first | rfl | (congr 2; repeat (first | rw [if_pos (by omega)] | rw [if_neg (by omega)]))
  by_cases hs1 : x = 2
  · subst hs1
    refine wg_at (pc2 := 41) (by decide) ?_
    refine wg_s rfl rfl ?_
    refine wg_gi rfl rfl (show _ = ag_I ν 11 34 j from j1) ?_
    refine wg_ret rfl rfl trivial ⟨?_, rfl⟩
    first | rfl | (congr 2; repeat (first | rw [if_pos (by omega)] | rw [if_neg (by omega)]))
  by_cases hs2 : x = 3
  · subst hs2
    refine wg_at (pc2 := 46) (by decide) ?_
    refine wg_s rfl rfl ?_
    refine wg_gi rfl rfl (show _ = ag_I ν 11 39 j from j3) ?_
    refine wg_ret rfl rfl trivial ⟨?_, rfl⟩
    first | rfl | (congr 2; repeat (first | rw [if_pos (by omega)] | rw [if_neg (by omega)]))
  by_cases hs3 : x = 4
  · subst hs3
    refine wg_at (pc2 := 51) (by decide) ?_
    refine wg_s rfl rfl ?_
    refine wg_gr rfl rfl (j2) ?_
    refine wg_gi rfl rfl (show _ = ag_I ν 11 35 j from jr 0 (by omega)) ?_
    refine wg_ret rfl rfl trivial ⟨?_, rfl⟩
    first | rfl | (congr 2; repeat (first | rw [if_pos (by omega)] | rw [if_neg (by omega)]))
  by_cases hs4 : x = 5
  · subst hs4
    refine wg_at (pc2 := 59) (by decide) ?_
    refine wg_s rfl rfl ?_
    refine wg_gr rfl rfl (j2) ?_
    refine wg_gi rfl rfl (show _ = ag_I ν 11 36 j from jr 1 (by omega)) ?_
    refine wg_ret rfl rfl trivial ⟨?_, rfl⟩
    first | rfl | (congr 2; repeat (first | rw [if_pos (by omega)] | rw [if_neg (by omega)]))
  refine wg_at (pc2 := 67) (show ab_sw _ _ _ _ _ _ = 67 from if_pos (by omega)) ?_
  refine wg_s rfl rfl ?_
  refine wg_ret rfl rfl trivial ⟨?_, rfl⟩
  first | rfl | (congr 2; repeat (first | rw [if_pos (by omega)] | rw [if_neg (by omega)]))
theorem sp_xhomeOf (d : Nat) (h x : Int) {ν μ : ab_M} {hl hw pl tm : Nat → Nat} {ow : Nat → Nat × Nat} {tc : Nat} (hI : IX ν μ hl hw pl tm ow tc) (hZ : WR ν) (hWL : WL ν) : Wp (d + 3) 88 [ab_r 9 (some 0), ab_i h, ab_i x] μ (fun vv μ' => vv = some (ab_i (m_ho ν h x)) ∧ μ' = μ) := by
  refine wp_of ?_
  obtain ⟨hX, hC, hH, hP, hL, hK, hT, hR, hS⟩ := id hI
  obtain ⟨z1, z6, z26, z0, z14⟩ := id hZ
  obtain ⟨c7, c8, c9, cC4, cC3, cC6, cC11⟩ := id hC
  by_cases hh : (0 ≤ h ∧ h < ag_I ν 10 0 1)
  · obtain ⟨n, rfl⟩ : ∃ n : Nat, h = n := ⟨h.toNat, by omega⟩
    obtain ⟨e15, ⟨e40, e41, e42, e43⟩, ⟨e44, e45, e46⟩, ⟨hL8, hL501⟩, hrng, how, hlk, hwk⟩ := hH n (by omega)
    by_cases ho : 0 ≤ m_l ν n
    · have ho2 : 0 ≤ m_lf ν n (ag_I ν 10 0 26).toNat := ho
      have hm := m_lf_rng ν n (ag_I ν 10 0 26).toNat
      have hj : (((m_l ν n).toNat : Nat) : Int) < ag_I ν 10 0 26 := by show ((m_lf ν n (ag_I ν 10 0 26).toNat).toNat : Int) < _; omega
      obtain ⟨⟨j0, j1, j3, j4⟩, ⟨j2, jt⟩, jr, j17⟩ := hL _ hj
      have hw8 := hWL _ hj
      refine wg_s rfl rfl ?_
      refine wg_s rfl rfl ?_
      refine wg_cf rfl rfl (sp_homeAt_t _ _ hI hZ hh) ?_
      refine wg_s rfl rfl ?_
      refine wg_s rfl rfl ?_
      refine wg_s rfl rfl ?_
      refine wg_s rfl rfl ?_
      refine wg_if rfl rfl (fun h13 => ?_) (fun h13 => ?_)
      · refine wg_s rfl rfl ?_
        refine wg_gn rfl rfl (show _ = some (m_l ν n).toNat from e46.trans (opS ho)) ?_
        refine wg_s rfl rfl ?_
        refine wg_s rfl rfl ?_
        refine wg_gn rfl rfl (show _ = some (m_l ν n).toNat from e46.trans (opS ho)) ?_
        refine wg_s rfl rfl ?_
        refine wg_cf rfl rfl (sp_tell _ _ _ hI hZ hj) ?_
        refine wg_ret rfl rfl trivial ⟨?_, rfl⟩
        congr 2
        unfold m_ho
        rw [if_neg (show ¬ ¬ (0 ≤ (n : Int) ∧ (n : Int) < ag_I ν 10 0 1) by omega)]
        first | (rw [if_pos (show x = 0 by omega)]; rfl) | (rw [if_pos (show x = 0 by omega)]; done) | (rw [if_neg (show ¬ (x = 0) by omega), if_neg (show ¬ (m_lf ν n (ag_I ν 10 0 26).toNat < 0) by omega)])
      · refine wg_s rfl rfl ?_
        refine wg_gi rfl rfl (show _ = ag_I ν 11 20 n from e40) ?_
        refine wg_ret rfl rfl trivial ⟨?_, rfl⟩
        congr 2
        unfold m_ho
        rw [if_neg (show ¬ ¬ (0 ≤ (n : Int) ∧ (n : Int) < ag_I ν 10 0 1) by omega)]
        first | (rw [if_pos (show x = 0 by omega)]; rfl) | (rw [if_pos (show x = 0 by omega)]; done) | (rw [if_neg (show ¬ (x = 0) by omega), if_neg (show ¬ (m_lf ν n (ag_I ν 10 0 26).toNat < 0) by omega)])
    · refine wg_s rfl rfl ?_
      refine wg_s rfl rfl ?_
      refine wg_cf rfl rfl (sp_homeAt_t _ _ hI hZ hh) ?_
      refine wg_s rfl rfl ?_
      refine wg_s rfl rfl ?_
      refine wg_s rfl rfl ?_
      refine wg_s rfl rfl ?_
      refine wg_if rfl rfl (fun h13 => ?_) (fun h13 => ?_)
      · refine wg_s rfl rfl ?_
        refine wg_gn rfl rfl (show _ = none from e46.trans (opN (by omega))) ?_
        refine wg_s rfl rfl ?_
        refine wg_s rfl rfl ?_
        refine wg_s rfl rfl ?_
        refine wg_ret rfl rfl trivial ⟨?_, rfl⟩
        congr 2
        unfold m_ho
        rw [if_neg (show ¬ ¬ (0 ≤ (n : Int) ∧ (n : Int) < ag_I ν 10 0 1) by omega)]
        first | (rw [if_pos (show x = 0 by omega)]; rfl) | (rw [if_pos (show x = 0 by omega)]; done) | (rw [if_neg (show ¬ (x = 0) by omega), if_pos (show (m_lf ν n (ag_I ν 10 0 26).toNat < 0) from Int.not_le.mp ho)])
      · refine wg_s rfl rfl ?_
        refine wg_gi rfl rfl (show _ = ag_I ν 11 20 n from e40) ?_
        refine wg_ret rfl rfl trivial ⟨?_, rfl⟩
        congr 2
        unfold m_ho
        rw [if_neg (show ¬ ¬ (0 ≤ (n : Int) ∧ (n : Int) < ag_I ν 10 0 1) by omega)]
        first | (rw [if_pos (show x = 0 by omega)]; rfl) | (rw [if_pos (show x = 0 by omega)]; done) | (rw [if_neg (show ¬ (x = 0) by omega), if_pos (show (m_lf ν n (ag_I ν 10 0 26).toNat < 0) from Int.not_le.mp ho)])
  · refine wg_s rfl rfl ?_
    refine wg_s rfl rfl ?_
    refine wg_cf rfl rfl (sp_homeAt_f _ _ hI hZ hh) ?_
    refine wg_s rfl rfl ?_
    refine wg_s rfl rfl ?_
    refine wg_s rfl rfl ?_
    refine wg_s rfl rfl ?_
    refine wg_ret rfl rfl trivial ⟨?_, rfl⟩
    congr 2
    unfold m_ho
    rw [if_pos (by omega)]
