/-! ===== the class: live ===== -/
def r_in (μ : ab_M) (c : Nat) (p w : Int) (t : Nat) : ab_M := as_R (as_I (as_I (as_I (as_I μ 6 c 3 (-1)) 6 c 4 0) 6 c 0 p) 6 c 1 w) 6 c 2 (some t)
def x_li (μ : ab_M) (h p k : Nat) (ct w : Int) (t s : Nat) : ab_M := a_fl (as_R (as_R (as_I (as_R (r_in (as_N μ 6 0 (ab_nf 6)) (ag_C μ 6) p w t) 17 k ct.toNat (some (ag_C μ 6))) 5 k 1 (ct + 1)) 4 h 6 (some (ag_C μ 6))) 3 p 5 (some (ag_C μ 6))) s 2 501
theorem sp_pairInit (d c : Nat) (p w : Int) (t : Nat) (μ : ab_M) : Wp (d + 1) 57 [ab_r 6 (some c), ab_i p, ab_i w, ab_r 8 (some t)] μ (fun vv μ' => vv = none ∧ μ' = r_in μ c p w t) := by
  refine wp_of ?_
  refine wg_s rfl rfl ?_
  refine wg_s rfl rfl ?_
  refine wg_s rfl rfl ?_
  refine wg_s rfl rfl ?_
  refine wg_s rfl rfl ?_
  refine wg_s rfl rfl ?_
  refine wg_s rfl rfl ?_
  refine wg_c rfl rfl (Or.inl rfl) ?_
  refine wg_s rfl rfl ?_
  refine wg_s rfl rfl ?_
  refine wg_s rfl rfl ?_
  refine wg_s rfl rfl ?_
  refine wg_s rfl rfl ?_
  refine wg_s rfl rfl ?_
  refine wg_s rfl rfl ?_
  refine wg_s rfl rfl ?_
  refine wg_s rfl rfl ?_
  exact wg_ret rfl rfl trivial ⟨rfl, rfl⟩
theorem sp_isFull (d k : Nat) (ct : Int) (μ : ab_M) (hr : ag_R μ 5 k 0 = some k) (hL : ag_L μ 17 k = 16) (hc : ag_I μ 5 k 1 = ct) (h0 : 0 ≤ ct) : Wp (d + 1) 49 [ab_r 5 (some k)] μ (fun vv μ' => vv = some (ab_i (bI (16 ≤ ct))) ∧ μ' = μ) := by
  refine wp_of ?_
  refine wg_s rfl rfl ?_
  refine wg_gi rfl rfl (show _ = ct from hc) ?_
  refine wg_s rfl rfl ?_
  refine wg_gr rfl rfl (hr) ?_
  refine wg_len rfl rfl hL ?_
  refine wg_if rfl rfl (fun h9 => ?_) (fun h9 => ?_)
  · refine wg_s rfl rfl ?_
    refine wg_ret rfl rfl (by first | exact Or.inl rfl | exact Or.inr rfl) ⟨?_, rfl⟩
    first | rw [bI_t (by omega)] | rw [bI_f (by omega)]
  · refine wg_s rfl rfl ?_
    refine wg_s rfl rfl ?_
    refine wg_ret rfl rfl (by first | exact Or.inl rfl | exact Or.inr rfl) ⟨?_, rfl⟩
    first | rw [bI_t (by omega)] | rw [bI_f (by omega)]
theorem sp_add (d k c : Nat) (ct : Int) (μ : ab_M) (hr : ag_R μ 5 k 0 = some k) (hL : ag_L μ 17 k = 16) (hc : ag_I μ 5 k 1 = ct) (h0 : 0 ≤ ct) (h16 : ct < 16) : Wp (d + 1) 50 [ab_r 5 (some k), ab_r 6 (some c)] μ (fun vv μ' => vv = none ∧ μ' = as_I (as_R μ 17 k ct.toNat (some c)) 5 k 1 (ct + 1)) := by
  refine wp_of ?_
  refine wg_s rfl rfl ?_
  refine wg_gi rfl rfl (show _ = ct from hc) ?_
  refine wg_s rfl rfl ?_
  refine wg_gr rfl rfl (hr) ?_
  refine wg_len rfl rfl hL ?_
  refine wg_if rfl rfl (fun h9 => ?_) (fun h9 => ?_)
  · exfalso; omega
  · refine wg_s rfl rfl ?_
    refine wg_gr rfl rfl (hr) ?_
    refine wg_s rfl rfl ?_
    refine wg_gi rfl rfl (show _ = ct from hc) ?_
    refine wg_s rfl rfl ?_
    refine wg_aas (t := 17) rfl rfl hL (by omega) (by omega) ?_
    refine wg_s rfl rfl ?_
    refine wg_s rfl rfl ?_
    refine wg_gi rfl rfl (show _ = ct from hc) ?_
    refine wg_s rfl rfl ?_
    refine wg_iadd rfl (by omega) (by omega) ?_
    refine wg_s rfl rfl ?_
    exact wg_ret rfl rfl trivial ⟨rfl, rfl⟩
theorem sp_xlive (d : Nat) (h p : Int) {ν μ : ab_M} {hl hw pl tm : Nat → Nat} {ow : Nat → Nat × Nat} {tc : Nat} (hI : IX ν μ hl hw pl tm ow tc) (hZ : WR ν) (hU : WU ν) (h16 : W16 ν) : Wp (d + 3) 78 [ab_r 9 (some 0), ab_i h, ab_i p] μ (fun vv μ' => (((0 ≤ h ∧ h < ag_I ν 10 0 1) ∧ (0 ≤ p ∧ p < ag_I ν 10 0 6)) ∧ m_lf ν h (ag_I ν 10 0 26).toNat < 0 ∧ m_fr ν p (ag_I ν 10 0 26).toNat = true ∧ m_why ν h.toNat p.toNat = 0 ∧ m_ct ν (ag_I ν 11 20 h.toNat) (ag_I ν 10 0 26).toNat ≠ 16 → vv = some (ab_i 1) ∧ μ' = x_li μ h.toNat p.toNat (ag_I ν 11 20 h.toNat).toNat (m_ct ν (ag_I ν 11 20 h.toNat) (ag_I ν 10 0 26).toNat) (ag_I ν 10 0 0) tc (hw h.toNat)) ∧ (¬ (((0 ≤ h ∧ h < ag_I ν 10 0 1) ∧ (0 ≤ p ∧ p < ag_I ν 10 0 6)) ∧ m_lf ν h (ag_I ν 10 0 26).toNat < 0 ∧ m_fr ν p (ag_I ν 10 0 26).toNat = true ∧ m_why ν h.toNat p.toNat = 0 ∧ m_ct ν (ag_I ν 11 20 h.toNat) (ag_I ν 10 0 26).toNat ≠ 16) → vv = some (ab_i 0) ∧ μ' = μ)) := by
  refine wp_of ?_
  obtain ⟨hX, hC, hH, hP, hL, hK, hT, hR, hS⟩ := id hI
  obtain ⟨z1, z6, z26, z0, z14⟩ := id hZ
  obtain ⟨c7, c8, c9, cC4, cC3, cC6, cC11⟩ := id hC
  by_cases hh : (0 ≤ h ∧ h < ag_I ν 10 0 1)
  · by_cases hp : (0 ≤ p ∧ p < ag_I ν 10 0 6)
    · obtain ⟨e15, ⟨e40, e41, e42, e43⟩, ⟨e44, e45, e46⟩, ⟨hL8, hL501⟩, hrng, how, hlk, hwk⟩ := hH h.toNat (by omega)
      obtain ⟨p14, p3, ⟨p33, p35⟩, pL8, prng, pow, plk⟩ := hP p.toNat (by omega)
      rw [tnc hh.1] at e46
      rw [tnc hp.1] at p35
      have hk3 := hU.2.2 h.toNat (by omega)
      have hkk : 0 ≤ ag_I ν 11 20 h.toNat ∧ ag_I ν 11 20 h.toNat < 4 := by omega
      have hkx := hX.2.2.2 (ag_I ν 11 20 h.toNat).toNat (by omega)
      have hkc := hK (ag_I ν 11 20 h.toNat).toNat (by omega)
      rw [tnc hkk.1] at hkc
      have hr0 := (m_ct_rng ν (ag_I ν 11 20 h.toNat) (ag_I ν 10 0 26).toNat).1
      have hc16 := h16 (ag_I ν 11 20 h.toNat)
      have hpf := m_pf_fr ν p (ag_I ν 10 0 26).toNat
      by_cases hf : m_l ν h < 0
      · by_cases hg : m_pf ν p (ag_I ν 10 0 26).toNat < 0
        · refine wg_s rfl rfl ?_
          refine wg_s rfl rfl ?_
          refine wg_cf rfl rfl (sp_homeAt_t _ _ hI hZ hh) ?_
          refine wg_s rfl rfl ?_
          refine wg_s rfl rfl ?_
          refine wg_s rfl rfl ?_
          refine wg_cf rfl rfl (sp_helperAt_t _ _ hI hZ hp) ?_
          refine wg_s rfl rfl ?_
          refine wg_s rfl rfl ?_
          refine wg_s rfl rfl ?_
          refine wg_s rfl rfl ?_
          refine wg_s rfl rfl ?_
          refine wg_s rfl rfl ?_
          refine wg_gn rfl rfl (show _ = none from e46.trans (opN hf)) ?_
          refine wg_s rfl rfl ?_
          refine wg_s rfl rfl ?_
          refine wg_gn rfl rfl (show _ = none from p35.trans (opN hg)) ?_
          refine wg_s rfl rfl ?_
          refine wg_s rfl rfl ?_
          refine wg_s rfl rfl ?_
          refine wg_s rfl rfl ?_
          refine wg_cf rfl rfl (sp_hind _ h.toNat p.toNat hI hZ (by omega) (by omega)) ?_
          refine wg_if rfl rfl (fun h44 => ?_) (fun h44 => ?_)
          · refine wg_s rfl rfl ?_
            refine wg_s rfl rfl ?_
            refine wg_gi rfl rfl (show _ = ag_I ν 11 20 h.toNat from e40) ?_
            refine wg_cf rfl rfl (sp_kindAt_t _ _ hI hZ hkk) ?_
            refine wg_s rfl rfl ?_
            refine wg_s rfl rfl ?_
            refine wg_s rfl rfl ?_
            refine wg_s rfl rfl ?_
            refine wg_cf rfl rfl (sp_isFull _ _ _ _ hkx.2.1 hkx.2.2 hkc hr0) ?_
            refine wg_eqb rfl (fun h69 => ?_) (fun h69 => ?_)
            · refine wg_s rfl rfl ?_
              refine wg_s rfl rfl ?_
              refine wg_s rfl rfl ?_
              refine wg_s rfl rfl ?_
              refine wg_gi rfl rfl (show _ = ag_I ν 10 0 0 from c9) ?_
              refine wg_s rfl rfl ?_
              refine wg_gr rfl rfl (show _ = some tc from hR.2.1.1) ?_
              refine wg_cv rfl rfl (sp_pairInit _ _ _ _ _ _) ?_
              refine wg_s rfl rfl ?_
              refine wg_s rfl rfl ?_
              refine wg_s rfl rfl ?_
              refine wg_cv rfl rfl (sp_add _ _ _ _ _ hkx.2.1 hkx.2.2 hkc hr0 (by omega)) ?_
              refine wg_s rfl rfl ?_
              refine wg_s rfl rfl ?_
              refine wg_s rfl rfl ?_
              refine wg_s rfl rfl ?_
              refine wg_s rfl rfl ?_
              refine wg_s rfl rfl ?_
              refine wg_s rfl rfl ?_
              refine wg_gr rfl rfl ((ag_R_n (by omega)).trans ((ag_R_n (by omega)).trans e45)) ?_
              refine wg_s rfl rfl ?_
              refine wg_cv rfl rfl (sp_fill _ _ (hw h.toNat) 501 2 hL501 (by omega)) ?_
              refine wg_s rfl rfl ?_
              exact wg_ret rfl rfl (Or.inr rfl) ⟨fun _ => ⟨rfl, by unfold x_li; rw [tnc hp.1]⟩, fun h => absurd ⟨⟨hh, hp⟩, hf, hpf.mp hg, by omega, by omega⟩ h⟩
            · refine wg_s rfl rfl ?_
              exact wg_ret rfl rfl (Or.inl rfl) ⟨fun h => absurd h (fun q => by have := q.2.2.2.2; omega), fun _ => ⟨rfl, rfl⟩⟩
          · refine wg_s rfl rfl ?_
            exact wg_ret rfl rfl (Or.inl rfl) ⟨fun h => absurd h (fun q => by have := q.2.2.2.1; omega), fun _ => ⟨rfl, rfl⟩⟩
        · refine wg_s rfl rfl ?_
          refine wg_s rfl rfl ?_
          refine wg_cf rfl rfl (sp_homeAt_t _ _ hI hZ hh) ?_
          refine wg_s rfl rfl ?_
          refine wg_s rfl rfl ?_
          refine wg_s rfl rfl ?_
          refine wg_cf rfl rfl (sp_helperAt_t _ _ hI hZ hp) ?_
          refine wg_s rfl rfl ?_
          refine wg_s rfl rfl ?_
          refine wg_s rfl rfl ?_
          refine wg_s rfl rfl ?_
          refine wg_s rfl rfl ?_
          refine wg_s rfl rfl ?_
          refine wg_gn rfl rfl (show _ = none from e46.trans (opN hf)) ?_
          refine wg_s rfl rfl ?_
          refine wg_s rfl rfl ?_
          refine wg_gn rfl rfl (show _ = some (m_pf ν p (ag_I ν 10 0 26).toNat).toNat from p35.trans (opS (by omega))) ?_
          refine wg_s rfl rfl ?_
          refine wg_s rfl rfl ?_
          exact wg_ret rfl rfl (Or.inl rfl) ⟨fun h => absurd h (fun q => by have := hpf.mpr q.2.2.1; omega), fun _ => ⟨rfl, rfl⟩⟩
      · refine wg_s rfl rfl ?_
        refine wg_s rfl rfl ?_
        refine wg_cf rfl rfl (sp_homeAt_t _ _ hI hZ hh) ?_
        refine wg_s rfl rfl ?_
        refine wg_s rfl rfl ?_
        refine wg_s rfl rfl ?_
        refine wg_cf rfl rfl (sp_helperAt_t _ _ hI hZ hp) ?_
        refine wg_s rfl rfl ?_
        refine wg_s rfl rfl ?_
        refine wg_s rfl rfl ?_
        refine wg_s rfl rfl ?_
        refine wg_s rfl rfl ?_
        refine wg_s rfl rfl ?_
        refine wg_gn rfl rfl (show _ = some (m_l ν h).toNat from e46.trans (opS (by omega))) ?_
        refine wg_s rfl rfl ?_
        refine wg_s rfl rfl ?_
        exact wg_ret rfl rfl (Or.inl rfl) ⟨fun h => absurd h (fun q => hf q.2.1), fun _ => ⟨rfl, rfl⟩⟩
    · refine wg_s rfl rfl ?_
      refine wg_s rfl rfl ?_
      refine wg_cf rfl rfl (sp_homeAt_t _ _ hI hZ hh) ?_
      refine wg_s rfl rfl ?_
      refine wg_s rfl rfl ?_
      refine wg_s rfl rfl ?_
      refine wg_cf rfl rfl (sp_helperAt_f _ _ hI hZ hp) ?_
      refine wg_s rfl rfl ?_
      refine wg_s rfl rfl ?_
      refine wg_s rfl rfl ?_
      refine wg_s rfl rfl ?_
      refine wg_s rfl rfl ?_
      refine wg_s rfl rfl ?_
      exact wg_ret rfl rfl (Or.inl rfl) ⟨fun h => absurd h (fun q => hp q.1.2), fun _ => ⟨rfl, rfl⟩⟩
  · by_cases hp : (0 ≤ p ∧ p < ag_I ν 10 0 6)
    · refine wg_s rfl rfl ?_
      refine wg_s rfl rfl ?_
      refine wg_cf rfl rfl (sp_homeAt_f _ _ hI hZ hh) ?_
      refine wg_s rfl rfl ?_
      refine wg_s rfl rfl ?_
      refine wg_s rfl rfl ?_
      refine wg_cf rfl rfl (sp_helperAt_t _ _ hI hZ hp) ?_
      refine wg_s rfl rfl ?_
      refine wg_s rfl rfl ?_
      refine wg_s rfl rfl ?_
      refine wg_s rfl rfl ?_
      exact wg_ret rfl rfl (Or.inl rfl) ⟨fun h => absurd h (fun q => hh q.1.1), fun _ => ⟨rfl, rfl⟩⟩
    · refine wg_s rfl rfl ?_
      refine wg_s rfl rfl ?_
      refine wg_cf rfl rfl (sp_homeAt_f _ _ hI hZ hh) ?_
      refine wg_s rfl rfl ?_
      refine wg_s rfl rfl ?_
      refine wg_s rfl rfl ?_
      refine wg_cf rfl rfl (sp_helperAt_f _ _ hI hZ hp) ?_
      refine wg_s rfl rfl ?_
      refine wg_s rfl rfl ?_
      refine wg_s rfl rfl ?_
      refine wg_s rfl rfl ?_
      exact wg_ret rfl rfl (Or.inl rfl) ⟨fun h => absurd h (fun q => hh q.1.1), fun _ => ⟨rfl, rfl⟩⟩
