/-! ===== the class: report ===== -/
theorem sp_judgementOf (d : Nat) (t : Nat) (u v lh ln : Int) (μ : ab_M) (hlh : ag_I μ 8 t 0 = lh) (hln : ag_I μ 8 t 1 = ln) (hu : -1 ≤ u) (hv : -1 ≤ v) : Wp (d + 1) 68 [ab_r 8 (some t), ab_i u, ab_i v] μ (fun vv μ' => vv = some (ab_i (m_jv u v lh ln)) ∧ μ' = μ) := by
  refine wp_of ?_
  have K2 : ∀ a b : Int, ((0 ≤ u ∧ a = 1) ∨ (u < 0 ∧ a = 0)) → ((0 ≤ v ∧ b = 1) ∨ (v < 0 ∧ b = 0)) → Wg d 68 μ 21 [(0, ab_r 8 (some t)), (1, ab_i u), (2, ab_i v), (3, ab_i a)] [ab_i b] (fun vv μ' => vv = some (ab_i (m_jv u v lh ln)) ∧ μ' = μ) := by
    intro a b ha hb
    refine wg_s rfl rfl ?_
    refine wg_s rfl rfl ?_
    refine wg_if rfl rfl (fun h24 => ?_) (fun h24 => ?_)
    · refine wg_s rfl rfl ?_
      refine wg_if rfl rfl (fun h37 => ?_) (fun h37 => ?_)
      · refine wg_s rfl rfl ?_
        refine wg_if rfl rfl (fun h51 => ?_) (fun h51 => ?_)
        · refine wg_s rfl rfl ?_
          refine wg_ret rfl rfl trivial ⟨?_, rfl⟩
          congr 2
          unfold m_jv
          first | (rw [if_pos (by omega)]; done) | (rw [if_neg (by omega), if_pos (by omega)]; done) | (rw [if_neg (by omega), if_neg (by omega)]; done)
        · refine wg_s rfl rfl ?_
          refine wg_if rfl rfl (fun h56 => ?_) (fun h56 => ?_)
          · refine wg_s rfl rfl ?_
            refine wg_ret rfl rfl trivial ⟨?_, rfl⟩
            congr 2
            unfold m_jv
            first | (rw [if_pos (by omega)]; done) | (rw [if_neg (by omega), if_pos (by omega)]; done) | (rw [if_neg (by omega), if_neg (by omega)]; done)
          · refine wg_s rfl rfl ?_
            refine wg_s rfl rfl ?_
            refine wg_ret rfl rfl trivial ⟨?_, rfl⟩
            congr 2
            unfold m_jv
            first | (rw [if_pos (by omega)]; done) | (rw [if_neg (by omega), if_pos (by omega)]; done) | (rw [if_neg (by omega), if_neg (by omega)]; done)
      · refine wg_s rfl rfl ?_
        refine wg_s rfl rfl ?_
        refine wg_gi rfl rfl (show _ = ln from hln) ?_
        refine wg_if rfl rfl (fun h45 => ?_) (fun h45 => ?_)
        · refine wg_s rfl rfl ?_
          refine wg_if rfl rfl (fun h51 => ?_) (fun h51 => ?_)
          · refine wg_s rfl rfl ?_
            refine wg_ret rfl rfl trivial ⟨?_, rfl⟩
            congr 2
            unfold m_jv
            first | (rw [if_pos (by omega)]; done) | (rw [if_neg (by omega), if_pos (by omega)]; done) | (rw [if_neg (by omega), if_neg (by omega)]; done)
          · refine wg_s rfl rfl ?_
            refine wg_if rfl rfl (fun h56 => ?_) (fun h56 => ?_)
            · refine wg_s rfl rfl ?_
              refine wg_ret rfl rfl trivial ⟨?_, rfl⟩
              congr 2
              unfold m_jv
              first | (rw [if_pos (by omega)]; done) | (rw [if_neg (by omega), if_pos (by omega)]; done) | (rw [if_neg (by omega), if_neg (by omega)]; done)
            · refine wg_s rfl rfl ?_
              refine wg_s rfl rfl ?_
              refine wg_ret rfl rfl trivial ⟨?_, rfl⟩
              congr 2
              unfold m_jv
              first | (rw [if_pos (by omega)]; done) | (rw [if_neg (by omega), if_pos (by omega)]; done) | (rw [if_neg (by omega), if_neg (by omega)]; done)
        · refine wg_s rfl rfl ?_
          refine wg_ret rfl rfl trivial ⟨?_, rfl⟩
          congr 2
          unfold m_jv
          first | (rw [if_pos (by omega)]; done) | (rw [if_neg (by omega), if_pos (by omega)]; done) | (rw [if_neg (by omega), if_neg (by omega)]; done)
    · refine wg_s rfl rfl ?_
      refine wg_s rfl rfl ?_
      refine wg_gi rfl rfl (show _ = lh from hlh) ?_
      refine wg_if rfl rfl (fun h32 => ?_) (fun h32 => ?_)
      · refine wg_s rfl rfl ?_
        refine wg_ret rfl rfl trivial ⟨?_, rfl⟩
        congr 2
        unfold m_jv
        first | (rw [if_pos (by omega)]; done) | (rw [if_neg (by omega), if_pos (by omega)]; done) | (rw [if_neg (by omega), if_neg (by omega)]; done)
      · refine wg_s rfl rfl ?_
        refine wg_if rfl rfl (fun h37 => ?_) (fun h37 => ?_)
        · refine wg_s rfl rfl ?_
          refine wg_if rfl rfl (fun h51 => ?_) (fun h51 => ?_)
          · refine wg_s rfl rfl ?_
            refine wg_ret rfl rfl trivial ⟨?_, rfl⟩
            congr 2
            unfold m_jv
            first | (rw [if_pos (by omega)]; done) | (rw [if_neg (by omega), if_pos (by omega)]; done) | (rw [if_neg (by omega), if_neg (by omega)]; done)
          · refine wg_s rfl rfl ?_
            refine wg_if rfl rfl (fun h56 => ?_) (fun h56 => ?_)
            · refine wg_s rfl rfl ?_
              refine wg_ret rfl rfl trivial ⟨?_, rfl⟩
              congr 2
              unfold m_jv
              first | (rw [if_pos (by omega)]; done) | (rw [if_neg (by omega), if_pos (by omega)]; done) | (rw [if_neg (by omega), if_neg (by omega)]; done)
            · refine wg_s rfl rfl ?_
              refine wg_s rfl rfl ?_
              refine wg_ret rfl rfl trivial ⟨?_, rfl⟩
              congr 2
              unfold m_jv
              first | (rw [if_pos (by omega)]; done) | (rw [if_neg (by omega), if_pos (by omega)]; done) | (rw [if_neg (by omega), if_neg (by omega)]; done)
        · refine wg_s rfl rfl ?_
          refine wg_s rfl rfl ?_
          refine wg_gi rfl rfl (show _ = ln from hln) ?_
          refine wg_if rfl rfl (fun h45 => ?_) (fun h45 => ?_)
          · refine wg_s rfl rfl ?_
            refine wg_if rfl rfl (fun h51 => ?_) (fun h51 => ?_)
            · refine wg_s rfl rfl ?_
              refine wg_ret rfl rfl trivial ⟨?_, rfl⟩
              congr 2
              unfold m_jv
              first | (rw [if_pos (by omega)]; done) | (rw [if_neg (by omega), if_pos (by omega)]; done) | (rw [if_neg (by omega), if_neg (by omega)]; done)
            · refine wg_s rfl rfl ?_
              refine wg_if rfl rfl (fun h56 => ?_) (fun h56 => ?_)
              · refine wg_s rfl rfl ?_
                refine wg_ret rfl rfl trivial ⟨?_, rfl⟩
                congr 2
                unfold m_jv
                first | (rw [if_pos (by omega)]; done) | (rw [if_neg (by omega), if_pos (by omega)]; done) | (rw [if_neg (by omega), if_neg (by omega)]; done)
              · refine wg_s rfl rfl ?_
                refine wg_s rfl rfl ?_
                refine wg_ret rfl rfl trivial ⟨?_, rfl⟩
                congr 2
                unfold m_jv
                first | (rw [if_pos (by omega)]; done) | (rw [if_neg (by omega), if_pos (by omega)]; done) | (rw [if_neg (by omega), if_neg (by omega)]; done)
          · refine wg_s rfl rfl ?_
            refine wg_ret rfl rfl trivial ⟨?_, rfl⟩
            congr 2
            unfold m_jv
            first | (rw [if_pos (by omega)]; done) | (rw [if_neg (by omega), if_pos (by omega)]; done) | (rw [if_neg (by omega), if_neg (by omega)]; done)
  have K1 : ∀ a : Int, ((0 ≤ u ∧ a = 1) ∨ (u < 0 ∧ a = 0)) → Wg d 68 μ 10 [(0, ab_r 8 (some t)), (1, ab_i u), (2, ab_i v)] [ab_i a] (fun vv μ' => vv = some (ab_i (m_jv u v lh ln)) ∧ μ' = μ) := by
    intro a ha
    refine wg_s rfl rfl ?_
    refine wg_s rfl rfl ?_
    refine wg_s rfl rfl ?_
    refine wg_if rfl rfl (fun h13 => ?_) (fun h13 => ?_)
    · refine wg_s rfl rfl ?_
      exact K2 _ _ ha (by omega)
    · refine wg_s rfl rfl ?_
      refine wg_s rfl rfl ?_
      exact K2 _ _ ha (by omega)
  refine wg_s rfl rfl ?_
  refine wg_s rfl rfl ?_
  refine wg_if rfl rfl (fun h2 => ?_) (fun h2 => ?_)
  · refine wg_s rfl rfl ?_
    exact K1 _ (by omega)
  · refine wg_s rfl rfl ?_
    refine wg_s rfl rfl ?_
    exact K1 _ (by omega)
theorem sp_xreport (d : Nat) (h w u v : Int) {ν μ : ab_M} {hl hw pl tm : Nat → Nat} {ow : Nat → Nat × Nat} {tc : Nat} (hI : IX ν μ hl hw pl tm ow tc) (hZ : WR ν) (hWL : WL ν) : Wp (d + 4) 84 [ab_r 9 (some 0), ab_i h, ab_i w, ab_i u, ab_i v] μ (fun vv μ' => ((0 ≤ h ∧ h < ag_I ν 10 0 1) ∧ 0 ≤ m_l ν h ∧ (ag_I ν 11 34 (m_l ν h).toNat ≤ w ∧ w ≤ ag_I ν 10 0 0) ∧ (-1 ≤ u ∧ u ≤ 60) ∧ (-1 ≤ v ∧ v ≤ 7) → vv = some (ab_i 1) ∧ μ' = as_I μ 11 (hw h.toNat) w.toNat (m_jv u v (ag_I ν 11 35 (m_l ν h).toNat) (ag_I ν 11 36 (m_l ν h).toNat))) ∧ (¬ ((0 ≤ h ∧ h < ag_I ν 10 0 1) ∧ 0 ≤ m_l ν h ∧ (ag_I ν 11 34 (m_l ν h).toNat ≤ w ∧ w ≤ ag_I ν 10 0 0) ∧ (-1 ≤ u ∧ u ≤ 60) ∧ (-1 ≤ v ∧ v ≤ 7)) → vv = some (ab_i 0) ∧ μ' = μ)) := by
  refine wp_of ?_
  obtain ⟨hX, hC, hH, hP, hL, hK, hT, hR, hS⟩ := id hI
  obtain ⟨z1, z6, z26, z0, z14⟩ := id hZ
  obtain ⟨c7, c8, c9, cC4, cC3, cC6, cC11⟩ := id hC
  by_cases hh : (0 ≤ h ∧ h < ag_I ν 10 0 1)
  · obtain ⟨n, rfl⟩ : ∃ n : Nat, h = n := ⟨h.toNat, by omega⟩
    obtain ⟨e15, ⟨e40, e41, e42, e43⟩, ⟨e44, e45, e46⟩, ⟨hL8, hL501⟩, hrng, how, hlk, hwk⟩ := hH n (by omega)
    by_cases ho : 0 ≤ m_l ν n
    · have ho2 : 0 ≤ m_lf ν n (ag_I ν 10 0 26).toNat := ho
      have hm := m_lf_rng ν n (ag_I ν 10 0 26).toNat
      have hj : (((m_l ν n).toNat : Nat) : Int) < ag_I ν 10 0 26 := by show ((m_lf ν n (ag_I ν 10 0 26).toNat).toNat : Int) < _; omega
      obtain ⟨⟨j0, j1, j3, j4⟩, ⟨j2, jt⟩, jr, j17⟩ := hL _ hj
      have hw8 := hWL _ hj
      refine wg_s rfl rfl ?_
      refine wg_s rfl rfl ?_
      refine wg_cf rfl rfl (sp_homeAt_t _ _ hI hZ hh) ?_
      refine wg_s rfl rfl ?_
      refine wg_s rfl rfl ?_
      refine wg_s rfl rfl ?_
      refine wg_s rfl rfl ?_
      refine wg_gn rfl rfl (show _ = some (m_l ν n).toNat from e46.trans (opS ho)) ?_
      refine wg_s rfl rfl ?_
      refine wg_s rfl rfl ?_
      refine wg_s rfl rfl ?_
      refine wg_gn rfl rfl (show _ = some (m_l ν n).toNat from e46.trans (opS ho)) ?_
      refine wg_s rfl rfl ?_
      refine wg_cf rfl rfl (sp_isWeekOf _ _ _ hI hZ hj) ?_
      refine wg_eqb rfl (fun h30 => ?_) (fun h30 => ?_)
      · refine wg_s rfl rfl ?_
        exact wg_ret rfl rfl (Or.inl rfl) ⟨fun h => absurd h (fun q => by omega), fun _ => ⟨rfl, rfl⟩⟩
      · refine wg_s rfl rfl ?_
        refine wg_s rfl rfl ?_
        refine wg_cf rfl rfl (sp_isNone _ _ _ _ (by omega)) ?_
        refine wg_eqb rfl (fun h39 => ?_) (fun h39 => ?_)
        · refine wg_s rfl rfl ?_
          exact wg_ret rfl rfl (Or.inl rfl) ⟨fun h => absurd h (fun q => by omega), fun _ => ⟨rfl, rfl⟩⟩
        · refine wg_s rfl rfl ?_
          refine wg_s rfl rfl ?_
          refine wg_cf rfl rfl (sp_isNone _ _ _ _ (by omega)) ?_
          refine wg_neb rfl (fun h49 => ?_) (fun h49 => ?_)
          · refine wg_s rfl rfl ?_
            refine wg_gn rfl rfl (show _ = some (hw n) from e45) ?_
            refine wg_s rfl rfl ?_
            refine wg_s rfl rfl ?_
            refine wg_gn rfl rfl (show _ = some (m_l ν n).toNat from e46.trans (opS ho)) ?_
            refine wg_gr rfl rfl j2 ?_
            refine wg_s rfl rfl ?_
            refine wg_s rfl rfl ?_
            refine wg_cf rfl rfl (sp_judgementOf _ (tm (m_l ν n).toNat) u v _ _ μ (jr 0 (by omega)) (jr 1 (by omega)) (by omega) (by omega)) ?_
            refine wg_axs rfl hL501 (by omega) (by omega) ?_
            refine wg_s rfl rfl ?_
            exact wg_ret rfl rfl (Or.inr rfl) ⟨fun _ => ⟨rfl, rfl⟩, fun h => absurd ⟨hh, ho, by omega, by omega, by omega⟩ h⟩
          · refine wg_s rfl rfl ?_
            exact wg_ret rfl rfl (Or.inl rfl) ⟨fun h => absurd h (fun q => by omega), fun _ => ⟨rfl, rfl⟩⟩
    · refine wg_s rfl rfl ?_
      refine wg_s rfl rfl ?_
      refine wg_cf rfl rfl (sp_homeAt_t _ _ hI hZ hh) ?_
      refine wg_s rfl rfl ?_
      refine wg_s rfl rfl ?_
      refine wg_s rfl rfl ?_
      refine wg_s rfl rfl ?_
      refine wg_gn rfl rfl (show _ = none from e46.trans (opN (by omega))) ?_
      refine wg_s rfl rfl ?_
      refine wg_s rfl rfl ?_
      exact wg_ret rfl rfl (Or.inl rfl) ⟨fun h => absurd h.2.1 ho, fun _ => ⟨rfl, rfl⟩⟩
  · refine wg_s rfl rfl ?_
    refine wg_s rfl rfl ?_
    refine wg_cf rfl rfl (sp_homeAt_f _ _ hI hZ hh) ?_
    refine wg_s rfl rfl ?_
    refine wg_s rfl rfl ?_
    refine wg_s rfl rfl ?_
    refine wg_s rfl rfl ?_
    exact wg_ret rfl rfl (Or.inl rfl) ⟨fun h => absurd h.1 hh, fun _ => ⟨rfl, rfl⟩⟩
theorem IX_report {ν μ : ab_M} {hl hw pl tm : Nat → Nat} {ow : Nat → Nat × Nat} {tc : Nat} (hI : IX ν μ hl hw pl tm ow tc) (h w : Nat) (u v : Int) (hh : (h : Int) < ag_I ν 10 0 1) (hw5 : w < 501) : IX (as_I (as_I ν 11 41 (501 * h + w) u) 11 42 (501 * h + w) v) (as_I μ 11 (hw h) w (m_jv u v (ag_I ν 11 35 (m_l ν h).toNat) (ag_I ν 11 36 (m_l ν h).toNat))) hl hw pl tm ow tc := by
  obtain ⟨hX, hC, hH, hP, hL, hK, hT, hR, hS⟩ := hI
  have hν : ∀ {r : Nat → Nat → Nat → Prop}, (∀ k, ¬ r 11 41 k ∧ ¬ r 11 42 k) → AG r ν (as_I (as_I ν 11 41 (501 * h + w) u) 11 42 (501 * h + w) v) := fun hr t n k hh => (ag_I_n (fun e => by obtain ⟨rfl, rfl, rfl⟩ := e; exact (hr _).2 hh)).trans (ag_I_n (fun e => by obtain ⟨rfl, rfl, rfl⟩ := e; exact (hr _).1 hh))
  obtain ⟨_, _, _, _, ⟨_, ⟨g1, g2⟩⟩, ⟨_, g3⟩, _, _⟩ := hH h hh
  refine ⟨hX, XC_A (hν (fun k => by unfold rC; omega)) hC, ?_, XP_A (hν (fun k => by unfold rP; omega)) ?_, XL_A (hν (fun k => by unfold rL; omega)) (XL_B (fun t n k h => ag_I_n (by omega)) (fun _ _ _ => rfl) (fun _ _ _ _ _ => rfl) (Nat.le_refl _) hL), XK_A (hν (fun k => by unfold rL; omega)) (XK_B (fun _ _ => ag_I_n (by omega)) hK), XT_A (hν (fun k => by unfold rT; omega)) (XT_B (ag_I_n (by omega)) (fun _ => ag_I_n (by omega)) hT), XR_A (hν (fun k => by unfold rR; omega)) (XR_B ⟨ag_I_n (by omega), ag_I_n (by omega)⟩ rfl (fun _ _ _ => ag_I_n (by omega)) (Nat.le_refl _) hR), XS_B (fun _ _ _ _ => ag_I_n (by omega)) hS⟩
  · have ha : AG (fun t n k => (t = 10) ∨ (t = 11 ∧ n ≠ 41 ∧ n ≠ 42)) ν (as_I (as_I ν 11 41 (501 * h + w) u) 11 42 (501 * h + w) v) := hν (fun k => by omega)
    intro n hn
    rw [ha 10 0 1 (by omega)] at hn
    obtain ⟨e15, ⟨e40, e41, e42, e43⟩, ⟨e44, e45, e46⟩, h8, hrng, ⟨how1, how2⟩, hlk, hwk⟩ := hH n hn
    have em : m_l (as_I (as_I ν 11 41 (501 * h + w) u) 11 42 (501 * h + w) v) n = m_l ν n := m_lf_c (fun j => ha 11 32 j (by omega)) (fun j => ha 11 40 j (by omega)) n _
    refine ⟨e15, ⟨?_, ?_, ?_, ?_⟩, ⟨e44, e45, by rw [em]; exact e46⟩, h8, hrng, ⟨how1, how2⟩, fun i hi => ?_, fun q1 w2 hw2 => ?_⟩
    · rw [ag_I_n (by omega), ha 11 20 n (by omega)]; exact e40
    · rw [ag_I_n (by omega), ha 11 21 n (by omega)]; exact e41
    · rw [ag_I_n (by omega), ha 11 22 n (by omega)]; exact e42
    · rw [ag_I_n (by omega), ha 11 23 n (by omega)]; exact e43
    · rw [ha 11 28 _ (by omega), ag_I_n (fun z => ?_)]
      · exact hlk i hi
      · have := how1.symm.trans ((congrArg ow z.2.1).trans g3)
        exact absurd (Prod.mk.inj this).1 (by omega)
    · rw [em] at q1 ⊢
      unfold m_ju
      rw [ha 11 35 _ (by omega), ha 11 36 _ (by omega)]
      by_cases e : n = h ∧ w2 = w
      · obtain ⟨rfl, rfl⟩ := e
        have ei : (501 * (n : Int) + (w2 : Int)).toNat = 501 * n + w2 := by omega
        rw [ag_I_y, ei, ag_I_y, ag_I_n (by omega), ag_I_y]
      · rw [ag_I_n (fun z => e ⟨?_, z.2.2⟩), ag_I_n (by omega), ag_I_n (by omega), ag_I_n (by omega), ag_I_n (by omega)]
        · exact hwk q1 w2 hw2
        · have := how2.symm.trans ((congrArg ow z.2.1).trans g3)
          exact (Prod.mk.inj this).2
  · intro n hn
    obtain ⟨p14, p3, p33, pL8, prng, pow, plk⟩ := hP n hn
    refine ⟨p14, ⟨?_, ?_, ?_, ?_⟩, p33, pL8, prng, pow, fun i hi => ?_⟩
    · rw [ag_I_n (by omega)]; exact p3.1
    · rw [ag_I_n (by omega)]; exact p3.2.1
    · rw [ag_I_n (by omega)]; exact p3.2.2.1
    · rw [ag_I_n (by omega)]; exact p3.2.2.2
    · rw [ag_I_n (fun z => ?_)]
      · exact plk i hi
      · have := pow.symm.trans ((congrArg ow z.2.1).trans g3)
        exact absurd (Prod.mk.inj this).1 (by omega)
