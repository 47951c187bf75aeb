/-! ===== the class: share, until, on ===== -/
theorem sp_frac (d c : Nat) (μ : ab_M) : Wp (d + 1) 42 [ab_r 2 (some c)] μ (fun vv μ' => vv = none ∧ μ' = as_J (as_J μ 2 c 0 1) 2 c 1 1) := by
  refine wp_of ?_
  refine wg_s rfl rfl ?_
  refine wg_s rfl rfl ?_
  refine wg_s rfl rfl ?_
  refine wg_s rfl rfl ?_
  refine wg_s rfl rfl ?_
  refine wg_s rfl rfl ?_
  refine wg_s rfl rfl ?_
  refine wg_s rfl rfl ?_
  exact wg_ret rfl rfl trivial ⟨rfl, rfl⟩
theorem sp_shareAt (d : Nat) {ν μ : ab_M} {hl hw pl tm : Nat → Nat} {ow : Nat → Nat × Nat} {tc : Nat} (hI : IX ν μ hl hw pl tm ow tc) (hZ : WR ν) (h16 : W16 ν) (k : Nat) (hk : k < 4) (hE : WE ν) (hWL : WL ν) (w : Int) (hw : 0 ≤ w ∧ w ≤ 500) : Wp (d + 4) 53 [ab_r 5 (some k), ab_i w, ab_i (ag_I ν 10 0 0)] μ (fun vv μ' => vv = some (ab_r 2 (some (ag_C μ 2))) ∧ XE μ μ' ∧ MK μ μ' ∧ (ag_c μ' = ag_c μ + 1 ∧ ag_s μ' = ag_s μ + ab_nf 2) ∧ ag_J μ' 2 (ag_C μ 2) 0 = ((m_sh ν k (w + 1).toNat).1 : Int) ∧ ag_J μ' 2 (ag_C μ 2) 1 = ((m_sh ν k (w + 1).toNat).2 : Int)) := by
  refine wp_of ?_
  obtain ⟨hX, hC, hH, hP, hL, hK, hT, hR, hS⟩ := id hI
  obtain ⟨z1, z6, z26, z0, z14⟩ := id hZ
  obtain ⟨c7, c8, c9, cC4, cC3, cC6, cC11⟩ := id hC
  have hk1 : ag_I μ 5 k 1 = (ck ν k : Int) := (hK k hk).trans (m_ct_cn ν k _)
  have hk16 : ((ck ν k : Nat) : Int) ≤ 16 := by have := h16 (k : Int); rw [m_ct_cn] at this; exact this
  have hkx := hX.2.2.2 k hk
  have hI0 := IX_E (XE_N2 μ 0 (ab_nf 2)) hI
  refine wg_s rfl rfl ?_
  refine wg_s rfl rfl ?_
  refine wg_cv rfl rfl (sp_frac _ _ _) ?_
  refine wg_s rfl rfl ?_
  refine wg_s rfl rfl ?_
  refine wg_s rfl rfl ?_
  refine wg_s rfl rfl ?_
  refine wg_cf rfl rfl (sp_nextEnding _ (μ := as_J (as_J (as_N μ 2 0 (ab_nf 2)) 2 (ag_C μ 2) 0 1) 2 (ag_C μ 2) 1 1) hI0 hZ h16 k hk hE hWL (-1)) ?_
  refine wg_s rfl rfl ?_
  refine wg_s rfl rfl ?_
  refine wg_s rfl rfl ?_
  refine wg_mono (lp_shareAt (d := d) (μ := as_N μ 2 0 (ab_nf 2)) hI0 hZ h16 k hk hE hWL w hw (ag_C μ 2) 503 (-1) _ 0 (by omega) (by omega) (by omega) ⟨(jg_k _ _ (by decide)).trans (jg_eq _ _ _ _ _), jg_eq _ _ _ _ _⟩ (nb_rng _ _).1) (fun vv μ' h => ?_)
  obtain ⟨h1, Jf, rfl, h2, h3⟩ := h
  exact ⟨h1, XE_N2 μ 0 (ab_nf 2), MK_N2 μ 0 (ab_nf 2), ⟨rfl, rfl⟩, h2, h3⟩
theorem sp_xshare (d : Nat) (k w b : Int) {ν μ : ab_M} {hl hw pl tm : Nat → Nat} {ow : Nat → Nat × Nat} {tc : Nat} (hI : IX ν μ hl hw pl tm ow tc) (hZ : WR ν) (hW16 : W16 ν) (hE : WE ν) (hWL : WL ν) : Wp (d + 5) 89 [ab_r 9 (some 0), ab_i k, ab_i w, ab_i b] μ (fun vv μ' => vv = some (ab_l (if (0 ≤ k ∧ k ≤ 3) ∧ (0 ≤ w ∧ w ≤ 500) then (if b = 0 then ((m_sh ν k (w + 1).toNat).1 : Int) else ((m_sh ν k (w + 1).toNat).2 : Int)) else -1)) ∧ XE μ μ' ∧ MK μ μ' ∧ ag_c μ' ≤ ag_c μ + 1 ∧ ag_s μ' ≤ ag_s μ + 100) := by
  refine wp_of ?_
  obtain ⟨hX, hC, hH, hP, hL, hK, hT, hR, hS⟩ := id hI
  obtain ⟨z1, z6, z26, z0, z14⟩ := id hZ
  obtain ⟨c7, c8, c9, cC4, cC3, cC6, cC11⟩ := id hC
  by_cases hh : 0 ≤ k ∧ k < 4
  · obtain ⟨n, rfl⟩ : ∃ n : Nat, k = n := ⟨k.toNat, by omega⟩
    refine wg_s rfl rfl ?_
    refine wg_s rfl rfl ?_
    refine wg_cf rfl rfl (sp_kindAt_t _ _ hI hZ hh) ?_
    refine wg_s rfl rfl ?_
    refine wg_s rfl rfl ?_
    refine wg_s rfl rfl ?_
    refine wg_s rfl rfl ?_
    refine wg_cf rfl rfl (sp_isWeek _ _ _) ?_
    refine wg_neb rfl (fun h16 => ?_) (fun h16 => ?_)
    · refine wg_s rfl rfl ?_
      refine wg_s rfl rfl ?_
      refine wg_s rfl rfl ?_
      refine wg_gi rfl rfl (show _ = ag_I ν 10 0 0 from c9) ?_
      refine wg_call rfl rfl (sp_shareAt d hI hZ hW16 n (by omega) hE hWL w (by omega)) (fun vv μ' h => ?_)
      obtain ⟨rfl, a1, a2, ⟨a3, a4⟩, a5, a6⟩ := h
      refine wg_s rfl rfl ?_
      refine wg_s rfl rfl ?_
      refine wg_if rfl rfl (fun h36 => ?_) (fun h36 => ?_)
      · refine wg_s rfl rfl ?_
        refine wg_gj rfl rfl a5 ?_
        refine wg_ret rfl rfl trivial ⟨?_, a1, a2, by omega, by rw [a4]; exact Nat.add_le_add_left (by decide) _⟩
        rw [if_pos ⟨by omega, by omega⟩]
        first | rw [if_pos h36] | rw [if_neg h36]
      · refine wg_s rfl rfl ?_
        refine wg_gj rfl rfl a6 ?_
        refine wg_s rfl rfl ?_
        refine wg_ret rfl rfl trivial ⟨?_, a1, a2, by omega, by rw [a4]; exact Nat.add_le_add_left (by decide) _⟩
        rw [if_pos ⟨by omega, by omega⟩]
        first | rw [if_pos h36] | rw [if_neg h36]
    · refine wg_s rfl rfl ?_
      refine wg_ret rfl rfl trivial ⟨?_, XE_refl μ, MK_refl μ, by omega, by omega⟩
      rw [if_neg (by omega)]; rfl
  · refine wg_s rfl rfl ?_
    refine wg_s rfl rfl ?_
    refine wg_cf rfl rfl (sp_kindAt_f _ _ hI hZ hh) ?_
    refine wg_s rfl rfl ?_
    refine wg_s rfl rfl ?_
    refine wg_s rfl rfl ?_
    refine wg_s rfl rfl ?_
    refine wg_ret rfl rfl trivial ⟨?_, XE_refl μ, MK_refl μ, by omega, by omega⟩
    rw [if_neg (by omega)]; rfl
theorem un_skip {ν : ab_M} {k p : Int} : ∀ {n a b : Nat}, b = a + n → b ≤ 501 → (∀ t : Nat, a ≤ t → t < b → ¬ (100 * ((m_sh ν k (t + 1)).1 : Int) < p * ((m_sh ν k (t + 1)).2 : Int))) → m_un ν k p (501 - a) a = m_un ν k p (501 - b) b
  | 0, a, b, h, _, _ => by rw [h]; rfl
  | n + 1, a, b, h, h2, hz => by
    rw [show 501 - a = (501 - (a + 1)) + 1 by omega]
    show (if _ then _ else _) = _
    rw [if_neg (hz a (by omega) (by omega))]
    exact un_skip (n := n) (a := a + 1) (b := b) (by omega) h2 (fun t t1 t2 => hz t (by omega) t2)
theorem lp_first {d : Nat} {ν μ : ab_M} {hl hw pl tm : Nat → Nat} {ow : Nat → Nat × Nat} {tc : Nat} (hI : IX ν μ hl hw pl tm ow tc) (hZ : WR ν) (h16 : W16 ν) (k : Nat) (hk : k < 4) (hE : WE ν) (hWL : WL ν) (p : Int) (hp : 1 ≤ p ∧ p ≤ 100) (c : Nat) : ∀ (N : Nat) (a : Int) (Jf : Nat → Nat → Nat → Int) (i : Nat), 501 - a < N → -1 ≤ a → a ≤ 500 → (Jf 2 c 0 = ((m_sh ν k (a + 1).toNat).1 : Int) ∧ Jf 2 c 1 = ((m_sh ν k (a + 1).toNat).2 : Int)) → ¬ (100 * ((m_sh ν k (a + 1).toNat).1 : Int) < p * ((m_sh ν k (a + 1).toNat).2 : Int)) → (i : Int) ≤ eb ν k a → Wg (d + 3) 54 (μ.1, Jf, μ.2.2) 19 [(0, ab_r 5 (some k)), (1, ab_i p), (2, ab_i (ag_I ν 10 0 0)), (3, ab_r 2 (some c)), (4, ab_i (ne ν k a (ck ν k))), (5, ab_i (i : Int))] [] (fun vv μ' => vv = some (ab_i (m_un ν k p (501 - (a + 1).toNat) (a + 1).toNat)) ∧ ∃ Jf, μ' = (μ.1, Jf, μ.2.2)) := by
  intro N
  induction N with
  | zero => intro a Jf i hn ha haw; omega
  | succ N ih =>
    intro a Jf i hn ha haw hJ hnb hie
    obtain ⟨hX, hC, hH, hP, hL, hK, hT, hR, hS⟩ := id hI
    obtain ⟨z1, z6, z26, z0, z14⟩ := id hZ
    obtain ⟨c7, c8, c9, cC4, cC3, cC6, cC11⟩ := id hC
    have hk1 : ag_I μ 5 k 1 = (ck ν k : Int) := (hK k hk).trans (m_ct_cn ν k _)
    have hk16 : ((ck ν k : Nat) : Int) ≤ 16 := by have := h16 (k : Int); rw [m_ct_cn] at this; exact this
    have hkx := hX.2.2.2 k hk
    have hnp := ne_p ν k a ha (ck ν k)
    have hinv := m_sh_inv (h16 (k : Int))
    generalize hwk : ne ν k a (ck ν k) = wk at hnp
    rcases hnp with ⟨w1, w2⟩ | ⟨w1, ⟨i0, w2, w3⟩, w4⟩
    · have hend : m_un ν k p (501 - (a + 1).toNat) (a + 1).toNat = -1 := by
        refine un_skip (n := 501 - (a + 1).toNat) (b := 501) (by omega) (Nat.le_refl _) (fun t t1 t2 => ?_)
        rw [m_sh_skip (a := (a + 1).toNat) (b := t + 1) (by omega) (fun s s1 s2 => sd_0 (a := a) (b := 1000) (fun i hi h0 => Or.inl (w2 i hi h0)) s (by omega) (by omega))]
        exact hnb
      refine wg_s rfl rfl ?_
      refine wg_s rfl rfl ?_
      refine wg_if rfl rfl (fun h23 => ?_) (fun h23 => ?_)
      · refine wg_s rfl rfl ?_
        refine wg_ret rfl rfl trivial ⟨by rw [hend], Jf, rfl⟩
      · refine wg_s rfl rfl ?_
        refine wg_s rfl rfl ?_
        refine wg_if rfl rfl (fun h29 => ?_) (fun h29 => ?_)
        · refine wg_s rfl rfl ?_
          refine wg_ret rfl rfl trivial ⟨by rw [hend], Jf, rfl⟩
        · exfalso; omega
    · have e1 := eb_lt w2 (show a < ag_I ν 11 40 (jj ν k i0) by omega) ha
      rw [w3] at e1
      have hw5 := (hWL _ (jj_p hI hZ hk w2).1).2.2.2
      rw [w3] at hw5
      have hz : ∀ i, i < ck ν k → 0 ≤ ag_I ν 11 40 (jj ν k i) → ag_I ν 11 40 (jj ν k i) ≤ a ∨ wk ≤ ag_I ν 11 40 (jj ν k i) := fun i hi h0 => by by_cases q : ag_I ν 11 40 (jj ν k i) ≤ a; (exact Or.inl q); exact Or.inr (w4 i hi h0 (by omega))
      have hskip : m_sh ν k wk.toNat = m_sh ν k (a + 1).toNat := m_sh_skip (by omega) (fun t t1 t2 => sd_0 hz t (by omega) (by omega))
      have hun : m_un ν k p (501 - (a + 1).toNat) (a + 1).toNat = m_un ν k p (501 - wk.toNat) wk.toNat := by
        refine un_skip (n := wk.toNat - (a + 1).toNat) (by omega) (by omega) (fun t t1 t2 => ?_)
        rw [m_sh_skip (a := (a + 1).toNat) (b := t + 1) (by omega) (fun s s1 s2 => sd_0 hz s (by omega) (by omega))]
        exact hnb
      have hd1 := sd_1 w2 w3
      have hinvw := hinv wk.toNat
      have hinv1 := hinv (wk + 1).toNat
      have hl2 : (m_sh ν k (wk + 1).toNat).2 ≤ 20922789888000 := by rw [← fac_16]; exact Nat.le_trans (Nat.le_mul_of_pos_right _ (fac_pos _)) hinv1.2.2
      rw [hskip] at hinvw
      have hnext : m_sh ν k (wk + 1).toNat = sh_st (m_sh ν k (a + 1).toNat) (m_sd ν k wk (ag_I ν 10 0 26).toNat).toNat (m_sn ν k wk (ag_I ν 10 0 26).toNat).toNat := by
        rw [tn1 (show 0 ≤ wk by omega)]
        show sh_st (m_sh ν k wk.toNat) _ _ = _
        rw [hskip, tnc (show 0 ≤ wk by omega)]
      rw [tnc (show 0 ≤ wk by omega)] at hinvw
      have hu1 : m_un ν k p (501 - wk.toNat) wk.toNat = if 100 * ((m_sh ν k (wk + 1).toNat).1 : Int) < p * ((m_sh ν k (wk + 1).toNat).2 : Int) then (wk.toNat : Int) else m_un ν k p (501 - (wk + 1).toNat) (wk + 1).toNat := by
        rw [tn1 (show 0 ≤ wk by omega), show 501 - wk.toNat = (501 - (wk.toNat + 1)) + 1 by omega]
        rfl
      have hfound : 100 * ((m_sh ν k (wk + 1).toNat).1 : Int) < p * ((m_sh ν k (wk + 1).toNat).2 : Int) → m_un ν k p (501 - (a + 1).toNat) (a + 1).toNat = wk := fun h => by rw [hun, hu1, if_pos h]; omega
      have hstep : ¬ (100 * ((m_sh ν k (wk + 1).toNat).1 : Int) < p * ((m_sh ν k (wk + 1).toNat).2 : Int)) → m_un ν k p (501 - (wk + 1).toNat) (wk + 1).toNat = m_un ν k p (501 - (a + 1).toNat) (a + 1).toNat := fun h => by rw [hun, hu1, if_neg h]
      obtain ⟨hu, hv⟩ := hJ
      generalize m_sh ν k (a + 1).toNat = q at hu hv hinvw hnext hskip hnb
      have hq := hinvw
      have hq3 := hinvw.2.2
      refine wg_s rfl rfl ?_
      refine wg_s rfl rfl ?_
      refine wg_if rfl rfl (fun h23 => ?_) (fun h23 => ?_)
      · refine wg_s rfl rfl ?_
        first | (exfalso; omega) | (refine wg_ret rfl rfl trivial ⟨?_, Jf2, rfl⟩; rw [hfound h45])
      · refine wg_s rfl rfl ?_
        refine wg_s rfl rfl ?_
        refine wg_if rfl rfl (fun h29 => ?_) (fun h29 => ?_)
        · refine wg_s rfl rfl ?_
          first | (exfalso; omega) | (refine wg_ret rfl rfl trivial ⟨?_, Jf2, rfl⟩; rw [hfound h45])
        · refine wg_s rfl rfl ?_
          refine wg_s rfl rfl ?_
          refine wg_s rfl rfl ?_
          refine wg_s rfl rfl ?_
          refine wg_call rfl rfl (sp_take _ (μ := (μ.1, Jf, μ.2.2)) hI hZ h16 k hk hE hWL wk (by omega) c q.1 q.2 hu hv hq.1 hq.2.1 hq3 hd1) (fun vv μ' h => ?_)
          obtain ⟨rfl, Jf2, rfl, a1, a2⟩ := h
          rw [← hnext] at a1 a2
          refine wg_s rfl rfl ?_
          refine wg_s rfl rfl ?_
          refine wg_cf rfl rfl (sp_below _ c (m_sh ν k (wk + 1).toNat).1 (m_sh ν k (wk + 1).toNat).2 p (μ.1, Jf2, μ.2.2) a1 a2 hinv1.2.1 hl2 hp) ?_
          refine wg_eqb rfl (fun h45 => ?_) (fun h45 => ?_)
          · refine wg_s rfl rfl ?_
            refine wg_s rfl rfl ?_
            refine wg_s rfl rfl ?_
            refine wg_cf rfl rfl (sp_nextEnding _ (μ := (μ.1, Jf2, μ.2.2)) hI hZ h16 k hk hE hWL wk) ?_
            refine wg_s rfl rfl ?_
            refine wg_iinc rfl rfl rfl (by omega) (by omega) rfl ?_
            refine wg_s rfl rfl ?_
            have := ih wk Jf2 (i + 1) (by omega) (by omega) (by omega) ⟨a1, a2⟩ h45 (by omega)
            rw [hstep h45] at this
            exact this
          · refine wg_s rfl rfl ?_
            first | (exfalso; omega) | (refine wg_ret rfl rfl trivial ⟨?_, Jf2, rfl⟩; rw [hfound h45])
