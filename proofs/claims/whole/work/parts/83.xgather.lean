/-! ===== the class: the free ones are gathered ===== -/
def t_2t (e : Option (Nat × Nat)) : ab_L := match e with
  | none => []
  | some (t, x) => [(2, ab_r t (some x))]
def R6 (μ : ab_M) : Prop := ∀ i j, i < 6 → j < 6 → ag_I μ 11 (4 + i) j = -1 ∧ ag_I μ 11 (10 + i) j = -1
theorem R6_set {μ : ab_M} (h : R6 μ) {t n k : Nat} {x : Int} (hs : ¬ (t = 11 ∧ 4 ≤ n ∧ n ≤ 15)) : R6 (as_I μ t n k x) := fun i j hi hj => ⟨(ag_I_n (by omega)).trans (h i j hi hj).1, (ag_I_n (by omega)).trans (h i j hi hj).2⟩
theorem cn_s (f : Nat → Bool) (n : Nat) : cn f (n + 1) = cn f n + if f n = true then 1 else 0 := rfl
theorem ith_at {f : Nat → Bool} {n : Nat} (h : f n = true) : ith f (n + 1) (cn f n) = n := by
  show (if f n = true ∧ cn f n = cn f n then n else _) = n
  rw [if_pos ⟨h, rfl⟩]
theorem lp_gp {d : Nat} {ν μ0 : ab_M} {hl hw pl tm : Nat → Nat} {ow : Nat → Nat × Nat} {tc : Nat} (hI0 : IX ν μ0 hl hw pl tm ow tc) (hZ : WR ν) (h6 : n_h ν ≤ 6) : ∀ (N p : Nat) (e : Option (Nat × Nat)) (μ : ab_M), ag_I ν 10 0 6 - p < N → (p : Int) ≤ ag_I ν 10 0 6 → PB μ0 μ → ag_I μ 1 0 2 = (n_h ν : Int) → ag_I μ 1 0 3 = (cn (f_p ν) p : Int) → R6 μ → (∀ i, i < n_h ν → ag_I μ 11 2 i = (l_h ν i : Int)) → (∀ j, j < cn (f_p ν) p → ag_I μ 11 3 j = (ith (f_p ν) p j : Int)) → cn (f_p ν) p ≤ 6 → Wg (d + 2) 107 μ 55 ([(0, ab_r 9 (some 0)), (1, ab_i (p : Int))] ++ t_2t e) [] (fun vv μ' => PB μ0 μ' ∧ (n_h ν ≤ 6 ∧ n_p ν ≤ 6 → vv = some (ab_i 1) ∧ (ag_I μ' 1 0 2 = (n_h ν : Int) ∧ ag_I μ' 1 0 3 = (n_p ν : Int)) ∧ R6 μ' ∧ (∀ i, i < n_h ν → ag_I μ' 11 2 i = (l_h ν i : Int)) ∧ ∀ j, j < n_p ν → ag_I μ' 11 3 j = (l_p ν j : Int)) ∧ (¬ (n_h ν ≤ 6 ∧ n_p ν ≤ 6) → vv = some (ab_i 0)))
  | 0, _, _, _, h, _, _, _, _, _, _, _, _ => by omega
  | N + 1, p, e, μ, h1, h2, hP, e2, e3, hR6, hho, hhp, hcc => by
    cases e with
    | none =>
      have hI := IX_E (PB_XE hP) hI0
      obtain ⟨hX, hC, hH, hP1, hL1, hK, hT, hR, hS⟩ := id hI
      obtain ⟨z1, z6, z26, z0, z14⟩ := id hZ
      obtain ⟨c7, c8, c9, cC4, cC3, cC6, cC11⟩ := id hC
      refine wg_s rfl rfl ?_
      refine wg_s rfl rfl ?_
      refine wg_gi rfl rfl (show _ = ag_I ν 10 0 6 from c8) ?_
      refine wg_if rfl rfl (fun h60 => ?_) (fun h60 => ?_)
      · have ep : p = (ag_I ν 10 0 6).toNat := by omega
        subst ep
        refine wg_s rfl rfl ?_
        refine wg_ret rfl rfl (Or.inr rfl) ⟨hP, fun w => ⟨rfl, ⟨e2, e3⟩, hR6, hho, hhp⟩, fun w => absurd ⟨h6, hcc⟩ w⟩
      · obtain ⟨p14, p3, ⟨p33, p35⟩, pL8, prng, pow, plk⟩ := hP1 p (by omega)
        by_cases hf : m_pf ν p (ag_I ν 10 0 26).toNat < 0
        · have hfp : f_p ν p = true := (m_pf_fr ν p (ag_I ν 10 0 26).toNat).mp hf
          refine wg_s rfl rfl ?_
          refine wg_s rfl rfl ?_
          refine wg_cf rfl rfl (sp_helperAt_t _ _ hI hZ (by omega)) ?_
          refine wg_s rfl rfl ?_
          refine wg_s rfl rfl ?_
          refine wg_s rfl rfl ?_
          refine wg_s rfl rfl ?_
          refine wg_gn rfl rfl (show _ = none from p35.trans (opN hf)) ?_
          refine wg_s rfl rfl ?_
          refine wg_s rfl rfl ?_
          refine wg_gx rfl rfl hX ?_
          refine wg_s rfl rfl ?_
          refine wg_cf rfl rfl (sp_addHelper _ (cn (f_p ν) p) _ hX e3 hcc) ?_
          by_cases h6c : cn (f_p ν) p < 6
          · have ec : cn (f_p ν) (p + 1) = cn (f_p ν) p + 1 := by rw [cn_s, if_pos hfp]
            rw [if_pos h6c]
            refine wg_neb rfl (fun h88 => ?_) (fun h88 => absurd h6c h88)
            refine wg_iinc rfl rfl rfl (by omega) (by omega) rfl ?_
            refine wg_s rfl rfl ?_
            have hrec := lp_gp (d := d) hI0 hZ h6 N (p + 1) (some (3, p)) (as_I (as_I μ 11 3 (cn (f_p ν) p) (p : Int)) 1 0 3 ((cn (f_p ν) p : Int) + 1)) (by omega) (by omega) (PB_set (PB_set hP (by omega)) (by omega)) ((ag_I_n (by omega)).trans ((ag_I_n (by omega)).trans e2)) (by rw [ec]; exact (ag_I_y _ _ _ _ _).trans (by omega)) (R6_set (R6_set hR6 (by omega)) (by omega)) (fun i hi => (ag_I_n (by omega)).trans ((ag_I_n (by omega)).trans (hho i hi))) (fun j hj => by
                    rw [ec] at hj
                    by_cases e : j = cn (f_p ν) p
                    · rw [e, ag_I_n (by omega), ag_I_y, ith_at hfp]
                    · rw [ag_I_n (by omega), ag_I_n (by omega), ith_lt (by omega)]; exact hhp j (by omega)) (by rw [ec]; omega)
            rw [show ((p + 1 : Nat) : Int) = (p : Int) + 1 by omega] at hrec
            exact hrec
          · rw [if_neg h6c]
            refine wg_neb rfl (fun h88 => absurd h88 h6c) (fun h88 => ?_)
            refine wg_s rfl rfl ?_
            refine wg_ret rfl rfl (Or.inl rfl) ⟨hP, fun w => absurd w.2 ?_, fun _ => rfl⟩
            have := cn_mono (f_p ν) (show p + 1 ≤ (ag_I ν 10 0 6).toNat by omega)
            rw [cn_s, if_pos hfp] at this
            show ¬ cn (f_p ν) (ag_I ν 10 0 6).toNat ≤ 6
            omega
        · have hnf : ¬ f_p ν p = true := fun w => hf ((m_pf_fr ν p (ag_I ν 10 0 26).toNat).mpr w)
          refine wg_s rfl rfl ?_
          refine wg_s rfl rfl ?_
          refine wg_cf rfl rfl (sp_helperAt_t _ _ hI hZ (by omega)) ?_
          refine wg_s rfl rfl ?_
          refine wg_s rfl rfl ?_
          refine wg_s rfl rfl ?_
          refine wg_s rfl rfl ?_
          refine wg_gn rfl rfl (show _ = some (m_pf ν p (ag_I ν 10 0 26).toNat).toNat from p35.trans (opS (by omega))) ?_
          refine wg_s rfl rfl ?_
          have ec : cn (f_p ν) (p + 1) = cn (f_p ν) p := by rw [cn_s, if_neg hnf]; rfl
          refine wg_iinc rfl rfl rfl (by omega) (by omega) rfl ?_
          refine wg_s rfl rfl ?_
          have hrec := lp_gp (d := d) hI0 hZ h6 N (p + 1) (some (3, p)) (μ) (by omega) (by omega) hP (e2) (by rw [ec]; exact e3) (hR6) (hho) (fun j hj => by rw [ec] at hj; rw [ith_lt hj]; exact hhp j hj) (by rw [ec]; exact hcc)
          rw [show ((p + 1 : Nat) : Int) = (p : Int) + 1 by omega] at hrec
          exact hrec
    | some e =>
      obtain ⟨et, ex⟩ := e
      have hI := IX_E (PB_XE hP) hI0
      obtain ⟨hX, hC, hH, hP1, hL1, hK, hT, hR, hS⟩ := id hI
      obtain ⟨z1, z6, z26, z0, z14⟩ := id hZ
      obtain ⟨c7, c8, c9, cC4, cC3, cC6, cC11⟩ := id hC
      refine wg_s rfl rfl ?_
      refine wg_s rfl rfl ?_
      refine wg_gi rfl rfl (show _ = ag_I ν 10 0 6 from c8) ?_
      refine wg_if rfl rfl (fun h60 => ?_) (fun h60 => ?_)
      · have ep : p = (ag_I ν 10 0 6).toNat := by omega
        subst ep
        refine wg_s rfl rfl ?_
        refine wg_ret rfl rfl (Or.inr rfl) ⟨hP, fun w => ⟨rfl, ⟨e2, e3⟩, hR6, hho, hhp⟩, fun w => absurd ⟨h6, hcc⟩ w⟩
      · obtain ⟨p14, p3, ⟨p33, p35⟩, pL8, prng, pow, plk⟩ := hP1 p (by omega)
        by_cases hf : m_pf ν p (ag_I ν 10 0 26).toNat < 0
        · have hfp : f_p ν p = true := (m_pf_fr ν p (ag_I ν 10 0 26).toNat).mp hf
          refine wg_s rfl rfl ?_
          refine wg_s rfl rfl ?_
          refine wg_cf rfl rfl (sp_helperAt_t _ _ hI hZ (by omega)) ?_
          refine wg_s rfl rfl ?_
          refine wg_s rfl rfl ?_
          refine wg_s rfl rfl ?_
          refine wg_s rfl rfl ?_
          refine wg_gn rfl rfl (show _ = none from p35.trans (opN hf)) ?_
          refine wg_s rfl rfl ?_
          refine wg_s rfl rfl ?_
          refine wg_gx rfl rfl hX ?_
          refine wg_s rfl rfl ?_
          refine wg_cf rfl rfl (sp_addHelper _ (cn (f_p ν) p) _ hX e3 hcc) ?_
          by_cases h6c : cn (f_p ν) p < 6
          · have ec : cn (f_p ν) (p + 1) = cn (f_p ν) p + 1 := by rw [cn_s, if_pos hfp]
            rw [if_pos h6c]
            refine wg_neb rfl (fun h88 => ?_) (fun h88 => absurd h6c h88)
            refine wg_iinc rfl rfl rfl (by omega) (by omega) rfl ?_
            refine wg_s rfl rfl ?_
            have hrec := lp_gp (d := d) hI0 hZ h6 N (p + 1) (some (3, p)) (as_I (as_I μ 11 3 (cn (f_p ν) p) (p : Int)) 1 0 3 ((cn (f_p ν) p : Int) + 1)) (by omega) (by omega) (PB_set (PB_set hP (by omega)) (by omega)) ((ag_I_n (by omega)).trans ((ag_I_n (by omega)).trans e2)) (by rw [ec]; exact (ag_I_y _ _ _ _ _).trans (by omega)) (R6_set (R6_set hR6 (by omega)) (by omega)) (fun i hi => (ag_I_n (by omega)).trans ((ag_I_n (by omega)).trans (hho i hi))) (fun j hj => by
                    rw [ec] at hj
                    by_cases e : j = cn (f_p ν) p
                    · rw [e, ag_I_n (by omega), ag_I_y, ith_at hfp]
                    · rw [ag_I_n (by omega), ag_I_n (by omega), ith_lt (by omega)]; exact hhp j (by omega)) (by rw [ec]; omega)
            rw [show ((p + 1 : Nat) : Int) = (p : Int) + 1 by omega] at hrec
            exact hrec
          · rw [if_neg h6c]
            refine wg_neb rfl (fun h88 => absurd h88 h6c) (fun h88 => ?_)
            refine wg_s rfl rfl ?_
            refine wg_ret rfl rfl (Or.inl rfl) ⟨hP, fun w => absurd w.2 ?_, fun _ => rfl⟩
            have := cn_mono (f_p ν) (show p + 1 ≤ (ag_I ν 10 0 6).toNat by omega)
            rw [cn_s, if_pos hfp] at this
            show ¬ cn (f_p ν) (ag_I ν 10 0 6).toNat ≤ 6
            omega
        · have hnf : ¬ f_p ν p = true := fun w => hf ((m_pf_fr ν p (ag_I ν 10 0 26).toNat).mpr w)
          refine wg_s rfl rfl ?_
          refine wg_s rfl rfl ?_
          refine wg_cf rfl rfl (sp_helperAt_t _ _ hI hZ (by omega)) ?_
          refine wg_s rfl rfl ?_
          refine wg_s rfl rfl ?_
          refine wg_s rfl rfl ?_
          refine wg_s rfl rfl ?_
          refine wg_gn rfl rfl (show _ = some (m_pf ν p (ag_I ν 10 0 26).toNat).toNat from p35.trans (opS (by omega))) ?_
          refine wg_s rfl rfl ?_
          have ec : cn (f_p ν) (p + 1) = cn (f_p ν) p := by rw [cn_s, if_neg hnf]; rfl
          refine wg_iinc rfl rfl rfl (by omega) (by omega) rfl ?_
          refine wg_s rfl rfl ?_
          have hrec := lp_gp (d := d) hI0 hZ h6 N (p + 1) (some (3, p)) (μ) (by omega) (by omega) hP (e2) (by rw [ec]; exact e3) (hR6) (hho) (fun j hj => by rw [ec] at hj; rw [ith_lt hj]; exact hhp j hj) (by rw [ec]; exact hcc)
          rw [show ((p + 1 : Nat) : Int) = (p : Int) + 1 by omega] at hrec
          exact hrec
theorem lp_gh {d : Nat} {ν μ0 : ab_M} {hl hw pl tm : Nat → Nat} {ow : Nat → Nat × Nat} {tc : Nat} (hI0 : IX ν μ0 hl hw pl tm ow tc) (hZ : WR ν) : ∀ (N h : Nat) (e : Option (Nat × Nat)) (μ : ab_M), ag_I ν 10 0 1 - h < N → (h : Int) ≤ ag_I ν 10 0 1 → PB μ0 μ → ag_I μ 1 0 2 = (cn (f_h ν) h : Int) → ag_I μ 1 0 3 = 0 → R6 μ → (∀ i, i < cn (f_h ν) h → ag_I μ 11 2 i = (ith (f_h ν) h i : Int)) → cn (f_h ν) h ≤ 6 → Wg (d + 2) 107 μ 9 ([(0, ab_r 9 (some 0)), (1, ab_i (h : Int))] ++ t_2t e) [] (fun vv μ' => PB μ0 μ' ∧ (n_h ν ≤ 6 ∧ n_p ν ≤ 6 → vv = some (ab_i 1) ∧ (ag_I μ' 1 0 2 = (n_h ν : Int) ∧ ag_I μ' 1 0 3 = (n_p ν : Int)) ∧ R6 μ' ∧ (∀ i, i < n_h ν → ag_I μ' 11 2 i = (l_h ν i : Int)) ∧ ∀ j, j < n_p ν → ag_I μ' 11 3 j = (l_p ν j : Int)) ∧ (¬ (n_h ν ≤ 6 ∧ n_p ν ≤ 6) → vv = some (ab_i 0)))
  | 0, _, _, _, h, _, _, _, _, _, _, _ => by omega
  | N + 1, h, e, μ, h1, h2, hP, e2, e3, hR6, hho, hcc => by
    cases e with
    | none =>
      have hI := IX_E (PB_XE hP) hI0
      obtain ⟨hX, hC, hH, hP1, hL1, hK, hT, hR, hS⟩ := id hI
      obtain ⟨z1, z6, z26, z0, z14⟩ := id hZ
      obtain ⟨c7, c8, c9, cC4, cC3, cC6, cC11⟩ := id hC
      refine wg_s rfl rfl ?_
      refine wg_s rfl rfl ?_
      refine wg_gi rfl rfl (show _ = ag_I ν 10 0 1 from c7) ?_
      refine wg_if rfl rfl (fun h14 => ?_) (fun h14 => ?_)
      · have eh : h = (ag_I ν 10 0 1).toNat := by omega
        subst eh
        refine wg_s rfl rfl ?_
        refine wg_s rfl rfl ?_
        exact lp_gp hI0 hZ hcc 9 0 none μ (by omega) (by omega) hP e2 e3 hR6 hho (fun j hj => absurd hj (Nat.not_lt_zero _)) (Nat.zero_le _)
      · obtain ⟨e15, e4, ⟨e44, e45, e46⟩, h8, hrng, how, hlk, hwk⟩ := hH h (by omega)
        by_cases hf : m_lf ν h (ag_I ν 10 0 26).toNat < 0
        · have hfh : f_h ν h = true := decide_eq_true hf
          refine wg_s rfl rfl ?_
          refine wg_s rfl rfl ?_
          refine wg_cf rfl rfl (sp_homeAt_t _ _ hI hZ (by omega)) ?_
          refine wg_s rfl rfl ?_
          refine wg_s rfl rfl ?_
          refine wg_s rfl rfl ?_
          refine wg_s rfl rfl ?_
          refine wg_gn rfl rfl (show _ = none from e46.trans (opN hf)) ?_
          refine wg_s rfl rfl ?_
          refine wg_s rfl rfl ?_
          refine wg_gx rfl rfl hX ?_
          refine wg_s rfl rfl ?_
          refine wg_cf rfl rfl (sp_addHome _ (cn (f_h ν) h) _ hX e2 hcc) ?_
          by_cases h6c : cn (f_h ν) h < 6
          · have ec : cn (f_h ν) (h + 1) = cn (f_h ν) h + 1 := by rw [cn_s, if_pos hfh]
            rw [if_pos h6c]
            refine wg_neb rfl (fun h42 => ?_) (fun h42 => absurd h6c h42)
            refine wg_iinc rfl rfl rfl (by omega) (by omega) rfl ?_
            refine wg_s rfl rfl ?_
            have hrec := lp_gh (d := d) hI0 hZ N (h + 1) (some (4, h)) (as_I (as_I μ 11 2 (cn (f_h ν) h) (h : Int)) 1 0 2 ((cn (f_h ν) h : Int) + 1)) (by omega) (by omega) (PB_set (PB_set hP (by omega)) (by omega)) (by rw [ec]; exact (ag_I_y _ _ _ _ _).trans (by omega)) ((ag_I_n (by omega)).trans ((ag_I_n (by omega)).trans e3)) (R6_set (R6_set hR6 (by omega)) (by omega)) (fun i hi => by
                    rw [ec] at hi
                    by_cases e : i = cn (f_h ν) h
                    · rw [e, ag_I_n (by omega), ag_I_y, ith_at hfh]
                    · rw [ag_I_n (by omega), ag_I_n (by omega), ith_lt (by omega)]; exact hho i (by omega)) (by rw [ec]; omega)
            rw [show ((h + 1 : Nat) : Int) = (h : Int) + 1 by omega] at hrec
            exact hrec
          · rw [if_neg h6c]
            refine wg_neb rfl (fun h42 => absurd h42 h6c) (fun h42 => ?_)
            refine wg_s rfl rfl ?_
            refine wg_ret rfl rfl (Or.inl rfl) ⟨hP, fun w => absurd w.1 ?_, fun _ => rfl⟩
            have := cn_mono (f_h ν) (show h + 1 ≤ (ag_I ν 10 0 1).toNat by omega)
            rw [cn_s, if_pos hfh] at this
            show ¬ cn (f_h ν) (ag_I ν 10 0 1).toNat ≤ 6
            omega
        · refine wg_s rfl rfl ?_
          refine wg_s rfl rfl ?_
          refine wg_cf rfl rfl (sp_homeAt_t _ _ hI hZ (by omega)) ?_
          refine wg_s rfl rfl ?_
          refine wg_s rfl rfl ?_
          refine wg_s rfl rfl ?_
          refine wg_s rfl rfl ?_
          refine wg_gn rfl rfl (show _ = some (m_l ν h).toNat from e46.trans (opS (by show 0 ≤ m_lf ν h (ag_I ν 10 0 26).toNat; omega))) ?_
          refine wg_s rfl rfl ?_
          have hnf : ¬ f_h ν h = true := fun w => hf (of_decide_eq_true w)
          have ec : cn (f_h ν) (h + 1) = cn (f_h ν) h := by rw [cn_s, if_neg hnf]; rfl
          refine wg_iinc rfl rfl rfl (by omega) (by omega) rfl ?_
          refine wg_s rfl rfl ?_
          have hrec := lp_gh (d := d) hI0 hZ N (h + 1) (some (4, h)) (μ) (by omega) (by omega) hP (by rw [ec]; exact e2) (e3) (hR6) (fun i hi => by rw [ec] at hi; rw [ith_lt hi]; exact hho i hi) (by rw [ec]; exact hcc)
          rw [show ((h + 1 : Nat) : Int) = (h : Int) + 1 by omega] at hrec
          exact hrec
    | some e =>
      obtain ⟨et, ex⟩ := e
      have hI := IX_E (PB_XE hP) hI0
      obtain ⟨hX, hC, hH, hP1, hL1, hK, hT, hR, hS⟩ := id hI
      obtain ⟨z1, z6, z26, z0, z14⟩ := id hZ
      obtain ⟨c7, c8, c9, cC4, cC3, cC6, cC11⟩ := id hC
      refine wg_s rfl rfl ?_
      refine wg_s rfl rfl ?_
      refine wg_gi rfl rfl (show _ = ag_I ν 10 0 1 from c7) ?_
      refine wg_if rfl rfl (fun h14 => ?_) (fun h14 => ?_)
      · have eh : h = (ag_I ν 10 0 1).toNat := by omega
        subst eh
        refine wg_s rfl rfl ?_
        refine wg_s rfl rfl ?_
        exact lp_gp hI0 hZ hcc 9 0 (some (et, ex)) μ (by omega) (by omega) hP e2 e3 hR6 hho (fun j hj => absurd hj (Nat.not_lt_zero _)) (Nat.zero_le _)
      · obtain ⟨e15, e4, ⟨e44, e45, e46⟩, h8, hrng, how, hlk, hwk⟩ := hH h (by omega)
        by_cases hf : m_lf ν h (ag_I ν 10 0 26).toNat < 0
        · have hfh : f_h ν h = true := decide_eq_true hf
          refine wg_s rfl rfl ?_
          refine wg_s rfl rfl ?_
          refine wg_cf rfl rfl (sp_homeAt_t _ _ hI hZ (by omega)) ?_
          refine wg_s rfl rfl ?_
          refine wg_s rfl rfl ?_
          refine wg_s rfl rfl ?_
          refine wg_s rfl rfl ?_
          refine wg_gn rfl rfl (show _ = none from e46.trans (opN hf)) ?_
          refine wg_s rfl rfl ?_
          refine wg_s rfl rfl ?_
          refine wg_gx rfl rfl hX ?_
          refine wg_s rfl rfl ?_
          refine wg_cf rfl rfl (sp_addHome _ (cn (f_h ν) h) _ hX e2 hcc) ?_
          by_cases h6c : cn (f_h ν) h < 6
          · have ec : cn (f_h ν) (h + 1) = cn (f_h ν) h + 1 := by rw [cn_s, if_pos hfh]
            rw [if_pos h6c]
            refine wg_neb rfl (fun h42 => ?_) (fun h42 => absurd h6c h42)
            refine wg_iinc rfl rfl rfl (by omega) (by omega) rfl ?_
            refine wg_s rfl rfl ?_
            have hrec := lp_gh (d := d) hI0 hZ N (h + 1) (some (4, h)) (as_I (as_I μ 11 2 (cn (f_h ν) h) (h : Int)) 1 0 2 ((cn (f_h ν) h : Int) + 1)) (by omega) (by omega) (PB_set (PB_set hP (by omega)) (by omega)) (by rw [ec]; exact (ag_I_y _ _ _ _ _).trans (by omega)) ((ag_I_n (by omega)).trans ((ag_I_n (by omega)).trans e3)) (R6_set (R6_set hR6 (by omega)) (by omega)) (fun i hi => by
                    rw [ec] at hi
                    by_cases e : i = cn (f_h ν) h
                    · rw [e, ag_I_n (by omega), ag_I_y, ith_at hfh]
                    · rw [ag_I_n (by omega), ag_I_n (by omega), ith_lt (by omega)]; exact hho i (by omega)) (by rw [ec]; omega)
            rw [show ((h + 1 : Nat) : Int) = (h : Int) + 1 by omega] at hrec
            exact hrec
          · rw [if_neg h6c]
            refine wg_neb rfl (fun h42 => absurd h42 h6c) (fun h42 => ?_)
            refine wg_s rfl rfl ?_
            refine wg_ret rfl rfl (Or.inl rfl) ⟨hP, fun w => absurd w.1 ?_, fun _ => rfl⟩
            have := cn_mono (f_h ν) (show h + 1 ≤ (ag_I ν 10 0 1).toNat by omega)
            rw [cn_s, if_pos hfh] at this
            show ¬ cn (f_h ν) (ag_I ν 10 0 1).toNat ≤ 6
            omega
        · refine wg_s rfl rfl ?_
          refine wg_s rfl rfl ?_
          refine wg_cf rfl rfl (sp_homeAt_t _ _ hI hZ (by omega)) ?_
          refine wg_s rfl rfl ?_
          refine wg_s rfl rfl ?_
          refine wg_s rfl rfl ?_
          refine wg_s rfl rfl ?_
          refine wg_gn rfl rfl (show _ = some (m_l ν h).toNat from e46.trans (opS (by show 0 ≤ m_lf ν h (ag_I ν 10 0 26).toNat; omega))) ?_
          refine wg_s rfl rfl ?_
          have hnf : ¬ f_h ν h = true := fun w => hf (of_decide_eq_true w)
          have ec : cn (f_h ν) (h + 1) = cn (f_h ν) h := by rw [cn_s, if_neg hnf]; rfl
          refine wg_iinc rfl rfl rfl (by omega) (by omega) rfl ?_
          refine wg_s rfl rfl ?_
          have hrec := lp_gh (d := d) hI0 hZ N (h + 1) (some (4, h)) (μ) (by omega) (by omega) hP (by rw [ec]; exact e2) (e3) (hR6) (fun i hi => by rw [ec] at hi; rw [ith_lt hi]; exact hho i hi) (by rw [ec]; exact hcc)
          rw [show ((h + 1 : Nat) : Int) = (h : Int) + 1 by omega] at hrec
          exact hrec
theorem sp_gather (d : Nat) {ν μ0 : ab_M} {hl hw pl tm : Nat → Nat} {ow : Nat → Nat × Nat} {tc : Nat} (hI0 : IX ν μ0 hl hw pl tm ow tc) (hZ : WR ν) : Wp (d + 3) 107 [ab_r 9 (some 0)] μ0 (fun vv μ' => PB μ0 μ' ∧ (n_h ν ≤ 6 ∧ n_p ν ≤ 6 → vv = some (ab_i 1) ∧ (ag_I μ' 1 0 2 = (n_h ν : Int) ∧ ag_I μ' 1 0 3 = (n_p ν : Int)) ∧ R6 μ' ∧ (∀ i, i < n_h ν → ag_I μ' 11 2 i = (l_h ν i : Int)) ∧ ∀ j, j < n_p ν → ag_I μ' 11 3 j = (l_p ν j : Int)) ∧ (¬ (n_h ν ≤ 6 ∧ n_p ν ≤ 6) → vv = some (ab_i 0))) := by
  refine wp_of ?_
  obtain ⟨hX, hC, hH, hP1, hL1, hK, hT, hR, hS⟩ := id hI0
  obtain ⟨z1, z6, z26, z0, z14⟩ := id hZ
  refine wg_s rfl rfl ?_
  refine wg_gx rfl rfl hX ?_
  refine wg_call rfl rfl (sp_clear _ hX) (fun vv μ1 hq => ?_)
  obtain ⟨rfl, q1, q2, q3⟩ := hq
  refine wg_s rfl rfl ?_
  refine wg_s rfl rfl ?_
  exact lp_gh hI0 hZ 9 0 none μ1 (by omega) (by omega) q1 q2.1 q2.2 q3 (fun i hi => absurd hi (Nat.not_lt_zero _)) (Nat.zero_le _)
