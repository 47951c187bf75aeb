/-! ===== the class: share, until ===== -/
theorem sp_take (d : Nat) {ν μ : ab_M} {hl hw pl tm : Nat → Nat} {ow : Nat → Nat × Nat} {tc : Nat} (hI : IX ν μ hl hw pl tm ow tc) (hZ : WR ν) (h16 : W16 ν) (k : Nat) (hk : k < 4) (hE : WE ν) (hWL : WL ν) (wk : Int) (hwk : 0 ≤ wk) (c u v : Nat) (hu : ag_J μ 2 c 0 = (u : Int)) (hv : ag_J μ 2 c 1 = (v : Int)) (h1v : 1 ≤ v) (huv : u ≤ v) (hfac : v * fac (m_sn ν k wk (ag_I ν 10 0 26).toNat).toNat ≤ fac 16) (hd1 : 1 ≤ (m_sd ν k wk (ag_I ν 10 0 26).toNat)) : Wp (d + 3) 56 [ab_r 5 (some k), ab_i wk, ab_i (ag_I ν 10 0 0), ab_r 2 (some c)] μ (fun vv μ' => vv = none ∧ ∃ Jf, μ' = (μ.1, Jf, μ.2.2) ∧ Jf 2 c 0 = ((sh_st (u, v) (m_sd ν k wk (ag_I ν 10 0 26).toNat).toNat (m_sn ν k wk (ag_I ν 10 0 26).toNat).toNat).1 : Int) ∧ Jf 2 c 1 = ((sh_st (u, v) (m_sd ν k wk (ag_I ν 10 0 26).toNat).toNat (m_sn ν k wk (ag_I ν 10 0 26).toNat).toNat).2 : Int)) := by
  refine wp_of ?_
  obtain ⟨hX, hC, hH, hP, hL, hK, hT, hR, hS⟩ := id hI
  obtain ⟨z1, z6, z26, z0, z14⟩ := id hZ
  obtain ⟨c7, c8, c9, cC4, cC3, cC6, cC11⟩ := id hC
  have hk1 : ag_I μ 5 k 1 = (ck ν k : Int) := (hK k hk).trans (m_ct_cn ν k _)
  have hk16 : ((ck ν k : Nat) : Int) ≤ 16 := by have := h16 (k : Int); rw [m_ct_cn] at this; exact this
  have hkx := hX.2.2.2 k hk
  have r1 := m_sd_rng ν k wk (ag_I ν 10 0 26).toNat
  have r2 := m_sn_rng ν k wk (ag_I ν 10 0 26).toNat
  have r3 := m_sdn ν k wk hwk (ag_I ν 10 0 26).toNat
  have r4 := m_sn_rng ν k (wk + 1) (ag_I ν 10 0 26).toNat
  refine wg_s rfl rfl ?_
  refine wg_s rfl rfl ?_
  refine wg_s rfl rfl ?_
  refine wg_s rfl rfl ?_
  refine wg_s rfl rfl ?_
  refine wg_s rfl rfl ?_
  refine lp_take (d := d + 1) hI hZ h16 k hk hE hWL wk hwk c (fun e => ?_) 17 0 0 0 none (by omega) (by omega) rfl rfl
  cases e with
  | none =>
    rw [nb_sn, nb_sd]
    refine wg_s rfl rfl ?_
    refine wg_s rfl rfl ?_
    refine wg_s rfl rfl ?_
    refine wg_isub rfl (by omega) (by omega) ?_
    refine wg_s rfl rfl ?_
    have hm := sp_mult d c u v ((m_sn ν k wk (ag_I ν 10 0 26).toNat).toNat - (m_sd ν k wk (ag_I ν 10 0 26).toNat).toNat) (m_sn ν k wk (ag_I ν 10 0 26).toNat).toNat μ hu hv (by omega) h1v (Nat.mul_le_mul huv (by omega)) (by have := sh_mul (l := v) (n := (m_sn ν k wk (ag_I ν 10 0 26).toNat).toNat) (by omega) hfac; omega)
    rw [show ((((m_sn ν k wk (ag_I ν 10 0 26).toNat).toNat - (m_sd ν k wk (ag_I ν 10 0 26).toNat).toNat : Nat)) : Int) = (m_sn ν k wk (ag_I ν 10 0 26).toNat) - (m_sd ν k wk (ag_I ν 10 0 26).toNat) by omega, show (((m_sn ν k wk (ag_I ν 10 0 26).toNat).toNat : Nat) : Int) = (m_sn ν k wk (ag_I ν 10 0 26).toNat) by omega] at hm
    refine wg_call rfl rfl hm (fun vv μ' h => ?_)
    obtain ⟨rfl, Jf, rfl, a1, a2⟩ := h
    refine wg_ret rfl rfl trivial ⟨rfl, Jf, rfl, ?_, ?_⟩
    · rw [a1]; unfold sh_st; rw [if_neg (by omega)]
    · rw [a2]; unfold sh_st; rw [if_neg (by omega)]
  | some x =>
    rw [nb_sn, nb_sd]
    refine wg_s rfl rfl ?_
    refine wg_s rfl rfl ?_
    refine wg_s rfl rfl ?_
    refine wg_isub rfl (by omega) (by omega) ?_
    refine wg_s rfl rfl ?_
    have hm := sp_mult d c u v ((m_sn ν k wk (ag_I ν 10 0 26).toNat).toNat - (m_sd ν k wk (ag_I ν 10 0 26).toNat).toNat) (m_sn ν k wk (ag_I ν 10 0 26).toNat).toNat μ hu hv (by omega) h1v (Nat.mul_le_mul huv (by omega)) (by have := sh_mul (l := v) (n := (m_sn ν k wk (ag_I ν 10 0 26).toNat).toNat) (by omega) hfac; omega)
    rw [show ((((m_sn ν k wk (ag_I ν 10 0 26).toNat).toNat - (m_sd ν k wk (ag_I ν 10 0 26).toNat).toNat : Nat)) : Int) = (m_sn ν k wk (ag_I ν 10 0 26).toNat) - (m_sd ν k wk (ag_I ν 10 0 26).toNat) by omega, show (((m_sn ν k wk (ag_I ν 10 0 26).toNat).toNat : Nat) : Int) = (m_sn ν k wk (ag_I ν 10 0 26).toNat) by omega] at hm
    refine wg_call rfl rfl hm (fun vv μ' h => ?_)
    obtain ⟨rfl, Jf, rfl, a1, a2⟩ := h
    refine wg_ret rfl rfl trivial ⟨rfl, Jf, rfl, ?_, ?_⟩
    · rw [a1]; unfold sh_st; rw [if_neg (by omega)]
    · rw [a2]; unfold sh_st; rw [if_neg (by omega)]
theorem sp_below (d : Nat) (c u v : Nat) (p : Int) (μ : ab_M) (hu : ag_J μ 2 c 0 = (u : Int)) (hv : ag_J μ 2 c 1 = (v : Int)) (huv : u ≤ v) (hv2 : v ≤ 20922789888000) (hp : 1 ≤ p ∧ p ≤ 100) : Wp (d + 1) 44 [ab_r 2 (some c), ab_i p] μ (fun vv μ' => vv = some (ab_i (bI (100 * (u : Int) < p * (v : Int)))) ∧ μ' = μ) := by
  refine wp_of ?_
  have p1 : p * (v : Int) ≤ 100 * (v : Int) := Int.mul_le_mul_of_nonneg_right (by omega) (by omega)
  have p2 : 0 ≤ p * (v : Int) := Int.mul_nonneg (by omega) (by omega)
  have p3 : (v : Int) * p = p * (v : Int) := Int.mul_comm _ _
  have p4 : (u : Int) * 100 = 100 * (u : Int) := Int.mul_comm _ _
  refine wg_s rfl rfl ?_
  refine wg_gj rfl rfl hu ?_
  refine wg_s rfl rfl ?_
  refine wg_lbin (z := (u : Int) * 100) rfl rfl (by omega) (by omega) ?_
  refine wg_s rfl rfl ?_
  refine wg_gj rfl rfl hv ?_
  refine wg_s rfl rfl ?_
  refine wg_s rfl rfl ?_
  refine wg_lbin (z := (v : Int) * p) rfl rfl (by omega) (by omega) ?_
  refine wg_lc_ge rfl rfl (fun h15 => ?_) (fun h15 => ?_)
  · refine wg_s rfl rfl ?_
    refine wg_ret rfl rfl (by first | exact Or.inl rfl | exact Or.inr rfl) ⟨?_, rfl⟩
    first | rw [bI_t (by omega)] | rw [bI_f (by omega)]
  · refine wg_s rfl rfl ?_
    refine wg_s rfl rfl ?_
    refine wg_ret rfl rfl (by first | exact Or.inl rfl | exact Or.inr rfl) ⟨?_, rfl⟩
    first | rw [bI_t (by omega)] | rw [bI_f (by omega)]
/-- weeks without endings -/
theorem m_sh_skip {ν : ab_M} {k : Int} {a : Nat} : ∀ {b : Nat}, a ≤ b → (∀ t : Nat, a ≤ t → t < b → m_sd ν k t (ag_I ν 10 0 26).toNat = 0) → m_sh ν k b = m_sh ν k a
  | 0, h, _ => by rw [show a = 0 by omega]
  | b + 1, h, hz => by
    by_cases e : a = b + 1
    · rw [e]
    · have ih := m_sh_skip (a := a) (b := b) (by omega) (fun t h1 h2 => hz t h1 (by omega))
      show sh_st (m_sh ν k b) _ _ = _
      rw [hz b (by omega) (by omega)]
      exact ih
theorem nb_0 {p : Nat → Bool} : ∀ {n : Nat}, (∀ i, i < n → p i = false) → nb p n = 0
  | 0, _ => rfl
  | n + 1, h => by rw [nb_s, nb_0 (fun i hi => h i (by omega)), h n (by omega)]; rfl
theorem nb_1 {p : Nat → Bool} : ∀ {n i : Nat}, i < n → p i = true → 1 ≤ nb p n
  | 0, i, h, _ => by omega
  | n + 1, i, h, hp => by
    have h0 := nb_rng p n
    rw [nb_s]
    by_cases e : i = n
    · rw [show p n = true by rw [← e]; exact hp, if_pos rfl]; omega
    · have := nb_1 (n := n) (i := i) (by omega) hp
      split <;> omega
/-- how many had ended by a week -/
def eb (ν : ab_M) (k : Nat) (a : Int) : Int := nb (fun i => decide (0 ≤ ag_I ν 11 40 (jj ν k i) ∧ ag_I ν 11 40 (jj ν k i) ≤ a)) (ck ν k)
theorem eb_lt {ν : ab_M} {k : Nat} {a : Int} {i : Nat} (hi : i < ck ν k) (h : a < ag_I ν 11 40 (jj ν k i)) (ha : -1 ≤ a) : eb ν k a + 1 ≤ ck ν k ∧ eb ν k a + 1 ≤ eb ν k (ag_I ν 11 40 (jj ν k i)) := by
  unfold eb
  have h1 := nb_1 (p := fun j => decide (j = i)) hi (decide_eq_true rfl)
  constructor
  · have := nb_le2 (p := fun i => decide (0 ≤ ag_I ν 11 40 (jj ν k i) ∧ ag_I ν 11 40 (jj ν k i) ≤ a)) (q := fun j => decide (j = i)) (r := fun _ => true) (n := ck ν k) (fun j _ => ⟨fun _ => rfl, fun _ => rfl, fun q => by
      have q1 := of_decide_eq_true q.1
      have q2 := of_decide_eq_true q.2
      subst q2; omega⟩)
    have h2 := (nb_rng (fun _ => true) (ck ν k)).2
    omega
  · have := nb_le2 (p := fun i => decide (0 ≤ ag_I ν 11 40 (jj ν k i) ∧ ag_I ν 11 40 (jj ν k i) ≤ a)) (q := fun j => decide (j = i)) (r := fun j => decide (0 ≤ ag_I ν 11 40 (jj ν k j) ∧ ag_I ν 11 40 (jj ν k j) ≤ ag_I ν 11 40 (jj ν k i))) (n := ck ν k) (fun j _ => ⟨fun q => by
      have q1 := of_decide_eq_true q
      exact decide_eq_true ⟨q1.1, by omega⟩, fun q => by
      have q1 := of_decide_eq_true q
      subst q1
      exact decide_eq_true ⟨by omega, Int.le_refl _⟩, fun q => by
      have q1 := of_decide_eq_true q.1
      have q2 := of_decide_eq_true q.2
      subst q2; omega⟩)
    omega
theorem sd_0 {ν : ab_M} {k : Nat} {a b : Int} (h : ∀ i, i < ck ν k → 0 ≤ ag_I ν 11 40 (jj ν k i) → ag_I ν 11 40 (jj ν k i) ≤ a ∨ b ≤ ag_I ν 11 40 (jj ν k i)) (t : Nat) (h1 : a < t) (h2 : (t : Int) < b) : m_sd ν k t (ag_I ν 10 0 26).toNat = 0 := by
  rw [← nb_sd]
  refine nb_0 (fun i hi => decide_eq_false (fun q => ?_))
  have := h i hi (by omega)
  omega
theorem sd_1 {ν : ab_M} {k i : Nat} {b : Int} (hi : i < ck ν k) (h : ag_I ν 11 40 (jj ν k i) = b) : 1 ≤ m_sd ν k b (ag_I ν 10 0 26).toNat := by
  rw [← nb_sd]
  exact nb_1 hi (decide_eq_true h)
theorem lp_shareAt {d : Nat} {ν μ : ab_M} {hl hw pl tm : Nat → Nat} {ow : Nat → Nat × Nat} {tc : Nat} (hI : IX ν μ hl hw pl tm ow tc) (hZ : WR ν) (h16 : W16 ν) (k : Nat) (hk : k < 4) (hE : WE ν) (hWL : WL ν) (w : Int) (hw : 0 ≤ w ∧ w ≤ 500) (c : Nat) : ∀ (N : Nat) (a : Int) (Jf : Nat → Nat → Nat → Int) (i : Nat), w + 1 - a < N → -1 ≤ a → a ≤ w → (Jf 2 c 0 = ((m_sh ν k (a + 1).toNat).1 : Int) ∧ Jf 2 c 1 = ((m_sh ν k (a + 1).toNat).2 : Int)) → (i : Int) ≤ eb ν k a → Wg (d + 3) 53 (μ.1, Jf, μ.2.2) 19 [(0, ab_r 5 (some k)), (1, ab_i w), (2, ab_i (ag_I ν 10 0 0)), (3, ab_r 2 (some c)), (4, ab_i (ne ν k a (ck ν k))), (5, ab_i (i : Int))] [] (fun vv μ' => vv = some (ab_r 2 (some c)) ∧ ∃ Jf, μ' = (μ.1, Jf, μ.2.2) ∧ (Jf 2 c 0 = ((m_sh ν k (w + 1).toNat).1 : Int) ∧ Jf 2 c 1 = ((m_sh ν k (w + 1).toNat).2 : Int))) := by
  intro N
  induction N with
  | zero => intro a Jf i hn ha haw; omega
  | succ N ih =>
    intro a Jf i hn ha haw hJ hie
    obtain ⟨hX, hC, hH, hP, hL, hK, hT, hR, hS⟩ := id hI
    obtain ⟨z1, z6, z26, z0, z14⟩ := id hZ
    obtain ⟨c7, c8, c9, cC4, cC3, cC6, cC11⟩ := id hC
    have hk1 : ag_I μ 5 k 1 = (ck ν k : Int) := (hK k hk).trans (m_ct_cn ν k _)
    have hk16 : ((ck ν k : Nat) : Int) ≤ 16 := by have := h16 (k : Int); rw [m_ct_cn] at this; exact this
    have hkx := hX.2.2.2 k hk
    have hnp := ne_p ν k a ha (ck ν k)
    have hinv := m_sh_inv (h16 (k : Int))
    generalize hwk : ne ν k a (ck ν k) = wk at hnp
    rcases hnp with ⟨w1, w2⟩ | ⟨w1, ⟨i0, w2, w3⟩, w4⟩
    · have hend : True → m_sh ν k (w + 1).toNat = m_sh ν k (a + 1).toNat := fun _ => m_sh_skip (by omega) (fun t t1 t2 => sd_0 (a := a) (b := 1000) (fun i hi h0 => Or.inl (w2 i hi h0)) t (by omega) (by omega))
      refine wg_s rfl rfl ?_
      refine wg_s rfl rfl ?_
      refine wg_if rfl rfl (fun h23 => ?_) (fun h23 => ?_)
      · refine wg_s rfl rfl ?_
        refine wg_ret rfl rfl trivial ⟨rfl, Jf, rfl, ?_⟩
        rw [hend trivial]; exact hJ
      · refine wg_s rfl rfl ?_
        refine wg_s rfl rfl ?_
        refine wg_if rfl rfl (fun h29 => ?_) (fun h29 => ?_)
        · refine wg_s rfl rfl ?_
          refine wg_ret rfl rfl trivial ⟨rfl, Jf, rfl, ?_⟩
          rw [hend trivial]; exact hJ
        · exfalso; omega
    · have e1 := eb_lt w2 (show a < ag_I ν 11 40 (jj ν k i0) by omega) ha
      rw [w3] at e1
      have hend : w < wk → m_sh ν k (w + 1).toNat = m_sh ν k (a + 1).toNat := fun hx => m_sh_skip (by omega) (fun t t1 t2 => sd_0 (a := a) (b := wk) (fun i hi h0 => by by_cases q : ag_I ν 11 40 (jj ν k i) ≤ a; (exact Or.inl q); exact Or.inr (w4 i hi h0 (by omega))) t (by omega) (by omega))
      have hskip : m_sh ν k wk.toNat = m_sh ν k (a + 1).toNat := m_sh_skip (by omega) (fun t t1 t2 => sd_0 (a := a) (b := wk) (fun i hi h0 => by by_cases q : ag_I ν 11 40 (jj ν k i) ≤ a; (exact Or.inl q); exact Or.inr (w4 i hi h0 (by omega))) t (by omega) (by omega))
      have hd1 := sd_1 w2 w3
      have hinvw := hinv wk.toNat
      rw [hskip] at hinvw
      have hnext : m_sh ν k (wk + 1).toNat = sh_st (m_sh ν k (a + 1).toNat) (m_sd ν k wk (ag_I ν 10 0 26).toNat).toNat (m_sn ν k wk (ag_I ν 10 0 26).toNat).toNat := by
        rw [tn1 (show 0 ≤ wk by omega)]
        show sh_st (m_sh ν k wk.toNat) _ _ = _
        rw [hskip, tnc (show 0 ≤ wk by omega)]
      rw [tnc (show 0 ≤ wk by omega)] at hinvw
      generalize m_sh ν k (a + 1).toNat = q at hJ hinvw hnext hend hskip
      obtain ⟨hu, hv⟩ := hJ
      have hq := hinvw
      have hq3 := hinvw.2.2
      refine wg_s rfl rfl ?_
      refine wg_s rfl rfl ?_
      refine wg_if rfl rfl (fun h23 => ?_) (fun h23 => ?_)
      · refine wg_s rfl rfl ?_
        refine wg_ret rfl rfl trivial ⟨rfl, Jf, rfl, ?_⟩
        rw [hend (by omega)]; exact ⟨hu, hv⟩
      · refine wg_s rfl rfl ?_
        refine wg_s rfl rfl ?_
        refine wg_if rfl rfl (fun h29 => ?_) (fun h29 => ?_)
        · refine wg_s rfl rfl ?_
          refine wg_ret rfl rfl trivial ⟨rfl, Jf, rfl, ?_⟩
          rw [hend (by omega)]; exact ⟨hu, hv⟩
        · refine wg_s rfl rfl ?_
          refine wg_s rfl rfl ?_
          refine wg_if rfl rfl (fun h35 => ?_) (fun h35 => ?_)
          · refine wg_s rfl rfl ?_
            refine wg_ret rfl rfl trivial ⟨rfl, Jf, rfl, ?_⟩
            rw [hend (by omega)]; exact ⟨hu, hv⟩
          · refine wg_s rfl rfl ?_
            refine wg_s rfl rfl ?_
            refine wg_s rfl rfl ?_
            refine wg_s rfl rfl ?_
            refine wg_call rfl rfl (sp_take _ (μ := (μ.1, Jf, μ.2.2)) hI hZ h16 k hk hE hWL wk (by omega) c q.1 q.2 hu hv hq.1 hq.2.1 hq3 hd1) (fun vv μ' h => ?_)
            obtain ⟨rfl, Jf2, rfl, a1, a2⟩ := h
            refine wg_s rfl rfl ?_
            refine wg_s rfl rfl ?_
            refine wg_s rfl rfl ?_
            refine wg_cf rfl rfl (sp_nextEnding _ (μ := (μ.1, Jf2, μ.2.2)) hI hZ h16 k hk hE hWL wk) ?_
            refine wg_s rfl rfl ?_
            refine wg_iinc rfl rfl rfl (by omega) (by omega) rfl ?_
            refine wg_s rfl rfl ?_
            have := ih wk Jf2 (i + 1) (by omega) (by omega) (by omega) (by rw [hnext]; exact ⟨a1, a2⟩) (by omega)
            exact this
