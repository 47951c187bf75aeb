/-! ===== the class: lasting ===== -/
def kf (ν : ab_M) (k : Int) (j : Nat) : Bool := decide (ag_I ν 11 20 (ag_I ν 11 32 j).toNat = k)
theorem m_ct_cn (ν : ab_M) (k : Int) : ∀ n : Nat, m_ct ν k n = (cn (kf ν k) n : Int)
  | 0 => rfl
  | n + 1 => by
    have := m_ct_cn ν k n
    show m_ct ν k n + _ = ((cn (kf ν k) n + _ : Nat) : Int)
    rw [this]
    by_cases h : ag_I ν 11 20 (ag_I ν 11 32 n).toNat = k
    · rw [if_pos h, if_pos (show kf ν k n = true from decide_eq_true h)]; rfl
    · rw [if_neg h, if_neg (show ¬ (kf ν k n = true) from fun q => h (of_decide_eq_true q))]; rfl
def W16 (ν : ab_M) : Prop := ∀ k : Int, m_ct ν k (ag_I ν 10 0 26).toNat ≤ 16
/-- the i-th pair of a kind -/
abbrev jj (ν : ab_M) (k i : Nat) : Nat := ith (kf ν (k : Int)) (ag_I ν 10 0 26).toNat i
abbrev ck (ν : ab_M) (k : Nat) : Nat := cn (kf ν (k : Int)) (ag_I ν 10 0 26).toNat
theorem jj_p {ν μ : ab_M} {hl hw pl tm : Nat → Nat} {ow : Nat → Nat × Nat} {tc : Nat} (hI : IX ν μ hl hw pl tm ow tc) (hZ : WR ν) {k i : Nat} (hk : k < 4) (hi : i < ck ν k) : ((jj ν k i : Int) < ag_I ν 10 0 26) ∧ ag_R μ 17 k i = some (jj ν k i) := by
  obtain ⟨a, b, c⟩ := ith_p (kf ν (k : Int)) (ag_I ν 10 0 26).toNat i hi
  obtain ⟨z1, z6, z26, z0, z14⟩ := hZ
  have hj : ((jj ν k i : Nat) : Int) < ag_I ν 10 0 26 := by show ((ith (kf ν (k : Int)) (ag_I ν 10 0 26).toNat i : Nat) : Int) < _; omega
  refine ⟨hj, ?_⟩
  have h := (hI.2.2.2.2.1 (jj ν k i) hj).2.2.2
  have e : ag_I ν 11 20 (ag_I ν 11 32 (jj ν k i)).toNat = (k : Int) := of_decide_eq_true b
  rw [e, m_ct_cn, show cn (kf ν (k : Int)) (jj ν k i) = i from c] at h
  exact h

theorem wg_gb {d k : Nat} {μ : ab_M} {pc : Nat} {l : ab_L} {st : List ab_V} {Q : Option ab_V → ab_M → Prop} {nx a b : Nat} {x n : Nat} {z : Int} (hi : ab_ins k pc = some (.getfield x, nx, a, b)) (hf : ab_ft a b = (1, 0)) (hI : ag_I μ a n b = z) (K : Wg d k μ nx l (ab_i z :: st) Q) : Wg d k μ pc l (ab_r a (some n) :: st) Q := by
  refine wg_s hi (μ1 := μ) (pc1 := nx) (l1 := l) (st1 := ab_i z :: st) ?_ K
  dsimp only [ab_step]
  rw [show Nat.beq a a = true from Nat.beq_refl a]
  simp only [cond_true, hf, ab_gv, hI]
theorem lp_ended {d : Nat} {ν μ : ab_M} {hl hw pl tm : Nat → Nat} {ow : Nat → Nat × Nat} {tc : Nat} (hI : IX ν μ hl hw pl tm ow tc) (hZ : WR ν) (h16 : W16 ν) (k : Nat) (hk : k < 4) : ∀ (N n : Nat) (f : Int) (e : Bool) {x : Nat}, ck ν k - n < N → n ≤ ck ν k → f = nb (fun i => decide (0 ≤ ag_I ν 11 40 (jj ν k i))) n → Wg d 52 μ 4 ([(0, ab_r 5 (some k)), (1, ab_i f), (2, ab_i (n : Int))] ++ t_3r e 6 x) [] (fun vv μ' => vv = some (ab_i (nb (fun i => decide (0 ≤ ag_I ν 11 40 (jj ν k i))) (ck ν k))) ∧ μ' = μ) := by
  intro N
  induction N with
  | zero => intro n f e x hn hk; omega
  | succ N ih =>
    intro n f e x hn hk2 hf
    obtain ⟨hX, hC, hH, hP, hL, hK, hT, hR, hS⟩ := id hI
    obtain ⟨z1, z6, z26, z0, z14⟩ := id hZ
    obtain ⟨c7, c8, c9, cC4, cC3, cC6, cC11⟩ := id hC
    have hk1 : ag_I μ 5 k 1 = (ck ν k : Int) := (hK k hk).trans (m_ct_cn ν k _)
    have hk16 : ((ck ν k : Nat) : Int) ≤ 16 := by have := h16 (k : Int); rw [m_ct_cn] at this; exact this
    have hkx := hX.2.2.2 k hk
    have hr := nb_rng (fun i => decide (0 ≤ ag_I ν 11 40 (jj ν k i))) n
    cases e with
    | false =>
      by_cases hlt : n < ck ν k
      · have hj2 := jj_p hI hZ hk (show n < ck ν k by omega)
        obtain ⟨⟨j0, j1, j3, j4⟩, ⟨j2, jt⟩, jr, j17⟩ := hL _ hj2.1
        refine wg_s rfl rfl ?_
        refine wg_s rfl rfl ?_
        refine wg_gi rfl rfl (show _ = (ck ν k : Int) from hk1) ?_
        refine wg_if rfl rfl (fun h9 => ?_) (fun h9 => ?_)
        · refine wg_s rfl rfl ?_
          exfalso; omega
        · refine wg_s rfl rfl ?_
          refine wg_gr rfl rfl (hkx.2.1) ?_
          refine wg_s rfl rfl ?_
          refine wg_aa rfl rfl hkx.2.2 (by omega) (by omega) (show _ = some (jj ν k n) from hj2.2) ?_
          refine wg_s rfl rfl ?_
          refine wg_s rfl rfl ?_
          refine wg_s rfl rfl ?_
          refine wg_s rfl rfl ?_
          refine wg_gb rfl rfl j4 ?_
          refine wg_eqb rfl (fun h27 => ?_) (fun h27 => ?_)
          · refine wg_iinc rfl rfl rfl (by omega) (by omega) rfl ?_
            refine wg_s rfl rfl ?_
            exact ih (n + 1) _ true (x := _) (by omega) (by omega) (by rw [nb_s, if_neg (fun q => h27 (of_decide_eq_true q)), hf, Int.add_zero])
          · refine wg_iinc rfl rfl rfl (by omega) (by omega) rfl ?_
            refine wg_iinc rfl rfl rfl (by omega) (by omega) rfl ?_
            refine wg_s rfl rfl ?_
            exact ih (n + 1) _ true (x := _) (by omega) (by omega) (by rw [nb_s, if_pos (decide_eq_true h27), hf])
      · refine wg_s rfl rfl ?_
        refine wg_s rfl rfl ?_
        refine wg_gi rfl rfl (show _ = (ck ν k : Int) from hk1) ?_
        refine wg_if rfl rfl (fun h9 => ?_) (fun h9 => ?_)
        · refine wg_s rfl rfl ?_
          have e1 : n = ck ν k := by omega
          subst e1
          exact wg_ret rfl rfl trivial ⟨by rw [hf], rfl⟩
        · exfalso; omega
    | true =>
      by_cases hlt : n < ck ν k
      · have hj2 := jj_p hI hZ hk (show n < ck ν k by omega)
        obtain ⟨⟨j0, j1, j3, j4⟩, ⟨j2, jt⟩, jr, j17⟩ := hL _ hj2.1
        refine wg_s rfl rfl ?_
        refine wg_s rfl rfl ?_
        refine wg_gi rfl rfl (show _ = (ck ν k : Int) from hk1) ?_
        refine wg_if rfl rfl (fun h9 => ?_) (fun h9 => ?_)
        · refine wg_s rfl rfl ?_
          exfalso; omega
        · refine wg_s rfl rfl ?_
          refine wg_gr rfl rfl (hkx.2.1) ?_
          refine wg_s rfl rfl ?_
          refine wg_aa rfl rfl hkx.2.2 (by omega) (by omega) (show _ = some (jj ν k n) from hj2.2) ?_
          refine wg_s rfl rfl ?_
          refine wg_s rfl rfl ?_
          refine wg_s rfl rfl ?_
          refine wg_s rfl rfl ?_
          refine wg_gb rfl rfl j4 ?_
          refine wg_eqb rfl (fun h27 => ?_) (fun h27 => ?_)
          · refine wg_iinc rfl rfl rfl (by omega) (by omega) rfl ?_
            refine wg_s rfl rfl ?_
            exact ih (n + 1) _ true (x := _) (by omega) (by omega) (by rw [nb_s, if_neg (fun q => h27 (of_decide_eq_true q)), hf, Int.add_zero])
          · refine wg_iinc rfl rfl rfl (by omega) (by omega) rfl ?_
            refine wg_iinc rfl rfl rfl (by omega) (by omega) rfl ?_
            refine wg_s rfl rfl ?_
            exact ih (n + 1) _ true (x := _) (by omega) (by omega) (by rw [nb_s, if_pos (decide_eq_true h27), hf])
      · refine wg_s rfl rfl ?_
        refine wg_s rfl rfl ?_
        refine wg_gi rfl rfl (show _ = (ck ν k : Int) from hk1) ?_
        refine wg_if rfl rfl (fun h9 => ?_) (fun h9 => ?_)
        · refine wg_s rfl rfl ?_
          have e1 : n = ck ν k := by omega
          subst e1
          exact wg_ret rfl rfl trivial ⟨by rw [hf], rfl⟩
        · exfalso; omega
theorem nb_la (ν : ab_M) (k : Nat) (x : Int) (hx : x = 1) : ∀ n : Nat, nb (fun j => kf ν (k : Int) j && decide (0 ≤ ag_I ν 11 40 j)) n = m_la ν k x n
  | 0 => rfl
  | n + 1 => by
    rw [nb_s, nb_la ν k x hx n]
    show _ = m_la ν k x n + _
    congr 1
    by_cases h : ag_I ν 11 20 (ag_I ν 11 32 n).toNat = (k : Int) ∧ (x = 0 ∨ 0 ≤ ag_I ν 11 40 n)
    · rw [if_pos h, if_pos]
      rw [Bool.and_eq_true]; exact ⟨decide_eq_true h.1, decide_eq_true (by omega)⟩
    · rw [if_neg h, if_neg]
      rw [Bool.and_eq_true]; exact fun q => h ⟨of_decide_eq_true q.1, Or.inr (of_decide_eq_true q.2)⟩
theorem m_la_0 (ν : ab_M) (k : Int) : ∀ n : Nat, m_la ν k 0 n = m_ct ν k n
  | 0 => rfl
  | n + 1 => by
    show m_la ν k 0 n + _ = m_ct ν k n + _
    rw [m_la_0 ν k n]
    congr 1
    by_cases h : ag_I ν 11 20 (ag_I ν 11 32 n).toNat = k
    · rw [if_pos h, if_pos ⟨h, Or.inl rfl⟩]
    · rw [if_neg h, if_neg (fun q => h q.1)]
theorem sp_ended (d : Nat) {ν μ : ab_M} {hl hw pl tm : Nat → Nat} {ow : Nat → Nat × Nat} {tc : Nat} (hI : IX ν μ hl hw pl tm ow tc) (hZ : WR ν) (h16 : W16 ν) (k : Nat) (hk : k < 4) : Wp (d + 1) 52 [ab_r 5 (some k)] μ (fun vv μ' => vv = some (ab_i (m_la ν k 1 (ag_I ν 10 0 26).toNat)) ∧ μ' = μ) := by
  refine wp_of ?_
  obtain ⟨hX, hC, hH, hP, hL, hK, hT, hR, hS⟩ := id hI
  obtain ⟨z1, z6, z26, z0, z14⟩ := id hZ
  obtain ⟨c7, c8, c9, cC4, cC3, cC6, cC11⟩ := id hC
  have hk1 : ag_I μ 5 k 1 = (ck ν k : Int) := (hK k hk).trans (m_ct_cn ν k _)
  have hk16 : ((ck ν k : Nat) : Int) ≤ 16 := by have := h16 (k : Int); rw [m_ct_cn] at this; exact this
  have hkx := hX.2.2.2 k hk
  have e : nb (fun i => decide (0 ≤ ag_I ν 11 40 (jj ν k i))) (ck ν k) = m_la ν k 1 (ag_I ν 10 0 26).toNat := by
    rw [nb_ith (kf ν (k : Int)) (fun j => decide (0 ≤ ag_I ν 11 40 j))]
    exact nb_la ν k 1 (by omega) _
  rw [← e]
  refine wg_s rfl rfl ?_
  refine wg_s rfl rfl ?_
  refine wg_s rfl rfl ?_
  refine wg_s rfl rfl ?_
  exact lp_ended hI hZ h16 k hk 17 0 0 false (x := 0) (by omega) (by omega) rfl
theorem sp_size (d : Nat) {ν μ : ab_M} {hl hw pl tm : Nat → Nat} {ow : Nat → Nat × Nat} {tc : Nat} (hI : IX ν μ hl hw pl tm ow tc) (hZ : WR ν) (h16 : W16 ν) (k : Nat) (hk : k < 4) : Wp (d + 1) 51 [ab_r 5 (some k)] μ (fun vv μ' => vv = some (ab_i (m_ct ν k (ag_I ν 10 0 26).toNat)) ∧ μ' = μ) := by
  refine wp_of ?_
  obtain ⟨hX, hC, hH, hP, hL, hK, hT, hR, hS⟩ := id hI
  obtain ⟨z1, z6, z26, z0, z14⟩ := id hZ
  obtain ⟨c7, c8, c9, cC4, cC3, cC6, cC11⟩ := id hC
  refine wg_s rfl rfl ?_
  refine wg_gi rfl rfl (show _ = m_ct ν k (ag_I ν 10 0 26).toNat from hK k hk) ?_
  exact wg_ret rfl rfl trivial ⟨rfl, rfl⟩
theorem sp_xlasting (d : Nat) (k x : Int) {ν μ : ab_M} {hl hw pl tm : Nat → Nat} {ow : Nat → Nat × Nat} {tc : Nat} (hI : IX ν μ hl hw pl tm ow tc) (hZ : WR ν) (h16 : W16 ν) : Wp (d + 2) 91 [ab_r 9 (some 0), ab_i k, ab_i x] μ (fun vv μ' => vv = some (ab_i (if (0 ≤ k ∧ k ≤ 3) ∧ (0 ≤ x ∧ x ≤ 1) then m_la ν k x (ag_I ν 10 0 26).toNat else -1)) ∧ μ' = μ) := by
  refine wp_of ?_
  obtain ⟨hX, hC, hH, hP, hL, hK, hT, hR, hS⟩ := id hI
  obtain ⟨z1, z6, z26, z0, z14⟩ := id hZ
  obtain ⟨c7, c8, c9, cC4, cC3, cC6, cC11⟩ := id hC
  by_cases hh : 0 ≤ k ∧ k < 4
  · obtain ⟨n, rfl⟩ : ∃ n : Nat, k = n := ⟨k.toNat, by omega⟩
    refine wg_s rfl rfl ?_
    refine wg_s rfl rfl ?_
    refine wg_cf rfl rfl (sp_kindAt_t _ _ hI hZ hh) ?_
    refine wg_s rfl rfl ?_
    refine wg_s rfl rfl ?_
    refine wg_s rfl rfl ?_
    refine wg_s rfl rfl ?_
    refine wg_if rfl rfl (fun h13 => ?_) (fun h13 => ?_)
    · refine wg_s rfl rfl ?_
      refine wg_s rfl rfl ?_
      refine wg_if rfl rfl (fun h23 => ?_) (fun h23 => ?_)
      · refine wg_s rfl rfl ?_
        refine wg_ret rfl rfl trivial ⟨?_, rfl⟩
        first | (rw [if_pos ⟨by omega, by omega⟩, show x = 0 by omega, m_la_0]; done) | (rw [if_pos ⟨by omega, by omega⟩, show x = 1 by omega]; done) | rw [if_neg (by omega)]
      · refine wg_s rfl rfl ?_
        refine wg_cf rfl rfl (sp_ended _ hI hZ h16 n (by omega)) ?_
        refine wg_s rfl rfl ?_
        refine wg_ret rfl rfl trivial ⟨?_, rfl⟩
        first | (rw [if_pos ⟨by omega, by omega⟩, show x = 0 by omega, m_la_0]; done) | (rw [if_pos ⟨by omega, by omega⟩, show x = 1 by omega]; done) | rw [if_neg (by omega)]
    · refine wg_s rfl rfl ?_
      refine wg_cf rfl rfl (sp_size _ hI hZ h16 n (by omega)) ?_
      refine wg_ret rfl rfl trivial ⟨?_, rfl⟩
      first | (rw [if_pos ⟨by omega, by omega⟩, show x = 0 by omega, m_la_0]; done) | (rw [if_pos ⟨by omega, by omega⟩, show x = 1 by omega]; done) | rw [if_neg (by omega)]
  · refine wg_s rfl rfl ?_
    refine wg_s rfl rfl ?_
    refine wg_cf rfl rfl (sp_kindAt_f _ _ hI hZ hh) ?_
    refine wg_s rfl rfl ?_
    refine wg_s rfl rfl ?_
    refine wg_s rfl rfl ?_
    refine wg_s rfl rfl ?_
    refine wg_ret rfl rfl trivial ⟨?_, rfl⟩
    rw [if_neg (by omega)]
