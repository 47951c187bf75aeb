/-! ===== the class: shares ===== -/
/-- those that ended: how long they lasted -/
def WE (ν : ab_M) : Prop := ∀ j : Nat, (j : Int) < ag_I ν 10 0 26 → 0 ≤ ag_I ν 11 40 j → ag_I ν 11 40 j = ag_I ν 11 39 j - ag_I ν 11 34 j
def ne (ν : ab_M) (k : Nat) (a : Int) : Nat → Int
  | 0 => -1
  | n + 1 => if 0 ≤ ag_I ν 11 40 (jj ν k n) ∧ a < ag_I ν 11 40 (jj ν k n) ∧ (ne ν k a n = -1 ∨ ag_I ν 11 40 (jj ν k n) < ne ν k a n) then ag_I ν 11 40 (jj ν k n) else ne ν k a n
theorem ne_s (ν : ab_M) (k : Nat) (a : Int) (n : Nat) : ne ν k a (n + 1) = if 0 ≤ ag_I ν 11 40 (jj ν k n) ∧ a < ag_I ν 11 40 (jj ν k n) ∧ (ne ν k a n = -1 ∨ ag_I ν 11 40 (jj ν k n) < ne ν k a n) then ag_I ν 11 40 (jj ν k n) else ne ν k a n := rfl
theorem ne_p (ν : ab_M) (k : Nat) (a : Int) (ha : -1 ≤ a) : ∀ n : Nat, (ne ν k a n = -1 ∧ ∀ i, i < n → 0 ≤ ag_I ν 11 40 (jj ν k i) → ag_I ν 11 40 (jj ν k i) ≤ a) ∨ (a < ne ν k a n ∧ (∃ i, i < n ∧ ag_I ν 11 40 (jj ν k i) = ne ν k a n) ∧ ∀ i, i < n → 0 ≤ ag_I ν 11 40 (jj ν k i) → a < ag_I ν 11 40 (jj ν k i) → ne ν k a n ≤ ag_I ν 11 40 (jj ν k i))
  | 0 => Or.inl ⟨rfl, fun i hi => by omega⟩
  | n + 1 => by
    have ih := ne_p ν k a ha n
    rw [ne_s]
    generalize hx : ag_I ν 11 40 (jj ν k n) = x
    generalize hl : ne ν k a n = l at ih
    by_cases c : 0 ≤ x ∧ a < x ∧ (l = -1 ∨ x < l)
    · rw [if_pos c]
      right
      refine ⟨c.2.1, ⟨n, by omega, hx⟩, fun i hi h0 h1 => ?_⟩
      by_cases e : i = n
      · subst e; omega
      · rcases ih with ⟨q1, q2⟩ | ⟨q1, q2, q3⟩
        · have := q2 i (by omega) h0; omega
        · have := q3 i (by omega) h0 h1; omega
    · rw [if_neg c]
      rcases ih with ⟨q1, q2⟩ | ⟨q1, q2, q3⟩
      · left
        refine ⟨q1, fun i hi h0 => ?_⟩
        by_cases e : i = n
        · subst e; omega
        · exact q2 i (by omega) h0
      · right
        refine ⟨q1, ?_, fun i hi h0 h1 => ?_⟩
        · obtain ⟨i, h1, h2⟩ := q2
          exact ⟨i, by omega, h2⟩
        · by_cases e : i = n
          · subst e; omega
          · exact q3 i (by omega) h0 h1
theorem sp_lastedBy (d : Nat) (j : Nat) {ν μ : ab_M} {hl hw pl tm : Nat → Nat} {ow : Nat → Nat × Nat} {tc : Nat} (hI : IX ν μ hl hw pl tm ow tc) (hZ : WR ν) (hj : (j : Int) < ag_I ν 10 0 26) (hE : WE ν) (hWL : WL ν) : Wp (d + 1) 59 [ab_r 6 (some j), ab_i (ag_I ν 10 0 0)] μ (fun vv μ' => vv = some (ab_i (m_lo ν j)) ∧ μ' = μ) := by
  refine wp_of ?_
  obtain ⟨hX, hC, hH, hP, hL, hK, hT, hR, hS⟩ := id hI
  obtain ⟨z1, z6, z26, z0, z14⟩ := id hZ
  obtain ⟨c7, c8, c9, cC4, cC3, cC6, cC11⟩ := id hC
  obtain ⟨⟨j0, j1, j3, j4⟩, ⟨j2, jt⟩, jr, j17⟩ := hL j hj
  have hw8 := hWL j hj
  have he8 := hE j hj
  by_cases c : 0 ≤ ag_I ν 11 40 j
  · rw [bI_t c] at j4
    have he9 := he8 c
    refine wg_s rfl rfl ?_
    refine wg_gb rfl rfl j4 ?_
    refine wg_s rfl rfl ?_
    refine wg_s rfl rfl ?_
    refine wg_gi rfl rfl (show _ = ag_I ν 11 39 j from j3) ?_
    refine wg_s rfl rfl ?_
    refine wg_s rfl rfl ?_
    refine wg_gi rfl rfl (show _ = ag_I ν 11 34 j from j1) ?_
    refine wg_isub rfl (by omega) (by omega) ?_
    refine wg_ret rfl rfl trivial ⟨?_, rfl⟩
    unfold m_lo
    rw [if_pos c]; congr 2; omega
  · rw [bI_f c] at j4
    refine wg_s rfl rfl ?_
    refine wg_gb rfl rfl j4 ?_
    refine wg_s rfl rfl ?_
    refine wg_s rfl rfl ?_
    refine wg_s rfl rfl ?_
    refine wg_gi rfl rfl (show _ = ag_I ν 11 34 j from j1) ?_
    refine wg_isub rfl (by omega) (by omega) ?_
    refine wg_ret rfl rfl trivial ⟨?_, rfl⟩
    unfold m_lo
    rw [if_neg c]
def t_n (e : Option (Nat × Option Int)) : ab_L := match e with
  | none => []
  | some (x, none) => [(5, ab_r 6 (some x))]
  | some (x, some y) => [(5, ab_r 6 (some x)), (6, ab_i y)]
theorem lp_ne {d : Nat} {ν μ : ab_M} {hl hw pl tm : Nat → Nat} {ow : Nat → Nat × Nat} {tc : Nat} (hI : IX ν μ hl hw pl tm ow tc) (hZ : WR ν) (h16 : W16 ν) (k : Nat) (hk : k < 4) (hE : WE ν) (hWL : WL ν) (a : Int) : ∀ (N n : Nat) (f : Int) (e : Option (Nat × Option Int)), ck ν k - n < N → n ≤ ck ν k → f = ne ν k a n → Wg (d + 1) 55 μ 5 ([(0, ab_r 5 (some k)), (1, ab_i a), (2, ab_i (ag_I ν 10 0 0)), (3, ab_i f), (4, ab_i (n : Int))] ++ t_n e) [] (fun vv μ' => vv = some (ab_i (ne ν k a (ck ν k))) ∧ μ' = μ) := by
  intro N
  induction N with
  | zero => intro n f e hn hk; omega
  | succ N ih =>
    intro n f e hn hk2 hf
    obtain ⟨hX, hC, hH, hP, hL, hK, hT, hR, hS⟩ := id hI
    obtain ⟨z1, z6, z26, z0, z14⟩ := id hZ
    obtain ⟨c7, c8, c9, cC4, cC3, cC6, cC11⟩ := id hC
    have hk1 : ag_I μ 5 k 1 = (ck ν k : Int) := (hK k hk).trans (m_ct_cn ν k _)
    have hk16 : ((ck ν k : Nat) : Int) ≤ 16 := by have := h16 (k : Int); rw [m_ct_cn] at this; exact this
    have hkx := hX.2.2.2 k hk
    rcases e with _ | ⟨x, _ | y⟩
    · by_cases hlt : n < ck ν k
      · have hj2 := jj_p hI hZ hk (show n < ck ν k by omega)
        obtain ⟨⟨j0, j1, j3, j4⟩, ⟨j2, jt⟩, jr, j17⟩ := hL _ hj2.1
        by_cases c : 0 ≤ ag_I ν 11 40 (jj ν k n)
        · refine wg_s rfl rfl ?_
          refine wg_s rfl rfl ?_
          refine wg_gi rfl rfl (show _ = (ck ν k : Int) from hk1) ?_
          refine wg_if rfl rfl (fun h11 => ?_) (fun h11 => ?_)
          · refine wg_s rfl rfl ?_
            exfalso; omega
          · refine wg_s rfl rfl ?_
            refine wg_gr rfl rfl (hkx.2.1) ?_
            refine wg_s rfl rfl ?_
            refine wg_aa rfl rfl hkx.2.2 (by omega) (by omega) (show _ = some (jj ν k n) from hj2.2) ?_
            refine wg_s rfl rfl ?_
            refine wg_s rfl rfl ?_
            refine wg_s rfl rfl ?_
            refine wg_s rfl rfl ?_
            rw [bI_t c] at j4
            refine wg_gb rfl rfl j4 ?_
            refine wg_s rfl rfl ?_
            refine wg_s rfl rfl ?_
            refine wg_s rfl rfl ?_
            refine wg_cf rfl rfl (sp_lastedBy _ _ hI hZ hj2.1 hE hWL) ?_
            rw [show m_lo ν (jj ν k n) = ag_I ν 11 40 (jj ν k n) from if_pos c]
            refine wg_s rfl rfl ?_
            refine wg_s rfl rfl ?_
            refine wg_s rfl rfl ?_
            refine wg_if rfl rfl (fun h47 => ?_) (fun h47 => ?_)
            · refine wg_iinc rfl rfl rfl (by omega) (by omega) rfl ?_
              refine wg_s rfl rfl ?_
              exact ih (n + 1) _ (some (_, some _)) (by omega) (by omega) (by rw [ne_s]; first | (rw [if_pos (by omega)]; done) | (rw [if_neg (by omega), hf]))
            · refine wg_s rfl rfl ?_
              refine wg_s rfl rfl ?_
              refine wg_if rfl rfl (fun h52 => ?_) (fun h52 => ?_)
              · refine wg_s rfl rfl ?_
                refine wg_s rfl rfl ?_
                refine wg_iinc rfl rfl rfl (by omega) (by omega) rfl ?_
                refine wg_s rfl rfl ?_
                exact ih (n + 1) _ (some (_, some _)) (by omega) (by omega) (by rw [ne_s]; first | (rw [if_pos (by omega)]; done) | (rw [if_neg (by omega), hf]))
              · refine wg_s rfl rfl ?_
                refine wg_s rfl rfl ?_
                refine wg_if rfl rfl (fun h58 => ?_) (fun h58 => ?_)
                · refine wg_iinc rfl rfl rfl (by omega) (by omega) rfl ?_
                  refine wg_s rfl rfl ?_
                  exact ih (n + 1) _ (some (_, some _)) (by omega) (by omega) (by rw [ne_s]; first | (rw [if_pos (by omega)]; done) | (rw [if_neg (by omega), hf]))
                · refine wg_s rfl rfl ?_
                  refine wg_s rfl rfl ?_
                  refine wg_iinc rfl rfl rfl (by omega) (by omega) rfl ?_
                  refine wg_s rfl rfl ?_
                  exact ih (n + 1) _ (some (_, some _)) (by omega) (by omega) (by rw [ne_s]; first | (rw [if_pos (by omega)]; done) | (rw [if_neg (by omega), hf]))
        · refine wg_s rfl rfl ?_
          refine wg_s rfl rfl ?_
          refine wg_gi rfl rfl (show _ = (ck ν k : Int) from hk1) ?_
          refine wg_if rfl rfl (fun h11 => ?_) (fun h11 => ?_)
          · refine wg_s rfl rfl ?_
            exfalso; omega
          · refine wg_s rfl rfl ?_
            refine wg_gr rfl rfl (hkx.2.1) ?_
            refine wg_s rfl rfl ?_
            refine wg_aa rfl rfl hkx.2.2 (by omega) (by omega) (show _ = some (jj ν k n) from hj2.2) ?_
            refine wg_s rfl rfl ?_
            refine wg_s rfl rfl ?_
            refine wg_s rfl rfl ?_
            refine wg_s rfl rfl ?_
            rw [bI_f c] at j4
            refine wg_gb rfl rfl j4 ?_
            refine wg_s rfl rfl ?_
            refine wg_iinc rfl rfl rfl (by omega) (by omega) rfl ?_
            refine wg_s rfl rfl ?_
            exact ih (n + 1) _ (some (_, none)) (by omega) (by omega) (by rw [ne_s, if_neg (by omega), hf])
      · refine wg_s rfl rfl ?_
        refine wg_s rfl rfl ?_
        refine wg_gi rfl rfl (show _ = (ck ν k : Int) from hk1) ?_
        refine wg_if rfl rfl (fun h11 => ?_) (fun h11 => ?_)
        · refine wg_s rfl rfl ?_
          have e1 : n = ck ν k := by omega
          subst e1
          exact wg_ret rfl rfl trivial ⟨by rw [hf], rfl⟩
        · exfalso; omega
    · by_cases hlt : n < ck ν k
      · have hj2 := jj_p hI hZ hk (show n < ck ν k by omega)
        obtain ⟨⟨j0, j1, j3, j4⟩, ⟨j2, jt⟩, jr, j17⟩ := hL _ hj2.1
        by_cases c : 0 ≤ ag_I ν 11 40 (jj ν k n)
        · refine wg_s rfl rfl ?_
          refine wg_s rfl rfl ?_
          refine wg_gi rfl rfl (show _ = (ck ν k : Int) from hk1) ?_
          refine wg_if rfl rfl (fun h11 => ?_) (fun h11 => ?_)
          · refine wg_s rfl rfl ?_
            exfalso; omega
          · refine wg_s rfl rfl ?_
            refine wg_gr rfl rfl (hkx.2.1) ?_
            refine wg_s rfl rfl ?_
            refine wg_aa rfl rfl hkx.2.2 (by omega) (by omega) (show _ = some (jj ν k n) from hj2.2) ?_
            refine wg_s rfl rfl ?_
            refine wg_s rfl rfl ?_
            refine wg_s rfl rfl ?_
            refine wg_s rfl rfl ?_
            rw [bI_t c] at j4
            refine wg_gb rfl rfl j4 ?_
            refine wg_s rfl rfl ?_
            refine wg_s rfl rfl ?_
            refine wg_s rfl rfl ?_
            refine wg_cf rfl rfl (sp_lastedBy _ _ hI hZ hj2.1 hE hWL) ?_
            rw [show m_lo ν (jj ν k n) = ag_I ν 11 40 (jj ν k n) from if_pos c]
            refine wg_s rfl rfl ?_
            refine wg_s rfl rfl ?_
            refine wg_s rfl rfl ?_
            refine wg_if rfl rfl (fun h47 => ?_) (fun h47 => ?_)
            · refine wg_iinc rfl rfl rfl (by omega) (by omega) rfl ?_
              refine wg_s rfl rfl ?_
              exact ih (n + 1) _ (some (_, some _)) (by omega) (by omega) (by rw [ne_s]; first | (rw [if_pos (by omega)]; done) | (rw [if_neg (by omega), hf]))
            · refine wg_s rfl rfl ?_
              refine wg_s rfl rfl ?_
              refine wg_if rfl rfl (fun h52 => ?_) (fun h52 => ?_)
              · refine wg_s rfl rfl ?_
                refine wg_s rfl rfl ?_
                refine wg_iinc rfl rfl rfl (by omega) (by omega) rfl ?_
                refine wg_s rfl rfl ?_
                exact ih (n + 1) _ (some (_, some _)) (by omega) (by omega) (by rw [ne_s]; first | (rw [if_pos (by omega)]; done) | (rw [if_neg (by omega), hf]))
              · refine wg_s rfl rfl ?_
                refine wg_s rfl rfl ?_
                refine wg_if rfl rfl (fun h58 => ?_) (fun h58 => ?_)
                · refine wg_iinc rfl rfl rfl (by omega) (by omega) rfl ?_
                  refine wg_s rfl rfl ?_
                  exact ih (n + 1) _ (some (_, some _)) (by omega) (by omega) (by rw [ne_s]; first | (rw [if_pos (by omega)]; done) | (rw [if_neg (by omega), hf]))
                · refine wg_s rfl rfl ?_
                  refine wg_s rfl rfl ?_
                  refine wg_iinc rfl rfl rfl (by omega) (by omega) rfl ?_
                  refine wg_s rfl rfl ?_
                  exact ih (n + 1) _ (some (_, some _)) (by omega) (by omega) (by rw [ne_s]; first | (rw [if_pos (by omega)]; done) | (rw [if_neg (by omega), hf]))
        · refine wg_s rfl rfl ?_
          refine wg_s rfl rfl ?_
          refine wg_gi rfl rfl (show _ = (ck ν k : Int) from hk1) ?_
          refine wg_if rfl rfl (fun h11 => ?_) (fun h11 => ?_)
          · refine wg_s rfl rfl ?_
            exfalso; omega
          · refine wg_s rfl rfl ?_
            refine wg_gr rfl rfl (hkx.2.1) ?_
            refine wg_s rfl rfl ?_
            refine wg_aa rfl rfl hkx.2.2 (by omega) (by omega) (show _ = some (jj ν k n) from hj2.2) ?_
            refine wg_s rfl rfl ?_
            refine wg_s rfl rfl ?_
            refine wg_s rfl rfl ?_
            refine wg_s rfl rfl ?_
            rw [bI_f c] at j4
            refine wg_gb rfl rfl j4 ?_
            refine wg_s rfl rfl ?_
            refine wg_iinc rfl rfl rfl (by omega) (by omega) rfl ?_
            refine wg_s rfl rfl ?_
            exact ih (n + 1) _ (some (_, none)) (by omega) (by omega) (by rw [ne_s, if_neg (by omega), hf])
      · refine wg_s rfl rfl ?_
        refine wg_s rfl rfl ?_
        refine wg_gi rfl rfl (show _ = (ck ν k : Int) from hk1) ?_
        refine wg_if rfl rfl (fun h11 => ?_) (fun h11 => ?_)
        · refine wg_s rfl rfl ?_
          have e1 : n = ck ν k := by omega
          subst e1
          exact wg_ret rfl rfl trivial ⟨by rw [hf], rfl⟩
        · exfalso; omega
    · by_cases hlt : n < ck ν k
      · have hj2 := jj_p hI hZ hk (show n < ck ν k by omega)
        obtain ⟨⟨j0, j1, j3, j4⟩, ⟨j2, jt⟩, jr, j17⟩ := hL _ hj2.1
        by_cases c : 0 ≤ ag_I ν 11 40 (jj ν k n)
        · refine wg_s rfl rfl ?_
          refine wg_s rfl rfl ?_
          refine wg_gi rfl rfl (show _ = (ck ν k : Int) from hk1) ?_
          refine wg_if rfl rfl (fun h11 => ?_) (fun h11 => ?_)
          · refine wg_s rfl rfl ?_
            exfalso; omega
          · refine wg_s rfl rfl ?_
            refine wg_gr rfl rfl (hkx.2.1) ?_
            refine wg_s rfl rfl ?_
            refine wg_aa rfl rfl hkx.2.2 (by omega) (by omega) (show _ = some (jj ν k n) from hj2.2) ?_
            refine wg_s rfl rfl ?_
            refine wg_s rfl rfl ?_
            refine wg_s rfl rfl ?_
            refine wg_s rfl rfl ?_
            rw [bI_t c] at j4
            refine wg_gb rfl rfl j4 ?_
            refine wg_s rfl rfl ?_
            refine wg_s rfl rfl ?_
            refine wg_s rfl rfl ?_
            refine wg_cf rfl rfl (sp_lastedBy _ _ hI hZ hj2.1 hE hWL) ?_
            rw [show m_lo ν (jj ν k n) = ag_I ν 11 40 (jj ν k n) from if_pos c]
            refine wg_s rfl rfl ?_
            refine wg_s rfl rfl ?_
            refine wg_s rfl rfl ?_
            refine wg_if rfl rfl (fun h47 => ?_) (fun h47 => ?_)
            · refine wg_iinc rfl rfl rfl (by omega) (by omega) rfl ?_
              refine wg_s rfl rfl ?_
              exact ih (n + 1) _ (some (_, some _)) (by omega) (by omega) (by rw [ne_s]; first | (rw [if_pos (by omega)]; done) | (rw [if_neg (by omega), hf]))
            · refine wg_s rfl rfl ?_
              refine wg_s rfl rfl ?_
              refine wg_if rfl rfl (fun h52 => ?_) (fun h52 => ?_)
              · refine wg_s rfl rfl ?_
                refine wg_s rfl rfl ?_
                refine wg_iinc rfl rfl rfl (by omega) (by omega) rfl ?_
                refine wg_s rfl rfl ?_
                exact ih (n + 1) _ (some (_, some _)) (by omega) (by omega) (by rw [ne_s]; first | (rw [if_pos (by omega)]; done) | (rw [if_neg (by omega), hf]))
              · refine wg_s rfl rfl ?_
                refine wg_s rfl rfl ?_
                refine wg_if rfl rfl (fun h58 => ?_) (fun h58 => ?_)
                · refine wg_iinc rfl rfl rfl (by omega) (by omega) rfl ?_
                  refine wg_s rfl rfl ?_
                  exact ih (n + 1) _ (some (_, some _)) (by omega) (by omega) (by rw [ne_s]; first | (rw [if_pos (by omega)]; done) | (rw [if_neg (by omega), hf]))
                · refine wg_s rfl rfl ?_
                  refine wg_s rfl rfl ?_
                  refine wg_iinc rfl rfl rfl (by omega) (by omega) rfl ?_
                  refine wg_s rfl rfl ?_
                  exact ih (n + 1) _ (some (_, some _)) (by omega) (by omega) (by rw [ne_s]; first | (rw [if_pos (by omega)]; done) | (rw [if_neg (by omega), hf]))
        · refine wg_s rfl rfl ?_
          refine wg_s rfl rfl ?_
          refine wg_gi rfl rfl (show _ = (ck ν k : Int) from hk1) ?_
          refine wg_if rfl rfl (fun h11 => ?_) (fun h11 => ?_)
          · refine wg_s rfl rfl ?_
            exfalso; omega
          · refine wg_s rfl rfl ?_
            refine wg_gr rfl rfl (hkx.2.1) ?_
            refine wg_s rfl rfl ?_
            refine wg_aa rfl rfl hkx.2.2 (by omega) (by omega) (show _ = some (jj ν k n) from hj2.2) ?_
            refine wg_s rfl rfl ?_
            refine wg_s rfl rfl ?_
            refine wg_s rfl rfl ?_
            refine wg_s rfl rfl ?_
            rw [bI_f c] at j4
            refine wg_gb rfl rfl j4 ?_
            refine wg_s rfl rfl ?_
            refine wg_iinc rfl rfl rfl (by omega) (by omega) rfl ?_
            refine wg_s rfl rfl ?_
            exact ih (n + 1) _ (some (_, some _)) (by omega) (by omega) (by rw [ne_s, if_neg (by omega), hf])
      · refine wg_s rfl rfl ?_
        refine wg_s rfl rfl ?_
        refine wg_gi rfl rfl (show _ = (ck ν k : Int) from hk1) ?_
        refine wg_if rfl rfl (fun h11 => ?_) (fun h11 => ?_)
        · refine wg_s rfl rfl ?_
          have e1 : n = ck ν k := by omega
          subst e1
          exact wg_ret rfl rfl trivial ⟨by rw [hf], rfl⟩
        · exfalso; omega
theorem sp_nextEnding (d : Nat) {ν μ : ab_M} {hl hw pl tm : Nat → Nat} {ow : Nat → Nat × Nat} {tc : Nat} (hI : IX ν μ hl hw pl tm ow tc) (hZ : WR ν) (h16 : W16 ν) (k : Nat) (hk : k < 4) (hE : WE ν) (hWL : WL ν) (a : Int) : Wp (d + 2) 55 [ab_r 5 (some k), ab_i a, ab_i (ag_I ν 10 0 0)] μ (fun vv μ' => vv = some (ab_i (ne ν k a (ck ν k))) ∧ μ' = μ) := by
  refine wp_of ?_
  obtain ⟨hX, hC, hH, hP, hL, hK, hT, hR, hS⟩ := id hI
  obtain ⟨z1, z6, z26, z0, z14⟩ := id hZ
  obtain ⟨c7, c8, c9, cC4, cC3, cC6, cC11⟩ := id hC
  have hk1 : ag_I μ 5 k 1 = (ck ν k : Int) := (hK k hk).trans (m_ct_cn ν k _)
  have hk16 : ((ck ν k : Nat) : Int) ≤ 16 := by have := h16 (k : Int); rw [m_ct_cn] at this; exact this
  have hkx := hX.2.2.2 k hk
  refine wg_s rfl rfl ?_
  refine wg_s rfl rfl ?_
  refine wg_s rfl rfl ?_
  refine wg_s rfl rfl ?_
  exact lp_ne hI hZ h16 k hk hE hWL a 17 0 (-1) none (by omega) (by omega) rfl
