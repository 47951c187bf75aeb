/-! ===== the class: shares, on ===== -/
theorem jg_eq (μ : ab_M) (t n k : Nat) (x : Int) : ag_J (as_J μ t n k x) t n k = x := ab_u3_eq _ _ _ _ _
theorem jg_k (μ : ab_M) {t n k t' n' k' : Nat} (x : Int) (h : k' ≠ k) : ag_J (as_J μ t n k x) t' n' k' = ag_J μ t' n' k' := ab_u3_k _ _ h
theorem sp_mult (d : Nat) (c u v p w : Nat) (μ : ab_M) (hu : ag_J μ 2 c 0 = (u : Int)) (hv : ag_J μ 2 c 1 = (v : Int)) (hw : 1 ≤ w) (hv1 : 1 ≤ v) (huv : u * p ≤ v * w) (h45 : v * w < 2 ^ 45) : Wp (d + 2) 43 [ab_r 2 (some c), ab_i (p : Int), ab_i (w : Int)] μ (fun vv μ' => vv = none ∧ ∃ Jf, μ' = (μ.1, Jf, μ.2.2) ∧ Jf 2 c 0 = ((u * p / Nat.gcd (u * p) (v * w) : Nat) : Int) ∧ Jf 2 c 1 = ((v * w / Nat.gcd (u * p) (v * w) : Nat) : Int)) := by
  refine wp_of ?_
  have m3 : 1 ≤ v * w := Nat.mul_pos hv1 hw
  generalize hU : u * p = U at huv
  generalize hV : v * w = V at huv h45 m3
  have eU : (u : Int) * (p : Int) = (U : Int) := by rw [← hU, Int.natCast_mul]
  have eV : (v : Int) * (w : Int) = (V : Int) := by rw [← hV, Int.natCast_mul]
  have g1 : 0 < Nat.gcd U V := Nat.gcd_pos_of_pos_right _ (by omega)
  refine wg_s rfl rfl ?_
  refine wg_if rfl rfl (fun h1 => ?_) (fun h1 => ?_)
  · refine wg_s rfl rfl ?_
    refine wg_s rfl rfl ?_
    refine wg_gj rfl rfl (show _ = (u : Int) from hu) ?_
    refine wg_s rfl rfl ?_
    refine wg_s rfl rfl ?_
    refine wg_lbin (z := (u : Int) * (p : Int)) rfl rfl (by omega) (by omega) ?_
    rw [eU]
    refine wg_s rfl rfl ?_
    refine wg_s rfl rfl ?_
    refine wg_s rfl rfl ?_
    refine wg_gj rfl rfl (show _ = (v : Int) from (jg_k _ _ (by decide)).trans hv) ?_
    refine wg_s rfl rfl ?_
    refine wg_s rfl rfl ?_
    refine wg_lbin (z := (v : Int) * (w : Int)) rfl rfl (by omega) (by omega) ?_
    rw [eV]
    refine wg_s rfl rfl ?_
    refine wg_s rfl rfl ?_
    refine wg_gj rfl rfl (show _ = (U : Int) from (jg_k _ _ (by decide)).trans (jg_eq _ _ _ _ _)) ?_
    refine wg_s rfl rfl ?_
    refine wg_gj rfl rfl (show _ = (V : Int) from jg_eq _ _ _ _ _) ?_
    refine wg_cf rfl rfl (sp_gcd _ U V _ (by omega) (by omega)) ?_
    refine wg_s rfl rfl ?_
    refine wg_s rfl rfl ?_
    refine wg_s rfl rfl ?_
    refine wg_lc_le rfl rfl (fun h41 => ?_) (fun h41 => ?_)
    · have g2 : Nat.gcd U V = 1 := by omega
      exact wg_ret rfl rfl trivial ⟨rfl, _, rfl, by rw [g2, Nat.div_one]; exact (jg_k _ _ (by decide)).trans (jg_eq _ _ _ _ _), by rw [g2, Nat.div_one]; exact jg_eq _ _ _ _ _⟩
    · refine wg_s rfl rfl ?_
      refine wg_s rfl rfl ?_
      refine wg_gj rfl rfl (show _ = (U : Int) from (jg_k _ _ (by decide)).trans (jg_eq _ _ _ _ _)) ?_
      refine wg_s rfl rfl ?_
      refine wg_c rfl rfl ⟨by omega, by omega⟩ ?_
      refine wg_s rfl rfl ?_
      refine wg_s rfl rfl ?_
      refine wg_s rfl rfl ?_
      refine wg_gj rfl rfl (show _ = (V : Int) from (jg_k _ _ (by decide)).trans (jg_eq _ _ _ _ _)) ?_
      refine wg_s rfl rfl ?_
      refine wg_c rfl rfl ⟨by omega, by omega⟩ ?_
      refine wg_s rfl rfl ?_
      exact wg_ret rfl rfl trivial ⟨rfl, _, rfl, (jg_k _ _ (by decide)).trans (jg_eq _ _ _ _ _), jg_eq _ _ _ _ _⟩
  · exfalso; omega
  
theorem nb_sn (ν : ab_M) (k : Nat) (wk : Int) : nb (fun i => decide (wk ≤ m_lo ν (jj ν k i))) (ck ν k) = m_sn ν k wk (ag_I ν 10 0 26).toNat := by
  rw [nb_ith (kf ν (k : Int)) (fun j => decide (wk ≤ m_lo ν j))]
  refine nb_cong (fun j _ => ?_)
  rw [Bool.decide_and]; rfl
theorem nb_sd (ν : ab_M) (k : Nat) (wk : Int) : nb (fun i => decide (ag_I ν 11 40 (jj ν k i) = wk)) (ck ν k) = m_sd ν k wk (ag_I ν 10 0 26).toNat := by
  rw [nb_ith (kf ν (k : Int)) (fun j => decide (ag_I ν 11 40 j = wk))]
  refine nb_cong (fun j _ => ?_)
  rw [Bool.decide_and]; rfl
def t_7r (e : Option Nat) : ab_L := match e with
  | none => []
  | some x => [(7, ab_r 6 (some x))]
theorem lp_take {d : Nat} {ν μ : ab_M} {hl hw pl tm : Nat → Nat} {ow : Nat → Nat × Nat} {tc : Nat} (hI : IX ν μ hl hw pl tm ow tc) (hZ : WR ν) (h16 : W16 ν) (k : Nat) (hk : k < 4) (hE : WE ν) (hWL : WL ν) (wk : Int) (hwk : 0 ≤ wk) (c : Nat) {Q : Option ab_V → ab_M → Prop} (hQ : ∀ e, Wg (d + 1) 56 μ 72 ([(0, ab_r 5 (some k)), (1, ab_i wk), (2, ab_i (ag_I ν 10 0 0)), (3, ab_r 2 (some c)), (4, ab_i (nb (fun i => decide (wk ≤ m_lo ν (jj ν k i))) (ck ν k))), (5, ab_i (nb (fun i => decide (ag_I ν 11 40 (jj ν k i) = wk)) (ck ν k))), (6, ab_i (ck ν k : Int))] ++ t_7r e) [] Q) : ∀ (N n : Nat) (f g : Int) (e : Option Nat), ck ν k - n < N → n ≤ ck ν k → f = nb (fun i => decide (wk ≤ m_lo ν (jj ν k i))) n → g = nb (fun i => decide (ag_I ν 11 40 (jj ν k i) = wk)) n → Wg (d + 1) 56 μ 9 ([(0, ab_r 5 (some k)), (1, ab_i wk), (2, ab_i (ag_I ν 10 0 0)), (3, ab_r 2 (some c)), (4, ab_i f), (5, ab_i g), (6, ab_i (n : Int))] ++ t_7r e) [] Q := by
  intro N
  induction N with
  | zero => intro n f g e hn hk; omega
  | succ N ih =>
    intro n f g e hn hk2 hf hg
    obtain ⟨hX, hC, hH, hP, hL, hK, hT, hR, hS⟩ := id hI
    obtain ⟨z1, z6, z26, z0, z14⟩ := id hZ
    obtain ⟨c7, c8, c9, cC4, cC3, cC6, cC11⟩ := id hC
    have hk1 : ag_I μ 5 k 1 = (ck ν k : Int) := (hK k hk).trans (m_ct_cn ν k _)
    have hk16 : ((ck ν k : Nat) : Int) ≤ 16 := by have := h16 (k : Int); rw [m_ct_cn] at this; exact this
    have hkx := hX.2.2.2 k hk
    have hr := nb_rng (fun i => decide (wk ≤ m_lo ν (jj ν k i))) n
    have hr2 := nb_rng (fun i => decide (ag_I ν 11 40 (jj ν k i) = wk)) n
    cases e with
    | none =>
      by_cases hlt : n < ck ν k
      · have hj2 := jj_p hI hZ hk (show n < ck ν k by omega)
        obtain ⟨⟨j0, j1, j3, j4⟩, ⟨j2, jt⟩, jr, j17⟩ := hL _ hj2.1
        have hlo2 : (0 ≤ ag_I ν 11 40 (jj ν k n) ∧ m_lo ν (jj ν k n) = ag_I ν 11 40 (jj ν k n)) ∨ ag_I ν 11 40 (jj ν k n) < 0 := by
          by_cases q : 0 ≤ ag_I ν 11 40 (jj ν k n)
          · exact Or.inl ⟨q, if_pos q⟩
          · exact Or.inr (by omega)
        refine wg_s rfl rfl ?_
        refine wg_s rfl rfl ?_
        refine wg_gi rfl rfl (show _ = (ck ν k : Int) from hk1) ?_
        refine wg_if rfl rfl (fun h15 => ?_) (fun h15 => ?_)
        · exfalso; omega
        · refine wg_s rfl rfl ?_
          refine wg_gr rfl rfl (hkx.2.1) ?_
          refine wg_s rfl rfl ?_
          refine wg_aa rfl rfl hkx.2.2 (by omega) (by omega) (show _ = some (jj ν k n) from hj2.2) ?_
          refine wg_s rfl rfl ?_
          refine wg_s rfl rfl ?_
          refine wg_s rfl rfl ?_
          refine wg_s rfl rfl ?_
          refine wg_s rfl rfl ?_
          refine wg_cf rfl rfl (sp_lastedBy _ _ hI hZ hj2.1 hE hWL) ?_
          refine wg_s rfl rfl ?_
          refine wg_if rfl rfl (fun h39 => ?_) (fun h39 => ?_)
          · refine wg_iinc rfl rfl rfl (by omega) (by omega) rfl ?_
            refine wg_s rfl rfl ?_
            exact ih (n + 1) _ _ (some _) (by omega) (by omega) (by rw [nb_s, hf]; first | (rw [if_pos (decide_eq_true (show wk ≤ m_lo ν (jj ν k n) by omega))]; done) | (rw [if_neg (fun q => absurd (of_decide_eq_true q) (show ¬ (wk ≤ m_lo ν (jj ν k n)) by omega)), Int.add_zero])) (by rw [nb_s, hg]; first | (rw [if_pos (decide_eq_true (show ag_I ν 11 40 (jj ν k n) = wk by omega))]; done) | (rw [if_neg (fun q => absurd (of_decide_eq_true q) (show ¬ (ag_I ν 11 40 (jj ν k n) = wk) by omega)), Int.add_zero]))
          · refine wg_iinc rfl rfl rfl (by omega) (by omega) rfl ?_
            refine wg_s rfl rfl ?_
            refine wg_gb rfl rfl j4 ?_
            refine wg_eqb rfl (fun h50 => ?_) (fun h50 => ?_)
            · refine wg_iinc rfl rfl rfl (by omega) (by omega) rfl ?_
              refine wg_s rfl rfl ?_
              exact ih (n + 1) _ _ (some _) (by omega) (by omega) (by rw [nb_s, hf]; first | (rw [if_pos (decide_eq_true (show wk ≤ m_lo ν (jj ν k n) by omega))]; done) | (rw [if_neg (fun q => absurd (of_decide_eq_true q) (show ¬ (wk ≤ m_lo ν (jj ν k n)) by omega)), Int.add_zero])) (by rw [nb_s, hg]; first | (rw [if_pos (decide_eq_true (show ag_I ν 11 40 (jj ν k n) = wk by omega))]; done) | (rw [if_neg (fun q => absurd (of_decide_eq_true q) (show ¬ (ag_I ν 11 40 (jj ν k n) = wk) by omega)), Int.add_zero]))
            · refine wg_s rfl rfl ?_
              refine wg_s rfl rfl ?_
              refine wg_cf rfl rfl (sp_lastedBy _ _ hI hZ hj2.1 hE hWL) ?_
              refine wg_s rfl rfl ?_
              refine wg_if rfl rfl (fun h60 => ?_) (fun h60 => ?_)
              · refine wg_iinc rfl rfl rfl (by omega) (by omega) rfl ?_
                refine wg_s rfl rfl ?_
                exact ih (n + 1) _ _ (some _) (by omega) (by omega) (by rw [nb_s, hf]; first | (rw [if_pos (decide_eq_true (show wk ≤ m_lo ν (jj ν k n) by omega))]; done) | (rw [if_neg (fun q => absurd (of_decide_eq_true q) (show ¬ (wk ≤ m_lo ν (jj ν k n)) by omega)), Int.add_zero])) (by rw [nb_s, hg]; first | (rw [if_pos (decide_eq_true (show ag_I ν 11 40 (jj ν k n) = wk by omega))]; done) | (rw [if_neg (fun q => absurd (of_decide_eq_true q) (show ¬ (ag_I ν 11 40 (jj ν k n) = wk) by omega)), Int.add_zero]))
              · refine wg_iinc rfl rfl rfl (by omega) (by omega) rfl ?_
                refine wg_iinc rfl rfl rfl (by omega) (by omega) rfl ?_
                refine wg_s rfl rfl ?_
                exact ih (n + 1) _ _ (some _) (by omega) (by omega) (by rw [nb_s, hf]; first | (rw [if_pos (decide_eq_true (show wk ≤ m_lo ν (jj ν k n) by omega))]; done) | (rw [if_neg (fun q => absurd (of_decide_eq_true q) (show ¬ (wk ≤ m_lo ν (jj ν k n)) by omega)), Int.add_zero])) (by rw [nb_s, hg]; first | (rw [if_pos (decide_eq_true (show ag_I ν 11 40 (jj ν k n) = wk by omega))]; done) | (rw [if_neg (fun q => absurd (of_decide_eq_true q) (show ¬ (ag_I ν 11 40 (jj ν k n) = wk) by omega)), Int.add_zero]))
      · refine wg_s rfl rfl ?_
        refine wg_s rfl rfl ?_
        refine wg_gi rfl rfl (show _ = (ck ν k : Int) from hk1) ?_
        refine wg_if rfl rfl (fun h15 => ?_) (fun h15 => ?_)
        · have e1 : n = ck ν k := by omega
          subst e1
          rw [hf, hg]
          exact hQ none
        · exfalso; omega
    | some x =>
      by_cases hlt : n < ck ν k
      · have hj2 := jj_p hI hZ hk (show n < ck ν k by omega)
        obtain ⟨⟨j0, j1, j3, j4⟩, ⟨j2, jt⟩, jr, j17⟩ := hL _ hj2.1
        have hlo2 : (0 ≤ ag_I ν 11 40 (jj ν k n) ∧ m_lo ν (jj ν k n) = ag_I ν 11 40 (jj ν k n)) ∨ ag_I ν 11 40 (jj ν k n) < 0 := by
          by_cases q : 0 ≤ ag_I ν 11 40 (jj ν k n)
          · exact Or.inl ⟨q, if_pos q⟩
          · exact Or.inr (by omega)
        refine wg_s rfl rfl ?_
        refine wg_s rfl rfl ?_
        refine wg_gi rfl rfl (show _ = (ck ν k : Int) from hk1) ?_
        refine wg_if rfl rfl (fun h15 => ?_) (fun h15 => ?_)
        · exfalso; omega
        · refine wg_s rfl rfl ?_
          refine wg_gr rfl rfl (hkx.2.1) ?_
          refine wg_s rfl rfl ?_
          refine wg_aa rfl rfl hkx.2.2 (by omega) (by omega) (show _ = some (jj ν k n) from hj2.2) ?_
          refine wg_s rfl rfl ?_
          refine wg_s rfl rfl ?_
          refine wg_s rfl rfl ?_
          refine wg_s rfl rfl ?_
          refine wg_s rfl rfl ?_
          refine wg_cf rfl rfl (sp_lastedBy _ _ hI hZ hj2.1 hE hWL) ?_
          refine wg_s rfl rfl ?_
          refine wg_if rfl rfl (fun h39 => ?_) (fun h39 => ?_)
          · refine wg_iinc rfl rfl rfl (by omega) (by omega) rfl ?_
            refine wg_s rfl rfl ?_
            exact ih (n + 1) _ _ (some _) (by omega) (by omega) (by rw [nb_s, hf]; first | (rw [if_pos (decide_eq_true (show wk ≤ m_lo ν (jj ν k n) by omega))]; done) | (rw [if_neg (fun q => absurd (of_decide_eq_true q) (show ¬ (wk ≤ m_lo ν (jj ν k n)) by omega)), Int.add_zero])) (by rw [nb_s, hg]; first | (rw [if_pos (decide_eq_true (show ag_I ν 11 40 (jj ν k n) = wk by omega))]; done) | (rw [if_neg (fun q => absurd (of_decide_eq_true q) (show ¬ (ag_I ν 11 40 (jj ν k n) = wk) by omega)), Int.add_zero]))
          · refine wg_iinc rfl rfl rfl (by omega) (by omega) rfl ?_
            refine wg_s rfl rfl ?_
            refine wg_gb rfl rfl j4 ?_
            refine wg_eqb rfl (fun h50 => ?_) (fun h50 => ?_)
            · refine wg_iinc rfl rfl rfl (by omega) (by omega) rfl ?_
              refine wg_s rfl rfl ?_
              exact ih (n + 1) _ _ (some _) (by omega) (by omega) (by rw [nb_s, hf]; first | (rw [if_pos (decide_eq_true (show wk ≤ m_lo ν (jj ν k n) by omega))]; done) | (rw [if_neg (fun q => absurd (of_decide_eq_true q) (show ¬ (wk ≤ m_lo ν (jj ν k n)) by omega)), Int.add_zero])) (by rw [nb_s, hg]; first | (rw [if_pos (decide_eq_true (show ag_I ν 11 40 (jj ν k n) = wk by omega))]; done) | (rw [if_neg (fun q => absurd (of_decide_eq_true q) (show ¬ (ag_I ν 11 40 (jj ν k n) = wk) by omega)), Int.add_zero]))
            · refine wg_s rfl rfl ?_
              refine wg_s rfl rfl ?_
              refine wg_cf rfl rfl (sp_lastedBy _ _ hI hZ hj2.1 hE hWL) ?_
              refine wg_s rfl rfl ?_
              refine wg_if rfl rfl (fun h60 => ?_) (fun h60 => ?_)
              · refine wg_iinc rfl rfl rfl (by omega) (by omega) rfl ?_
                refine wg_s rfl rfl ?_
                exact ih (n + 1) _ _ (some _) (by omega) (by omega) (by rw [nb_s, hf]; first | (rw [if_pos (decide_eq_true (show wk ≤ m_lo ν (jj ν k n) by omega))]; done) | (rw [if_neg (fun q => absurd (of_decide_eq_true q) (show ¬ (wk ≤ m_lo ν (jj ν k n)) by omega)), Int.add_zero])) (by rw [nb_s, hg]; first | (rw [if_pos (decide_eq_true (show ag_I ν 11 40 (jj ν k n) = wk by omega))]; done) | (rw [if_neg (fun q => absurd (of_decide_eq_true q) (show ¬ (ag_I ν 11 40 (jj ν k n) = wk) by omega)), Int.add_zero]))
              · refine wg_iinc rfl rfl rfl (by omega) (by omega) rfl ?_
                refine wg_iinc rfl rfl rfl (by omega) (by omega) rfl ?_
                refine wg_s rfl rfl ?_
                exact ih (n + 1) _ _ (some _) (by omega) (by omega) (by rw [nb_s, hf]; first | (rw [if_pos (decide_eq_true (show wk ≤ m_lo ν (jj ν k n) by omega))]; done) | (rw [if_neg (fun q => absurd (of_decide_eq_true q) (show ¬ (wk ≤ m_lo ν (jj ν k n)) by omega)), Int.add_zero])) (by rw [nb_s, hg]; first | (rw [if_pos (decide_eq_true (show ag_I ν 11 40 (jj ν k n) = wk by omega))]; done) | (rw [if_neg (fun q => absurd (of_decide_eq_true q) (show ¬ (ag_I ν 11 40 (jj ν k n) = wk) by omega)), Int.add_zero]))
      · refine wg_s rfl rfl ?_
        refine wg_s rfl rfl ?_
        refine wg_gi rfl rfl (show _ = (ck ν k : Int) from hk1) ?_
        refine wg_if rfl rfl (fun h15 => ?_) (fun h15 => ?_)
        · have e1 : n = ck ν k := by omega
          subst e1
          rw [hf, hg]
          exact hQ (some _)
        · exfalso; omega
