/-! ===== the reference: shares ===== -/
def fac : Nat → Nat
  | 0 => 1
  | n + 1 => (n + 1) * fac n
theorem fac_pos : ∀ n, 1 ≤ fac n
  | 0 => Nat.le_refl _
  | n + 1 => by
    unfold fac
    exact Nat.mul_pos (by omega) (fac_pos n)
theorem fac_mono {a b : Nat} (h : a ≤ b) : fac a ≤ fac b := by
  induction h with
  | refl => exact Nat.le_refl _
  | step h ih =>
    refine Nat.le_trans ih ?_
    show _ ≤ (_ + 1) * fac _
    exact Nat.le_mul_of_pos_left _ (by omega)
theorem fac_ge {n : Nat} (h : 1 ≤ n) : n ≤ fac n := by
  obtain ⟨m, rfl⟩ : ∃ m, n = m + 1 := ⟨n - 1, by omega⟩
  show m + 1 ≤ (m + 1) * fac m
  exact Nat.le_mul_of_pos_right _ (fac_pos m)
theorem fac_16 : fac 16 = 20922789888000 := by decide
theorem nb_le2 {p q r : Nat → Bool} : ∀ {n : Nat}, (∀ j, j < n → (p j = true → r j = true) ∧ (q j = true → r j = true) ∧ ¬ (p j = true ∧ q j = true)) → nb p n + nb q n ≤ nb r n
  | 0, _ => Int.le_refl _
  | n + 1, h => by
    have ih := nb_le2 (p := p) (q := q) (r := r) (n := n) (fun j hj => h j (by omega))
    have hn := h n (by omega)
    unfold nb
    cases hp : p n <;> cases hq : q n <;> cases hr : r n <;> simp [hp, hq, hr] at hn ⊢ <;> omega
theorem nb_le {p r : Nat → Bool} {n : Nat} (h : ∀ j, j < n → p j = true → r j = true) : nb p n ≤ nb r n := by
  have := nb_le2 (p := p) (q := fun _ => false) (r := r) (n := n) (fun j hj => ⟨h j hj, by simp, by simp⟩)
  have h2 := nb_rng (fun _ => false) n
  omega
def m_lo (μ : ab_M) (j : Nat) : Int := if 0 ≤ ag_I μ 11 40 j then ag_I μ 11 40 j else ag_I μ 10 0 0 - ag_I μ 11 34 j
def m_sd (μ : ab_M) (k t : Int) (n : Nat) : Int := nb (fun j => decide (ag_I μ 11 20 (ag_I μ 11 32 j).toNat = k ∧ ag_I μ 11 40 j = t)) n
def m_sn (μ : ab_M) (k t : Int) (n : Nat) : Int := nb (fun j => decide (ag_I μ 11 20 (ag_I μ 11 32 j).toNat = k ∧ t ≤ m_lo μ j)) n
/-- one week of a share -/
def sh_st (q : Nat × Nat) (d n : Nat) : Nat × Nat := if d = 0 then q else (q.1 * (n - d) / Nat.gcd (q.1 * (n - d)) (q.2 * n), q.2 * n / Nat.gcd (q.1 * (n - d)) (q.2 * n))
/-- the share ahead of week t -/
def m_sh (μ : ab_M) (k : Int) : Nat → Nat × Nat
  | 0 => (1, 1)
  | t + 1 => sh_st (m_sh μ k t) (m_sd μ k t (ag_I μ 10 0 26).toNat).toNat (m_sn μ k t (ag_I μ 10 0 26).toNat).toNat
theorem m_sdn (μ : ab_M) (k : Int) (t : Int) (ht : 0 ≤ t) (n : Nat) : m_sd μ k t n + m_sn μ k (t + 1) n ≤ m_sn μ k t n := by
  unfold m_sd m_sn
  refine nb_le2 (fun j _ => ?_)
  simp only [decide_eq_true_eq]
  refine ⟨fun h => ⟨h.1, ?_⟩, fun h => ⟨h.1, by omega⟩, fun h => ?_⟩
  · unfold m_lo; rw [if_pos (by omega)]; omega
  · have h1 := h.1.2
    have h2 := h.2.2
    unfold m_lo at h2
    rw [if_pos (by omega)] at h2
    omega
theorem m_sn_ct (μ : ab_M) (k t : Int) (n : Nat) : m_sn μ k t n ≤ m_ct μ k n := by
  have e : ∀ n, m_ct μ k n = nb (fun j => decide (ag_I μ 11 20 (ag_I μ 11 32 j).toNat = k)) n := by
    intro n
    induction n with
    | zero => rfl
    | succ n ih => unfold m_ct nb; rw [ih]; congr 1; by_cases h : ag_I μ 11 20 (ag_I μ 11 32 n).toNat = k <;> simp [h]
  rw [e]
  exact nb_le (fun j _ h => by simp only [decide_eq_true_eq] at h ⊢; exact h.1)
theorem sh_inv {q : Nat × Nat} {d n n' : Nat} (h1 : 1 ≤ q.2) (h2 : q.1 ≤ q.2) (h3 : q.2 * fac n ≤ fac 16) (hd : d + n' ≤ n) : 1 ≤ (sh_st q d n).2 ∧ (sh_st q d n).1 ≤ (sh_st q d n).2 ∧ (sh_st q d n).2 * fac n' ≤ fac 16 := by
  unfold sh_st
  by_cases h0 : d = 0
  · rw [if_pos h0]
    exact ⟨h1, h2, Nat.le_trans (Nat.mul_le_mul_left _ (fac_mono (by omega))) h3⟩
  · rw [if_neg h0]
    have hn : 1 ≤ n := by omega
    have hl : 1 ≤ q.2 * n := Nat.mul_pos h1 hn
    have hg : 0 < Nat.gcd (q.1 * (n - d)) (q.2 * n) := Nat.gcd_pos_of_pos_right _ hl
    refine ⟨Nat.div_pos (Nat.le_of_dvd hl (Nat.gcd_dvd_right _ _)) hg, Nat.div_le_div_right (Nat.mul_le_mul h2 (by omega)), ?_⟩
    refine Nat.le_trans (Nat.mul_le_mul (Nat.div_le_self _ _) (fac_mono (show n' ≤ n - 1 by omega))) ?_
    obtain ⟨m, rfl⟩ : ∃ m, n = m + 1 := ⟨n - 1, by omega⟩
    rw [Nat.mul_assoc]
    exact h3
theorem m_sh_inv {μ : ab_M} {k : Int} (h16 : m_ct μ k (ag_I μ 10 0 26).toNat ≤ 16) : ∀ t : Nat, 1 ≤ (m_sh μ k t).2 ∧ (m_sh μ k t).1 ≤ (m_sh μ k t).2 ∧ (m_sh μ k t).2 * fac (m_sn μ k t (ag_I μ 10 0 26).toNat).toNat ≤ fac 16
  | 0 => by
    refine ⟨Nat.le_refl _, Nat.le_refl _, ?_⟩
    show 1 * fac _ ≤ _
    rw [Nat.one_mul]
    have := m_sn_ct μ k 0 (ag_I μ 10 0 26).toNat
    exact fac_mono (show (m_sn μ k 0 (ag_I μ 10 0 26).toNat).toNat ≤ 16 by omega)
  | t + 1 => by
    obtain ⟨i1, i2, i3⟩ := m_sh_inv h16 t
    refine sh_inv i1 i2 i3 ?_
    have h1 := m_sdn μ k t (by omega) (ag_I μ 10 0 26).toNat
    have h2 := (nb_rng (fun j => decide (ag_I μ 11 20 (ag_I μ 11 32 j).toNat = k ∧ ag_I μ 11 40 j = (t : Int))) (ag_I μ 10 0 26).toNat).1
    have h3 := (nb_rng (fun j => decide (ag_I μ 11 20 (ag_I μ 11 32 j).toNat = k ∧ ((t : Int) + 1) ≤ m_lo μ j)) (ag_I μ 10 0 26).toNat).1
    have e2 : m_sd μ k t (ag_I μ 10 0 26).toNat = nb (fun j => decide (ag_I μ 11 20 (ag_I μ 11 32 j).toNat = k ∧ ag_I μ 11 40 j = (t : Int))) (ag_I μ 10 0 26).toNat := rfl
    have e3 : m_sn μ k ((t : Int) + 1) (ag_I μ 10 0 26).toNat = nb (fun j => decide (ag_I μ 11 20 (ag_I μ 11 32 j).toNat = k ∧ ((t : Int) + 1) ≤ m_lo μ j)) (ag_I μ 10 0 26).toNat := rfl
    have e4 : (((t + 1 : Nat) : Int)) = (t : Int) + 1 := by omega
    rw [e4]
    omega
/-- Euclid -/
theorem gcd_step (x y : Nat) : Nat.gcd x y = Nat.gcd y (x % y) := by rw [Nat.gcd_comm x y, Nat.gcd_rec y x, Nat.gcd_comm]
theorem wg_lo {d k : Nat} {μ : ab_M} {pc : Nat} {l l2 : ab_L} {st : List ab_V} {Q : Option ab_V → ab_M → Prop} (K : Wg d k μ pc l2 st Q) (h : l = l2) : Wg d k μ pc l st Q := h ▸ K
theorem lp_common {d : Nat} {μ : ab_M} {g : Nat} {a b : Int} (e : Option Int) : ∀ (n : Nat) (y x : Nat), y < n → x < 2 ^ 62 → y < 2 ^ 62 → Nat.gcd x y = g → Wg d 149 μ 6 ([(0, ab_l a), (2, ab_l b), (4, ab_l (x : Int)), (6, ab_l (y : Int))] ++ (match e with | none => [] | some t => [(8, ab_l t)])) [] (fun w μ' => w = some (ab_l (g : Int)) ∧ μ' = μ) := by
  intro n
  induction n generalizing e with
  | zero => intro y x h; omega
  | succ n ih =>
    intro y x hn hx hy hg
    cases e with
    | none =>
      refine wg_s rfl rfl ?_
      refine wg_s rfl rfl ?_
      refine wg_lc_eq rfl rfl (fun h9 => ?_) (fun h9 => ?_)
      · refine wg_s rfl rfl ?_
        have e : y = 0 := by omega
        subst e
        rw [Nat.gcd_zero_right] at hg
        exact wg_ret rfl rfl trivial ⟨by rw [hg], rfl⟩
      · refine wg_s rfl rfl ?_
        refine wg_s rfl rfl ?_
        refine wg_c rfl rfl ⟨by omega, by omega⟩ ?_
        refine wg_s rfl rfl ?_
        refine wg_s rfl rfl ?_
        refine wg_s rfl rfl ?_
        refine wg_s rfl rfl ?_
        refine wg_s rfl rfl ?_
        refine wg_s rfl rfl ?_
        have := ih (some ((x : Int) % (y : Int))) (x % y) y (by have := Nat.mod_lt x (show 0 < y by omega); omega) (by omega) (by have := Nat.mod_lt x (show 0 < y by omega); omega) (by rw [← gcd_step]; exact hg)
        exact wg_lo this rfl
    | some t0 =>
      refine wg_s rfl rfl ?_
      refine wg_s rfl rfl ?_
      refine wg_lc_eq rfl rfl (fun h9 => ?_) (fun h9 => ?_)
      · refine wg_s rfl rfl ?_
        have e : y = 0 := by omega
        subst e
        rw [Nat.gcd_zero_right] at hg
        exact wg_ret rfl rfl trivial ⟨by rw [hg], rfl⟩
      · refine wg_s rfl rfl ?_
        refine wg_s rfl rfl ?_
        refine wg_c rfl rfl ⟨by omega, by omega⟩ ?_
        refine wg_s rfl rfl ?_
        refine wg_s rfl rfl ?_
        refine wg_s rfl rfl ?_
        refine wg_s rfl rfl ?_
        refine wg_s rfl rfl ?_
        refine wg_s rfl rfl ?_
        have := ih (some ((x : Int) % (y : Int))) (x % y) y (by have := Nat.mod_lt x (show 0 < y by omega); omega) (by omega) (by have := Nat.mod_lt x (show 0 < y by omega); omega) (by rw [← gcd_step]; exact hg)
        exact wg_lo this rfl
theorem sp_common (d : Nat) (x y : Nat) (μ : ab_M) (hx : x < 2 ^ 62) (hy : y < 2 ^ 62) : Wp (d + 1) 149 [ab_l (x : Int), ab_l (y : Int)] μ (fun w μ' => w = some (ab_l ((Nat.gcd x y : Nat) : Int)) ∧ μ' = μ) := by
  refine wp_of ?_
  refine wg_s rfl rfl ?_
  refine wg_s rfl rfl ?_
  refine wg_s rfl rfl ?_
  refine wg_s rfl rfl ?_
  exact lp_common (a := (x : Int)) (b := (y : Int)) none (y + 1) y x (by omega) hx hy rfl
theorem m_sd_s (μ : ab_M) (k t : Int) (n : Nat) : m_sd μ k t (n + 1) = m_sd μ k t n + if ag_I μ 11 20 (ag_I μ 11 32 n).toNat = k ∧ ag_I μ 11 40 n = t then 1 else 0 := by
  show nb _ n + (if decide _ = true then 1 else 0) = _
  simp only [decide_eq_true_eq]; rfl
theorem m_sn_s (μ : ab_M) (k t : Int) (n : Nat) : m_sn μ k t (n + 1) = m_sn μ k t n + if ag_I μ 11 20 (ag_I μ 11 32 n).toNat = k ∧ t ≤ m_lo μ n then 1 else 0 := by
  show nb _ n + (if decide _ = true then 1 else 0) = _
  simp only [decide_eq_true_eq]; rfl
theorem m_sd_rng (μ : ab_M) (k t : Int) (n : Nat) : 0 ≤ m_sd μ k t n ∧ m_sd μ k t n ≤ n := nb_rng _ n
theorem m_sn_rng (μ : ab_M) (k t : Int) (n : Nat) : 0 ≤ m_sn μ k t n ∧ m_sn μ k t n ≤ n := nb_rng _ n
theorem lp_shin {d : Nat} {μ : ab_M} {Jf : Nat → Nat → Nat → Int} {Q : Option ab_V → ab_M → Prop} (hW : WM μ) (hL : WL μ) (k w t : Int) (ht : 0 ≤ t ∧ t ≤ 501) (hQ : Wg (d + 1) 151 (μ.1, Jf, μ.2.2) 98 [(0, ab_r 10 (some 0)), (1, ab_i k), (2, ab_i w), (3, ab_i t), (4, ab_i (m_sd μ k t (ag_I μ 10 0 26).toNat)), (5, ab_i (m_sn μ k t (ag_I μ 10 0 26).toNat)), (6, ab_i (ag_I μ 10 0 26))] [] Q) : ∀ (n : Nat) (z f g : Int), ag_I μ 10 0 26 - z < n → 0 ≤ z → z ≤ ag_I μ 10 0 26 → f = m_sd μ k t z.toNat → g = m_sn μ k t z.toNat → Wg (d + 1) 151 (μ.1, Jf, μ.2.2) 26 [(0, ab_r 10 (some 0)), (1, ab_i k), (2, ab_i w), (3, ab_i t), (4, ab_i f), (5, ab_i g), (6, ab_i z)] [] Q := by
  intro n
  induction n with
  | zero => intro z f g hn hz; omega
  | succ n ih =>
    intro z f g hn hz hz2 hf hg
    obtain ⟨hM, h1, h6, h26, h0, h14⟩ := id hW
    have hLz := hL z.toNat
    have r1 := m_sd_rng μ k t z.toNat
    have r2 := m_sn_rng μ k t z.toNat
    refine wg_s rfl rfl ?_
    refine wg_s rfl rfl ?_
    refine wg_gi rfl rfl (show _ = ag_I μ 10 0 26 from rfl) ?_
    refine wg_if rfl rfl (fun h32 => ?_) (fun h32 => ?_)
    · have e : z = ag_I μ 10 0 26 := by omega
      rw [hf, hg, e]
      exact hQ
    · refine wg_s rfl rfl ?_
      refine wg_gm rfl rfl hM ?_
      refine wg_s rfl rfl ?_
      refine wg_gm rfl rfl hM ?_
      refine wg_s rfl rfl ?_
      refine wg_iav rfl hM rfl (by omega) (by omega) (show _ = ag_I μ 11 32 z.toNat from rfl) ?_
      refine wg_iav rfl hM rfl (by omega) (by omega) (show _ = ag_I μ 11 20 (ag_I μ 11 32 z.toNat).toNat from rfl) ?_
      refine wg_s rfl rfl ?_
      refine wg_if rfl rfl (fun h48 => ?_) (fun h48 => ?_)
      · refine wg_iinc rfl rfl rfl (by omega) (by omega) rfl ?_
        refine wg_s rfl rfl ?_
        exact ih _ _ _ (by omega) (by omega) (by omega) (by rw [tn1 hz, m_sd_s]; first | rw [if_pos (by omega), hf] | rw [if_neg (by omega), hf]; rw [Int.add_zero] | rw [if_neg (by omega), hf]) (by rw [tn1 hz, m_sn_s]; first | rw [if_pos (by omega), hg] | rw [if_neg (by omega), hg]; rw [Int.add_zero] | rw [if_neg (by omega), hg])
      · refine wg_s rfl rfl ?_
        refine wg_s rfl rfl ?_
        refine wg_gm rfl rfl hM ?_
        refine wg_s rfl rfl ?_
        refine wg_iav rfl hM rfl (by omega) (by omega) (show _ = ag_I μ 11 40 z.toNat from rfl) ?_
        refine wg_s rfl rfl ?_
        refine wg_if rfl rfl (fun h61 => ?_) (fun h61 => ?_)
        · refine wg_s rfl rfl ?_
          refine wg_iadd rfl (by omega) (by omega) ?_
          refine wg_s rfl rfl ?_
          refine wg_s rfl rfl ?_
          refine wg_s rfl rfl ?_
          refine wg_s rfl rfl ?_
          refine wg_cf rfl rfl (show Wp _ 150 _ (μ.1, Jf, μ.2.2) (fun z' μ' => z' = some (ab_i (m_lo μ z.toNat)) ∧ μ' = (μ.1, Jf, μ.2.2)) from sp_mlastedOf _ _ (μ.1, Jf, μ.2.2) hW hL (show 0 ≤ z ∧ z < ag_I μ 10 0 26 from ⟨by omega, by omega⟩)) ?_
          refine wg_s rfl rfl ?_
          refine wg_if rfl rfl (fun h81 => ?_) (fun h81 => ?_)
          · refine wg_s rfl rfl ?_
            refine wg_iadd rfl (by omega) (by omega) ?_
            refine wg_s rfl rfl ?_
            refine wg_iinc rfl rfl rfl (by omega) (by omega) rfl ?_
            refine wg_s rfl rfl ?_
            exact ih _ _ _ (by omega) (by omega) (by omega) (by rw [tn1 hz, m_sd_s]; first | rw [if_pos (by omega), hf] | rw [if_neg (by omega), hf]; rw [Int.add_zero] | rw [if_neg (by omega), hf]) (by rw [tn1 hz, m_sn_s]; first | rw [if_pos (by omega), hg] | rw [if_neg (by omega), hg]; rw [Int.add_zero] | rw [if_neg (by omega), hg])
          · refine wg_s rfl rfl ?_
            refine wg_s rfl rfl ?_
            refine wg_iadd rfl (by omega) (by omega) ?_
            refine wg_s rfl rfl ?_
            refine wg_iinc rfl rfl rfl (by omega) (by omega) rfl ?_
            refine wg_s rfl rfl ?_
            exact ih _ _ _ (by omega) (by omega) (by omega) (by rw [tn1 hz, m_sd_s]; first | rw [if_pos (by omega), hf] | rw [if_neg (by omega), hf]; rw [Int.add_zero] | rw [if_neg (by omega), hf]) (by rw [tn1 hz, m_sn_s]; first | rw [if_pos (by omega), hg] | rw [if_neg (by omega), hg]; rw [Int.add_zero] | rw [if_neg (by omega), hg])
        · refine wg_s rfl rfl ?_
          refine wg_s rfl rfl ?_
          refine wg_iadd rfl (by omega) (by omega) ?_
          refine wg_s rfl rfl ?_
          refine wg_s rfl rfl ?_
          refine wg_s rfl rfl ?_
          refine wg_s rfl rfl ?_
          refine wg_cf rfl rfl (show Wp _ 150 _ (μ.1, Jf, μ.2.2) (fun z' μ' => z' = some (ab_i (m_lo μ z.toNat)) ∧ μ' = (μ.1, Jf, μ.2.2)) from sp_mlastedOf _ _ (μ.1, Jf, μ.2.2) hW hL (show 0 ≤ z ∧ z < ag_I μ 10 0 26 from ⟨by omega, by omega⟩)) ?_
          refine wg_s rfl rfl ?_
          refine wg_if rfl rfl (fun h81 => ?_) (fun h81 => ?_)
          · refine wg_s rfl rfl ?_
            refine wg_iadd rfl (by omega) (by omega) ?_
            refine wg_s rfl rfl ?_
            refine wg_iinc rfl rfl rfl (by omega) (by omega) rfl ?_
            refine wg_s rfl rfl ?_
            exact ih _ _ _ (by omega) (by omega) (by omega) (by rw [tn1 hz, m_sd_s]; first | rw [if_pos (by omega), hf] | rw [if_neg (by omega), hf]; rw [Int.add_zero] | rw [if_neg (by omega), hf]) (by rw [tn1 hz, m_sn_s]; first | rw [if_pos (by omega), hg] | rw [if_neg (by omega), hg]; rw [Int.add_zero] | rw [if_neg (by omega), hg])
          · refine wg_s rfl rfl ?_
            refine wg_s rfl rfl ?_
            refine wg_iadd rfl (by omega) (by omega) ?_
            refine wg_s rfl rfl ?_
            refine wg_iinc rfl rfl rfl (by omega) (by omega) rfl ?_
            refine wg_s rfl rfl ?_
            exact ih _ _ _ (by omega) (by omega) (by omega) (by rw [tn1 hz, m_sd_s]; first | rw [if_pos (by omega), hf] | rw [if_neg (by omega), hf]; rw [Int.add_zero] | rw [if_neg (by omega), hf]) (by rw [tn1 hz, m_sn_s]; first | rw [if_pos (by omega), hg] | rw [if_neg (by omega), hg]; rw [Int.add_zero] | rw [if_neg (by omega), hg])
