/-! ===== the reference: lives ===== -/
/-- the life that goes on in a home, among the first n: its number, or -1 -/
def m_lf (μ : ab_M) (h : Int) : Nat → Int
  | 0 => -1
  | n + 1 => if ag_I μ 11 32 n = h ∧ ag_I μ 11 40 n < 0 then (n : Int) else m_lf μ h n
/-- nobody lives with the helper, among the first n lives -/
def m_fr (μ : ab_M) (p : Int) : Nat → Bool
  | 0 => true
  | n + 1 => m_fr μ p n && decide (ag_I μ 11 33 n ≠ p ∨ 0 ≤ ag_I μ 11 40 n)
/-- lives of a kind among the first n -/
def m_ct (μ : ab_M) (k : Int) : Nat → Int
  | 0 => 0
  | n + 1 => m_ct μ k n + if ag_I μ 11 20 (ag_I μ 11 32 n).toNat = k then 1 else 0
theorem m_lf_rng (μ : ab_M) (h : Int) : ∀ n : Nat, -1 ≤ m_lf μ h n ∧ m_lf μ h n < n
  | 0 => by simp [m_lf]
  | n + 1 => by
    have := m_lf_rng μ h n
    unfold m_lf
    split <;> omega
theorem m_ct_rng (μ : ab_M) (k : Int) : ∀ n : Nat, 0 ≤ m_ct μ k n ∧ m_ct μ k n ≤ n
  | 0 => by simp [m_ct]
  | n + 1 => by
    have := m_ct_rng μ k n
    unfold m_ct
    split <;> omega
theorem tn1 {z : Int} (h : 0 ≤ z) : (z + 1).toNat = z.toNat + 1 := by omega
theorem tnc {z : Int} (h : 0 ≤ z) : ((z.toNat : Nat) : Int) = z := by omega
/-- the homes and helpers of the lives are numbers of such -/
def WL (μ : ab_M) : Prop := ∀ j : Nat, (j : Int) < ag_I μ 10 0 26 → (0 ≤ ag_I μ 11 32 j ∧ ag_I μ 11 32 j < 8) ∧ (0 ≤ ag_I μ 11 33 j ∧ ag_I μ 11 33 j < 8) ∧ (0 ≤ ag_I μ 11 34 j ∧ ag_I μ 11 34 j ≤ ag_I μ 10 0 0) ∧ (-1 ≤ ag_I μ 11 40 j ∧ ag_I μ 11 40 j ≤ 500)
theorem lp_lifeOf {d : Nat} {μ : ab_M} {Q : Option ab_V → ab_M → Prop} (hW : WM μ) (h : Int) (hQ : Q (some (ab_i (m_lf μ h (ag_I μ 10 0 26).toNat))) μ) : ∀ (n : Nat) (z f : Int), ag_I μ 10 0 26 - z < n → 0 ≤ z → z ≤ ag_I μ 10 0 26 → f = m_lf μ h z.toNat → Wg d 120 μ 4 [(0, ab_r 10 (some 0)), (1, ab_i h), (2, ab_i f), (3, ab_i z)] [] Q := by
  intro n
  induction n with
  | zero => intro z f hn hz hz2 hf; omega
  | succ n ih =>
    intro z f hn hz hz2 hf
    obtain ⟨hM, h1, h6, h26, h0, h14⟩ := id hW
    refine wg_s rfl rfl ?_
    refine wg_s rfl rfl ?_
    refine wg_s rfl rfl ?_
    refine wg_if rfl rfl (fun h9 => ?_) (fun h9 => ?_)
    · refine wg_s rfl rfl ?_
      refine wg_ret rfl rfl trivial ?_
      have e : z = ag_I μ 10 0 26 := by omega
      rw [hf, e]
      exact hQ
    · refine wg_s rfl rfl ?_
      refine wg_gm rfl rfl hM ?_
      refine wg_s rfl rfl ?_
      refine wg_ia rfl hM rfl (by omega) (by omega) ?_
      refine wg_s rfl rfl ?_
      refine wg_if rfl rfl (fun h19 => ?_) (fun h19 => ?_)
      · refine wg_s rfl rfl ?_
        refine wg_s rfl rfl ?_
        refine wg_iinc rfl rfl rfl (by omega) (by omega) rfl ?_
        refine wg_s rfl rfl ?_
        exact ih _ _ (by omega) (by omega) (by omega) (by rw [tn1 hz]; unfold m_lf; first | rw [if_pos (by omega), tnc hz] | (rw [if_neg (by omega)]; exact hf))
      · refine wg_s rfl rfl ?_
        refine wg_gm rfl rfl hM ?_
        refine wg_s rfl rfl ?_
        refine wg_ia rfl hM rfl (by omega) (by omega) ?_
        refine wg_if rfl rfl (fun h28 => ?_) (fun h28 => ?_)
        · refine wg_s rfl rfl ?_
          refine wg_s rfl rfl ?_
          refine wg_iinc rfl rfl rfl (by omega) (by omega) rfl ?_
          refine wg_s rfl rfl ?_
          exact ih _ _ (by omega) (by omega) (by omega) (by rw [tn1 hz]; unfold m_lf; first | rw [if_pos (by omega), tnc hz] | (rw [if_neg (by omega)]; exact hf))
        · refine wg_s rfl rfl ?_
          refine wg_s rfl rfl ?_
          refine wg_s rfl rfl ?_
          refine wg_iinc rfl rfl rfl (by omega) (by omega) rfl ?_
          refine wg_s rfl rfl ?_
          exact ih _ _ (by omega) (by omega) (by omega) (by rw [tn1 hz]; unfold m_lf; first | rw [if_pos (by omega), tnc hz] | (rw [if_neg (by omega)]; exact hf))
theorem sp_lifeOf (d : Nat) (h : Int) (μ : ab_M) (hW : WM μ) : Wp (d + 1) 120 [ab_r 10 (some 0), ab_i h] μ (fun w μ' => w = some (ab_i (m_lf μ h (ag_I μ 10 0 26).toNat)) ∧ μ' = μ) := by
  refine wp_of ?_
  obtain ⟨hM, h1, h6, h26, h0, h14⟩ := id hW
  refine wg_s rfl rfl ?_
  refine wg_s rfl rfl ?_
  refine wg_s rfl rfl ?_
  refine wg_s rfl rfl ?_
  exact lp_lifeOf hW h ⟨rfl, rfl⟩ (ag_I μ 10 0 26 + 1).toNat 0 (-1) (by omega) (by omega) (by omega) rfl
theorem m_fr_s (μ : ab_M) (p : Int) (n : Nat) : m_fr μ p (n + 1) = (m_fr μ p n && decide (ag_I μ 11 33 n ≠ p ∨ 0 ≤ ag_I μ 11 40 n)) := rfl
theorem m_fr_stop {μ : ab_M} {p f g : Int} {n : Nat} (hf : f = bI (m_fr μ p n = true)) (h : (f = 0 ∧ g = 0) ∨ (f ≠ 0 ∧ (ag_I μ 11 33 n ≠ p ∨ 0 ≤ ag_I μ 11 40 n) ∧ g = 1) ∨ (¬ (ag_I μ 11 33 n ≠ p ∨ 0 ≤ ag_I μ 11 40 n) ∧ g = 0)) : g = bI (m_fr μ p (n + 1) = true) := by
  rw [m_fr_s]
  cases hq : m_fr μ p n with
  | true =>
    rw [hq] at hf
    have hf1 : f = 1 := hf
    by_cases hA : ag_I μ 11 33 n ≠ p ∨ 0 ≤ ag_I μ 11 40 n
    · rw [decide_eq_true hA]
      have : g = 1 := by omega
      rw [this]; rfl
    · rw [decide_eq_false hA]
      have : g = 0 := by omega
      rw [this]; rfl
  | false =>
    rw [hq] at hf
    have hf1 : f = 0 := hf
    have : g = 0 := by omega
    rw [this]; rfl
theorem lp_isFree {d : Nat} {μ : ab_M} {Q : Option ab_V → ab_M → Prop} (hW : WM μ) (p : Int) (hQ : Q (some (ab_i (bI (m_fr μ p (ag_I μ 10 0 26).toNat = true)))) μ) : ∀ (n : Nat) (z f : Int), ag_I μ 10 0 26 - z < n → 0 ≤ z → z ≤ ag_I μ 10 0 26 → f = bI (m_fr μ p z.toNat = true) → Wg d 121 μ 4 [(0, ab_r 10 (some 0)), (1, ab_i p), (2, ab_i f), (3, ab_i z)] [] Q := by
  intro n
  induction n with
  | zero => intro z f hn hz hz2 hf; omega
  | succ n ih =>
    intro z f hn hz hz2 hf
    obtain ⟨hM, h1, h6, h26, h0, h14⟩ := id hW
    refine wg_s rfl rfl ?_
    refine wg_s rfl rfl ?_
    refine wg_s rfl rfl ?_
    refine wg_if rfl rfl (fun h9 => ?_) (fun h9 => ?_)
    · refine wg_s rfl rfl ?_
      refine wg_ret rfl rfl (by rw [hf]; exact bI_01) ?_
      have e : z = ag_I μ 10 0 26 := by omega
      rw [hf, e]
      exact hQ
    · refine wg_s rfl rfl ?_
      refine wg_if rfl rfl (fun h13 => ?_) (fun h13 => ?_)
      · refine wg_s rfl rfl ?_
        refine wg_s rfl rfl ?_
        refine wg_iinc rfl rfl rfl (by omega) (by omega) rfl ?_
        refine wg_s rfl rfl ?_
        exact ih _ _ (by omega) (by omega) (by omega) (by rw [tn1 hz]; exact m_fr_stop hf (by omega))
      · refine wg_s rfl rfl ?_
        refine wg_gm rfl rfl hM ?_
        refine wg_s rfl rfl ?_
        refine wg_ia rfl hM rfl (by omega) (by omega) ?_
        refine wg_s rfl rfl ?_
        refine wg_if rfl rfl (fun h23 => ?_) (fun h23 => ?_)
        · refine wg_s rfl rfl ?_
          refine wg_s rfl rfl ?_
          refine wg_s rfl rfl ?_
          refine wg_iinc rfl rfl rfl (by omega) (by omega) rfl ?_
          refine wg_s rfl rfl ?_
          exact ih _ _ (by omega) (by omega) (by omega) (by rw [tn1 hz]; exact m_fr_stop hf (by omega))
        · refine wg_s rfl rfl ?_
          refine wg_gm rfl rfl hM ?_
          refine wg_s rfl rfl ?_
          refine wg_ia rfl hM rfl (by omega) (by omega) ?_
          refine wg_if rfl rfl (fun h32 => ?_) (fun h32 => ?_)
          · refine wg_s rfl rfl ?_
            refine wg_s rfl rfl ?_
            refine wg_iinc rfl rfl rfl (by omega) (by omega) rfl ?_
            refine wg_s rfl rfl ?_
            exact ih _ _ (by omega) (by omega) (by omega) (by rw [tn1 hz]; exact m_fr_stop hf (by omega))
          · refine wg_s rfl rfl ?_
            refine wg_s rfl rfl ?_
            refine wg_s rfl rfl ?_
            refine wg_iinc rfl rfl rfl (by omega) (by omega) rfl ?_
            refine wg_s rfl rfl ?_
            exact ih _ _ (by omega) (by omega) (by omega) (by rw [tn1 hz]; exact m_fr_stop hf (by omega))
theorem sp_isFree (d : Nat) (p : Int) (μ : ab_M) (hW : WM μ) : Wp (d + 1) 121 [ab_r 10 (some 0), ab_i p] μ (fun w μ' => w = some (ab_i (bI (m_fr μ p (ag_I μ 10 0 26).toNat = true))) ∧ μ' = μ) := by
  refine wp_of ?_
  obtain ⟨hM, h1, h6, h26, h0, h14⟩ := id hW
  refine wg_s rfl rfl ?_
  refine wg_s rfl rfl ?_
  refine wg_s rfl rfl ?_
  refine wg_s rfl rfl ?_
  exact lp_isFree hW p ⟨rfl, rfl⟩ (ag_I μ 10 0 26 + 1).toNat 0 1 (by omega) (by omega) (by omega) rfl
theorem lp_livesOf {d : Nat} {μ : ab_M} {Q : Option ab_V → ab_M → Prop} (hW : WM μ) (hL : WL μ) (k : Int) (hQ : Q (some (ab_i (m_ct μ k (ag_I μ 10 0 26).toNat))) μ) : ∀ (n : Nat) (z f : Int), ag_I μ 10 0 26 - z < n → 0 ≤ z → z ≤ ag_I μ 10 0 26 → f = m_ct μ k z.toNat → Wg d 130 μ 4 [(0, ab_r 10 (some 0)), (1, ab_i k), (2, ab_i f), (3, ab_i z)] [] Q := by
  intro n
  induction n with
  | zero => intro z f hn hz hz2 hf; omega
  | succ n ih =>
    intro z f hn hz hz2 hf
    obtain ⟨hM, h1, h6, h26, h0, h14⟩ := id hW
    have hc := m_ct_rng μ k z.toNat
    have hLz := hL z.toNat
    refine wg_s rfl rfl ?_
    refine wg_s rfl rfl ?_
    refine wg_s rfl rfl ?_
    refine wg_if rfl rfl (fun h9 => ?_) (fun h9 => ?_)
    · refine wg_s rfl rfl ?_
      refine wg_ret rfl rfl trivial ?_
      have e : z = ag_I μ 10 0 26 := by omega
      rw [hf, e]
      exact hQ
    · refine wg_s rfl rfl ?_
      refine wg_s rfl rfl ?_
      refine wg_gm rfl rfl hM ?_
      refine wg_s rfl rfl ?_
      refine wg_gm rfl rfl hM ?_
      refine wg_s rfl rfl ?_
      refine wg_ia rfl hM rfl (by omega) (by omega) ?_
      refine wg_ia rfl hM rfl (by omega) (by omega) ?_
      refine wg_s rfl rfl ?_
      refine wg_if rfl rfl (fun h25 => ?_) (fun h25 => ?_)
      · refine wg_s rfl rfl ?_
        refine wg_iadd rfl (by omega) (by omega) ?_
        refine wg_s rfl rfl ?_
        refine wg_iinc rfl rfl rfl (by omega) (by omega) rfl ?_
        refine wg_s rfl rfl ?_
        exact ih _ _ (by omega) (by omega) (by omega) (by rw [tn1 hz]; unfold m_ct; first | rw [if_pos (by omega), hf] | rw [if_neg (by omega), hf])
      · refine wg_s rfl rfl ?_
        refine wg_s rfl rfl ?_
        refine wg_iadd rfl (by omega) (by omega) ?_
        refine wg_s rfl rfl ?_
        refine wg_iinc rfl rfl rfl (by omega) (by omega) rfl ?_
        refine wg_s rfl rfl ?_
        exact ih _ _ (by omega) (by omega) (by omega) (by rw [tn1 hz]; unfold m_ct; first | rw [if_pos (by omega), hf] | rw [if_neg (by omega), hf])
theorem sp_livesOf (d : Nat) (k : Int) (μ : ab_M) (hW : WM μ) (hL : WL μ) : Wp (d + 1) 130 [ab_r 10 (some 0), ab_i k] μ (fun w μ' => w = some (ab_i (m_ct μ k (ag_I μ 10 0 26).toNat)) ∧ μ' = μ) := by
  refine wp_of ?_
  obtain ⟨hM, h1, h6, h26, h0, h14⟩ := id hW
  refine wg_s rfl rfl ?_
  refine wg_s rfl rfl ?_
  refine wg_s rfl rfl ?_
  refine wg_s rfl rfl ?_
  exact lp_livesOf hW hL k ⟨rfl, rfl⟩ (ag_I μ 10 0 26 + 1).toNat 0 0 (by omega) (by omega) (by omega) rfl
theorem sp_mend (d : Nat) (p : Int) (μ : ab_M) : Wp (d + 2) 136 [ab_r 10 (some 0), ab_i p] μ (fun w μ' => (0 ≤ p ∧ p ≤ ag_I μ 10 0 14 → w = some (ab_i p) ∧ μ' = as_I μ 10 0 14 p) ∧ (¬ (0 ≤ p ∧ p ≤ ag_I μ 10 0 14) → w = some (ab_i (-1)) ∧ μ' = μ)) := by
  refine wp_of ?_
  refine wg_s rfl rfl ?_
  refine wg_s rfl rfl ?_
  refine wg_s rfl rfl ?_
  refine wg_s rfl rfl ?_
  refine wg_s rfl rfl ?_
  refine wg_s rfl rfl ?_
  refine wg_cf rfl rfl (sp_in _ _ _ _ _) ?_
  refine wg_neb rfl (fun h11 => ?_) (fun h11 => ?_)
  · refine wg_s rfl rfl ?_
    refine wg_s rfl rfl ?_
    refine wg_s rfl rfl ?_
    refine wg_s rfl rfl ?_
    exact wg_ret rfl rfl trivial ⟨fun _ => ⟨rfl, rfl⟩, fun h => absurd (by omega) h⟩
  · refine wg_s rfl rfl ?_
    exact wg_ret rfl rfl trivial ⟨fun h => absurd h (by omega), fun _ => ⟨rfl, rfl⟩⟩
theorem sp_mfault (d : Nat) (p : Int) (μ : ab_M) : Wp (d + 1) 143 [ab_r 10 (some 0), ab_i p] μ (fun w μ' => w = some (ab_i (if p = 0 then ag_I μ 10 0 21 else if p = 1 then ag_I μ 10 0 22 else -1)) ∧ μ' = μ) := by
  refine wp_of ?_
  refine wg_s rfl rfl ?_
  refine wg_if rfl rfl (fun h1 => ?_) (fun h1 => ?_)
  · refine wg_s rfl rfl ?_
    refine wg_s rfl rfl ?_
    refine wg_if rfl rfl (fun h13 => ?_) (fun h13 => ?_)
    · refine wg_s rfl rfl ?_
      refine wg_ret rfl rfl trivial ⟨?_, rfl⟩
      repeat (first | rw [if_pos (by omega)] | rw [if_neg (by omega)])
    · refine wg_s rfl rfl ?_
      refine wg_s rfl rfl ?_
      refine wg_s rfl rfl ?_
      refine wg_ret rfl rfl trivial ⟨?_, rfl⟩
      repeat (first | rw [if_pos (by omega)] | rw [if_neg (by omega)])
  · refine wg_s rfl rfl ?_
    refine wg_s rfl rfl ?_
    refine wg_s rfl rfl ?_
    refine wg_ret rfl rfl trivial ⟨?_, rfl⟩
    repeat (first | rw [if_pos (by omega)] | rw [if_neg (by omega)])
