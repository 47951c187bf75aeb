/-! ===== the relation, part by part: what it reads of the class's memory ===== -/
theorem XH_B {ν μ μ' : ab_M} {hl hw : Nat → Nat} {ow : Nat → Nat × Nat} (hi : ∀ t n k : Nat, (t = 4 ∧ (n : Int) < ag_I ν 10 0 1) ∨ (t = 11 ∧ 46 ≤ n ∧ n < ag_C μ 11) → ag_I μ' t n k = ag_I μ t n k) (hr : ∀ t n k : Nat, (t = 15 ∧ n = 0 ∧ (k : Int) < ag_I ν 10 0 1) ∨ (t = 4 ∧ (n : Int) < ag_I ν 10 0 1) → ag_R μ' t n k = ag_R μ t n k) (hL : ∀ n, n < ag_C μ 11 → ag_L μ' 11 n = ag_L μ 11 n) (hc : ag_C μ 11 ≤ ag_C μ' 11) (hX : XH ν μ hl hw ow) : XH ν μ' hl hw ow := by
  intro n hn
  obtain ⟨e15, ⟨e40, e41, e42, e43⟩, ⟨e44, e45, e46⟩, ⟨hL8, hL501⟩, ⟨⟨ra, rb⟩, ⟨rc, rd⟩⟩, how, hlk, hwk⟩ := hX n hn
  exact ⟨(hr 15 0 n (by omega)).trans e15, ⟨(hi 4 n 0 (by omega)).trans e40, (hi 4 n 1 (by omega)).trans e41, (hi 4 n 2 (by omega)).trans e42, (hi 4 n 3 (by omega)).trans e43⟩, ⟨(hr 4 n 4 (by omega)).trans e44, (hr 4 n 5 (by omega)).trans e45, (hr 4 n 6 (by omega)).trans e46⟩, ⟨(hL _ rb).trans hL8, (hL _ rd).trans hL501⟩, ⟨⟨ra, by omega⟩, ⟨rc, by omega⟩⟩, how, fun p hp => (hi 11 _ p (by omega)).trans (hlk p hp), fun q w hw => (hi 11 _ w (by omega)).trans (hwk q w hw)⟩
theorem XP_B {ν μ μ' : ab_M} {pl : Nat → Nat} {ow : Nat → Nat × Nat} (hi : ∀ t n k : Nat, (t = 3 ∧ (n : Int) < ag_I ν 10 0 6) ∨ (t = 11 ∧ 46 ≤ n ∧ n < ag_C μ 11) → ag_I μ' t n k = ag_I μ t n k) (hr : ∀ t n k : Nat, (t = 14 ∧ n = 0 ∧ (k : Int) < ag_I ν 10 0 6) ∨ (t = 3 ∧ (n : Int) < ag_I ν 10 0 6) → ag_R μ' t n k = ag_R μ t n k) (hL : ∀ n, n < ag_C μ 11 → ag_L μ' 11 n = ag_L μ 11 n) (hc : ag_C μ 11 ≤ ag_C μ' 11) (hX : XP ν μ pl ow) : XP ν μ' pl ow := by
  intro n hn
  obtain ⟨p14, ⟨p30, p31, p32, p34⟩, ⟨p33, p35⟩, pL8, ⟨ra, rb⟩, pow, plk⟩ := hX n hn
  exact ⟨(hr 14 0 n (by omega)).trans p14, ⟨(hi 3 n 0 (by omega)).trans p30, (hi 3 n 1 (by omega)).trans p31, (hi 3 n 2 (by omega)).trans p32, (hi 3 n 4 (by omega)).trans p34⟩, ⟨(hr 3 n 3 (by omega)).trans p33, (hr 3 n 5 (by omega)).trans p35⟩, (hL _ rb).trans pL8, ⟨ra, by omega⟩, pow, fun p hp => (hi 11 _ p (by omega)).trans (plk p hp)⟩
theorem m_ct_lt {ν : ab_M} {k : Int} {j : Nat} : ∀ {n : Nat}, j < n → ag_I ν 11 20 (ag_I ν 11 32 j).toNat = k → m_ct ν k j < m_ct ν k n
  | 0, h, _ => by omega
  | n + 1, h, e => by
    show _ < m_ct ν k n + _
    by_cases q : j = n
    · subst q; rw [if_pos e]; omega
    · have := m_ct_lt (n := n) (by omega) e
      split <;> omega
theorem XL_B {ν μ μ' : ab_M} {tm : Nat → Nat} (hi : ∀ t n k : Nat, (t = 6 ∧ (n : Int) < ag_I ν 10 0 26) ∨ (t = 8 ∧ n < ag_C μ 8) → ag_I μ' t n k = ag_I μ t n k) (hr : ∀ n k : Nat, (n : Int) < ag_I ν 10 0 26 → ag_R μ' 6 n k = ag_R μ 6 n k) (hr2 : ∀ k i : Nat, ∀ x : Int, x.toNat = k → (i : Int) < m_ct ν x (ag_I ν 10 0 26).toNat → ag_R μ' 17 k i = ag_R μ 17 k i) (hc : ag_C μ 8 ≤ ag_C μ' 8) (hX : XL ν μ tm) : XL ν μ' tm := by
  intro j hj
  obtain ⟨⟨j0, j1, j3, j4⟩, ⟨j2, jt⟩, jr, j17⟩ := hX j hj
  refine ⟨⟨(hi 6 j 0 (by omega)).trans j0, (hi 6 j 1 (by omega)).trans j1, (hi 6 j 3 (by omega)).trans j3, (hi 6 j 4 (by omega)).trans j4⟩, ⟨(hr j 2 hj).trans j2, by omega⟩, fun b hb => (hi 8 _ b (by omega)).trans (jr b hb), ?_⟩
  refine (hr2 _ _ (ag_I ν 11 20 (ag_I ν 11 32 j).toNat) rfl ?_).trans j17
  have h1 := m_ct_lt (ν := ν) (j := j) (n := (ag_I ν 10 0 26).toNat) (by omega) rfl
  have h2 := m_ct_rng ν (ag_I ν 11 20 (ag_I ν 11 32 j).toNat) j
  omega
theorem XK_B {ν μ μ' : ab_M} (hi : ∀ k, k < 4 → ag_I μ' 5 k 1 = ag_I μ 5 k 1) (hX : XK ν μ) : XK ν μ' := fun k hk => (hi k hk).trans (hX k hk)
theorem XT_B {ν μ μ' : ab_M} (h1 : ag_I μ' 7 0 1 = ag_I μ 7 0 1) (h2 : ∀ i, ag_I μ' 11 0 i = ag_I μ 11 0 i) (hX : XT ν μ) : XT ν μ' := ⟨h1.trans hX.1, fun i hi => (h2 i).trans (hX.2 i hi)⟩
theorem XR_B {ν μ μ' : ab_M} {tc : Nat} (h1 : ag_I μ' 0 0 3 = ag_I μ 0 0 3 ∧ ag_I μ' 0 0 4 = ag_I μ 0 0 4) (h2 : ag_R μ' 9 0 6 = ag_R μ 9 0 6) (h3 : ∀ n k, n < ag_C μ 8 → ag_I μ' 8 n k = ag_I μ 8 n k) (hc : ag_C μ 8 ≤ ag_C μ' 8) (hX : XR ν μ tc) : XR ν μ' tc := ⟨⟨h1.1.trans hX.1.1, h1.2.trans hX.1.2⟩, ⟨h2.trans hX.2.1.1, Nat.lt_of_lt_of_le hX.2.1.2 hc⟩, fun b hb => (h3 tc b hX.2.1.2).trans (hX.2.2 b hb)⟩
theorem XS_B {μ μ' : ab_M} (h : ∀ t n k, 20 ≤ t → ag_I μ' t n k = ag_I μ t n k) (hX : XS μ) : XS μ' := ⟨fun w hw => ⟨(h 20 0 w (by omega)).trans (hX.1 w hw).1, (h 20 1 w (by omega)).trans (hX.1 w hw).2⟩, fun n hn => ⟨(h 21 n 1 (by omega)).trans (hX.2 n hn).1, fun k hk => (h 22 n k (by omega)).trans ((hX.2 n hn).2 k hk)⟩⟩
/-- which references and lengths stand fast -/
def fxr (t n b : Nat) : Prop := t = 0 ∨ t = 1 ∨ (t = 5 ∧ b = 0) ∨ t = 7 ∨ (t = 9 ∧ b < 6) ∨ t = 16 ∨ t = 18 ∨ t = 21
theorem xs_n_r {t n b s : Nat} (h : xs_n t n b = some s) : fxr t n b := by
  unfold xs_n at h
  unfold fxr
  cases h21 : Nat.beq t 21 with
  | true => have e := Nat.eq_of_beq_eq_true h21; omega
  | false =>
  rw [h21, cond_false] at h
  cases hn : Nat.beq n 0 with
  | false => rw [hn] at h; exact absurd (show (none : Option Nat) = some s from h) (by simp)
  | true =>
    rw [hn] at h
    cases h9 : Nat.beq t 9 with
    | true =>
      have e := Nat.eq_of_beq_eq_true h9
      cases hb : Nat.blt b 6 with
      | true => have := Nat.blt_eq.mp hb; omega
      | false => rw [h9, hb] at h; exact absurd (show (none : Option Nat) = some s from h) (by simp)
    | false =>
      cases h7 : Nat.beq t 7 with
      | true => have e := Nat.eq_of_beq_eq_true h7; omega
      | false =>
        cases h0 : Nat.beq t 0 with
        | true => have e := Nat.eq_of_beq_eq_true h0; omega
        | false =>
          cases h1 : Nat.beq t 1 with
          | true => have e := Nat.eq_of_beq_eq_true h1; omega
          | false => rw [h9, h7, h0, h1] at h; exact absurd (show (none : Option Nat) = some s from h) (by simp)
theorem XF_B {μ μ' : ab_M} (hr : ∀ t n b, fxr t n b → ag_R μ' t n b = ag_R μ t n b) (hL : ∀ t n N, xs_l t n = some N → ag_L μ' t n = ag_L μ t n) (hL2 : ∀ k, k < 4 → ag_L μ' 17 k = ag_L μ 17 k) (hX : XF μ) : XF μ' := by
  obtain ⟨a, b, c, d⟩ := hX
  refine ⟨fun t n b s q => (hr t n b (xs_n_r q)).trans (a t n b s q), fun t n N q => (hL t n N q).trans (b t n N q), fun i hi => ⟨(hr 18 0 i (by unfold fxr; omega)).trans (c i hi).1, (hr 18 1 i (by unfold fxr; omega)).trans (c i hi).2⟩, fun k hk => ⟨(hr 16 0 k (by unfold fxr; omega)).trans (d k hk).1, (hr 5 k 0 (by unfold fxr; omega)).trans (d k hk).2.1, (hL2 k hk).trans (d k hk).2.2⟩⟩
