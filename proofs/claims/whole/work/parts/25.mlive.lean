/-! ===== the reference: weeks, live ===== -/
theorem wg_iav {d k : Nat} {μ : ab_M} {pc : Nat} {l : ab_L} {st : List ab_V} {Q : Option ab_V → ab_M → Prop} {nx a b s : Nat} {j x : Int} (hi : ab_ins k pc = some (.iaload, nx, a, b)) (hM : FM μ.2.2.1 μ.2.2.2.1) {N : Nat} (hs : ms_l s = some N) (h1 : 0 ≤ j) (h2 : j < (N : Int)) (hv : ag_I μ 11 s j.toNat = x) (K : Wg d k μ nx l (ab_i x :: st) Q) : Wg d k μ pc l (ab_i j :: ab_r 11 (some s) :: st) Q := wg_ia hi hM hs h1 h2 (by rw [hv]; exact K)
abbrev m_F (μ : ab_M) (n : Int) (j : Nat) : Prop := ag_I μ 11 40 j < 0 ∧ ag_I μ 10 0 0 < ag_I μ 11 39 j ∧ ag_I μ 11 39 j ≤ ag_I μ 10 0 0 + n
/-- n weeks later -/
def m_wk (μ : ab_M) (n : Int) : ab_M := ((fun t' n' k' => if t' = 10 ∧ n' = 0 ∧ k' = 0 then ag_I μ 10 0 0 + n else if t' = 11 ∧ n' = 40 ∧ (k' : Int) < ag_I μ 10 0 26 ∧ m_F μ n k' then ag_I μ 11 39 k' - ag_I μ 11 34 k' else μ.1 t' n' k'), μ.2)
def m_wc (μ : ab_M) (n : Int) : Int := nb (fun j => decide (m_F μ n j)) (ag_I μ 10 0 26).toNat
theorem ag_I_wk {μ : ab_M} {n : Int} {t' n' k' : Nat} : ag_I (m_wk μ n) t' n' k' = if t' = 10 ∧ n' = 0 ∧ k' = 0 then ag_I μ 10 0 0 + n else if t' = 11 ∧ n' = 40 ∧ (k' : Int) < ag_I μ 10 0 26 ∧ m_F μ n k' then ag_I μ 11 39 k' - ag_I μ 11 34 k' else ag_I μ t' n' k' := rfl
theorem ag_I_wk' {μ : ab_M} {n : Int} {t' n' k' : Nat} (h : ¬ (t' = 10 ∧ n' = 0 ∧ k' = 0) ∧ ¬ (t' = 11 ∧ n' = 40)) : ag_I (m_wk μ n) t' n' k' = ag_I μ t' n' k' := by rw [ag_I_wk, if_neg h.1, if_neg (fun q => h.2 ⟨q.1, q.2.1⟩)]
theorem ag_I_wk0 {μ : ab_M} {n : Int} : ag_I (m_wk μ n) 10 0 0 = ag_I μ 10 0 0 + n := by rw [ag_I_wk, if_pos ⟨rfl, rfl, rfl⟩]
theorem ag_I_wk40 {μ : ab_M} {n : Int} {j : Nat} : ag_I (m_wk μ n) 11 40 j = if (j : Int) < ag_I μ 10 0 26 ∧ m_F μ n j then ag_I μ 11 39 j - ag_I μ 11 34 j else ag_I μ 11 40 j := by
  rw [ag_I_wk, if_neg (by omega)]
  by_cases h : (j : Int) < ag_I μ 10 0 26 ∧ m_F μ n j
  · rw [if_pos h, if_pos ⟨rfl, rfl, h⟩]
  · rw [if_neg h, if_neg (fun q => h q.2.2)]
theorem m_wk_0 (μ : ab_M) : m_wk μ 0 = μ := by
  refine Prod.ext ?_ rfl
  funext t n k
  show (if _ then _ else if _ then _ else _) = _
  by_cases h : t = 10 ∧ n = 0 ∧ k = 0
  · rw [if_pos h, h.1, h.2.1, h.2.2, Int.add_zero]; rfl
  · rw [if_neg h, if_neg (fun q => by have := q.2.2.2; unfold m_F at this; omega)]
abbrev m_wn (μ : ab_M) (n : Int) : ab_M := as_I (m_wk μ n) 10 0 0 (ag_I μ 10 0 0 + n + 1)
theorem ag_I_wn40 {μ : ab_M} {n : Int} {j : Nat} : ag_I (m_wn μ n) 11 40 j = if (j : Int) < ag_I μ 10 0 26 ∧ m_F μ n j then ag_I μ 11 39 j - ag_I μ 11 34 j else ag_I μ 11 40 j := by
  show ag_I (as_I (m_wk μ n) 10 0 0 _) 11 40 j = _
  rw [ag_I_I, if_neg (by omega), ag_I_wk40]
theorem ag_I_wn' {μ : ab_M} {n : Int} {t' n' k' : Nat} (h : ¬ (t' = 10 ∧ n' = 0 ∧ k' = 0) ∧ ¬ (t' = 11 ∧ n' = 40)) : ag_I (m_wn μ n) t' n' k' = ag_I μ t' n' k' := by
  show ag_I (as_I (m_wk μ n) 10 0 0 _) t' n' k' = _
  rw [ag_I_I, if_neg h.1, ag_I_wk' h]
theorem ag_I_wn0 {μ : ab_M} {n : Int} : ag_I (m_wn μ n) 10 0 0 = ag_I μ 10 0 0 + n + 1 := by
  show ag_I (as_I (m_wk μ n) 10 0 0 _) 10 0 0 = _
  rw [ag_I_I, if_pos ⟨rfl, rfl, rfl⟩]
theorem m_wn_E {μ : ab_M} {n : Int} {j : Nat} (hj : (j : Int) < ag_I μ 10 0 26) : m_E (m_wn μ n) j ↔ (ag_I μ 11 40 j < 0 ∧ ag_I μ 11 39 j = ag_I μ 10 0 0 + n + 1) := by
  unfold m_E
  rw [ag_I_wn40, ag_I_wn' (by omega), ag_I_wn0]
  by_cases h : (j : Int) < ag_I μ 10 0 26 ∧ m_F μ n j
  · rw [if_pos h]
    have := h.2
    unfold m_F at this
    omega
  · rw [if_neg h]
theorem m_wk_s {μ : ab_M} {n : Int} (hn : 0 ≤ n) (hl : 0 ≤ ag_I μ 10 0 26) : m_en (m_wn μ n) (ag_I (m_wn μ n) 10 0 26).toNat = m_wk μ (n + 1) := by
  refine Prod.ext ?_ rfl
  funext t' n' k'
  show ag_I (m_en (m_wn μ n) _) t' n' k' = ag_I (m_wk μ (n + 1)) t' n' k'
  have e26 : ag_I (m_wn μ n) 10 0 26 = ag_I μ 10 0 26 := ag_I_wn' (by omega)
  rw [e26]
  by_cases h40 : t' = 11 ∧ n' = 40
  · obtain ⟨rfl, rfl⟩ := h40
    rw [ag_I_en, ag_I_wk40]
    by_cases hk : (k' : Int) < ag_I μ 10 0 26
    · by_cases hE : m_E (m_wn μ n) k'
      · have hE2 := (m_wn_E hk).mp hE
        rw [if_pos ⟨rfl, rfl, by omega, hE⟩, if_pos ⟨hk, hE2.1, by omega, by omega⟩, ag_I_wn0, ag_I_wn' (by omega)]
        omega
      · have hE2 : ¬ (ag_I μ 11 40 k' < 0 ∧ ag_I μ 11 39 k' = ag_I μ 10 0 0 + n + 1) := fun q => hE ((m_wn_E hk).mpr q)
        rw [if_neg (fun q => hE q.2.2.2), ag_I_wn40]
        by_cases hF : m_F μ n k'
        · rw [if_pos ⟨hk, hF⟩, if_pos ⟨hk, by unfold m_F at hF ⊢; omega⟩]
        · rw [if_neg (fun q => hF q.2), if_neg (fun q => by have := q.2; unfold m_F at this hF; omega)]
    · rw [if_neg (fun q => by omega), ag_I_wn40, if_neg (fun q => hk q.1), if_neg (fun q => hk q.1)]
  · rw [ag_I_en' h40]
    by_cases h0 : t' = 10 ∧ n' = 0 ∧ k' = 0
    · obtain ⟨rfl, rfl, rfl⟩ := h0
      rw [ag_I_wn0, ag_I_wk0]; omega
    · rw [ag_I_wn' ⟨h0, h40⟩, ag_I_wk' ⟨h0, h40⟩]
theorem m_wc_s {μ : ab_M} {n : Int} (hn : 0 ≤ n) : m_wc μ (n + 1) = m_wc μ n + m_ec (m_wn μ n) (ag_I (m_wn μ n) 10 0 26).toNat := by
  have e26 : ag_I (m_wn μ n) 10 0 26 = ag_I μ 10 0 26 := ag_I_wn' (by omega)
  rw [e26]
  unfold m_wc m_ec
  refine nb_add (fun j hj => ?_)
  have hj' : (j : Int) < ag_I μ 10 0 26 := by omega
  have hE := m_wn_E (n := n) hj'
  simp only [decide_eq_true_eq, decide_eq_false_iff_not, hE, m_F]
  omega
theorem m_wc_0 (μ : ab_M) : m_wc μ 0 = 0 := by
  unfold m_wc
  have : ∀ n, nb (fun j => decide (m_F μ 0 j)) n = 0 := by
    intro n
    induction n with
    | zero => rfl
    | succ n ih =>
      unfold nb
      rw [ih, if_neg (by rw [decide_eq_true_eq]; unfold m_F; omega)]
      rfl
  exact this _
theorem WM_wn {μ : ab_M} {n : Int} (hW : WM μ) (hn : 0 ≤ n) (h5 : ag_I μ 10 0 0 + n + 1 ≤ 500) : WM (m_wn μ n) := by
  obtain ⟨hM, h1, h6, h26, h0, h14⟩ := hW
  refine ⟨hM, ?_, ?_, ?_, ?_, ?_⟩
  · rw [ag_I_wn' (by omega)]; exact h1
  · rw [ag_I_wn' (by omega)]; exact h6
  · rw [ag_I_wn' (by omega)]; exact h26
  · rw [ag_I_wn0]; omega
  · rw [ag_I_wn' (by omega)]; exact h14
theorem WL_wn {μ : ab_M} {n : Int} (hW : WM μ) (hL : WL μ) (hn : 0 ≤ n) (h5 : ag_I μ 10 0 0 + n + 1 ≤ 500) : WL (m_wn μ n) := by
  obtain ⟨hM, h1, h6, h26, h0, h14⟩ := hW
  intro j hj
  rw [ag_I_wn' (by omega)] at hj
  have := hL j hj
  rw [ag_I_wn' (by omega), ag_I_wn' (by omega), ag_I_wn' (by omega), ag_I_wn0, ag_I_wn40]
  refine ⟨this.1, this.2.1, by omega, ?_⟩
  split
  · rename_i h
    have := h.2
    unfold m_F at this
    omega
  · omega
theorem lp_weeks {d : Nat} {μ : ab_M} {Q : Option ab_V → ab_M → Prop} (hW : WM μ) (hL : WL μ) (p : Int) (hp : 1 ≤ p ∧ p ≤ 100) (h5 : ag_I μ 10 0 0 + p ≤ 500) (hQ : Q (some (ab_i (m_wc μ p))) (m_wk μ p)) : ∀ (n : Nat) (z f : Int), p - z < n → 0 ≤ z → z ≤ p → f = m_wc μ z → Wg (d + 1) 133 (m_wk μ z) 30 [(0, ab_r 10 (some 0)), (1, ab_i p), (2, ab_i f), (3, ab_i z)] [] Q := by
  intro n
  induction n with
  | zero => intro z f hn hz hz2 hf; omega
  | succ n ih =>
    intro z f hn hz hz2 hf
    obtain ⟨hM, h1, h6, h26, h0, h14⟩ := id hW
    have hr := nb_rng (fun j => decide (m_F μ z j)) (ag_I μ 10 0 26).toNat
    have hr2 := nb_rng (fun j => decide (m_E (m_wn μ z) j)) (ag_I (m_wn μ z) 10 0 26).toNat
    have e26 : ag_I (m_wn μ z) 10 0 26 = ag_I μ 10 0 26 := ag_I_wn' (by omega)
    have hf2 : f = nb (fun j => decide (m_F μ z j)) (ag_I μ 10 0 26).toNat := hf
    have hec : m_ec (m_wn μ z) (ag_I (m_wn μ z) 10 0 26).toNat = nb (fun j => decide (m_E (m_wn μ z) j)) (ag_I (m_wn μ z) 10 0 26).toNat := rfl
    refine wg_s rfl rfl ?_
    refine wg_s rfl rfl ?_
    refine wg_if rfl rfl (fun h32 => ?_) (fun h32 => ?_)
    · refine wg_s rfl rfl ?_
      refine wg_ret rfl rfl trivial ?_
      have e : z = p := by omega
      subst e
      rw [hf]
      exact hQ
    · refine wg_s rfl rfl ?_
      refine wg_s rfl rfl ?_
      refine wg_gi rfl rfl (ag_I_wk0) ?_
      refine wg_s rfl rfl ?_
      refine wg_iadd rfl (by omega) (by omega) ?_
      refine wg_s rfl rfl ?_
      refine wg_s rfl rfl ?_
      refine wg_s rfl rfl ?_
      refine wg_cf rfl rfl (sp_ends _ (m_wn μ z) (WM_wn hW hz (by omega)) (WL_wn hW hL hz (by omega))) ?_
      refine wg_iadd rfl (by omega) (by omega) ?_
      refine wg_s rfl rfl ?_
      refine wg_iinc rfl rfl rfl (by omega) (by omega) rfl ?_
      refine wg_s rfl rfl ?_
      have := ih (z + 1) (f + m_ec (m_wn μ z) (ag_I (m_wn μ z) 10 0 26).toNat) (by omega) (by omega) (by omega) (by rw [m_wc_s hz, hf])
      rw [← m_wk_s hz h26.1] at this
      exact this
theorem sp_mweeks (d : Nat) (p : Int) (μ : ab_M) (hW : WM μ) (hL : WL μ) : Wp (d + 2) 133 [ab_r 10 (some 0), ab_i p] μ (fun z μ' => ((1 ≤ p ∧ p ≤ 100) ∧ ag_I μ 10 0 0 + p ≤ 500 → z = some (ab_i (m_wc μ p)) ∧ μ' = m_wk μ p) ∧ (¬ ((1 ≤ p ∧ p ≤ 100) ∧ ag_I μ 10 0 0 + p ≤ 500) → z = some (ab_i (-1)) ∧ μ' = μ)) := by
  refine wp_of ?_
  obtain ⟨hM, h1, h6, h26, h0, h14⟩ := id hW
  refine wg_s rfl rfl ?_
  refine wg_s rfl rfl ?_
  refine wg_s rfl rfl ?_
  refine wg_s rfl rfl ?_
  refine wg_cf rfl rfl (sp_in _ _ _ _ _) ?_
  refine wg_eqb rfl (fun h9 => ?_) (fun h9 => ?_)
  · refine wg_s rfl rfl ?_
    exact wg_ret rfl rfl trivial ⟨fun h => absurd h (by omega), fun _ => ⟨rfl, rfl⟩⟩
  · refine wg_s rfl rfl ?_
    refine wg_s rfl rfl ?_
    refine wg_s rfl rfl ?_
    refine wg_iadd rfl (by omega) (by omega) ?_
    refine wg_s rfl rfl ?_
    refine wg_if rfl rfl (fun h21 => ?_) (fun h21 => ?_)
    · refine wg_s rfl rfl ?_
      refine wg_s rfl rfl ?_
      refine wg_s rfl rfl ?_
      refine wg_s rfl rfl ?_
      have := lp_weeks (d := d) (Q := fun z μ' => ((1 ≤ p ∧ p ≤ 100) ∧ ag_I μ 10 0 0 + p ≤ 500 → z = some (ab_i (m_wc μ p)) ∧ μ' = m_wk μ p) ∧ (¬ ((1 ≤ p ∧ p ≤ 100) ∧ ag_I μ 10 0 0 + p ≤ 500) → z = some (ab_i (-1)) ∧ μ' = μ)) hW hL p (by omega) (by omega) ⟨fun _ => ⟨rfl, rfl⟩, fun q => absurd (by omega) q⟩ (p + 1).toNat 0 0 (by omega) (by omega) (by omega) (m_wc_0 μ).symm
      rw [m_wk_0] at this
      exact this
    · refine wg_s rfl rfl ?_
      exact wg_ret rfl rfl trivial ⟨fun h => absurd h (by omega), fun _ => ⟨rfl, rfl⟩⟩
/-- a new life -/
def m_li (μ : ab_M) (h p : Int) : ab_M := as_I (as_I (as_I (as_I (as_I (as_I (as_I (as_I (as_I (as_I μ 11 32 (ag_I μ 10 0 26).toNat h) 11 33 (ag_I μ 10 0 26).toNat p) 11 34 (ag_I μ 10 0 26).toNat (ag_I μ 10 0 0)) 11 35 (ag_I μ 10 0 26).toNat (ag_I μ 11 31 0)) 11 36 (ag_I μ 10 0 26).toNat (ag_I μ 11 31 1)) 11 37 (ag_I μ 10 0 26).toNat (ag_I μ 11 31 2)) 11 38 (ag_I μ 10 0 26).toNat (ag_I μ 11 31 3)) 11 39 (ag_I μ 10 0 26).toNat (-1)) 11 40 (ag_I μ 10 0 26).toNat (-1)) 10 0 26 (ag_I μ 10 0 26 + 1)
/-- a home's reports are forgotten, n weeks -/
def m_rs (μ : ab_M) (h n : Int) : ab_M := ((fun t' n' k' => if t' = 11 ∧ (n' = 41 ∨ n' = 42) ∧ 501 * h ≤ (k' : Int) ∧ (k' : Int) < 501 * h + n then -1 else μ.1 t' n' k'), μ.2)
theorem ag_I_rs {μ : ab_M} {h n : Int} {t' n' k' : Nat} : ag_I (m_rs μ h n) t' n' k' = if t' = 11 ∧ (n' = 41 ∨ n' = 42) ∧ 501 * h ≤ (k' : Int) ∧ (k' : Int) < 501 * h + n then -1 else ag_I μ t' n' k' := rfl
theorem m_rs_0 (μ : ab_M) (h : Int) : m_rs μ h 0 = μ := by
  refine Prod.ext ?_ rfl
  funext t n k
  exact if_neg (fun q => by omega)
theorem m_rs_s {μ : ab_M} {h n : Int} (hh : 0 ≤ h) (hn : 0 ≤ n) : as_I (as_I (m_rs μ h n) 11 41 (501 * h + n).toNat (-1)) 11 42 (501 * h + n).toNat (-1) = m_rs μ h (n + 1) := by
  refine Prod.ext ?_ rfl
  funext t' n' k'
  show (if t' = 11 ∧ n' = 42 ∧ k' = (501 * h + n).toNat then -1 else if t' = 11 ∧ n' = 41 ∧ k' = (501 * h + n).toNat then -1 else if t' = 11 ∧ (n' = 41 ∨ n' = 42) ∧ 501 * h ≤ (k' : Int) ∧ (k' : Int) < 501 * h + n then -1 else μ.1 t' n' k') = if t' = 11 ∧ (n' = 41 ∨ n' = 42) ∧ 501 * h ≤ (k' : Int) ∧ (k' : Int) < 501 * h + (n + 1) then -1 else μ.1 t' n' k'
  by_cases h1 : t' = 11 ∧ (n' = 41 ∨ n' = 42) ∧ 501 * h ≤ (k' : Int) ∧ (k' : Int) < 501 * h + (n + 1)
  · rw [if_pos h1]
    by_cases h2 : t' = 11 ∧ n' = 42 ∧ k' = (501 * h + n).toNat
    · rw [if_pos h2]
    · rw [if_neg h2]
      by_cases h3 : t' = 11 ∧ n' = 41 ∧ k' = (501 * h + n).toNat
      · rw [if_pos h3]
      · rw [if_neg h3, if_pos (by omega)]
  · rw [if_neg h1, if_neg (by omega), if_neg (by omega), if_neg (by omega)]
theorem lp_live {d : Nat} {μ : ab_M} {Q : Option ab_V → ab_M → Prop} (hM : FM μ.2.2.1 μ.2.2.2.1) (h p : Int) (hh : 0 ≤ h ∧ h < 8) (hQ : Q (some (ab_i 1)) (m_rs μ h 501)) : ∀ (n : Nat) (z : Int), 501 - z < n → 0 ≤ z → z ≤ 501 → Wg d 131 (m_rs μ h z) 183 [(0, ab_r 10 (some 0)), (1, ab_i h), (2, ab_i p), (3, ab_i z)] [] Q := by
  intro n
  induction n with
  | zero => intro z hn hz hz2; omega
  | succ n ih =>
    intro z hn hz hz2
    refine wg_s rfl rfl ?_
    refine wg_s rfl rfl ?_
    refine wg_if rfl rfl (fun h187 => ?_) (fun h187 => ?_)
    · refine wg_s rfl rfl ?_
      refine wg_ret rfl rfl (Or.inr rfl) ?_
      have e : z = 501 := by omega
      subst e
      exact hQ
    · refine wg_s rfl rfl ?_
      refine wg_gm rfl rfl hM ?_
      refine wg_s rfl rfl ?_
      refine wg_s rfl rfl ?_
      refine wg_imul rfl (by omega) (by omega) ?_
      refine wg_s rfl rfl ?_
      refine wg_iadd rfl (by omega) (by omega) ?_
      refine wg_s rfl rfl ?_
      refine wg_ias rfl hM rfl (by omega) (by omega) ?_
      refine wg_s rfl rfl ?_
      refine wg_gm rfl rfl hM ?_
      refine wg_s rfl rfl ?_
      refine wg_s rfl rfl ?_
      refine wg_imul rfl (by omega) (by omega) ?_
      refine wg_s rfl rfl ?_
      refine wg_iadd rfl (by omega) (by omega) ?_
      refine wg_s rfl rfl ?_
      refine wg_ias rfl hM rfl (by omega) (by omega) ?_
      refine wg_iinc rfl rfl rfl (by omega) (by omega) rfl ?_
      refine wg_s rfl rfl ?_
      have := ih (z + 1) (by omega) (by omega) (by omega)
      rw [← m_rs_s (by omega) hz] at this
      exact this
theorem sp_mlive (d : Nat) (h p : Int) (μ : ab_M) (hW : WM μ) (hL : WL μ) (h63 : 0 ≤ h → h < ag_I μ 10 0 1 → m_ct μ (ag_I μ 11 20 h.toNat) (ag_I μ 10 0 26).toNat ≠ 16 → ag_I μ 10 0 26 < 64) : Wp (d + 3) 131 [ab_r 10 (some 0), ab_i h, ab_i p] μ (fun z μ' => (((0 ≤ h ∧ h < ag_I μ 10 0 1) ∧ (0 ≤ p ∧ p < ag_I μ 10 0 6)) ∧ m_lf μ h (ag_I μ 10 0 26).toNat < 0 ∧ m_fr μ p (ag_I μ 10 0 26).toNat = true ∧ m_why μ h.toNat p.toNat = 0 ∧ m_ct μ (ag_I μ 11 20 h.toNat) (ag_I μ 10 0 26).toNat ≠ 16 → z = some (ab_i 1) ∧ μ' = m_rs (m_li μ h p) h 501) ∧ (¬ (((0 ≤ h ∧ h < ag_I μ 10 0 1) ∧ (0 ≤ p ∧ p < ag_I μ 10 0 6)) ∧ m_lf μ h (ag_I μ 10 0 26).toNat < 0 ∧ m_fr μ p (ag_I μ 10 0 26).toNat = true ∧ m_why μ h.toNat p.toNat = 0 ∧ m_ct μ (ag_I μ 11 20 h.toNat) (ag_I μ 10 0 26).toNat ≠ 16) → z = some (ab_i 0) ∧ μ' = μ)) := by
  refine wp_of ?_
  obtain ⟨hM, h1, h6, h26, h0, h14⟩ := id hW
  have hlf := m_lf_rng μ h (ag_I μ 10 0 26).toNat
  have hLj := hL (m_lf μ h (ag_I μ 10 0 26).toNat).toNat
  refine wg_s rfl rfl ?_
  refine wg_s rfl rfl ?_
  refine wg_cf rfl rfl (sp_isHome _ _ _ hW) ?_
  refine wg_eqb rfl (fun h5 => ?_) (fun h5 => ?_)
  · refine wg_s rfl rfl ?_
    refine wg_ret rfl rfl (Or.inl rfl) ⟨fun q => absurd q ?_, fun _ => ⟨rfl, rfl⟩⟩
    first | (intro q; exact h29 q.2.2.1) | omega
  · refine wg_s rfl rfl ?_
    refine wg_s rfl rfl ?_
    refine wg_cf rfl rfl (sp_isHelper _ _ _ hW) ?_
    refine wg_eqb rfl (fun h13 => ?_) (fun h13 => ?_)
    · refine wg_s rfl rfl ?_
      refine wg_ret rfl rfl (Or.inl rfl) ⟨fun q => absurd q ?_, fun _ => ⟨rfl, rfl⟩⟩
      first | (intro q; exact h29 q.2.2.1) | omega
    · refine wg_s rfl rfl ?_
      refine wg_s rfl rfl ?_
      refine wg_cf rfl rfl (sp_lifeOf _ _ _ hW) ?_
      refine wg_if rfl rfl (fun h21 => ?_) (fun h21 => ?_)
      · refine wg_s rfl rfl ?_
        refine wg_ret rfl rfl (Or.inl rfl) ⟨fun q => absurd q ?_, fun _ => ⟨rfl, rfl⟩⟩
        first | (intro q; exact h29 q.2.2.1) | omega
      · refine wg_s rfl rfl ?_
        refine wg_s rfl rfl ?_
        refine wg_cf rfl rfl (sp_isFree _ _ _ hW) ?_
        refine wg_eqb rfl (fun h29 => ?_) (fun h29 => ?_)
        · refine wg_s rfl rfl ?_
          refine wg_ret rfl rfl (Or.inl rfl) ⟨fun q => absurd q ?_, fun _ => ⟨rfl, rfl⟩⟩
          first | (intro q; exact h29 q.2.2.1) | omega
        · refine wg_s rfl rfl ?_
          refine wg_s rfl rfl ?_
          refine wg_s rfl rfl ?_
          refine wg_cf rfl rfl (sp_mwhyNot _ _ _ _ hM (by omega) (by omega)) ?_
          refine wg_if rfl rfl (fun h38 => ?_) (fun h38 => ?_)
          · refine wg_s rfl rfl ?_
            refine wg_ret rfl rfl (Or.inl rfl) ⟨fun q => absurd q ?_, fun _ => ⟨rfl, rfl⟩⟩
            first | (intro q; exact h29 q.2.2.1) | omega
          · refine wg_s rfl rfl ?_
            refine wg_s rfl rfl ?_
            refine wg_gm rfl rfl hM ?_
            refine wg_s rfl rfl ?_
            refine wg_ia rfl hM rfl (by omega) (by omega) ?_
            refine wg_cf rfl rfl (sp_livesOf _ _ _ hW hL) ?_
            refine wg_s rfl rfl ?_
            refine wg_if rfl rfl (fun h53 => ?_) (fun h53 => ?_)
            · refine wg_s rfl rfl ?_
              refine wg_gm rfl rfl hM ?_
              refine wg_s rfl rfl ?_
              refine wg_gi rfl rfl (show _ = ag_I μ 10 0 26 from rfl) ?_
              refine wg_s rfl rfl ?_
              refine wg_ias rfl hM rfl (by omega) (by omega) ?_
              refine wg_s rfl rfl ?_
              refine wg_gm rfl rfl hM ?_
              refine wg_s rfl rfl ?_
              refine wg_gi rfl rfl (show _ = ag_I μ 10 0 26 from rfl) ?_
              refine wg_s rfl rfl ?_
              refine wg_ias rfl hM rfl (by omega) (by omega) ?_
              refine wg_s rfl rfl ?_
              refine wg_gm rfl rfl hM ?_
              refine wg_s rfl rfl ?_
              refine wg_gi rfl rfl (show _ = ag_I μ 10 0 26 from rfl) ?_
              refine wg_s rfl rfl ?_
              refine wg_gi rfl rfl (show _ = ag_I μ 10 0 0 from rfl) ?_
              refine wg_ias rfl hM rfl (by omega) (by omega) ?_
              refine wg_s rfl rfl ?_
              refine wg_gm rfl rfl hM ?_
              refine wg_s rfl rfl ?_
              refine wg_gi rfl rfl (show _ = ag_I μ 10 0 26 from rfl) ?_
              refine wg_s rfl rfl ?_
              refine wg_gm rfl rfl hM ?_
              refine wg_s rfl rfl ?_
              refine wg_iav rfl hM rfl (by omega) (by omega) (show _ = ag_I μ 11 31 0 from rfl) ?_
              refine wg_ias rfl hM rfl (by omega) (by omega) ?_
              refine wg_s rfl rfl ?_
              refine wg_gm rfl rfl hM ?_
              refine wg_s rfl rfl ?_
              refine wg_gi rfl rfl (show _ = ag_I μ 10 0 26 from rfl) ?_
              refine wg_s rfl rfl ?_
              refine wg_gm rfl rfl hM ?_
              refine wg_s rfl rfl ?_
              refine wg_iav rfl hM rfl (by omega) (by omega) (show _ = ag_I μ 11 31 1 from rfl) ?_
              refine wg_ias rfl hM rfl (by omega) (by omega) ?_
              refine wg_s rfl rfl ?_
              refine wg_gm rfl rfl hM ?_
              refine wg_s rfl rfl ?_
              refine wg_gi rfl rfl (show _ = ag_I μ 10 0 26 from rfl) ?_
              refine wg_s rfl rfl ?_
              refine wg_gm rfl rfl hM ?_
              refine wg_s rfl rfl ?_
              refine wg_iav rfl hM rfl (by omega) (by omega) (show _ = ag_I μ 11 31 2 from rfl) ?_
              refine wg_ias rfl hM rfl (by omega) (by omega) ?_
              refine wg_s rfl rfl ?_
              refine wg_gm rfl rfl hM ?_
              refine wg_s rfl rfl ?_
              refine wg_gi rfl rfl (show _ = ag_I μ 10 0 26 from rfl) ?_
              refine wg_s rfl rfl ?_
              refine wg_gm rfl rfl hM ?_
              refine wg_s rfl rfl ?_
              refine wg_iav rfl hM rfl (by omega) (by omega) (show _ = ag_I μ 11 31 3 from rfl) ?_
              refine wg_ias rfl hM rfl (by omega) (by omega) ?_
              refine wg_s rfl rfl ?_
              refine wg_gm rfl rfl hM ?_
              refine wg_s rfl rfl ?_
              refine wg_gi rfl rfl (show _ = ag_I μ 10 0 26 from rfl) ?_
              refine wg_s rfl rfl ?_
              refine wg_ias rfl hM rfl (by omega) (by omega) ?_
              refine wg_s rfl rfl ?_
              refine wg_gm rfl rfl hM ?_
              refine wg_s rfl rfl ?_
              refine wg_gi rfl rfl (show _ = ag_I μ 10 0 26 from rfl) ?_
              refine wg_s rfl rfl ?_
              refine wg_ias rfl hM rfl (by omega) (by omega) ?_
              refine wg_s rfl rfl ?_
              refine wg_s rfl rfl ?_
              refine wg_gi rfl rfl (show _ = ag_I μ 10 0 26 from rfl) ?_
              refine wg_s rfl rfl ?_
              refine wg_iadd rfl (by omega) (by omega) ?_
              refine wg_s rfl rfl ?_
              refine wg_s rfl rfl ?_
              refine wg_s rfl rfl ?_
              have := lp_live (d := d + 2) (μ := m_li μ h p) (Q := fun z μ' => (((0 ≤ h ∧ h < ag_I μ 10 0 1) ∧ (0 ≤ p ∧ p < ag_I μ 10 0 6)) ∧ m_lf μ h (ag_I μ 10 0 26).toNat < 0 ∧ m_fr μ p (ag_I μ 10 0 26).toNat = true ∧ m_why μ h.toNat p.toNat = 0 ∧ m_ct μ (ag_I μ 11 20 h.toNat) (ag_I μ 10 0 26).toNat ≠ 16 → z = some (ab_i 1) ∧ μ' = m_rs (m_li μ h p) h 501) ∧ (¬ (((0 ≤ h ∧ h < ag_I μ 10 0 1) ∧ (0 ≤ p ∧ p < ag_I μ 10 0 6)) ∧ m_lf μ h (ag_I μ 10 0 26).toNat < 0 ∧ m_fr μ p (ag_I μ 10 0 26).toNat = true ∧ m_why μ h.toNat p.toNat = 0 ∧ m_ct μ (ag_I μ 11 20 h.toNat) (ag_I μ 10 0 26).toNat ≠ 16) → z = some (ab_i 0) ∧ μ' = μ)) hM h p (by omega) ⟨fun _ => ⟨rfl, rfl⟩, fun q => absurd ⟨by omega, by omega, h29, by omega, by omega⟩ q⟩ 502 0 (by omega) (by omega) (by omega)
              rw [m_rs_0] at this
              exact this
            · refine wg_s rfl rfl ?_
              refine wg_ret rfl rfl (Or.inl rfl) ⟨fun q => absurd q ?_, fun _ => ⟨rfl, rfl⟩⟩
              first | (intro q; exact h29 q.2.2.1) | omega
