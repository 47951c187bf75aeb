/-! ===== the reference: lives end, begin; the tape ===== -/
/-- how many of the first n -/
def nb (p : Nat → Bool) : Nat → Int
  | 0 => 0
  | n + 1 => nb p n + if p n = true then 1 else 0
theorem nb_rng (p : Nat → Bool) : ∀ n : Nat, 0 ≤ nb p n ∧ nb p n ≤ n
  | 0 => by simp [nb]
  | n + 1 => by
    have := nb_rng p n
    unfold nb
    split <;> omega
theorem nb_cong {p q : Nat → Bool} : ∀ {n : Nat}, (∀ j, j < n → p j = q j) → nb p n = nb q n
  | 0, _ => rfl
  | n + 1, h => by
    unfold nb
    rw [nb_cong (fun j hj => h j (by omega)), h n (by omega)]
theorem nb_add {p q r : Nat → Bool} : ∀ {n : Nat}, (∀ j, j < n → ((p j = true ∧ q j = false ∧ r j = true) ∨ (p j = false ∧ q j = true ∧ r j = true) ∨ (p j = false ∧ q j = false ∧ r j = false))) → nb r n = nb p n + nb q n
  | 0, _ => rfl
  | n + 1, h => by
    unfold nb
    rw [nb_add (p := p) (q := q) (fun j hj => h j (by omega))]
    rcases h n (by omega) with ⟨h1, h2, h3⟩ | ⟨h1, h2, h3⟩ | ⟨h1, h2, h3⟩ <;> rw [h1, h2, h3] <;> simp <;> omega
abbrev m_E (μ : ab_M) (j : Nat) : Prop := ag_I μ 11 40 j < 0 ∧ ag_I μ 11 39 j = ag_I μ 10 0 0
/-- behind the first n turns of ends() -/
def m_en (μ : ab_M) (n : Nat) : ab_M := ((fun t' n' k' => if t' = 11 ∧ n' = 40 ∧ k' < n ∧ m_E μ k' then ag_I μ 10 0 0 - ag_I μ 11 34 k' else μ.1 t' n' k'), μ.2)
def m_ec (μ : ab_M) (n : Nat) : Int := nb (fun j => decide (m_E μ j)) n
theorem m_ec_t {μ : ab_M} {n : Nat} (h : m_E μ n) : m_ec μ (n + 1) = m_ec μ n + 1 := by
  show nb _ n + (if decide (m_E μ n) = true then 1 else 0) = _
  rw [if_pos (decide_eq_true h)]; rfl
theorem m_ec_f {μ : ab_M} {n : Nat} (h : ¬ m_E μ n) : m_ec μ (n + 1) = m_ec μ n := by
  show nb _ n + (if decide (m_E μ n) = true then 1 else 0) = _
  rw [if_neg (by rw [decide_eq_true_eq]; exact h), Int.add_zero]; rfl
theorem ag_I_en {μ : ab_M} {n t' n' k' : Nat} : ag_I (m_en μ n) t' n' k' = if t' = 11 ∧ n' = 40 ∧ k' < n ∧ m_E μ k' then ag_I μ 10 0 0 - ag_I μ 11 34 k' else ag_I μ t' n' k' := rfl
theorem ag_I_en' {μ : ab_M} {n t' n' k' : Nat} (h : ¬ (t' = 11 ∧ n' = 40)) : ag_I (m_en μ n) t' n' k' = ag_I μ t' n' k' := by rw [ag_I_en, if_neg (fun q => h ⟨q.1, q.2.1⟩)]
theorem ag_I_en2 {μ : ab_M} {n k' : Nat} (h : n ≤ k') : ag_I (m_en μ n) 11 40 k' = ag_I μ 11 40 k' := by rw [ag_I_en, if_neg (fun q => by omega)]
theorem m_en_0 (μ : ab_M) : m_en μ 0 = μ := by
  refine Prod.ext ?_ rfl
  funext t n k
  exact if_neg (fun q => by omega)
theorem m_en_t {μ : ab_M} {n : Nat} (h : m_E μ n) : as_I (m_en μ n) 11 40 n (ag_I μ 10 0 0 - ag_I μ 11 34 n) = m_en μ (n + 1) := by
  refine Prod.ext ?_ rfl
  funext t' n' k'
  show (if t' = 11 ∧ n' = 40 ∧ k' = n then _ else (if _ then _ else _)) = (if _ then _ else _)
  by_cases h1 : t' = 11 ∧ n' = 40 ∧ k' = n
  · obtain ⟨rfl, rfl, rfl⟩ := h1
    rw [if_pos ⟨rfl, rfl, rfl⟩, if_pos ⟨rfl, rfl, by omega, h⟩]
  · rw [if_neg h1]
    by_cases h2 : t' = 11 ∧ n' = 40 ∧ k' < n ∧ m_E μ k'
    · rw [if_pos h2, if_pos ⟨h2.1, h2.2.1, by omega, h2.2.2.2⟩]
    · rw [if_neg h2, if_neg (fun q => h2 ⟨q.1, q.2.1, by have := fun e => h1 ⟨q.1, q.2.1, e⟩; omega, q.2.2.2⟩)]
theorem m_en_f {μ : ab_M} {n : Nat} (h : ¬ m_E μ n) : m_en μ n = m_en μ (n + 1) := by
  refine Prod.ext ?_ rfl
  funext t' n' k'
  show (if _ then _ else _) = (if _ then _ else _)
  by_cases h2 : t' = 11 ∧ n' = 40 ∧ k' < n ∧ m_E μ k'
  · rw [if_pos h2, if_pos ⟨h2.1, h2.2.1, by omega, h2.2.2.2⟩]
  · rw [if_neg h2, if_neg (fun q => h2 ⟨q.1, q.2.1, by
      have : k' ≠ n := fun e => by subst e; exact h q.2.2.2
      omega, q.2.2.2⟩)]
theorem WM_en {μ : ab_M} (hW : WM μ) (n : Nat) : WM (m_en μ n) := by
  obtain ⟨hM, h1, h6, h26, h0, h14⟩ := hW
  refine ⟨hM, ?_, ?_, ?_, ?_, ?_⟩ <;> rw [ag_I_en' (by omega)] <;> assumption
theorem lp_ends {d : Nat} {μ : ab_M} {Q : Option ab_V → ab_M → Prop} (hW : WM μ) (hL : WL μ) (hQ : Q (some (ab_i (m_ec μ (ag_I μ 10 0 26).toNat))) (m_en μ (ag_I μ 10 0 26).toNat)) : ∀ (n : Nat) (z f : Int), ag_I μ 10 0 26 - z < n → 0 ≤ z → z ≤ ag_I μ 10 0 26 → f = m_ec μ z.toNat → Wg d 132 (m_en μ z.toNat) 4 [(0, ab_r 10 (some 0)), (1, ab_i f), (2, ab_i z)] [] Q := by
  intro n
  induction n with
  | zero => intro z f hn hz hz2 hf; omega
  | succ n ih =>
    intro z f hn hz hz2 hf
    obtain ⟨hM, h1, h6, h26, h0, h14⟩ := WM_en hW z.toNat
    have e26 : ag_I (m_en μ z.toNat) 10 0 26 = ag_I μ 10 0 26 := ag_I_en' (by omega)
    have e0 : ag_I (m_en μ z.toNat) 10 0 0 = ag_I μ 10 0 0 := ag_I_en' (by omega)
    have e40 : ag_I (m_en μ z.toNat) 11 40 z.toNat = ag_I μ 11 40 z.toNat := ag_I_en2 (Nat.le_refl _)
    have e39 : ag_I (m_en μ z.toNat) 11 39 z.toNat = ag_I μ 11 39 z.toNat := ag_I_en' (by omega)
    have e34 : ag_I (m_en μ z.toNat) 11 34 z.toNat = ag_I μ 11 34 z.toNat := ag_I_en' (by omega)
    have hLz := hL z.toNat
    have hnb := nb_rng (fun j => decide (m_E μ j)) z.toNat
    have hec : m_ec μ z.toNat = nb (fun j => decide (m_E μ j)) z.toNat := rfl
    have go : ∀ f', m_E μ z.toNat → z < ag_I μ 10 0 26 → f' = f + 1 → Wg d 132 (as_I (m_en μ z.toNat) 11 40 z.toNat (ag_I μ 10 0 0 - ag_I μ 11 34 z.toNat)) 4 [(0, ab_r 10 (some 0)), (1, ab_i f'), (2, ab_i (z + 1))] [] Q := by
      intro f' hE hlt hf'
      have := ih (z + 1) f' (by omega) (by omega) (by omega) (by rw [tn1 hz, hf', hf, m_ec_t hE])
      rw [tn1 hz, ← m_en_t hE] at this
      exact this
    have st : ¬ m_E μ z.toNat → z < ag_I μ 10 0 26 → Wg d 132 (m_en μ z.toNat) 4 [(0, ab_r 10 (some 0)), (1, ab_i f), (2, ab_i (z + 1))] [] Q := by
      intro hE hlt
      have := ih (z + 1) f (by omega) (by omega) (by omega) (by rw [tn1 hz, hf, m_ec_f hE])
      rw [tn1 hz, ← m_en_f hE] at this
      exact this
    refine wg_s rfl rfl ?_
    refine wg_s rfl rfl ?_
    refine wg_gi rfl rfl (e26) ?_
    refine wg_if rfl rfl (fun h9 => ?_) (fun h9 => ?_)
    · refine wg_s rfl rfl ?_
      refine wg_ret rfl rfl trivial ?_
      have e : z = ag_I μ 10 0 26 := by omega
      rw [hf, e]
      exact hQ
    · refine wg_s rfl rfl ?_
      refine wg_gm rfl rfl hM ?_
      refine wg_s rfl rfl ?_
      refine wg_ia rfl hM rfl (by omega) (by omega) ?_
      rw [e40]
      refine wg_if rfl rfl (fun h18 => ?_) (fun h18 => ?_)
      · refine wg_iinc rfl rfl rfl (by omega) (by omega) rfl ?_
        refine wg_s rfl rfl ?_
        first | exact st (fun q => by have := q.1; have := q.2; omega) (by omega) | exact go _ ⟨by omega, by omega⟩ (by omega) rfl
      · refine wg_s rfl rfl ?_
        refine wg_gm rfl rfl hM ?_
        refine wg_s rfl rfl ?_
        refine wg_ia rfl hM rfl (by omega) (by omega) ?_
        rw [e39]
        refine wg_s rfl rfl ?_
        refine wg_gi rfl rfl (e0) ?_
        refine wg_if rfl rfl (fun h31 => ?_) (fun h31 => ?_)
        · refine wg_iinc rfl rfl rfl (by omega) (by omega) rfl ?_
          refine wg_s rfl rfl ?_
          first | exact st (fun q => by have := q.1; have := q.2; omega) (by omega) | exact go _ ⟨by omega, by omega⟩ (by omega) rfl
        · refine wg_s rfl rfl ?_
          refine wg_gm rfl rfl hM ?_
          refine wg_s rfl rfl ?_
          refine wg_s rfl rfl ?_
          refine wg_gi rfl rfl (e0) ?_
          refine wg_s rfl rfl ?_
          refine wg_gm rfl rfl hM ?_
          refine wg_s rfl rfl ?_
          refine wg_ia rfl hM rfl (by omega) (by omega) ?_
          rw [e34]
          refine wg_isub rfl (by omega) (by omega) ?_
          refine wg_ias rfl hM rfl (by omega) (by omega) ?_
          refine wg_iinc rfl rfl rfl (by omega) (by omega) rfl ?_
          refine wg_iinc rfl rfl rfl (by omega) (by omega) rfl ?_
          refine wg_s rfl rfl ?_
          first | exact st (fun q => by have := q.1; have := q.2; omega) (by omega) | exact go _ ⟨by omega, by omega⟩ (by omega) rfl
theorem sp_ends (d : Nat) (μ : ab_M) (hW : WM μ) (hL : WL μ) : Wp (d + 1) 132 [ab_r 10 (some 0)] μ (fun z μ' => z = some (ab_i (m_ec μ (ag_I μ 10 0 26).toNat)) ∧ μ' = m_en μ (ag_I μ 10 0 26).toNat) := by
  refine wp_of ?_
  obtain ⟨hM, h1, h6, h26, h0, h14⟩ := id hW
  refine wg_s rfl rfl ?_
  refine wg_s rfl rfl ?_
  refine wg_s rfl rfl ?_
  refine wg_s rfl rfl ?_
  have := lp_ends (d := d) (Q := fun z μ' => z = some (ab_i (m_ec μ (ag_I μ 10 0 26).toNat)) ∧ μ' = m_en μ (ag_I μ 10 0 26).toNat) hW hL ⟨rfl, rfl⟩ (ag_I μ 10 0 26 + 1).toNat 0 0 (by omega) (by omega) (by omega) rfl
  rw [show ((0 : Int)).toNat = 0 from rfl, m_en_0] at this
  exact this
/-- four bytes behind the tape -/
def m_put (μ : ab_M) (x : Int) : ab_M := as_I (as_I (as_I (as_I (as_I μ 12 0 (ag_I μ 10 0 14).toNat (ab_i2b (ab_shr x 24))) 12 0 (ag_I μ 10 0 14 + 1).toNat (ab_i2b (ab_shr x 16))) 12 0 (ag_I μ 10 0 14 + 2).toNat (ab_i2b (ab_shr x 8))) 12 0 (ag_I μ 10 0 14 + 3).toNat (ab_i2b x)) 10 0 14 (ag_I μ 10 0 14 + 4)
theorem m_put_t (μ : ab_M) (x : Int) : ag_I (m_put μ x) 10 0 14 = ag_I μ 10 0 14 + 4 := rfl
theorem sp_mput (d : Nat) (x : Int) (μ : ab_M) (hM : FM μ.2.2.1 μ.2.2.2.1) (h0 : 0 ≤ ag_I μ 10 0 14) (h1 : ag_I μ 10 0 14 + 4 ≤ 200) : Wp (d + 1) 134 [ab_r 10 (some 0), ab_i x] μ (fun z μ' => z = none ∧ μ' = m_put μ x) := by
  refine wp_of ?_
  refine wg_s rfl rfl ?_
  refine wg_gm rfl rfl hM ?_
  refine wg_s rfl rfl ?_
  refine wg_gi rfl rfl (show _ = ag_I μ 10 0 14 from rfl) ?_
  refine wg_s rfl rfl ?_
  refine wg_s rfl rfl ?_
  refine wg_s rfl rfl ?_
  refine wg_s rfl rfl ?_
  refine wg_bas rfl hM (by omega) (by omega) (ab_i2b2 _) ?_
  refine wg_s rfl rfl ?_
  refine wg_gm rfl rfl hM ?_
  refine wg_s rfl rfl ?_
  refine wg_gi rfl rfl (show _ = ag_I μ 10 0 14 from rfl) ?_
  refine wg_s rfl rfl ?_
  refine wg_iadd rfl (by omega) (by omega) ?_
  refine wg_s rfl rfl ?_
  refine wg_s rfl rfl ?_
  refine wg_s rfl rfl ?_
  refine wg_s rfl rfl ?_
  refine wg_bas rfl hM (by omega) (by omega) (ab_i2b2 _) ?_
  refine wg_s rfl rfl ?_
  refine wg_gm rfl rfl hM ?_
  refine wg_s rfl rfl ?_
  refine wg_gi rfl rfl (show _ = ag_I μ 10 0 14 from rfl) ?_
  refine wg_s rfl rfl ?_
  refine wg_iadd rfl (by omega) (by omega) ?_
  refine wg_s rfl rfl ?_
  refine wg_s rfl rfl ?_
  refine wg_s rfl rfl ?_
  refine wg_s rfl rfl ?_
  refine wg_bas rfl hM (by omega) (by omega) (ab_i2b2 _) ?_
  refine wg_s rfl rfl ?_
  refine wg_gm rfl rfl hM ?_
  refine wg_s rfl rfl ?_
  refine wg_gi rfl rfl (show _ = ag_I μ 10 0 14 from rfl) ?_
  refine wg_s rfl rfl ?_
  refine wg_iadd rfl (by omega) (by omega) ?_
  refine wg_s rfl rfl ?_
  refine wg_s rfl rfl ?_
  refine wg_bas rfl hM (by omega) (by omega) (ab_i2b2 _) ?_
  refine wg_s rfl rfl ?_
  refine wg_s rfl rfl ?_
  refine wg_gi rfl rfl (show _ = ag_I μ 10 0 14 from rfl) ?_
  refine wg_s rfl rfl ?_
  refine wg_iadd rfl (by omega) (by omega) ?_
  refine wg_s rfl rfl ?_
  exact wg_ret rfl rfl trivial ⟨rfl, rfl⟩
theorem sp_mfeed (d : Nat) (a b c e f : Int) (μ : ab_M) (hW : WM μ) : Wp (d + 2) 135 [ab_r 10 (some 0), ab_i a, ab_i b, ab_i c, ab_i e, ab_i f] μ (fun z μ' => (ag_I μ 10 0 14 + 20 ≤ 200 → z = some (ab_i (ag_I μ 10 0 14 + 20)) ∧ μ' = m_put (m_put (m_put (m_put (m_put μ a) b) c) e) f) ∧ (¬ (ag_I μ 10 0 14 + 20 ≤ 200) → z = some (ab_i (-1)) ∧ μ' = μ)) := by
  refine wp_of ?_
  obtain ⟨hM, h1, h6, h26, h0, h14⟩ := id hW
  refine wg_s rfl rfl ?_
  refine wg_s rfl rfl ?_
  refine wg_s rfl rfl ?_
  refine wg_iadd rfl (by omega) (by omega) ?_
  refine wg_s rfl rfl ?_
  refine wg_if rfl rfl (fun h10 => ?_) (fun h10 => ?_)
  · refine wg_s rfl rfl ?_
    refine wg_s rfl rfl ?_
    refine wg_cv rfl rfl (sp_mput _ _ _ hM (by first | omega | (simp only [m_put_t]; omega)) (by first | omega | (simp only [m_put_t]; omega))) ?_
    refine wg_s rfl rfl ?_
    refine wg_s rfl rfl ?_
    refine wg_cv rfl rfl (sp_mput _ _ _ hM (by first | omega | (simp only [m_put_t]; omega)) (by first | omega | (simp only [m_put_t]; omega))) ?_
    refine wg_s rfl rfl ?_
    refine wg_s rfl rfl ?_
    refine wg_cv rfl rfl (sp_mput _ _ _ hM (by first | omega | (simp only [m_put_t]; omega)) (by first | omega | (simp only [m_put_t]; omega))) ?_
    refine wg_s rfl rfl ?_
    refine wg_s rfl rfl ?_
    refine wg_cv rfl rfl (sp_mput _ _ _ hM (by first | omega | (simp only [m_put_t]; omega)) (by first | omega | (simp only [m_put_t]; omega))) ?_
    refine wg_s rfl rfl ?_
    refine wg_s rfl rfl ?_
    refine wg_cv rfl rfl (sp_mput _ _ _ hM (by first | omega | (simp only [m_put_t]; omega)) (by first | omega | (simp only [m_put_t]; omega))) ?_
    refine wg_s rfl rfl ?_
    refine wg_gi rfl rfl (show _ = ag_I μ 10 0 14 + 20 from by simp only [m_put_t]; omega) ?_
    exact wg_ret rfl rfl (trivial) ⟨fun _ => ⟨rfl, rfl⟩, fun h => absurd (by omega) h⟩
  · refine wg_s rfl rfl ?_
    exact wg_ret rfl rfl (trivial) ⟨fun h => absurd h (by omega), fun _ => ⟨rfl, rfl⟩⟩
/-- the end that notice gives -/
def m_ne (μ : ab_M) (j : Nat) : Int := if ag_I μ 10 0 0 - ag_I μ 11 34 j < ag_I μ 11 38 j then ag_I μ 10 0 0 else ag_I μ 10 0 0 + ag_I μ 11 37 j
/-- the lives' terms -/
def WT (μ : ab_M) : Prop := ∀ j : Nat, (j : Int) < ag_I μ 10 0 26 → (0 ≤ ag_I μ 11 37 j ∧ ag_I μ 11 37 j ≤ 20) ∧ (0 ≤ ag_I μ 11 38 j ∧ ag_I μ 11 38 j ≤ 20)
theorem WM_I {μ : ab_M} {s k : Nat} {x : Int} (hW : WM μ) : WM (as_I μ 11 s k x) := hW
theorem WL_I {μ : ab_M} {s k : Nat} {x : Int} (hL : WL μ) (h : ¬ (s = 32 ∨ s = 33 ∨ s = 34 ∨ s = 40)) : WL (as_I μ 11 s k x) := by
  intro j hj
  have := hL j hj
  simp only [ag_I_I]
  rw [if_neg (by omega), if_neg (by omega), if_neg (by omega), if_neg (by omega), if_neg (by omega)]
  exact this
theorem sp_mnotice (d : Nat) (h : Int) (μ : ab_M) (hW : WM μ) (hL : WL μ) (hT : WT μ) : Wp (d + 3) 147 [ab_r 10 (some 0), ab_i h] μ (fun z μ' => ((0 ≤ h ∧ h < ag_I μ 10 0 1) ∧ 0 ≤ m_lf μ h (ag_I μ 10 0 26).toNat ∧ ag_I μ 11 39 (m_lf μ h (ag_I μ 10 0 26).toNat).toNat < 0 ∧ m_ne μ (m_lf μ h (ag_I μ 10 0 26).toNat).toNat ≤ 500 → z = some (ab_i (m_ne μ (m_lf μ h (ag_I μ 10 0 26).toNat).toNat)) ∧ μ' = m_en (as_I μ 11 39 (m_lf μ h (ag_I μ 10 0 26).toNat).toNat (m_ne μ (m_lf μ h (ag_I μ 10 0 26).toNat).toNat)) (ag_I μ 10 0 26).toNat) ∧ (¬ ((0 ≤ h ∧ h < ag_I μ 10 0 1) ∧ 0 ≤ m_lf μ h (ag_I μ 10 0 26).toNat ∧ ag_I μ 11 39 (m_lf μ h (ag_I μ 10 0 26).toNat).toNat < 0 ∧ m_ne μ (m_lf μ h (ag_I μ 10 0 26).toNat).toNat ≤ 500) → z = some (ab_i (-1)) ∧ μ' = μ)) := by
  refine wp_of ?_
  obtain ⟨hM, h1, h6, h26, h0, h14⟩ := id hW
  have hlf := m_lf_rng μ h (ag_I μ 10 0 26).toNat
  have hLj := hL (m_lf μ h (ag_I μ 10 0 26).toNat).toNat
  have hTj := hT (m_lf μ h (ag_I μ 10 0 26).toNat).toNat
  refine wg_s rfl rfl ?_
  refine wg_s rfl rfl ?_
  refine wg_cf rfl rfl (sp_isHome _ _ _ hW) ?_
  refine wg_eqb rfl (fun h5 => ?_) (fun h5 => ?_)
  · refine wg_s rfl rfl ?_
    refine wg_s rfl rfl ?_
    refine wg_s rfl rfl ?_
    refine wg_s rfl rfl ?_
    refine wg_s rfl rfl ?_
    refine wg_ret rfl rfl trivial ⟨fun q => absurd q ?_, fun _ => ⟨rfl, rfl⟩⟩
    unfold m_ne
    first | (first | rw [if_pos (by omega)] | rw [if_neg (by omega)]); omega | (split <;> omega)
  · refine wg_s rfl rfl ?_
    refine wg_s rfl rfl ?_
    refine wg_cf rfl rfl (sp_lifeOf _ _ _ hW) ?_
    refine wg_s rfl rfl ?_
    refine wg_s rfl rfl ?_
    refine wg_s rfl rfl ?_
    refine wg_if rfl rfl (fun h19 => ?_) (fun h19 => ?_)
    · refine wg_s rfl rfl ?_
      refine wg_ret rfl rfl trivial ⟨fun q => absurd q ?_, fun _ => ⟨rfl, rfl⟩⟩
      unfold m_ne
      first | (first | rw [if_pos (by omega)] | rw [if_neg (by omega)]); omega | (split <;> omega)
    · refine wg_s rfl rfl ?_
      refine wg_gm rfl rfl hM ?_
      refine wg_s rfl rfl ?_
      refine wg_ia rfl hM rfl (by omega) (by omega) ?_
      refine wg_if rfl rfl (fun h28 => ?_) (fun h28 => ?_)
      · refine wg_s rfl rfl ?_
        refine wg_s rfl rfl ?_
        refine wg_s rfl rfl ?_
        refine wg_gm rfl rfl hM ?_
        refine wg_s rfl rfl ?_
        refine wg_ia rfl hM rfl (by omega) (by omega) ?_
        refine wg_isub rfl (by omega) (by omega) ?_
        refine wg_s rfl rfl ?_
        refine wg_gm rfl rfl hM ?_
        refine wg_s rfl rfl ?_
        refine wg_ia rfl hM rfl (by omega) (by omega) ?_
        refine wg_if rfl rfl (fun h50 => ?_) (fun h50 => ?_)
        · refine wg_s rfl rfl ?_
          refine wg_s rfl rfl ?_
          refine wg_s rfl rfl ?_
          refine wg_gm rfl rfl hM ?_
          refine wg_s rfl rfl ?_
          refine wg_ia rfl hM rfl (by omega) (by omega) ?_
          refine wg_iadd rfl (by omega) (by omega) ?_
          refine wg_s rfl rfl ?_
          refine wg_s rfl rfl ?_
          refine wg_s rfl rfl ?_
          refine wg_if rfl rfl (fun h76 => ?_) (fun h76 => ?_)
          · refine wg_s rfl rfl ?_
            refine wg_gm rfl rfl hM ?_
            refine wg_s rfl rfl ?_
            refine wg_s rfl rfl ?_
            refine wg_ias rfl hM rfl (by omega) (by omega) ?_
            refine wg_s rfl rfl ?_
            refine wg_cf rfl rfl (sp_ends _ _ (WM_I hW) (WL_I hL (by omega))) ?_
            refine wg_s rfl rfl ?_
            refine wg_s rfl rfl ?_
            refine wg_ret rfl rfl trivial ⟨fun _ => ⟨?_, ?_⟩, fun q => absurd ?_ q⟩
            · unfold m_ne; congr 2; first | rw [if_pos (by omega)] | rw [if_neg (by omega)]
            · unfold m_ne; first | (rw [if_pos (by omega)]; rfl) | (rw [if_neg (by omega)]; rfl)
            · unfold m_ne; first | rw [if_pos (by omega)] | rw [if_neg (by omega)]
              exact ⟨by omega, by omega, by omega, by omega⟩
          · refine wg_s rfl rfl ?_
            refine wg_ret rfl rfl trivial ⟨fun q => absurd q ?_, fun _ => ⟨rfl, rfl⟩⟩
            unfold m_ne
            first | (first | rw [if_pos (by omega)] | rw [if_neg (by omega)]); omega | (split <;> omega)
        · refine wg_s rfl rfl ?_
          refine wg_s rfl rfl ?_
          refine wg_s rfl rfl ?_
          refine wg_s rfl rfl ?_
          refine wg_s rfl rfl ?_
          refine wg_s rfl rfl ?_
          refine wg_if rfl rfl (fun h76 => ?_) (fun h76 => ?_)
          · refine wg_s rfl rfl ?_
            refine wg_gm rfl rfl hM ?_
            refine wg_s rfl rfl ?_
            refine wg_s rfl rfl ?_
            refine wg_ias rfl hM rfl (by omega) (by omega) ?_
            refine wg_s rfl rfl ?_
            refine wg_cf rfl rfl (sp_ends _ _ (WM_I hW) (WL_I hL (by omega))) ?_
            refine wg_s rfl rfl ?_
            refine wg_s rfl rfl ?_
            refine wg_ret rfl rfl trivial ⟨fun _ => ⟨?_, ?_⟩, fun q => absurd ?_ q⟩
            · unfold m_ne; congr 2; first | rw [if_pos (by omega)] | rw [if_neg (by omega)]
            · unfold m_ne; first | (rw [if_pos (by omega)]; rfl) | (rw [if_neg (by omega)]; rfl)
            · unfold m_ne; first | rw [if_pos (by omega)] | rw [if_neg (by omega)]
              exact ⟨by omega, by omega, by omega, by omega⟩
          · refine wg_s rfl rfl ?_
            refine wg_ret rfl rfl trivial ⟨fun q => absurd q ?_, fun _ => ⟨rfl, rfl⟩⟩
            unfold m_ne
            first | (first | rw [if_pos (by omega)] | rw [if_neg (by omega)]); omega | (split <;> omega)
      · refine wg_s rfl rfl ?_
        refine wg_ret rfl rfl trivial ⟨fun q => absurd q ?_, fun _ => ⟨rfl, rfl⟩⟩
        unfold m_ne
        first | (first | rw [if_pos (by omega)] | rw [if_neg (by omega)]); omega | (split <;> omega)
