/-! ===== the reference: weeks, reports, answers ===== -/
/-- a week: 0 kept, 1 broken, 2 not known -/
def m_jv (a b lh ln : Int) : Int := if (0 ≤ a ∧ a < lh) ∨ (0 ≤ b ∧ ln < b) then 1 else if 0 ≤ a ∧ 0 ≤ b then 0 else 2
def m_ju (μ : ab_M) (h w : Int) (j : Nat) : Int := m_jv (ag_I μ 11 41 (501 * h + w).toNat) (ag_I μ 11 42 (501 * h + w).toNat) (ag_I μ 11 35 j) (ag_I μ 11 36 j)
abbrev m_l (μ : ab_M) (h : Int) : Int := m_lf μ h (ag_I μ 10 0 26).toNat
theorem sp_mreport (d : Nat) (h w u v : Int) (μ : ab_M) (hW : WM μ) (hL : WL μ) : Wp (d + 3) 144 [ab_r 10 (some 0), ab_i h, ab_i w, ab_i u, ab_i v] μ (fun z μ' => ((0 ≤ h ∧ h < ag_I μ 10 0 1) ∧ 0 ≤ m_lf μ h (ag_I μ 10 0 26).toNat ∧ (ag_I μ 11 34 (m_lf μ h (ag_I μ 10 0 26).toNat).toNat ≤ w ∧ w ≤ ag_I μ 10 0 0) ∧ (-1 ≤ u ∧ u ≤ 60) ∧ (-1 ≤ v ∧ v ≤ 7) → z = some (ab_i 1) ∧ μ' = as_I (as_I μ 11 41 (501 * h + w).toNat u) 11 42 (501 * h + w).toNat v) ∧ (¬ ((0 ≤ h ∧ h < ag_I μ 10 0 1) ∧ 0 ≤ m_lf μ h (ag_I μ 10 0 26).toNat ∧ (ag_I μ 11 34 (m_lf μ h (ag_I μ 10 0 26).toNat).toNat ≤ w ∧ w ≤ ag_I μ 10 0 0) ∧ (-1 ≤ u ∧ u ≤ 60) ∧ (-1 ≤ v ∧ v ≤ 7)) → z = some (ab_i 0) ∧ μ' = μ)) := by
  refine wp_of ?_
  obtain ⟨hM, h1, h6, h26, h0, h14⟩ := id hW
  have hlf := m_lf_rng μ h (ag_I μ 10 0 26).toNat
  have hLj := hL (m_lf μ h (ag_I μ 10 0 26).toNat).toNat
  refine wg_s rfl rfl ?_
  refine wg_s rfl rfl ?_
  refine wg_cf rfl rfl (sp_isHome _ _ _ hW) ?_
  refine wg_eqb rfl (fun h5 => ?_) (fun h5 => ?_)
  · refine wg_s rfl rfl ?_
    exact wg_ret rfl rfl (Or.inl rfl) ⟨fun h => absurd h (by omega), fun _ => ⟨rfl, rfl⟩⟩
  · refine wg_s rfl rfl ?_
    refine wg_s rfl rfl ?_
    refine wg_cf rfl rfl (sp_lifeOf _ _ _ hW) ?_
    refine wg_if rfl rfl (fun h13 => ?_) (fun h13 => ?_)
    · refine wg_s rfl rfl ?_
      exact wg_ret rfl rfl (Or.inl rfl) ⟨fun h => absurd h (by omega), fun _ => ⟨rfl, rfl⟩⟩
    · refine wg_s rfl rfl ?_
      refine wg_s rfl rfl ?_
      refine wg_s rfl rfl ?_
      refine wg_gm rfl rfl hM ?_
      refine wg_s rfl rfl ?_
      refine wg_s rfl rfl ?_
      refine wg_cf rfl rfl (sp_lifeOf _ _ _ hW) ?_
      refine wg_ia rfl hM rfl (by omega) (by omega) ?_
      refine wg_s rfl rfl ?_
      refine wg_s rfl rfl ?_
      refine wg_s rfl rfl ?_
      refine wg_s rfl rfl ?_
      refine wg_cf rfl rfl (sp_in _ _ _ _ _) ?_
      refine wg_eqb rfl (fun h37 => ?_) (fun h37 => ?_)
      · refine wg_s rfl rfl ?_
        exact wg_ret rfl rfl (Or.inl rfl) ⟨fun h => absurd h (by omega), fun _ => ⟨rfl, rfl⟩⟩
      · refine wg_s rfl rfl ?_
        refine wg_s rfl rfl ?_
        refine wg_s rfl rfl ?_
        refine wg_s rfl rfl ?_
        refine wg_cf rfl rfl (sp_in _ _ _ _ _) ?_
        refine wg_eqb rfl (fun h51 => ?_) (fun h51 => ?_)
        · refine wg_s rfl rfl ?_
          exact wg_ret rfl rfl (Or.inl rfl) ⟨fun h => absurd h (by omega), fun _ => ⟨rfl, rfl⟩⟩
        · refine wg_s rfl rfl ?_
          refine wg_s rfl rfl ?_
          refine wg_s rfl rfl ?_
          refine wg_s rfl rfl ?_
          refine wg_cf rfl rfl (sp_in _ _ _ _ _) ?_
          refine wg_neb rfl (fun h66 => ?_) (fun h66 => ?_)
          · refine wg_s rfl rfl ?_
            refine wg_gm rfl rfl hM ?_
            refine wg_s rfl rfl ?_
            refine wg_s rfl rfl ?_
            refine wg_imul rfl (by omega) (by omega) ?_
            refine wg_s rfl rfl ?_
            refine wg_iadd rfl (by omega) (by omega) ?_
            refine wg_s rfl rfl ?_
            refine wg_ias rfl hM rfl (by omega) (by omega) ?_
            refine wg_s rfl rfl ?_
            refine wg_gm rfl rfl hM ?_
            refine wg_s rfl rfl ?_
            refine wg_s rfl rfl ?_
            refine wg_imul rfl (by omega) (by omega) ?_
            refine wg_s rfl rfl ?_
            refine wg_iadd rfl (by omega) (by omega) ?_
            refine wg_s rfl rfl ?_
            refine wg_ias rfl hM rfl (by omega) (by omega) ?_
            refine wg_s rfl rfl ?_
            exact wg_ret rfl rfl (Or.inr rfl) ⟨fun _ => ⟨rfl, rfl⟩, fun h => absurd (by omega) h⟩
          · refine wg_s rfl rfl ?_
            exact wg_ret rfl rfl (Or.inl rfl) ⟨fun h => absurd h (by omega), fun _ => ⟨rfl, rfl⟩⟩
theorem sp_mjudge (d : Nat) (h w : Int) (μ : ab_M) (hW : WM μ) (hL : WL μ) : Wp (d + 3) 145 [ab_r 10 (some 0), ab_i h, ab_i w] μ (fun z μ' => z = some (ab_i (if (0 ≤ h ∧ h < ag_I μ 10 0 1) ∧ 0 ≤ m_lf μ h (ag_I μ 10 0 26).toNat ∧ (ag_I μ 11 34 (m_lf μ h (ag_I μ 10 0 26).toNat).toNat ≤ w ∧ w ≤ ag_I μ 10 0 0) then m_ju μ h w (m_lf μ h (ag_I μ 10 0 26).toNat).toNat else -1)) ∧ μ' = μ) := by
  refine wp_of ?_
  obtain ⟨hM, h1, h6, h26, h0, h14⟩ := id hW
  have hlf := m_lf_rng μ h (ag_I μ 10 0 26).toNat
  have hLj := hL (m_lf μ h (ag_I μ 10 0 26).toNat).toNat
  refine wg_s rfl rfl ?_
  refine wg_s rfl rfl ?_
  refine wg_cf rfl rfl (sp_isHome _ _ _ hW) ?_
  refine wg_eqb rfl (fun h5 => ?_) (fun h5 => ?_)
  · refine wg_s rfl rfl ?_
    refine wg_ret rfl rfl trivial ⟨?_, rfl⟩
    rw [if_neg (by omega)]
  · refine wg_s rfl rfl ?_
    refine wg_s rfl rfl ?_
    refine wg_cf rfl rfl (sp_lifeOf _ _ _ hW) ?_
    refine wg_if rfl rfl (fun h13 => ?_) (fun h13 => ?_)
    · refine wg_s rfl rfl ?_
      refine wg_ret rfl rfl trivial ⟨?_, rfl⟩
      rw [if_neg (by omega)]
    · refine wg_s rfl rfl ?_
      refine wg_s rfl rfl ?_
      refine wg_s rfl rfl ?_
      refine wg_gm rfl rfl hM ?_
      refine wg_s rfl rfl ?_
      refine wg_s rfl rfl ?_
      refine wg_cf rfl rfl (sp_lifeOf _ _ _ hW) ?_
      refine wg_ia rfl hM rfl (by omega) (by omega) ?_
      refine wg_s rfl rfl ?_
      refine wg_s rfl rfl ?_
      refine wg_s rfl rfl ?_
      refine wg_s rfl rfl ?_
      refine wg_cf rfl rfl (sp_in _ _ _ _ _) ?_
      refine wg_neb rfl (fun h37 => ?_) (fun h37 => ?_)
      · refine wg_s rfl rfl ?_
        refine wg_s rfl rfl ?_
        refine wg_cf rfl rfl (sp_lifeOf _ _ _ hW) ?_
        refine wg_s rfl rfl ?_
        refine wg_s rfl rfl ?_
        refine wg_gm rfl rfl hM ?_
        refine wg_s rfl rfl ?_
        refine wg_s rfl rfl ?_
        refine wg_imul rfl (by omega) (by omega) ?_
        refine wg_s rfl rfl ?_
        refine wg_iadd rfl (by omega) (by omega) ?_
        refine wg_ia rfl hM rfl (by omega) (by omega) ?_
        refine wg_s rfl rfl ?_
        refine wg_s rfl rfl ?_
        refine wg_gm rfl rfl hM ?_
        refine wg_s rfl rfl ?_
        refine wg_s rfl rfl ?_
        refine wg_imul rfl (by omega) (by omega) ?_
        refine wg_s rfl rfl ?_
        refine wg_iadd rfl (by omega) (by omega) ?_
        refine wg_ia rfl hM rfl (by omega) (by omega) ?_
        refine wg_s rfl rfl ?_
        refine wg_s rfl rfl ?_
        refine wg_if rfl rfl (fun h78 => ?_) (fun h78 => ?_)
        · refine wg_s rfl rfl ?_
          refine wg_if rfl rfl (fun h94 => ?_) (fun h94 => ?_)
          · refine wg_s rfl rfl ?_
            refine wg_if rfl rfl (fun h112 => ?_) (fun h112 => ?_)
            · refine wg_s rfl rfl ?_
              first | (exfalso; omega) | (refine wg_ret rfl rfl trivial ⟨?_, rfl⟩; rw [if_pos (by omega)]; unfold m_ju m_jv; congr 2; repeat (first | rw [if_pos (by omega)] | rw [if_neg (by omega)]))
            · refine wg_s rfl rfl ?_
              refine wg_if rfl rfl (fun h117 => ?_) (fun h117 => ?_)
              · refine wg_s rfl rfl ?_
                first | (exfalso; omega) | (refine wg_ret rfl rfl trivial ⟨?_, rfl⟩; rw [if_pos (by omega)]; unfold m_ju m_jv; congr 2; repeat (first | rw [if_pos (by omega)] | rw [if_neg (by omega)]))
              · refine wg_s rfl rfl ?_
                refine wg_s rfl rfl ?_
                first | (exfalso; omega) | (refine wg_ret rfl rfl trivial ⟨?_, rfl⟩; rw [if_pos (by omega)]; unfold m_ju m_jv; congr 2; repeat (first | rw [if_pos (by omega)] | rw [if_neg (by omega)]))
          · refine wg_s rfl rfl ?_
            refine wg_s rfl rfl ?_
            refine wg_gm rfl rfl hM ?_
            refine wg_s rfl rfl ?_
            refine wg_ia rfl hM rfl (by omega) (by omega) ?_
            refine wg_if rfl rfl (fun h105 => ?_) (fun h105 => ?_)
            · refine wg_s rfl rfl ?_
              refine wg_if rfl rfl (fun h112 => ?_) (fun h112 => ?_)
              · refine wg_s rfl rfl ?_
                first | (exfalso; omega) | (refine wg_ret rfl rfl trivial ⟨?_, rfl⟩; rw [if_pos (by omega)]; unfold m_ju m_jv; congr 2; repeat (first | rw [if_pos (by omega)] | rw [if_neg (by omega)]))
              · refine wg_s rfl rfl ?_
                refine wg_if rfl rfl (fun h117 => ?_) (fun h117 => ?_)
                · refine wg_s rfl rfl ?_
                  first | (exfalso; omega) | (refine wg_ret rfl rfl trivial ⟨?_, rfl⟩; rw [if_pos (by omega)]; unfold m_ju m_jv; congr 2; repeat (first | rw [if_pos (by omega)] | rw [if_neg (by omega)]))
                · refine wg_s rfl rfl ?_
                  refine wg_s rfl rfl ?_
                  first | (exfalso; omega) | (refine wg_ret rfl rfl trivial ⟨?_, rfl⟩; rw [if_pos (by omega)]; unfold m_ju m_jv; congr 2; repeat (first | rw [if_pos (by omega)] | rw [if_neg (by omega)]))
            · refine wg_s rfl rfl ?_
              first | (exfalso; omega) | (refine wg_ret rfl rfl trivial ⟨?_, rfl⟩; rw [if_pos (by omega)]; unfold m_ju m_jv; congr 2; repeat (first | rw [if_pos (by omega)] | rw [if_neg (by omega)]))
        · refine wg_s rfl rfl ?_
          refine wg_s rfl rfl ?_
          refine wg_gm rfl rfl hM ?_
          refine wg_s rfl rfl ?_
          refine wg_ia rfl hM rfl (by omega) (by omega) ?_
          refine wg_if rfl rfl (fun h89 => ?_) (fun h89 => ?_)
          · refine wg_s rfl rfl ?_
            first | (exfalso; omega) | (refine wg_ret rfl rfl trivial ⟨?_, rfl⟩; rw [if_pos (by omega)]; unfold m_ju m_jv; congr 2; repeat (first | rw [if_pos (by omega)] | rw [if_neg (by omega)]))
          · refine wg_s rfl rfl ?_
            refine wg_if rfl rfl (fun h94 => ?_) (fun h94 => ?_)
            · refine wg_s rfl rfl ?_
              refine wg_if rfl rfl (fun h112 => ?_) (fun h112 => ?_)
              · refine wg_s rfl rfl ?_
                first | (exfalso; omega) | (refine wg_ret rfl rfl trivial ⟨?_, rfl⟩; rw [if_pos (by omega)]; unfold m_ju m_jv; congr 2; repeat (first | rw [if_pos (by omega)] | rw [if_neg (by omega)]))
              · refine wg_s rfl rfl ?_
                refine wg_if rfl rfl (fun h117 => ?_) (fun h117 => ?_)
                · refine wg_s rfl rfl ?_
                  first | (exfalso; omega) | (refine wg_ret rfl rfl trivial ⟨?_, rfl⟩; rw [if_pos (by omega)]; unfold m_ju m_jv; congr 2; repeat (first | rw [if_pos (by omega)] | rw [if_neg (by omega)]))
                · refine wg_s rfl rfl ?_
                  refine wg_s rfl rfl ?_
                  first | (exfalso; omega) | (refine wg_ret rfl rfl trivial ⟨?_, rfl⟩; rw [if_pos (by omega)]; unfold m_ju m_jv; congr 2; repeat (first | rw [if_pos (by omega)] | rw [if_neg (by omega)]))
            · refine wg_s rfl rfl ?_
              refine wg_s rfl rfl ?_
              refine wg_gm rfl rfl hM ?_
              refine wg_s rfl rfl ?_
              refine wg_ia rfl hM rfl (by omega) (by omega) ?_
              refine wg_if rfl rfl (fun h105 => ?_) (fun h105 => ?_)
              · refine wg_s rfl rfl ?_
                refine wg_if rfl rfl (fun h112 => ?_) (fun h112 => ?_)
                · refine wg_s rfl rfl ?_
                  first | (exfalso; omega) | (refine wg_ret rfl rfl trivial ⟨?_, rfl⟩; rw [if_pos (by omega)]; unfold m_ju m_jv; congr 2; repeat (first | rw [if_pos (by omega)] | rw [if_neg (by omega)]))
                · refine wg_s rfl rfl ?_
                  refine wg_if rfl rfl (fun h117 => ?_) (fun h117 => ?_)
                  · refine wg_s rfl rfl ?_
                    first | (exfalso; omega) | (refine wg_ret rfl rfl trivial ⟨?_, rfl⟩; rw [if_pos (by omega)]; unfold m_ju m_jv; congr 2; repeat (first | rw [if_pos (by omega)] | rw [if_neg (by omega)]))
                  · refine wg_s rfl rfl ?_
                    refine wg_s rfl rfl ?_
                    first | (exfalso; omega) | (refine wg_ret rfl rfl trivial ⟨?_, rfl⟩; rw [if_pos (by omega)]; unfold m_ju m_jv; congr 2; repeat (first | rw [if_pos (by omega)] | rw [if_neg (by omega)]))
              · refine wg_s rfl rfl ?_
                first | (exfalso; omega) | (refine wg_ret rfl rfl trivial ⟨?_, rfl⟩; rw [if_pos (by omega)]; unfold m_ju m_jv; congr 2; repeat (first | rw [if_pos (by omega)] | rw [if_neg (by omega)]))
      · refine wg_s rfl rfl ?_
        refine wg_ret rfl rfl trivial ⟨?_, rfl⟩
        rw [if_neg (by omega)]
/-- weeks among the n from w0 on that came to what -/
def m_jn (μ : ab_M) (h : Int) (j : Nat) (x w0 : Int) : Nat → Int
  | 0 => 0
  | n + 1 => m_jn μ h j x w0 n + if m_ju μ h (w0 + n) j = x then 1 else 0
theorem m_jn_rng (μ : ab_M) (h : Int) (j : Nat) (x w0 : Int) : ∀ n : Nat, 0 ≤ m_jn μ h j x w0 n ∧ m_jn μ h j x w0 n ≤ n
  | 0 => by simp [m_jn]
  | n + 1 => by
    have := m_jn_rng μ h j x w0 n
    unfold m_jn
    split <;> omega
theorem lp_judged {d : Nat} {μ : ab_M} {Q : Option ab_V → ab_M → Prop} (hW : WM μ) (hL : WL μ) (h x : Int) (hh : (0 ≤ h ∧ h < ag_I μ 10 0 1) ∧ 0 ≤ m_lf μ h (ag_I μ 10 0 26).toNat) (hQ : Q (some (ab_i (m_jn μ h (m_lf μ h (ag_I μ 10 0 26).toNat).toNat x (ag_I μ 11 34 (m_lf μ h (ag_I μ 10 0 26).toNat).toNat) (ag_I μ 10 0 0 + 1 - ag_I μ 11 34 (m_lf μ h (ag_I μ 10 0 26).toNat).toNat).toNat))) μ) : ∀ (n : Nat) (z f : Int), ag_I μ 10 0 0 + 1 - z < n → ag_I μ 11 34 (m_lf μ h (ag_I μ 10 0 26).toNat).toNat ≤ z → z ≤ ag_I μ 10 0 0 + 1 → f = m_jn μ h (m_lf μ h (ag_I μ 10 0 26).toNat).toNat x (ag_I μ 11 34 (m_lf μ h (ag_I μ 10 0 26).toNat).toNat) (z - ag_I μ 11 34 (m_lf μ h (ag_I μ 10 0 26).toNat).toNat).toNat → Wg (d + 3) 146 μ 44 [(0, ab_r 10 (some 0)), (1, ab_i h), (2, ab_i x), (3, ab_i f), (4, ab_i z)] [] Q := by
  intro n
  induction n with
  | zero => intro z f hn hz hz2 hf; omega
  | succ n ih =>
    intro z f hn hz hz2 hf
    obtain ⟨hM, h1, h6, h26, h0, h14⟩ := id hW
    have hlf := m_lf_rng μ h (ag_I μ 10 0 26).toNat
    have hLj := hL (m_lf μ h (ag_I μ 10 0 26).toNat).toNat
    have hjr := m_jn_rng μ h (m_lf μ h (ag_I μ 10 0 26).toNat).toNat x (ag_I μ 11 34 (m_lf μ h (ag_I μ 10 0 26).toNat).toNat) (z - ag_I μ 11 34 (m_lf μ h (ag_I μ 10 0 26).toNat).toNat).toNat
    refine wg_s rfl rfl ?_
    refine wg_s rfl rfl ?_
    refine wg_s rfl rfl ?_
    refine wg_if rfl rfl (fun h50 => ?_) (fun h50 => ?_)
    · refine wg_s rfl rfl ?_
      refine wg_ret rfl rfl trivial ?_
      have e : z = ag_I μ 10 0 0 + 1 := by omega
      rw [hf, e]
      exact hQ
    · refine wg_s rfl rfl ?_
      refine wg_s rfl rfl ?_
      refine wg_s rfl rfl ?_
      refine wg_s rfl rfl ?_
      refine wg_cf rfl rfl (sp_mjudge _ _ _ _ hW hL) ?_
      rw [if_pos (by omega)]
      refine wg_s rfl rfl ?_
      refine wg_if rfl rfl (fun h62 => ?_) (fun h62 => ?_)
      · refine wg_s rfl rfl ?_
        refine wg_iadd rfl (by omega) (by omega) ?_
        refine wg_s rfl rfl ?_
        refine wg_iinc rfl rfl rfl (by omega) (by omega) rfl ?_
        refine wg_s rfl rfl ?_
        exact ih _ _ (by omega) (by omega) (by omega) (by rw [show (z + 1 - ag_I μ 11 34 (m_lf μ h (ag_I μ 10 0 26).toNat).toNat).toNat = (z - ag_I μ 11 34 (m_lf μ h (ag_I μ 10 0 26).toNat).toNat).toNat + 1 by omega]; unfold m_jn; rw [show ag_I μ 11 34 (m_lf μ h (ag_I μ 10 0 26).toNat).toNat + (((z - ag_I μ 11 34 (m_lf μ h (ag_I μ 10 0 26).toNat).toNat).toNat : Nat) : Int) = z by omega, hf]; first | rw [if_pos (by omega)] | rw [if_neg (by omega)])
      · refine wg_s rfl rfl ?_
        refine wg_s rfl rfl ?_
        refine wg_iadd rfl (by omega) (by omega) ?_
        refine wg_s rfl rfl ?_
        refine wg_iinc rfl rfl rfl (by omega) (by omega) rfl ?_
        refine wg_s rfl rfl ?_
        exact ih _ _ (by omega) (by omega) (by omega) (by rw [show (z + 1 - ag_I μ 11 34 (m_lf μ h (ag_I μ 10 0 26).toNat).toNat).toNat = (z - ag_I μ 11 34 (m_lf μ h (ag_I μ 10 0 26).toNat).toNat).toNat + 1 by omega]; unfold m_jn; rw [show ag_I μ 11 34 (m_lf μ h (ag_I μ 10 0 26).toNat).toNat + (((z - ag_I μ 11 34 (m_lf μ h (ag_I μ 10 0 26).toNat).toNat).toNat : Nat) : Int) = z by omega, hf]; first | rw [if_pos (by omega)] | rw [if_neg (by omega)])
theorem sp_mjudged (d : Nat) (h x : Int) (μ : ab_M) (hW : WM μ) (hL : WL μ) : Wp (d + 4) 146 [ab_r 10 (some 0), ab_i h, ab_i x] μ (fun z μ' => z = some (ab_i (if (0 ≤ h ∧ h < ag_I μ 10 0 1) ∧ 0 ≤ m_lf μ h (ag_I μ 10 0 26).toNat ∧ (0 ≤ x ∧ x ≤ 2) then m_jn μ h (m_lf μ h (ag_I μ 10 0 26).toNat).toNat x (ag_I μ 11 34 (m_lf μ h (ag_I μ 10 0 26).toNat).toNat) (ag_I μ 10 0 0 + 1 - ag_I μ 11 34 (m_lf μ h (ag_I μ 10 0 26).toNat).toNat).toNat else -1)) ∧ μ' = μ) := by
  refine wp_of ?_
  obtain ⟨hM, h1, h6, h26, h0, h14⟩ := id hW
  have hlf := m_lf_rng μ h (ag_I μ 10 0 26).toNat
  have hLj := hL (m_lf μ h (ag_I μ 10 0 26).toNat).toNat
  refine wg_s rfl rfl ?_
  refine wg_s rfl rfl ?_
  refine wg_cf rfl rfl (sp_isHome _ _ _ hW) ?_
  refine wg_eqb rfl (fun h5 => ?_) (fun h5 => ?_)
  · refine wg_s rfl rfl ?_
    refine wg_ret rfl rfl trivial ⟨?_, rfl⟩
    rw [if_neg (by omega)]
  · refine wg_s rfl rfl ?_
    refine wg_s rfl rfl ?_
    refine wg_cf rfl rfl (sp_lifeOf _ _ _ hW) ?_
    refine wg_if rfl rfl (fun h13 => ?_) (fun h13 => ?_)
    · refine wg_s rfl rfl ?_
      refine wg_ret rfl rfl trivial ⟨?_, rfl⟩
      rw [if_neg (by omega)]
    · refine wg_s rfl rfl ?_
      refine wg_s rfl rfl ?_
      refine wg_s rfl rfl ?_
      refine wg_s rfl rfl ?_
      refine wg_cf rfl rfl (sp_in _ _ _ _ _) ?_
      refine wg_neb rfl (fun h25 => ?_) (fun h25 => ?_)
      · refine wg_s rfl rfl ?_
        refine wg_s rfl rfl ?_
        refine wg_s rfl rfl ?_
        refine wg_gm rfl rfl hM ?_
        refine wg_s rfl rfl ?_
        refine wg_s rfl rfl ?_
        refine wg_cf rfl rfl (sp_lifeOf _ _ _ hW) ?_
        refine wg_ia rfl hM rfl (by omega) (by omega) ?_
        refine wg_s rfl rfl ?_
        exact lp_judged hW hL h x ⟨by omega, by omega⟩ ⟨by rw [if_pos (by omega)], rfl⟩ (ag_I μ 10 0 0 + 2 - ag_I μ 11 34 (m_lf μ h (ag_I μ 10 0 26).toNat).toNat).toNat _ 0 (by omega) (by omega) (by omega) (by rw [show (ag_I μ 11 34 (m_lf μ h (ag_I μ 10 0 26).toNat).toNat - ag_I μ 11 34 (m_lf μ h (ag_I μ 10 0 26).toNat).toNat).toNat = 0 by omega]; rfl)
      · refine wg_s rfl rfl ?_
        refine wg_ret rfl rfl trivial ⟨?_, rfl⟩
        rw [if_neg (by omega)]
def m_ho (μ : ab_M) (h x : Int) : Int := if ¬ (0 ≤ h ∧ h < ag_I μ 10 0 1) then -1 else if x = 0 then ag_I μ 11 20 h.toNat else if m_lf μ h (ag_I μ 10 0 26).toNat < 0 then -1 else if x = 1 then ag_I μ 11 33 (m_lf μ h (ag_I μ 10 0 26).toNat).toNat else if x = 2 then ag_I μ 11 34 (m_lf μ h (ag_I μ 10 0 26).toNat).toNat else if x = 3 then ag_I μ 11 39 (m_lf μ h (ag_I μ 10 0 26).toNat).toNat else if x = 4 then ag_I μ 11 35 (m_lf μ h (ag_I μ 10 0 26).toNat).toNat else if x = 5 then ag_I μ 11 36 (m_lf μ h (ag_I μ 10 0 26).toNat).toNat else -1
theorem sp_mhomeOf (d : Nat) (h x : Int) (μ : ab_M) (hW : WM μ) (hL : WL μ) : Wp (d + 3) 148 [ab_r 10 (some 0), ab_i h, ab_i x] μ (fun z μ' => z = some (ab_i (m_ho μ h x)) ∧ μ' = μ) := by
  refine wp_of ?_
  obtain ⟨hM, h1, h6, h26, h0, h14⟩ := id hW
  have hlf := m_lf_rng μ h (ag_I μ 10 0 26).toNat
  have hLj := hL (m_lf μ h (ag_I μ 10 0 26).toNat).toNat
  refine wg_s rfl rfl ?_
  refine wg_s rfl rfl ?_
  refine wg_cf rfl rfl (sp_isHome _ _ _ hW) ?_
  refine wg_neb rfl (fun h5 => ?_) (fun h5 => ?_)
  · refine wg_s rfl rfl ?_
    refine wg_s rfl rfl ?_
    refine wg_cf rfl rfl (sp_lifeOf _ _ _ hW) ?_
    refine wg_s rfl rfl ?_
    refine wg_s rfl rfl ?_
    refine wg_if rfl rfl (fun h17 => ?_) (fun h17 => ?_)
    · refine wg_s rfl rfl ?_
      refine wg_if rfl rfl (fun h28 => ?_) (fun h28 => ?_)
      · refine wg_s rfl rfl ?_
        refine wg_s rfl rfl ?_
        by_cases hs0 : x = 1
        · subst hs0
          refine wg_at (pc2 := 68) (by decide) ?_
          refine wg_s rfl rfl ?_
          refine wg_gm rfl rfl hM ?_
          refine wg_s rfl rfl ?_
          refine wg_ia rfl hM rfl (by omega) (by omega) ?_
          refine wg_ret rfl rfl trivial ⟨?_, rfl⟩
          unfold m_ho
          congr 2
          repeat (first | rw [if_pos (by omega)] | rw [if_neg (by omega)])
        by_cases hs1 : x = 2
        · subst hs1
          refine wg_at (pc2 := 75) (by decide) ?_
          refine wg_s rfl rfl ?_
          refine wg_gm rfl rfl hM ?_
          refine wg_s rfl rfl ?_
          refine wg_ia rfl hM rfl (by omega) (by omega) ?_
          refine wg_ret rfl rfl trivial ⟨?_, rfl⟩
          unfold m_ho
          congr 2
          repeat (first | rw [if_pos (by omega)] | rw [if_neg (by omega)])
        by_cases hs2 : x = 3
        · subst hs2
          refine wg_at (pc2 := 82) (by decide) ?_
          refine wg_s rfl rfl ?_
          refine wg_gm rfl rfl hM ?_
          refine wg_s rfl rfl ?_
          refine wg_ia rfl hM rfl (by omega) (by omega) ?_
          refine wg_ret rfl rfl trivial ⟨?_, rfl⟩
          unfold m_ho
          congr 2
          repeat (first | rw [if_pos (by omega)] | rw [if_neg (by omega)])
        by_cases hs3 : x = 4
        · subst hs3
          refine wg_at (pc2 := 89) (by decide) ?_
          refine wg_s rfl rfl ?_
          refine wg_gm rfl rfl hM ?_
          refine wg_s rfl rfl ?_
          refine wg_ia rfl hM rfl (by omega) (by omega) ?_
          refine wg_ret rfl rfl trivial ⟨?_, rfl⟩
          unfold m_ho
          congr 2
          repeat (first | rw [if_pos (by omega)] | rw [if_neg (by omega)])
        by_cases hs4 : x = 5
        · subst hs4
          refine wg_at (pc2 := 96) (by decide) ?_
          refine wg_s rfl rfl ?_
          refine wg_gm rfl rfl hM ?_
          refine wg_s rfl rfl ?_
          refine wg_ia rfl hM rfl (by omega) (by omega) ?_
          refine wg_ret rfl rfl trivial ⟨?_, rfl⟩
          unfold m_ho
          congr 2
          repeat (first | rw [if_pos (by omega)] | rw [if_neg (by omega)])
        refine wg_at (pc2 := 103) (show ab_sw _ _ _ _ _ _ = 103 from if_pos (by omega)) ?_
        refine wg_s rfl rfl ?_
        refine wg_ret rfl rfl trivial ⟨?_, rfl⟩
        unfold m_ho
        congr 2
        repeat (first | rw [if_pos (by omega)] | rw [if_neg (by omega)])
      · refine wg_s rfl rfl ?_
        refine wg_ret rfl rfl trivial ⟨?_, rfl⟩
        unfold m_ho
        congr 2
        repeat (first | rw [if_pos (by omega)] | rw [if_neg (by omega)])
    · refine wg_s rfl rfl ?_
      refine wg_gm rfl rfl hM ?_
      refine wg_s rfl rfl ?_
      refine wg_ia rfl hM rfl (by omega) (by omega) ?_
      refine wg_ret rfl rfl trivial ⟨?_, rfl⟩
      unfold m_ho
      congr 2
      repeat (first | rw [if_pos (by omega)] | rw [if_neg (by omega)])
  · refine wg_s rfl rfl ?_
    refine wg_ret rfl rfl trivial ⟨?_, rfl⟩
    unfold m_ho
    congr 2
    repeat (first | rw [if_pos (by omega)] | rw [if_neg (by omega)])
theorem sp_mlastedOf (d : Nat) (j : Int) (μ : ab_M) (hW : WM μ) (hL : WL μ) (hj : 0 ≤ j ∧ j < ag_I μ 10 0 26) : Wp (d + 1) 150 [ab_r 10 (some 0), ab_i j] μ (fun z μ' => z = some (ab_i (if 0 ≤ ag_I μ 11 40 j.toNat then ag_I μ 11 40 j.toNat else ag_I μ 10 0 0 - ag_I μ 11 34 j.toNat)) ∧ μ' = μ) := by
  refine wp_of ?_
  obtain ⟨hM, h1, h6, h26, h0, h14⟩ := id hW
  have hLj := hL j.toNat
  refine wg_s rfl rfl ?_
  refine wg_gm rfl rfl hM ?_
  refine wg_s rfl rfl ?_
  refine wg_ia rfl hM rfl (by omega) (by omega) ?_
  refine wg_if rfl rfl (fun h6 => ?_) (fun h6 => ?_)
  · refine wg_s rfl rfl ?_
    refine wg_s rfl rfl ?_
    refine wg_s rfl rfl ?_
    refine wg_gm rfl rfl hM ?_
    refine wg_s rfl rfl ?_
    refine wg_ia rfl hM rfl (by omega) (by omega) ?_
    refine wg_isub rfl (by omega) (by omega) ?_
    refine wg_ret rfl rfl trivial ⟨?_, rfl⟩
    first | rw [if_pos (by omega)] | rw [if_neg (by omega)]
  · refine wg_s rfl rfl ?_
    refine wg_gm rfl rfl hM ?_
    refine wg_s rfl rfl ?_
    refine wg_ia rfl hM rfl (by omega) (by omega) ?_
    refine wg_s rfl rfl ?_
    refine wg_ret rfl rfl trivial ⟨?_, rfl⟩
    first | rw [if_pos (by omega)] | rw [if_neg (by omega)]
/-- lives of a kind among the first n that count for what -/
def m_la (μ : ab_M) (k x : Int) : Nat → Int
  | 0 => 0
  | n + 1 => m_la μ k x n + if ag_I μ 11 20 (ag_I μ 11 32 n).toNat = k ∧ (x = 0 ∨ 0 ≤ ag_I μ 11 40 n) then 1 else 0
theorem m_la_rng (μ : ab_M) (k x : Int) : ∀ n : Nat, 0 ≤ m_la μ k x n ∧ m_la μ k x n ≤ n
  | 0 => by simp [m_la]
  | n + 1 => by
    have := m_la_rng μ k x n
    unfold m_la
    split <;> omega
theorem lp_lasting {d : Nat} {μ : ab_M} {Q : Option ab_V → ab_M → Prop} (hW : WM μ) (hL : WL μ) (k x : Int) (hQ : Q (some (ab_i (m_la μ k x (ag_I μ 10 0 26).toNat))) μ) : ∀ (n : Nat) (z f : Int), ag_I μ 10 0 26 - z < n → 0 ≤ z → z ≤ ag_I μ 10 0 26 → f = m_la μ k x z.toNat → Wg d 154 μ 29 [(0, ab_r 10 (some 0)), (1, ab_i k), (2, ab_i x), (3, ab_i f), (4, ab_i z)] [] Q := by
  intro n
  induction n with
  | zero => intro z f hn hz hz2 hf; omega
  | succ n ih =>
    intro z f hn hz hz2 hf
    obtain ⟨hM, h1, h6, h26, h0, h14⟩ := id hW
    have hc := m_la_rng μ k x z.toNat
    have hLz := hL z.toNat
    refine wg_s rfl rfl ?_
    refine wg_s rfl rfl ?_
    refine wg_s rfl rfl ?_
    refine wg_if rfl rfl (fun h35 => ?_) (fun h35 => ?_)
    · refine wg_s rfl rfl ?_
      refine wg_ret rfl rfl trivial ?_
      have e : z = ag_I μ 10 0 26 := by omega
      rw [hf, e]
      exact hQ
    · refine wg_s rfl rfl ?_
      refine wg_s rfl rfl ?_
      refine wg_gm rfl rfl hM ?_
      refine wg_s rfl rfl ?_
      refine wg_gm rfl rfl hM ?_
      refine wg_s rfl rfl ?_
      refine wg_ia rfl hM rfl (by omega) (by omega) ?_
      refine wg_ia rfl hM rfl (by omega) (by omega) ?_
      refine wg_s rfl rfl ?_
      refine wg_if rfl rfl (fun h52 => ?_) (fun h52 => ?_)
      · refine wg_s rfl rfl ?_
        refine wg_iadd rfl (by omega) (by omega) ?_
        refine wg_s rfl rfl ?_
        refine wg_iinc rfl rfl rfl (by omega) (by omega) rfl ?_
        refine wg_s rfl rfl ?_
        exact ih _ _ (by omega) (by omega) (by omega) (by rw [tn1 hz]; unfold m_la; first | rw [if_pos (by omega), hf] | rw [if_neg (by omega), hf])
      · refine wg_s rfl rfl ?_
        refine wg_if rfl rfl (fun h56 => ?_) (fun h56 => ?_)
        · refine wg_s rfl rfl ?_
          refine wg_s rfl rfl ?_
          refine wg_iadd rfl (by omega) (by omega) ?_
          refine wg_s rfl rfl ?_
          refine wg_iinc rfl rfl rfl (by omega) (by omega) rfl ?_
          refine wg_s rfl rfl ?_
          exact ih _ _ (by omega) (by omega) (by omega) (by rw [tn1 hz]; unfold m_la; first | rw [if_pos (by omega), hf] | rw [if_neg (by omega), hf])
        · refine wg_s rfl rfl ?_
          refine wg_gm rfl rfl hM ?_
          refine wg_s rfl rfl ?_
          refine wg_ia rfl hM rfl (by omega) (by omega) ?_
          refine wg_if rfl rfl (fun h66 => ?_) (fun h66 => ?_)
          · refine wg_s rfl rfl ?_
            refine wg_iadd rfl (by omega) (by omega) ?_
            refine wg_s rfl rfl ?_
            refine wg_iinc rfl rfl rfl (by omega) (by omega) rfl ?_
            refine wg_s rfl rfl ?_
            exact ih _ _ (by omega) (by omega) (by omega) (by rw [tn1 hz]; unfold m_la; first | rw [if_pos (by omega), hf] | rw [if_neg (by omega), hf])
          · refine wg_s rfl rfl ?_
            refine wg_s rfl rfl ?_
            refine wg_iadd rfl (by omega) (by omega) ?_
            refine wg_s rfl rfl ?_
            refine wg_iinc rfl rfl rfl (by omega) (by omega) rfl ?_
            refine wg_s rfl rfl ?_
            exact ih _ _ (by omega) (by omega) (by omega) (by rw [tn1 hz]; unfold m_la; first | rw [if_pos (by omega), hf] | rw [if_neg (by omega), hf])
theorem sp_mlasting (d : Nat) (k x : Int) (μ : ab_M) (hW : WM μ) (hL : WL μ) : Wp (d + 2) 154 [ab_r 10 (some 0), ab_i k, ab_i x] μ (fun z μ' => z = some (ab_i (if (0 ≤ k ∧ k ≤ 3) ∧ (0 ≤ x ∧ x ≤ 1) then m_la μ k x (ag_I μ 10 0 26).toNat else -1)) ∧ μ' = μ) := by
  refine wp_of ?_
  obtain ⟨hM, h1, h6, h26, h0, h14⟩ := id hW
  refine wg_s rfl rfl ?_
  refine wg_s rfl rfl ?_
  refine wg_s rfl rfl ?_
  refine wg_s rfl rfl ?_
  refine wg_cf rfl rfl (sp_in _ _ _ _ _) ?_
  refine wg_eqb rfl (fun h9 => ?_) (fun h9 => ?_)
  · refine wg_s rfl rfl ?_
    refine wg_ret rfl rfl trivial ⟨?_, rfl⟩
    rw [if_neg (by omega)]
  · refine wg_s rfl rfl ?_
    refine wg_s rfl rfl ?_
    refine wg_s rfl rfl ?_
    refine wg_s rfl rfl ?_
    refine wg_cf rfl rfl (sp_in _ _ _ _ _) ?_
    refine wg_neb rfl (fun h19 => ?_) (fun h19 => ?_)
    · refine wg_s rfl rfl ?_
      refine wg_s rfl rfl ?_
      refine wg_s rfl rfl ?_
      refine wg_s rfl rfl ?_
      exact lp_lasting hW hL k x ⟨by rw [if_pos (by omega)], rfl⟩ (ag_I μ 10 0 26 + 1).toNat 0 0 (by omega) (by omega) (by omega) rfl
    · refine wg_s rfl rfl ?_
      refine wg_ret rfl rfl trivial ⟨?_, rfl⟩
      rw [if_neg (by omega)]
def m_al (μ : ab_M) : Nat → Int
  | 0 => 0
  | n + 1 => m_al μ n + if ag_I μ 11 40 n < 0 then 1 else 0
def m_ao (μ : ab_M) : Nat → Int
  | 0 => 0
  | n + 1 => m_ao μ n + if ag_I μ 11 40 n < 0 ∧ ag_I μ 11 27 (ag_I μ 11 33 n).toNat < ag_I μ 10 0 0 then 1 else 0
theorem m_al_rng (μ : ab_M) : ∀ n : Nat, (0 ≤ m_al μ n ∧ m_al μ n ≤ n) ∧ (0 ≤ m_ao μ n ∧ m_ao μ n ≤ n)
  | 0 => by simp [m_al, m_ao]
  | n + 1 => by
    have := m_al_rng μ n
    unfold m_al m_ao
    split <;> split <;> omega
def m_ab (μ : ab_M) (x : Int) : Int := if x = 0 then ag_I μ 10 0 0 else if x = 1 then ag_I μ 10 0 1 else if x = 2 then ag_I μ 10 0 6 else if x = 3 then m_al μ (ag_I μ 10 0 26).toNat else if x = 4 then m_ao μ (ag_I μ 10 0 26).toNat else if x = 5 then ag_I μ 10 0 14 else if 10 ≤ x ∧ x ≤ 13 then ag_I μ 11 31 (x - 10).toNat else -1
theorem lp_about {d : Nat} {μ : ab_M} {Q : Option ab_V → ab_M → Prop} (hW : WM μ) (hL : WL μ) (x : Int) (hQ : Wg d 155 μ 77 [(0, ab_r 10 (some 0)), (1, ab_i x), (2, ab_i (m_al μ (ag_I μ 10 0 26).toNat)), (3, ab_i (m_ao μ (ag_I μ 10 0 26).toNat)), (4, ab_i (ag_I μ 10 0 26))] [] Q) : ∀ (n : Nat) (z f g : Int), ag_I μ 10 0 26 - z < n → 0 ≤ z → z ≤ ag_I μ 10 0 26 → f = m_al μ z.toNat → g = m_ao μ z.toNat → Wg d 155 μ 7 [(0, ab_r 10 (some 0)), (1, ab_i x), (2, ab_i f), (3, ab_i g), (4, ab_i z)] [] Q := by
  intro n
  induction n with
  | zero => intro z f g hn hz hz2 hf hg; omega
  | succ n ih =>
    intro z f g hn hz hz2 hf hg
    obtain ⟨hM, h1, h6, h26, h0, h14⟩ := id hW
    have hc := m_al_rng μ z.toNat
    have hLz := hL z.toNat
    refine wg_s rfl rfl ?_
    refine wg_s rfl rfl ?_
    refine wg_s rfl rfl ?_
    refine wg_if rfl rfl (fun h13 => ?_) (fun h13 => ?_)
    · have e : z = ag_I μ 10 0 26 := by omega
      rw [hf, hg, e]
      exact hQ
    · refine wg_s rfl rfl ?_
      refine wg_s rfl rfl ?_
      refine wg_gm rfl rfl hM ?_
      refine wg_s rfl rfl ?_
      refine wg_ia rfl hM rfl (by omega) (by omega) ?_
      refine wg_if rfl rfl (fun h24 => ?_) (fun h24 => ?_)
      · refine wg_s rfl rfl ?_
        refine wg_iadd rfl (by omega) (by omega) ?_
        refine wg_s rfl rfl ?_
        refine wg_s rfl rfl ?_
        refine wg_s rfl rfl ?_
        refine wg_gm rfl rfl hM ?_
        refine wg_s rfl rfl ?_
        refine wg_ia rfl hM rfl (by omega) (by omega) ?_
        refine wg_if rfl rfl (fun h42 => ?_) (fun h42 => ?_)
        · refine wg_s rfl rfl ?_
          refine wg_iadd rfl (by omega) (by omega) ?_
          refine wg_s rfl rfl ?_
          refine wg_iinc rfl rfl rfl (by omega) (by omega) rfl ?_
          refine wg_s rfl rfl ?_
          first | (exfalso; omega) | exact ih _ _ _ (by omega) (by omega) (by omega) (by rw [tn1 hz]; unfold m_al; first | rw [if_pos (by omega), hf] | rw [if_neg (by omega), hf]) (by rw [tn1 hz]; unfold m_ao; first | rw [if_pos (by omega), hg] | rw [if_neg (by omega), hg])
        · refine wg_s rfl rfl ?_
          refine wg_gm rfl rfl hM ?_
          refine wg_s rfl rfl ?_
          refine wg_gm rfl rfl hM ?_
          refine wg_s rfl rfl ?_
          refine wg_ia rfl hM rfl (by omega) (by omega) ?_
          refine wg_ia rfl hM rfl (by omega) (by omega) ?_
          refine wg_s rfl rfl ?_
          refine wg_s rfl rfl ?_
          refine wg_if rfl rfl (fun h61 => ?_) (fun h61 => ?_)
          · refine wg_s rfl rfl ?_
            refine wg_iadd rfl (by omega) (by omega) ?_
            refine wg_s rfl rfl ?_
            refine wg_iinc rfl rfl rfl (by omega) (by omega) rfl ?_
            refine wg_s rfl rfl ?_
            first | (exfalso; omega) | exact ih _ _ _ (by omega) (by omega) (by omega) (by rw [tn1 hz]; unfold m_al; first | rw [if_pos (by omega), hf] | rw [if_neg (by omega), hf]) (by rw [tn1 hz]; unfold m_ao; first | rw [if_pos (by omega), hg] | rw [if_neg (by omega), hg])
          · refine wg_s rfl rfl ?_
            refine wg_s rfl rfl ?_
            refine wg_iadd rfl (by omega) (by omega) ?_
            refine wg_s rfl rfl ?_
            refine wg_iinc rfl rfl rfl (by omega) (by omega) rfl ?_
            refine wg_s rfl rfl ?_
            first | (exfalso; omega) | exact ih _ _ _ (by omega) (by omega) (by omega) (by rw [tn1 hz]; unfold m_al; first | rw [if_pos (by omega), hf] | rw [if_neg (by omega), hf]) (by rw [tn1 hz]; unfold m_ao; first | rw [if_pos (by omega), hg] | rw [if_neg (by omega), hg])
      · refine wg_s rfl rfl ?_
        refine wg_s rfl rfl ?_
        refine wg_iadd rfl (by omega) (by omega) ?_
        refine wg_s rfl rfl ?_
        refine wg_s rfl rfl ?_
        refine wg_s rfl rfl ?_
        refine wg_gm rfl rfl hM ?_
        refine wg_s rfl rfl ?_
        refine wg_ia rfl hM rfl (by omega) (by omega) ?_
        refine wg_if rfl rfl (fun h42 => ?_) (fun h42 => ?_)
        · refine wg_s rfl rfl ?_
          refine wg_iadd rfl (by omega) (by omega) ?_
          refine wg_s rfl rfl ?_
          refine wg_iinc rfl rfl rfl (by omega) (by omega) rfl ?_
          refine wg_s rfl rfl ?_
          first | (exfalso; omega) | exact ih _ _ _ (by omega) (by omega) (by omega) (by rw [tn1 hz]; unfold m_al; first | rw [if_pos (by omega), hf] | rw [if_neg (by omega), hf]) (by rw [tn1 hz]; unfold m_ao; first | rw [if_pos (by omega), hg] | rw [if_neg (by omega), hg])
        · refine wg_s rfl rfl ?_
          refine wg_gm rfl rfl hM ?_
          refine wg_s rfl rfl ?_
          refine wg_gm rfl rfl hM ?_
          refine wg_s rfl rfl ?_
          refine wg_ia rfl hM rfl (by omega) (by omega) ?_
          refine wg_ia rfl hM rfl (by omega) (by omega) ?_
          refine wg_s rfl rfl ?_
          refine wg_s rfl rfl ?_
          refine wg_if rfl rfl (fun h61 => ?_) (fun h61 => ?_)
          · refine wg_s rfl rfl ?_
            refine wg_iadd rfl (by omega) (by omega) ?_
            refine wg_s rfl rfl ?_
            refine wg_iinc rfl rfl rfl (by omega) (by omega) rfl ?_
            refine wg_s rfl rfl ?_
            first | (exfalso; omega) | exact ih _ _ _ (by omega) (by omega) (by omega) (by rw [tn1 hz]; unfold m_al; first | rw [if_pos (by omega), hf] | rw [if_neg (by omega), hf]) (by rw [tn1 hz]; unfold m_ao; first | rw [if_pos (by omega), hg] | rw [if_neg (by omega), hg])
          · refine wg_s rfl rfl ?_
            refine wg_s rfl rfl ?_
            refine wg_iadd rfl (by omega) (by omega) ?_
            refine wg_s rfl rfl ?_
            refine wg_iinc rfl rfl rfl (by omega) (by omega) rfl ?_
            refine wg_s rfl rfl ?_
            first | (exfalso; omega) | exact ih _ _ _ (by omega) (by omega) (by omega) (by rw [tn1 hz]; unfold m_al; first | rw [if_pos (by omega), hf] | rw [if_neg (by omega), hf]) (by rw [tn1 hz]; unfold m_ao; first | rw [if_pos (by omega), hg] | rw [if_neg (by omega), hg])
theorem sp_mabout (d : Nat) (x : Int) (μ : ab_M) (hW : WM μ) (hL : WL μ) : Wp (d + 2) 155 [ab_r 10 (some 0), ab_i x] μ (fun z μ' => z = some (ab_i (m_ab μ x)) ∧ μ' = μ) := by
  refine wp_of ?_
  obtain ⟨hM, h1, h6, h26, h0, h14⟩ := id hW
  refine wg_s rfl rfl ?_
  refine wg_s rfl rfl ?_
  refine wg_s rfl rfl ?_
  refine wg_s rfl rfl ?_
  refine wg_s rfl rfl ?_
  refine wg_s rfl rfl ?_
  refine lp_about hW hL x ?_ (ag_I μ 10 0 26 + 1).toNat 0 0 0 (by omega) (by omega) (by omega) rfl rfl
  refine wg_s rfl rfl ?_
  refine wg_s rfl rfl ?_
  by_cases hs0 : x = 0
  · subst hs0
    refine wg_at (pc2 := 116) (by decide) ?_
    refine wg_s rfl rfl ?_
    refine wg_s rfl rfl ?_
    refine wg_ret rfl rfl trivial ⟨?_, rfl⟩
    unfold m_ab
    congr 2
    repeat (first | rw [if_pos (by omega)] | rw [if_neg (by omega)])
  by_cases hs1 : x = 1
  · subst hs1
    refine wg_at (pc2 := 121) (by decide) ?_
    refine wg_s rfl rfl ?_
    refine wg_s rfl rfl ?_
    refine wg_ret rfl rfl trivial ⟨?_, rfl⟩
    unfold m_ab
    congr 2
    repeat (first | rw [if_pos (by omega)] | rw [if_neg (by omega)])
  by_cases hs2 : x = 2
  · subst hs2
    refine wg_at (pc2 := 126) (by decide) ?_
    refine wg_s rfl rfl ?_
    refine wg_s rfl rfl ?_
    refine wg_ret rfl rfl trivial ⟨?_, rfl⟩
    unfold m_ab
    congr 2
    repeat (first | rw [if_pos (by omega)] | rw [if_neg (by omega)])
  by_cases hs3 : x = 3
  · subst hs3
    refine wg_at (pc2 := 131) (by decide) ?_
    refine wg_s rfl rfl ?_
    refine wg_ret rfl rfl trivial ⟨?_, rfl⟩
    unfold m_ab
    congr 2
    repeat (first | rw [if_pos (by omega)] | rw [if_neg (by omega)])
  by_cases hs4 : x = 4
  · subst hs4
    refine wg_at (pc2 := 133) (by decide) ?_
    refine wg_s rfl rfl ?_
    refine wg_ret rfl rfl trivial ⟨?_, rfl⟩
    unfold m_ab
    congr 2
    repeat (first | rw [if_pos (by omega)] | rw [if_neg (by omega)])
  by_cases hs5 : x = 5
  · subst hs5
    refine wg_at (pc2 := 135) (by decide) ?_
    refine wg_s rfl rfl ?_
    refine wg_s rfl rfl ?_
    refine wg_ret rfl rfl trivial ⟨?_, rfl⟩
    unfold m_ab
    congr 2
    repeat (first | rw [if_pos (by omega)] | rw [if_neg (by omega)])
  refine wg_at (pc2 := 140) (show ab_sw _ _ _ _ _ _ = 140 from if_pos (by omega)) ?_
  refine wg_s rfl rfl ?_
  refine wg_s rfl rfl ?_
  refine wg_s rfl rfl ?_
  refine wg_s rfl rfl ?_
  refine wg_cf rfl rfl (sp_in _ _ _ _ _) ?_
  refine wg_eqb rfl (fun h151 => ?_) (fun h151 => ?_)
  · refine wg_s rfl rfl ?_
    refine wg_ret rfl rfl trivial ⟨?_, rfl⟩
    unfold m_ab
    congr 2
    repeat (first | rw [if_pos (by omega)] | rw [if_neg (by omega)])
  · refine wg_s rfl rfl ?_
    refine wg_gm rfl rfl hM ?_
    refine wg_s rfl rfl ?_
    refine wg_s rfl rfl ?_
    refine wg_isub rfl (by omega) (by omega) ?_
    refine wg_ia rfl hM rfl (by omega) (by omega) ?_
    refine wg_s rfl rfl ?_
    refine wg_ret rfl rfl trivial ⟨?_, rfl⟩
    unfold m_ab
    congr 2
    repeat (first | rw [if_pos (by omega)] | rw [if_neg (by omega)])
