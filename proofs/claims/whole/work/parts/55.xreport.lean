/-! ===== the class: report ===== -/
theorem sp_judgementOf (d : Nat) (t : Nat) (u v lh ln : Int) (μ : ab_M) (hlh : ag_I μ 8 t 0 = lh) (hln : ag_I μ 8 t 1 = ln) (hu : -1 ≤ u) (hv : -1 ≤ v) : Wp (d + 1) 68 [ab_r 8 (some t), ab_i u, ab_i v] μ (fun vv μ' => vv = some (ab_i (m_jv u v lh ln)) ∧ μ' = μ) := by
  refine wp_of ?_
  have K2 : ∀ a b : Int, ((0 ≤ u ∧ a = 1) ∨ (u < 0 ∧ a = 0)) → ((0 ≤ v ∧ b = 1) ∨ (v < 0 ∧ b = 0)) → Wg d 68 μ 21 [(0, ab_r 8 (some t)), (1, ab_i u), (2, ab_i v), (3, ab_i a)] [ab_i b] (fun vv μ' => vv = some (ab_i (m_jv u v lh ln)) ∧ μ' = μ) := by
    intro a b ha hb
    refine wg_s rfl rfl ?_
    refine wg_s rfl rfl ?_
    refine wg_if rfl rfl (fun h24 => ?_) (fun h24 => ?_)
    · refine wg_s rfl rfl ?_
      refine wg_if rfl rfl (fun h37 => ?_) (fun h37 => ?_)
      · refine wg_s rfl rfl ?_
        refine wg_if rfl rfl (fun h51 => ?_) (fun h51 => ?_)
        · refine wg_s rfl rfl ?_
          refine wg_ret rfl rfl trivial ⟨?_, rfl⟩
          congr 2
          unfold m_jv
          first | (rw [if_pos (by omega)]; done) | (rw [if_neg (by omega), if_pos (by omega)]; done) | (rw [if_neg (by omega), if_neg (by omega)]; done)
        · refine wg_s rfl rfl ?_
          refine wg_if rfl rfl (fun h56 => ?_) (fun h56 => ?_)
          · refine wg_s rfl rfl ?_
            refine wg_ret rfl rfl trivial ⟨?_, rfl⟩
            congr 2
            unfold m_jv
            first | (rw [if_pos (by omega)]; done) | (rw [if_neg (by omega), if_pos (by omega)]; done) | (rw [if_neg (by omega), if_neg (by omega)]; done)
          · refine wg_s rfl rfl ?_
            refine wg_s rfl rfl ?_
            refine wg_ret rfl rfl trivial ⟨?_, rfl⟩
            congr 2
            unfold m_jv
            first | (rw [if_pos (by omega)]; done) | (rw [if_neg (by omega), if_pos (by omega)]; done) | (rw [if_neg (by omega), if_neg (by omega)]; done)
      · refine wg_s rfl rfl ?_
        refine wg_s rfl rfl ?_
        refine wg_gi rfl rfl (show _ = ln from hln) ?_
        refine wg_if rfl rfl (fun h45 => ?_) (fun h45 => ?_)
        · refine wg_s rfl rfl ?_
          refine wg_if rfl rfl (fun h51 => ?_) (fun h51 => ?_)
          · refine wg_s rfl rfl ?_
            refine wg_ret rfl rfl trivial ⟨?_, rfl⟩
            congr 2
            unfold m_jv
            first | (rw [if_pos (by omega)]; done) | (rw [if_neg (by omega), if_pos (by omega)]; done) | (rw [if_neg (by omega), if_neg (by omega)]; done)
          · refine wg_s rfl rfl ?_
            refine wg_if rfl rfl (fun h56 => ?_) (fun h56 => ?_)
            · refine wg_s rfl rfl ?_
              refine wg_ret rfl rfl trivial ⟨?_, rfl⟩
              congr 2
              unfold m_jv
              first | (rw [if_pos (by omega)]; done) | (rw [if_neg (by omega), if_pos (by omega)]; done) | (rw [if_neg (by omega), if_neg (by omega)]; done)
            · refine wg_s rfl rfl ?_
              refine wg_s rfl rfl ?_
              refine wg_ret rfl rfl trivial ⟨?_, rfl⟩
              congr 2
              unfold m_jv
              first | (rw [if_pos (by omega)]; done) | (rw [if_neg (by omega), if_pos (by omega)]; done) | (rw [if_neg (by omega), if_neg (by omega)]; done)
        · refine wg_s rfl rfl ?_
          refine wg_ret rfl rfl trivial ⟨?_, rfl⟩
          congr 2
          unfold m_jv
          first | (rw [if_pos (by omega)]; done) | (rw [if_neg (by omega), if_pos (by omega)]; done) | (rw [if_neg (by omega), if_neg (by omega)]; done)
    · refine wg_s rfl rfl ?_
      refine wg_s rfl rfl ?_
      refine wg_gi rfl rfl (show _ = lh from hlh) ?_
      refine wg_if rfl rfl (fun h32 => ?_) (fun h32 => ?_)
      · refine wg_s rfl rfl ?_
        refine wg_ret rfl rfl trivial ⟨?_, rfl⟩
        congr 2
        unfold m_jv
        first | (rw [if_pos (by omega)]; done) | (rw [if_neg (by omega), if_pos (by omega)]; done) | (rw [if_neg (by omega), if_neg (by omega)]; done)
      · refine wg_s rfl rfl ?_
        refine wg_if rfl rfl (fun h37 => ?_) (fun h37 => ?_)
        · refine wg_s rfl rfl ?_
          refine wg_if rfl rfl (fun h51 => ?_) (fun h51 => ?_)
          · refine wg_s rfl rfl ?_
            refine wg_ret rfl rfl trivial ⟨?_, rfl⟩
            congr 2
            unfold m_jv
            first | (rw [if_pos (by omega)]; done) | (rw [if_neg (by omega), if_pos (by omega)]; done) | (rw [if_neg (by omega), if_neg (by omega)]; done)
          · refine wg_s rfl rfl ?_
            refine wg_if rfl rfl (fun h56 => ?_) (fun h56 => ?_)
            · refine wg_s rfl rfl ?_
              refine wg_ret rfl rfl trivial ⟨?_, rfl⟩
              congr 2
              unfold m_jv
              first | (rw [if_pos (by omega)]; done) | (rw [if_neg (by omega), if_pos (by omega)]; done) | (rw [if_neg (by omega), if_neg (by omega)]; done)
            · refine wg_s rfl rfl ?_
              refine wg_s rfl rfl ?_
              refine wg_ret rfl rfl trivial ⟨?_, rfl⟩
              congr 2
              unfold m_jv
              first | (rw [if_pos (by omega)]; done) | (rw [if_neg (by omega), if_pos (by omega)]; done) | (rw [if_neg (by omega), if_neg (by omega)]; done)
        · refine wg_s rfl rfl ?_
          refine wg_s rfl rfl ?_
          refine wg_gi rfl rfl (show _ = ln from hln) ?_
          refine wg_if rfl rfl (fun h45 => ?_) (fun h45 => ?_)
          · refine wg_s rfl rfl ?_
            refine wg_if rfl rfl (fun h51 => ?_) (fun h51 => ?_)
            · refine wg_s rfl rfl ?_
              refine wg_ret rfl rfl trivial ⟨?_, rfl⟩
              congr 2
              unfold m_jv
              first | (rw [if_pos (by omega)]; done) | (rw [if_neg (by omega), if_pos (by omega)]; done) | (rw [if_neg (by omega), if_neg (by omega)]; done)
            · refine wg_s rfl rfl ?_
              refine wg_if rfl rfl (fun h56 => ?_) (fun h56 => ?_)
              · refine wg_s rfl rfl ?_
                refine wg_ret rfl rfl trivial ⟨?_, rfl⟩
                congr 2
                unfold m_jv
                first | (rw [if_pos (by omega)]; done) | (rw [if_neg (by omega), if_pos (by omega)]; done) | (rw [if_neg (by omega), if_neg (by omega)]; done)
              · refine wg_s rfl rfl ?_
                refine wg_s rfl rfl ?_
                refine wg_ret rfl rfl trivial ⟨?_, rfl⟩
                congr 2
                unfold m_jv
                first | (rw [if_pos (by omega)]; done) | (rw [if_neg (by omega), if_pos (by omega)]; done) | (rw [if_neg (by omega), if_neg (by omega)]; done)
          · refine wg_s rfl rfl ?_
            refine wg_ret rfl rfl trivial ⟨?_, rfl⟩
            congr 2
            unfold m_jv
            first | (rw [if_pos (by omega)]; done) | (rw [if_neg (by omega), if_pos (by omega)]; done) | (rw [if_neg (by omega), if_neg (by omega)]; done)
  have K1 : ∀ a : Int, ((0 ≤ u ∧ a = 1) ∨ (u < 0 ∧ a = 0)) → Wg d 68 μ 10 [(0, ab_r 8 (some t)), (1, ab_i u), (2, ab_i v)] [ab_i a] (fun vv μ' => vv = some (ab_i (m_jv u v lh ln)) ∧ μ' = μ) := by
    intro a ha
    refine wg_s rfl rfl ?_
    refine wg_s rfl rfl ?_
    refine wg_s rfl rfl ?_
    refine wg_if rfl rfl (fun h13 => ?_) (fun h13 => ?_)
    · refine wg_s rfl rfl ?_
      exact K2 _ _ ha (by omega)
    · refine wg_s rfl rfl ?_
      refine wg_s rfl rfl ?_
      exact K2 _ _ ha (by omega)
  refine wg_s rfl rfl ?_
  refine wg_s rfl rfl ?_
  refine wg_if rfl rfl (fun h2 => ?_) (fun h2 => ?_)
  · refine wg_s rfl rfl ?_
    exact K1 _ (by omega)
  · refine wg_s rfl rfl ?_
    refine wg_s rfl rfl ?_
    exact K1 _ (by omega)
