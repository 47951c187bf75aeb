/-! ===== the class: its search, the questions ===== -/
def BP (μ : ab_M) (n m : Nat) (ok : Nat → Nat → Bool) (lk ld : Nat → Nat → Int) : Prop := XF μ ∧ (n ≤ 6 ∧ m ≤ 6) ∧ (ag_I μ 1 0 2 = (n : Int) ∧ ag_I μ 1 0 3 = (m : Int)) ∧ (∀ i j, i < n → j < m → ag_I μ 11 (4 + i) j = (if ok i j = true then lk i j else -1) ∧ ag_I μ 11 (10 + i) j = (if ok i j = true then ld i j else -1)) ∧ ∀ i j, i < n → j < m → (0 ≤ lk i j ∧ lk i j ≤ 99) ∧ (0 ≤ ld i j ∧ ld i j ≤ 99)
theorem hx_r : ∀ i, i < 6 → xs_l 11 (4 + i) = some 6 ∧ xs_l 11 (10 + i) = some 6 := by decide
def WA (μ : ab_M) (m : Nat) (ok : Nat → Nat → Bool) (A : Nat → Int) (q : Nat) : Prop := (∀ k, k < q → ag_I μ 11 17 k = A k) ∧ (∀ j, j < m → ag_I μ 11 18 j = gi A j q) ∧ val m ok A q
theorem gi_ok {m : Nat} {ok : Nat → Nat → Bool} {A : Nat → Int} {j : Nat} : ∀ {q : Nat}, val m ok A q → 0 ≤ gi A j q → A (gi A j q).toNat = (j : Int) ∧ ok (gi A j q).toNat j = true
  | 0, _, h => by simp [gi] at h
  | q + 1, hv, h => by
    unfold gi at h ⊢
    by_cases e : A q = (j : Int)
    · rw [if_pos e]
      refine ⟨e, ?_⟩
      rcases hv q (by omega) with w | ⟨_, w, _⟩
      · omega
      · rw [show (A q).toNat = j by omega] at w; exact w
    · rw [if_neg e] at h ⊢
      exact gi_ok (val_le hv (by omega)) h
theorem sp_can (d : Nat) {μ : ab_M} {n m : Nat} {ok : Nat → Nat → Bool} {lk ld : Nat → Nat → Int} (hB : BP μ n m ok lk ld) (i j : Nat) (hi : i < n) (hj : j < m) : Wp (d + 1) 40 [ab_r 1 (some 0), ab_i (i : Int), ab_i (j : Int)] μ (fun vv μ' => vv = some (ab_i (bI (ok i j = true))) ∧ μ' = μ) := by
  refine wp_of ?_
  obtain ⟨hX, ⟨hn6, hm6⟩, ⟨hn, hm⟩, hlk, hbd⟩ := id hB
  refine wg_s rfl rfl ?_
  refine wg_gx rfl rfl hX ?_
  refine wg_s rfl rfl ?_
  refine wg_aa rfl rfl (xf_l hX rfl) (by omega) (by omega) (show _ = some (4 + i) from (hX.2.2.1 i (by omega)).1) ?_
  refine wg_s rfl rfl ?_
  refine wg_ax rfl (hX.2.1 11 (4 + i) 6 (hx_r i (by omega)).1) (by omega) (by omega) (show _ = (if ok i j = true then lk i j else -1) from (hlk i j (by omega) (by omega)).1) ?_
  refine wg_s rfl rfl ?_
  refine wg_if rfl rfl (fun h9 => ?_) (fun h9 => ?_)
  · refine wg_s rfl rfl ?_
    refine wg_ret rfl rfl (by first | exact Or.inl rfl | exact Or.inr rfl) ⟨?_, rfl⟩
    have hb := (hbd i j hi hj).1
    by_cases c : ok i j = true
    · rw [if_pos c] at h9; first | (exfalso; omega) | rw [bI_t c]
    · rw [if_neg c] at h9; first | (exfalso; omega) | rw [bI_f c]
  · refine wg_s rfl rfl ?_
    refine wg_s rfl rfl ?_
    refine wg_ret rfl rfl (by first | exact Or.inl rfl | exact Or.inr rfl) ⟨?_, rfl⟩
    have hb := (hbd i j hi hj).1
    by_cases c : ok i j = true
    · rw [if_pos c] at h9; first | (exfalso; omega) | rw [bI_t c]
    · rw [if_neg c] at h9; first | (exfalso; omega) | rw [bI_f c]
theorem sp_both (d : Nat) {μ : ab_M} {n m : Nat} {ok : Nat → Nat → Bool} {lk ld : Nat → Nat → Int} (hB : BP μ n m ok lk ld) (i j : Nat) (hi : i < n) (hj : j < m) (ho : ok i j = true) : Wp (d + 1) 41 [ab_r 1 (some 0), ab_i (i : Int), ab_i (j : Int)] μ (fun vv μ' => vv = some (ab_i (lk i j + ld i j)) ∧ μ' = μ) := by
  refine wp_of ?_
  obtain ⟨hX, ⟨hn6, hm6⟩, ⟨hn, hm⟩, hlk, hbd⟩ := id hB
  have hb := hbd i j hi hj
  refine wg_s rfl rfl ?_
  refine wg_gx rfl rfl hX ?_
  refine wg_s rfl rfl ?_
  refine wg_aa rfl rfl (xf_l hX rfl) (by omega) (by omega) (show _ = some (4 + i) from (hX.2.2.1 i (by omega)).1) ?_
  refine wg_s rfl rfl ?_
  refine wg_ax rfl (hX.2.1 11 (4 + i) 6 (hx_r i (by omega)).1) (by omega) (by omega) (show _ = lk i j from (hlk i j (by omega) (by omega)).1.trans (if_pos ho)) ?_
  refine wg_s rfl rfl ?_
  refine wg_gx rfl rfl hX ?_
  refine wg_s rfl rfl ?_
  refine wg_aa rfl rfl (xf_l hX rfl) (by omega) (by omega) (show _ = some (10 + i) from (hX.2.2.1 i (by omega)).2) ?_
  refine wg_s rfl rfl ?_
  refine wg_ax rfl (hX.2.1 11 (10 + i) 6 (hx_r i (by omega)).2) (by omega) (by omega) (show _ = ld i j from (hlk i j (by omega) (by omega)).2.trans (if_pos ho)) ?_
  refine wg_iadd rfl (by omega) (by omega) ?_
  exact wg_ret rfl rfl trivial ⟨rfl, rfl⟩
theorem sp_hLeave (d : Nat) {μ : ab_M} {n m : Nat} {ok : Nat → Nat → Bool} {lk ld : Nat → Nat → Int} (hB : BP μ n m ok lk ld) (i j : Nat) (hi : i < n) (hj : j < m) (ho : ok i j = true) (a : Int) (ha : ag_I μ 11 17 i = a) (hav : a = -1 ∨ ((0 ≤ a ∧ a < (m : Int)) ∧ ok i a.toNat = true)) : Wp (d + 1) 38 [ab_r 1 (some 0), ab_i (i : Int), ab_i (j : Int)] μ (fun vv μ' => vv = some (ab_i (bI (a < 0 ∨ lk i a.toNat < lk i j))) ∧ μ' = μ) := by
  refine wp_of ?_
  obtain ⟨hX, ⟨hn6, hm6⟩, ⟨hn, hm⟩, hlk, hbd⟩ := id hB
  refine wg_s rfl rfl ?_
  refine wg_gx rfl rfl hX ?_
  refine wg_s rfl rfl ?_
  refine wg_ax rfl (xf_l hX rfl) (by omega) (by omega) (show _ = a from ha) ?_
  refine wg_s rfl rfl ?_
  refine wg_s rfl rfl ?_
  refine wg_s rfl rfl ?_
  refine wg_if rfl rfl (fun h9 => ?_) (fun h9 => ?_)
  · refine wg_s rfl rfl ?_
    refine wg_s rfl rfl ?_
    refine wg_ret rfl rfl (by first | exact Or.inl rfl | exact Or.inr rfl) ⟨?_, rfl⟩
    first | rw [bI_t (by omega)] | rw [bI_f (by omega)]
  · have hav : (0 ≤ a ∧ a < (m : Int)) ∧ ok i a.toNat = true := by rcases hav with q | q; exact absurd q h9; exact q
    refine wg_s rfl rfl ?_
    refine wg_gx rfl rfl hX ?_
    refine wg_s rfl rfl ?_
    refine wg_aa rfl rfl (xf_l hX rfl) (by omega) (by omega) (show _ = some (4 + i) from (hX.2.2.1 i (by omega)).1) ?_
    refine wg_s rfl rfl ?_
    refine wg_ax rfl (hX.2.1 11 (4 + i) 6 (hx_r i (by omega)).1) (by omega) (by omega) (show _ = lk i j from (hlk i j (by omega) (by omega)).1.trans (if_pos ho)) ?_
    refine wg_s rfl rfl ?_
    refine wg_gx rfl rfl hX ?_
    refine wg_s rfl rfl ?_
    refine wg_aa rfl rfl (xf_l hX rfl) (by omega) (by omega) (show _ = some (4 + i) from (hX.2.2.1 i (by omega)).1) ?_
    refine wg_s rfl rfl ?_
    refine wg_ax rfl (hX.2.1 11 (4 + i) 6 (hx_r i (by omega)).1) (by omega) (by omega) (show _ = lk i a.toNat from (hlk i a.toNat (by omega) (by omega)).1.trans (if_pos hav.2)) ?_
    refine wg_if rfl rfl (fun h28 => ?_) (fun h28 => ?_)
    · refine wg_s rfl rfl ?_
      refine wg_ret rfl rfl (by first | exact Or.inl rfl | exact Or.inr rfl) ⟨?_, rfl⟩
      first | rw [bI_t (by omega)] | rw [bI_f (by omega)]
    · refine wg_s rfl rfl ?_
      refine wg_s rfl rfl ?_
      refine wg_ret rfl rfl (by first | exact Or.inl rfl | exact Or.inr rfl) ⟨?_, rfl⟩
      first | rw [bI_t (by omega)] | rw [bI_f (by omega)]
theorem sp_pLeave (d : Nat) {μ : ab_M} {n m : Nat} {ok : Nat → Nat → Bool} {lk ld : Nat → Nat → Int} (hB : BP μ n m ok lk ld) (i j : Nat) (hi : i < n) (hj : j < m) (ho : ok i j = true) (a : Int) (ha : ag_I μ 11 18 j = a) (hav : a = -1 ∨ ((0 ≤ a ∧ a < (n : Int)) ∧ ok a.toNat j = true)) : Wp (d + 1) 39 [ab_r 1 (some 0), ab_i (j : Int), ab_i (i : Int)] μ (fun vv μ' => vv = some (ab_i (bI (a < 0 ∨ ld a.toNat j < ld i j))) ∧ μ' = μ) := by
  refine wp_of ?_
  obtain ⟨hX, ⟨hn6, hm6⟩, ⟨hn, hm⟩, hlk, hbd⟩ := id hB
  refine wg_s rfl rfl ?_
  refine wg_gx rfl rfl hX ?_
  refine wg_s rfl rfl ?_
  refine wg_ax rfl (xf_l hX rfl) (by omega) (by omega) (show _ = a from ha) ?_
  refine wg_s rfl rfl ?_
  refine wg_s rfl rfl ?_
  refine wg_s rfl rfl ?_
  refine wg_if rfl rfl (fun h9 => ?_) (fun h9 => ?_)
  · refine wg_s rfl rfl ?_
    refine wg_s rfl rfl ?_
    refine wg_ret rfl rfl (by first | exact Or.inl rfl | exact Or.inr rfl) ⟨?_, rfl⟩
    first | rw [bI_t (by omega)] | rw [bI_f (by omega)]
  · have hav : (0 ≤ a ∧ a < (n : Int)) ∧ ok a.toNat j = true := by rcases hav with q | q; exact absurd q h9; exact q
    refine wg_s rfl rfl ?_
    refine wg_gx rfl rfl hX ?_
    refine wg_s rfl rfl ?_
    refine wg_aa rfl rfl (xf_l hX rfl) (by omega) (by omega) (show _ = some (10 + i) from (hX.2.2.1 i (by omega)).2) ?_
    refine wg_s rfl rfl ?_
    refine wg_ax rfl (hX.2.1 11 (10 + i) 6 (hx_r i (by omega)).2) (by omega) (by omega) (show _ = ld i j from (hlk i j (by omega) (by omega)).2.trans (if_pos ho)) ?_
    refine wg_s rfl rfl ?_
    refine wg_gx rfl rfl hX ?_
    refine wg_s rfl rfl ?_
    refine wg_aa rfl rfl (xf_l hX rfl) (by omega) (by omega) (show _ = some (10 + a.toNat) from (hX.2.2.1 a.toNat (by omega)).2) ?_
    refine wg_s rfl rfl ?_
    refine wg_ax rfl (hX.2.1 11 (10 + a.toNat) 6 (hx_r a.toNat (by omega)).2) (by omega) (by omega) (show _ = ld a.toNat j from (hlk a.toNat j (by omega) (by omega)).2.trans (if_pos hav.2)) ?_
    refine wg_if rfl rfl (fun h28 => ?_) (fun h28 => ?_)
    · refine wg_s rfl rfl ?_
      refine wg_ret rfl rfl (by first | exact Or.inl rfl | exact Or.inr rfl) ⟨?_, rfl⟩
      first | rw [bI_t (by omega)] | rw [bI_f (by omega)]
    · refine wg_s rfl rfl ?_
      refine wg_s rfl rfl ?_
      refine wg_ret rfl rfl (by first | exact Or.inl rfl | exact Or.inr rfl) ⟨?_, rfl⟩
      first | rw [bI_t (by omega)] | rw [bI_f (by omega)]
theorem sp_isRun (d : Nat) {μ : ab_M} {n m : Nat} {ok : Nat → Nat → Bool} {lk ld : Nat → Nat → Int} (hB : BP μ n m ok lk ld) {A : Nat → Int} {q : Nat} (hW : WA μ m ok A q) (hqn : q ≤ n) (i j : Nat) (hiq : i < q) (hi : i < n) (hj : j < m) : Wp (d + 2) 37 [ab_r 1 (some 0), ab_i (i : Int), ab_i (j : Int)] μ (fun vv μ' => vv = some (ab_i (bI (pr_ru q ok lk ld A i j = true))) ∧ μ' = μ) := by
  refine wp_of ?_
  obtain ⟨hX, ⟨hn6, hm6⟩, ⟨hn, hm⟩, hlk, hbd⟩ := id hB
  have hAi := hW.1 i hiq
  have hvi := (hW.2.2 i hiq).imp id (fun w => (⟨w.1, w.2.1⟩ : (0 ≤ A i ∧ A i < (m : Int)) ∧ ok i (A i).toNat = true))
  have hgr := gi_rng A j q
  have hvj : gi A j q = -1 ∨ ((0 ≤ gi A j q ∧ gi A j q < (n : Int)) ∧ ok (gi A j q).toNat j = true) := by
    by_cases c : gi A j q = -1
    · exact Or.inl c
    · exact Or.inr ⟨by omega, (gi_ok hW.2.2 (by omega)).2⟩
  refine wg_s rfl rfl ?_
  refine wg_s rfl rfl ?_
  refine wg_s rfl rfl ?_
  refine wg_cf rfl rfl (sp_can _ hB i j hi hj) ?_
  refine wg_eqb rfl (fun h6 => ?_) (fun h6 => ?_)
  · refine wg_s rfl rfl ?_
    refine wg_ret rfl rfl (by first | exact Or.inl rfl | exact Or.inr rfl) ⟨?_, rfl⟩
    rw [bI_f (fun w => ?_)]
    unfold pr_ru at w
    rw [Bool.and_eq_true, decide_eq_true_eq] at w
    exact h6 w.1
  · refine wg_s rfl rfl ?_
    refine wg_gx rfl rfl hX ?_
    refine wg_s rfl rfl ?_
    refine wg_ax rfl (xf_l hX rfl) (by omega) (by omega) (show _ = A i from hAi) ?_
    refine wg_s rfl rfl ?_
    refine wg_if rfl rfl (fun h16 => ?_) (fun h16 => ?_)
    · refine wg_s rfl rfl ?_
      refine wg_ret rfl rfl (by first | exact Or.inl rfl | exact Or.inr rfl) ⟨?_, rfl⟩
      rw [bI_f (fun w => ?_)]
      unfold pr_ru at w
      rw [Bool.and_eq_true, decide_eq_true_eq] at w
      exact w.2.1 h16
    · refine wg_s rfl rfl ?_
      refine wg_s rfl rfl ?_
      refine wg_s rfl rfl ?_
      refine wg_cf rfl rfl (sp_hLeave _ hB i j hi hj h6 (A i) hAi hvi) ?_
      refine wg_eqb rfl (fun h25 => ?_) (fun h25 => ?_)
      · refine wg_s rfl rfl ?_
        refine wg_ret rfl rfl (by first | exact Or.inl rfl | exact Or.inr rfl) ⟨?_, rfl⟩
        rw [bI_f (fun w => ?_)]
        unfold pr_ru at w
        rw [Bool.and_eq_true, decide_eq_true_eq] at w
        exact h25 w.2.2.1
      · refine wg_s rfl rfl ?_
        refine wg_s rfl rfl ?_
        refine wg_s rfl rfl ?_
        refine wg_cf rfl rfl (sp_pLeave _ hB i j hi hj h6 (gi A j q) (hW.2.1 j hj) hvj) ?_
        refine wg_eqb rfl (fun h34 => ?_) (fun h34 => ?_)
        · refine wg_s rfl rfl ?_
          refine wg_ret rfl rfl (by first | exact Or.inl rfl | exact Or.inr rfl) ⟨?_, rfl⟩
          rw [bI_f (fun w => ?_)]
          unfold pr_ru at w
          rw [Bool.and_eq_true, decide_eq_true_eq] at w
          exact h34 w.2.2.2
        · refine wg_s rfl rfl ?_
          refine wg_s rfl rfl ?_
          refine wg_ret rfl rfl (by first | exact Or.inl rfl | exact Or.inr rfl) ⟨?_, rfl⟩
          rw [bI_t (show pr_ru q ok lk ld A i j = true from ?_)]
          unfold pr_ru
          rw [Bool.and_eq_true, decide_eq_true_eq]
          exact ⟨h6, h16, h25, h34⟩
