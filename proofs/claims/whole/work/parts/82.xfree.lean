/-! ===== the class: who is free ===== -/
theorem a_fl_PB {μ μ' : ab_M} (h : PB μ μ') {s z : Nat} {x : Int} (hs : 2 ≤ s ∧ s ≤ 19) : PB μ (a_fl μ' s x z) := ⟨h.1, fun t' n' k' q => by rw [a_fl_I, if_neg (by omega)]; exact h.2 t' n' k' q⟩
theorem lp_clear {d : Nat} {μ0 : ab_M} (hX0 : XF μ0) : ∀ (N i : Nat) (μ : ab_M), 6 - i < N → i ≤ 6 → PB μ0 μ → (ag_I μ 1 0 2 = 0 ∧ ag_I μ 1 0 3 = 0) → (∀ a b, a < i → b < 6 → ag_I μ 11 (4 + a) b = -1 ∧ ag_I μ 11 (10 + a) b = -1) → Wg (d + 1) 20 μ 12 [(0, ab_r 1 (some 0)), (1, ab_i (i : Int))] [] (fun vv μ' => vv = none ∧ PB μ0 μ' ∧ (ag_I μ' 1 0 2 = 0 ∧ ag_I μ' 1 0 3 = 0) ∧ ∀ i j, i < 6 → j < 6 → ag_I μ' 11 (4 + i) j = -1 ∧ ag_I μ' 11 (10 + i) j = -1)
  | 0, _, _, h, _, _, _, _ => by omega
  | N + 1, i, μ, h1, h2, hP, h23, hd => by
    have hX : XF μ := PB_XF hP hX0
    refine wg_s rfl rfl ?_
    refine wg_s rfl rfl ?_
    refine wg_if rfl rfl (fun h15 => ?_) (fun h15 => ?_)
    · exact wg_ret rfl rfl trivial ⟨rfl, hP, h23, fun a b ha hb => hd a b (by omega) hb⟩
    
    · refine wg_s rfl rfl ?_
      refine wg_gx rfl rfl hX ?_
      refine wg_s rfl rfl ?_
      refine wg_aa rfl rfl (xf_l hX rfl) (by omega) (by omega) (show _ = some (4 + i) from (hX.2.2.1 i (by omega)).1) ?_
      refine wg_s rfl rfl ?_
      refine wg_cv rfl rfl (sp_fill _ _ (4 + i) 6 (-1) (hX.2.1 11 (4 + i) 6 (hx_r i (by omega)).1) (by omega)) ?_
      refine wg_s rfl rfl ?_
      refine wg_gx rfl rfl (show XF (a_fl μ (4 + i) (-1) 6) from hX) ?_
      refine wg_s rfl rfl ?_
      refine wg_aa rfl rfl (xf_l hX rfl) (by omega) (by omega) (show _ = some (10 + i) from (hX.2.2.1 i (by omega)).2) ?_
      refine wg_s rfl rfl ?_
      refine wg_cv rfl rfl (sp_fill _ _ (10 + i) 6 (-1) (hX.2.1 11 (10 + i) 6 (hx_r i (by omega)).2) (by omega)) ?_
      refine wg_iinc rfl rfl rfl (by omega) (by omega) rfl ?_
      refine wg_s rfl rfl ?_
      have hside : ∀ a b, a < i + 1 → b < 6 → ag_I (a_fl (a_fl μ (4 + i) (-1) 6) (10 + i) (-1) 6) 11 (4 + a) b = -1 ∧ ag_I (a_fl (a_fl μ (4 + i) (-1) 6) (10 + i) (-1) 6) 11 (10 + a) b = -1 := by
        intro a b ha hb
        rw [a_fl_I, a_fl_I, a_fl_I, a_fl_I]
        by_cases e : a = i
        · subst e
          rw [if_neg (by omega), if_pos ⟨rfl, rfl, hb⟩, if_pos ⟨rfl, rfl, hb⟩]; exact ⟨rfl, rfl⟩
        · rw [if_neg (by omega), if_neg (by omega), if_neg (by omega), if_neg (by omega)]; exact hd a b (by omega) hb
      have hrec := lp_clear (d := d) hX0 N (i + 1) (a_fl (a_fl μ (4 + i) (-1) 6) (10 + i) (-1) 6) (by omega) (by omega) (a_fl_PB (a_fl_PB hP (by omega)) (by omega)) ⟨by rw [a_fl_I, if_neg (by omega), a_fl_I, if_neg (by omega)]; exact h23.1, by rw [a_fl_I, if_neg (by omega), a_fl_I, if_neg (by omega)]; exact h23.2⟩ hside
      rw [show ((i + 1 : Nat) : Int) = (i : Int) + 1 by omega] at hrec
      exact hrec
theorem sp_clear (d : Nat) {μ : ab_M} (hX : XF μ) : Wp (d + 2) 20 [ab_r 1 (some 0)] μ (fun vv μ' => vv = none ∧ PB μ μ' ∧ (ag_I μ' 1 0 2 = 0 ∧ ag_I μ' 1 0 3 = 0) ∧ ∀ i j, i < 6 → j < 6 → ag_I μ' 11 (4 + i) j = -1 ∧ ag_I μ' 11 (10 + i) j = -1) := by
  refine wp_of ?_
  refine wg_s rfl rfl ?_
  refine wg_s rfl rfl ?_
  refine wg_s rfl rfl ?_
  refine wg_s rfl rfl ?_
  refine wg_s rfl rfl ?_
  refine wg_s rfl rfl ?_
  refine wg_s rfl rfl ?_
  refine wg_s rfl rfl ?_
  exact lp_clear hX 7 0 _ (by omega) (by omega) (PB_set (PB_set (PB_refl _) (by omega)) (by omega)) ⟨(ag_I_n (by omega)).trans (ag_I_y _ _ _ _ _), ag_I_y _ _ _ _ _⟩ (fun a b ha hb => by omega)
theorem sp_addHome (d c : Nat) (x : Int) {μ : ab_M} (hX : XF μ) (hc : ag_I μ 1 0 2 = (c : Int)) (hc6 : c ≤ 6) : Wp (d + 1) 21 [ab_r 1 (some 0), ab_i x] μ (fun vv μ' => vv = some (ab_i (bI (c < 6))) ∧ μ' = if c < 6 then as_I (as_I μ 11 2 c x) 1 0 2 ((c : Int) + 1) else μ) := by
  refine wp_of ?_
  refine wg_s rfl rfl ?_
  refine wg_gi rfl rfl (show _ = (c : Int) from hc) ?_
  refine wg_s rfl rfl ?_
  refine wg_if rfl rfl (fun h6 => ?_) (fun h6 => ?_)
  · refine wg_s rfl rfl ?_
    refine wg_gx rfl rfl hX ?_
    refine wg_s rfl rfl ?_
    refine wg_gi rfl rfl (show _ = (c : Int) from hc) ?_
    refine wg_s rfl rfl ?_
    refine wg_axs rfl (xf_l hX rfl) (by omega) (by omega) ?_
    refine wg_s rfl rfl ?_
    refine wg_s rfl rfl ?_
    refine wg_gi rfl rfl (show _ = (c : Int) from (ag_I_n (by omega)).trans hc) ?_
    refine wg_s rfl rfl ?_
    refine wg_iadd rfl (by omega) (by omega) ?_
    refine wg_s rfl rfl ?_
    refine wg_s rfl rfl ?_
    exact wg_ret rfl rfl (by first | exact Or.inl rfl | exact Or.inr rfl) ⟨by first | rw [bI_t (by omega)] | rw [bI_f (by omega)], by first | rw [if_pos (by omega)]; rfl | rw [if_neg (by omega)]⟩
  · refine wg_s rfl rfl ?_
    exact wg_ret rfl rfl (by first | exact Or.inl rfl | exact Or.inr rfl) ⟨by first | rw [bI_t (by omega)] | rw [bI_f (by omega)], by first | rw [if_pos (by omega)]; rfl | rw [if_neg (by omega)]⟩
theorem sp_addHelper (d c : Nat) (x : Int) {μ : ab_M} (hX : XF μ) (hc : ag_I μ 1 0 3 = (c : Int)) (hc6 : c ≤ 6) : Wp (d + 1) 22 [ab_r 1 (some 0), ab_i x] μ (fun vv μ' => vv = some (ab_i (bI (c < 6))) ∧ μ' = if c < 6 then as_I (as_I μ 11 3 c x) 1 0 3 ((c : Int) + 1) else μ) := by
  refine wp_of ?_
  refine wg_s rfl rfl ?_
  refine wg_gi rfl rfl (show _ = (c : Int) from hc) ?_
  refine wg_s rfl rfl ?_
  refine wg_if rfl rfl (fun h6 => ?_) (fun h6 => ?_)
  · refine wg_s rfl rfl ?_
    refine wg_gx rfl rfl hX ?_
    refine wg_s rfl rfl ?_
    refine wg_gi rfl rfl (show _ = (c : Int) from hc) ?_
    refine wg_s rfl rfl ?_
    refine wg_axs rfl (xf_l hX rfl) (by omega) (by omega) ?_
    refine wg_s rfl rfl ?_
    refine wg_s rfl rfl ?_
    refine wg_gi rfl rfl (show _ = (c : Int) from (ag_I_n (by omega)).trans hc) ?_
    refine wg_s rfl rfl ?_
    refine wg_iadd rfl (by omega) (by omega) ?_
    refine wg_s rfl rfl ?_
    refine wg_s rfl rfl ?_
    exact wg_ret rfl rfl (by first | exact Or.inl rfl | exact Or.inr rfl) ⟨by first | rw [bI_t (by omega)] | rw [bI_f (by omega)], by first | rw [if_pos (by omega)]; rfl | rw [if_neg (by omega)]⟩
  · refine wg_s rfl rfl ?_
    exact wg_ret rfl rfl (by first | exact Or.inl rfl | exact Or.inr rfl) ⟨by first | rw [bI_t (by omega)] | rw [bI_f (by omega)], by first | rw [if_pos (by omega)]; rfl | rw [if_neg (by omega)]⟩
theorem sp_nh (d : Nat) (x : Int) {μ : ab_M} (hc : ag_I μ 1 0 2 = x) : Wp (d + 1) 23 [ab_r 1 (some 0)] μ (fun vv μ' => vv = some (ab_i x) ∧ μ' = μ) := by
  refine wp_of ?_
  refine wg_s rfl rfl ?_
  refine wg_gi rfl rfl (show _ = x from hc) ?_
  exact wg_ret rfl rfl trivial ⟨rfl, rfl⟩
theorem sp_np (d : Nat) (x : Int) {μ : ab_M} (hc : ag_I μ 1 0 3 = x) : Wp (d + 1) 24 [ab_r 1 (some 0)] μ (fun vv μ' => vv = some (ab_i x) ∧ μ' = μ) := by
  refine wp_of ?_
  refine wg_s rfl rfl ?_
  refine wg_gi rfl rfl (show _ = x from hc) ?_
  exact wg_ret rfl rfl trivial ⟨rfl, rfl⟩
theorem sp_lim (d : Nat) (x : Int) {μ : ab_M} (hc : ag_I μ 1 0 11 = x) : Wp (d + 1) 28 [ab_r 1 (some 0)] μ (fun vv μ' => vv = some (ab_i x) ∧ μ' = μ) := by
  refine wp_of ?_
  refine wg_s rfl rfl ?_
  refine wg_gi rfl rfl (show _ = x from hc) ?_
  exact wg_ret rfl rfl trivial ⟨rfl, rfl⟩
theorem sp_blk (d : Nat) (x : Int) {μ : ab_M} (hc : ag_I μ 1 0 10 = x) : Wp (d + 1) 29 [ab_r 1 (some 0)] μ (fun vv μ' => vv = some (ab_i x) ∧ μ' = μ) := by
  refine wp_of ?_
  refine wg_s rfl rfl ?_
  refine wg_gi rfl rfl (show _ = x from hc) ?_
  exact wg_ret rfl rfl trivial ⟨rfl, rfl⟩
theorem sp_homeIn (d c : Nat) (i : Int) {μ : ab_M} (hX : XF μ) (hc : ag_I μ 1 0 2 = (c : Int)) (hc6 : c ≤ 6) : Wp (d + 1) 25 [ab_r 1 (some 0), ab_i i] μ (fun vv μ' => vv = some (ab_i (if 0 ≤ i ∧ i < (c : Int) then ag_I μ 11 2 i.toNat else -1)) ∧ μ' = μ) := by
  refine wp_of ?_
  refine wg_s rfl rfl ?_
  refine wg_if rfl rfl (fun h1 => ?_) (fun h1 => ?_)
  · refine wg_s rfl rfl ?_
    refine wg_ret rfl rfl trivial ⟨?_, rfl⟩
    first | rw [if_pos (by omega)] | rw [if_neg (by omega)]
  · refine wg_s rfl rfl ?_
    refine wg_s rfl rfl ?_
    refine wg_gi rfl rfl (show _ = (c : Int) from hc) ?_
    refine wg_if rfl rfl (fun h9 => ?_) (fun h9 => ?_)
    · refine wg_s rfl rfl ?_
      refine wg_ret rfl rfl trivial ⟨?_, rfl⟩
      first | rw [if_pos (by omega)] | rw [if_neg (by omega)]
    · refine wg_s rfl rfl ?_
      refine wg_gx rfl rfl hX ?_
      refine wg_s rfl rfl ?_
      refine wg_ax rfl (xf_l hX rfl) (by omega) (by omega) rfl ?_
      refine wg_s rfl rfl ?_
      refine wg_ret rfl rfl trivial ⟨?_, rfl⟩
      first | rw [if_pos (by omega)] | rw [if_neg (by omega)]
theorem sp_helperIn (d c : Nat) (i : Int) {μ : ab_M} (hX : XF μ) (hc : ag_I μ 1 0 3 = (c : Int)) (hc6 : c ≤ 6) : Wp (d + 1) 26 [ab_r 1 (some 0), ab_i i] μ (fun vv μ' => vv = some (ab_i (if 0 ≤ i ∧ i < (c : Int) then ag_I μ 11 3 i.toNat else -1)) ∧ μ' = μ) := by
  refine wp_of ?_
  refine wg_s rfl rfl ?_
  refine wg_if rfl rfl (fun h1 => ?_) (fun h1 => ?_)
  · refine wg_s rfl rfl ?_
    refine wg_ret rfl rfl trivial ⟨?_, rfl⟩
    first | rw [if_pos (by omega)] | rw [if_neg (by omega)]
  · refine wg_s rfl rfl ?_
    refine wg_s rfl rfl ?_
    refine wg_gi rfl rfl (show _ = (c : Int) from hc) ?_
    refine wg_if rfl rfl (fun h9 => ?_) (fun h9 => ?_)
    · refine wg_s rfl rfl ?_
      refine wg_ret rfl rfl trivial ⟨?_, rfl⟩
      first | rw [if_pos (by omega)] | rw [if_neg (by omega)]
    · refine wg_s rfl rfl ?_
      refine wg_gx rfl rfl hX ?_
      refine wg_s rfl rfl ?_
      refine wg_ax rfl (xf_l hX rfl) (by omega) (by omega) rfl ?_
      refine wg_s rfl rfl ?_
      refine wg_ret rfl rfl trivial ⟨?_, rfl⟩
      first | rw [if_pos (by omega)] | rw [if_neg (by omega)]
theorem sp_allow (d n m i j : Nat) (a b : Int) {μ : ab_M} (hX : XF μ) (hn : ag_I μ 1 0 2 = (n : Int)) (hm : ag_I μ 1 0 3 = (m : Int)) (hi : i < n) (hj : j < m) (hn6 : n ≤ 6) (hm6 : m ≤ 6) : Wp (d + 1) 27 [ab_r 1 (some 0), ab_i (i : Int), ab_i (j : Int), ab_i a, ab_i b] μ (fun vv μ' => vv = none ∧ μ' = as_I (as_I μ 11 (4 + i) j a) 11 (10 + i) j b) := by
  refine wp_of ?_
  refine wg_s rfl rfl ?_
  refine wg_s rfl rfl ?_
  refine wg_at (pc2 := 4) (show (if (i : Int) < 0 then 43 else 4) = 4 from if_neg (by omega)) ?_
  refine wg_s rfl rfl ?_
  refine wg_s rfl rfl ?_
  refine wg_gi rfl rfl (show _ = (n : Int) from hn) ?_
  refine wg_if rfl rfl (fun h9 => absurd h9 (by omega)) (fun h9 => ?_)
  refine wg_s rfl rfl ?_
  refine wg_s rfl rfl ?_
  refine wg_at (pc2 := 16) (show (if (j : Int) < 0 then 43 else 16) = 16 from if_neg (by omega)) ?_
  refine wg_s rfl rfl ?_
  refine wg_s rfl rfl ?_
  refine wg_gi rfl rfl (show _ = (m : Int) from hm) ?_
  refine wg_if rfl rfl (fun h21 => absurd h21 (by omega)) (fun h21 => ?_)
  refine wg_s rfl rfl ?_
  refine wg_gx rfl rfl hX ?_
  refine wg_s rfl rfl ?_
  refine wg_aa rfl rfl (xf_l hX rfl) (by omega) (by omega) (show _ = some (4 + i) from (hX.2.2.1 i (by omega)).1) ?_
  refine wg_s rfl rfl ?_
  refine wg_s rfl rfl ?_
  refine wg_axs rfl (hX.2.1 11 (4 + i) 6 (hx_r i (by omega)).1) (by omega) (by omega) ?_
  refine wg_s rfl rfl ?_
  refine wg_gx rfl rfl (show XF (as_I μ 11 (4 + i) j a) from hX) ?_
  refine wg_s rfl rfl ?_
  refine wg_aa rfl rfl (xf_l hX rfl) (by omega) (by omega) (show _ = some (10 + i) from (hX.2.2.1 i (by omega)).2) ?_
  refine wg_s rfl rfl ?_
  refine wg_s rfl rfl ?_
  refine wg_axs rfl (hX.2.1 11 (10 + i) 6 (hx_r i (by omega)).2) (by omega) (by omega) ?_
  exact wg_ret rfl rfl trivial ⟨rfl, rfl⟩
