/-! ===== the class: words, numbers, clauses ===== -/
theorem sp_spelling (d w : Nat) (μ : ab_M) (hw : w < 4) : Wp (d + 1) 3 [ab_i (w : Int)] μ (fun vv μ' => vv = some (ab_r 21 (some w)) ∧ μ' = μ) := by
  refine wp_of ?_
  rcases (show w = 0 ∨ w = 1 ∨ w = 2 ∨ w = 3 by omega) with rfl | rfl | rfl | rfl
  · refine wg_s rfl rfl ?_
    refine wg_s rfl rfl ?_
    refine wg_at (pc2 := 32) (by decide) ?_
    refine wg_s rfl rfl ?_
    exact wg_ret rfl rfl trivial ⟨rfl, rfl⟩
  · refine wg_s rfl rfl ?_
    refine wg_s rfl rfl ?_
    refine wg_at (pc2 := 35) (by decide) ?_
    refine wg_s rfl rfl ?_
    exact wg_ret rfl rfl trivial ⟨rfl, rfl⟩
  · refine wg_s rfl rfl ?_
    refine wg_s rfl rfl ?_
    refine wg_at (pc2 := 38) (by decide) ?_
    refine wg_s rfl rfl ?_
    exact wg_ret rfl rfl trivial ⟨rfl, rfl⟩
  · refine wg_s rfl rfl ?_
    refine wg_s rfl rfl ?_
    refine wg_at (pc2 := 41) (by decide) ?_
    refine wg_s rfl rfl ?_
    exact wg_ret rfl rfl trivial ⟨rfl, rfl⟩
theorem lp_spell {d : Nat} {μ : ab_M} {l : Nat} {U : Nat → Int} (hR : RS μ l U) (s e w : Nat) (hw : w < 4) (h6 : ag_I μ 0 0 6 = (s : Int)) (h7 : ag_I μ 0 0 7 = (e : Int)) (hse : s ≤ e) (hel : e ≤ l) (hlen : e - s = ab_bl.getD w 0) : ∀ (N i : Nat), ab_bl.getD w 0 - i < N → i ≤ ab_bl.getD w 0 → (∀ k, k < i → U (s + k) = (ab_bt.getD w []).getD k 0) → Wg (d + 4) 15 μ 20 [(0, ab_r 0 (some 0)), (1, ab_r 7 (some 0)), (2, ab_r 21 (some w)), (3, ab_i (i : Int))] [] (fun vv μ' => vv = some (ab_i (bI (sp_w U s e w = true))) ∧ μ' = μ)
  | 0, _, h, _, _ => by omega
  | N + 1, i, h1, h2, ha => by
    obtain ⟨hX, hS, hl, hl2, hU⟩ := id hR
    refine wg_s rfl rfl ?_
    refine wg_s rfl rfl ?_
    refine wg_cf rfl rfl (sp_slen _ hX hS w hw) ?_
    refine wg_if rfl rfl (fun h25 => ?_) (fun h25 => ?_)
    · refine wg_s rfl rfl ?_
      refine wg_ret rfl rfl (Or.inr rfl) ⟨?_, rfl⟩
      rw [bI_t (spw_i.mpr ⟨by omega, fun k hk => ha k (by omega)⟩)]
    · refine wg_s rfl rfl ?_
      refine wg_s rfl rfl ?_
      refine wg_gi rfl rfl (show _ = (s : Int) from h6) ?_
      refine wg_s rfl rfl ?_
      refine wg_iadd rfl (by omega) (by omega) ?_
      refine wg_cf2 rfl rfl (sp_byteAt _ _ hR) (show _ = ab_i (U (s + i)) from congrArg ab_i ((if_pos (by omega)).trans (congrArg U (by omega)))) ?_
      refine wg_s rfl rfl ?_
      refine wg_s rfl rfl ?_
      refine wg_cf rfl rfl (sp_charAt _ hX hS w hw i (by omega)) ?_
      refine wg_if rfl rfl (fun h43 => ?_) (fun h43 => ?_)
      · refine wg_iinc rfl rfl rfl (by omega) (by omega) rfl ?_
        refine wg_s rfl rfl ?_
        refine lp_spell hR s e w hw h6 h7 hse hel hlen N (i + 1) (by omega) (by omega) (fun k hk => ?_)
        by_cases q : k = i
        · rw [q]; exact h43
        · exact ha k (by omega)
      · refine wg_s rfl rfl ?_
        refine wg_ret rfl rfl (Or.inl rfl) ⟨?_, rfl⟩
        rw [bI_f (fun q => h43 ((spw_i.mp q).2 i (by omega)))]
theorem sp_spells (d w : Nat) (hw : w < 4) {μ : ab_M} {l : Nat} {U : Nat → Int} (hR : RS μ l U) (s e : Nat) (h6 : ag_I μ 0 0 6 = (s : Int)) (h7 : ag_I μ 0 0 7 = (e : Int)) (hse : s ≤ e) (hel : e ≤ l) : Wp (d + 5) 15 [ab_r 0 (some 0), ab_r 7 (some 0), ab_r 21 (some w)] μ (fun vv μ' => vv = some (ab_i (bI (sp_w U s e w = true))) ∧ μ' = μ) := by
  refine wp_of ?_
  obtain ⟨hX, hS, hl, hl2, hU⟩ := id hR
  refine wg_s rfl rfl ?_
  refine wg_gi rfl rfl (show _ = (e : Int) from h7) ?_
  refine wg_s rfl rfl ?_
  refine wg_gi rfl rfl (show _ = (s : Int) from h6) ?_
  refine wg_isub rfl (by omega) (by omega) ?_
  refine wg_s rfl rfl ?_
  refine wg_cf rfl rfl (sp_slen _ hX hS w hw) ?_
  refine wg_if rfl rfl (fun h13 => ?_) (fun h13 => ?_)
  · refine wg_s rfl rfl ?_
    refine wg_s rfl rfl ?_
    exact lp_spell hR s e w hw h6 h7 hse hel (by omega) 7 0 (by have := bl_r w hw; omega) (by omega) (fun k hk => by omega)
  · refine wg_s rfl rfl ?_
    refine wg_ret rfl rfl (Or.inl rfl) ⟨?_, rfl⟩
    rw [bI_f (fun q => by have := (spw_i.mp q).1; omega)]
theorem xw_at {U : Nat → Int} {s e w : Nat} (ha : ∀ k, k < w → ¬ sp_w U s e k = true) (h : sp_w U s e w = true) (hw : w < 4) : x_w U s e = (w : Int) := by
  unfold x_w
  rcases (show w = 0 ∨ w = 1 ∨ w = 2 ∨ w = 3 by omega) with rfl | rfl | rfl | rfl
  · rw [if_pos h]; rfl
  · rw [if_neg (ha 0 (by omega)), if_pos h]; rfl
  · rw [if_neg (ha 0 (by omega)), if_neg (ha 1 (by omega)), if_pos h]; rfl
  · rw [if_neg (ha 0 (by omega)), if_neg (ha 1 (by omega)), if_neg (ha 2 (by omega)), if_pos h]; rfl
theorem lp_word {d : Nat} {μ : ab_M} {l : Nat} {U : Nat → Int} (hR : RS μ l U) (s e : Nat) (h6 : ag_I μ 0 0 6 = (s : Int)) (h7 : ag_I μ 0 0 7 = (e : Int)) (hse : s ≤ e) (hel : e ≤ l) : ∀ (N w : Nat), 4 - w < N → w ≤ 4 → (∀ k, k < w → ¬ sp_w U s e k = true) → Wg (d + 5) 14 μ 2 [(0, ab_r 0 (some 0)), (1, ab_r 7 (some 0)), (2, ab_i (w : Int))] [] (fun vv μ' => vv = some (ab_i (x_w U s e)) ∧ μ' = μ)
  | 0, _, h, _, _ => by omega
  | N + 1, w, h1, h2, ha => by
    refine wg_s rfl rfl ?_
    refine wg_s rfl rfl ?_
    refine wg_if rfl rfl (fun h4 => ?_) (fun h4 => ?_)
    · refine wg_s rfl rfl ?_
      refine wg_ret rfl rfl trivial ⟨?_, rfl⟩
      have e4 : w = 4 := by omega
      subst e4
      unfold x_w
      rw [if_neg (ha 0 (by omega)), if_neg (ha 1 (by omega)), if_neg (ha 2 (by omega)), if_neg (ha 3 (by omega))]
    · refine wg_s rfl rfl ?_
      refine wg_s rfl rfl ?_
      refine wg_s rfl rfl ?_
      refine wg_cf rfl rfl (sp_spelling _ _ _ (by omega)) ?_
      refine wg_cf rfl rfl (sp_spells _ _ (by omega) hR s e h6 h7 hse hel) ?_
      refine wg_eqb rfl (fun h16 => ?_) (fun h16 => ?_)
      · refine wg_iinc rfl rfl rfl (by omega) (by omega) rfl ?_
        refine wg_s rfl rfl ?_
        refine lp_word hR s e h6 h7 hse hel N (w + 1) (by omega) (by omega) (fun k hk => ?_)
        by_cases q : k = w
        · rw [q]; exact h16
        · exact ha k (by omega)
      · refine wg_s rfl rfl ?_
        refine wg_ret rfl rfl trivial ⟨?_, rfl⟩
        rw [xw_at ha h16 (by omega)]
theorem sp_word (d : Nat) {μ : ab_M} {l : Nat} {U : Nat → Int} (hR : RS μ l U) (s e : Nat) (h6 : ag_I μ 0 0 6 = (s : Int)) (h7 : ag_I μ 0 0 7 = (e : Int)) (hse : s ≤ e) (hel : e ≤ l) : Wp (d + 6) 14 [ab_r 0 (some 0), ab_r 7 (some 0)] μ (fun vv μ' => vv = some (ab_i (x_w U s e)) ∧ μ' = μ) := by
  refine wp_of ?_
  refine wg_s rfl rfl ?_
  refine wg_s rfl rfl ?_
  exact lp_word hR s e h6 h7 hse hel 5 0 (by omega) (by omega) (fun k hk => by omega)
theorem lp_value {d : Nat} {μ : ab_M} {l : Nat} {U : Nat → Int} (hR : RS μ l U) (s e : Nat) (h6 : ag_I μ 0 0 6 = (s : Int)) (h7 : ag_I μ 0 0 7 = (e : Int)) (hse : s ≤ e) (hel : e ≤ l) (hd : ∀ i, s ≤ i → i < e → dg (U i) = true) : ∀ (N n : Nat) (v : Int), e - s - n < N → n ≤ e - s → v = x_nu U s n → Wg (d + 1) 16 μ 7 [(0, ab_r 0 (some 0)), (1, ab_r 7 (some 0)), (2, ab_i v), (3, ab_i ((s : Int) + (n : Int)))] [] (fun vv μ' => vv = some (ab_i (x_nu U s (e - s))) ∧ μ' = μ)
  | 0, _, _, h, _, _ => by omega
  | N + 1, n, v, h1, h2, hv => by
    have hxr := xnu_rng U s n (fun i hi => hd (s + i) (by omega) (by omega))
    obtain ⟨hX, hS, hl, hl2, hU⟩ := id hR
    refine wg_s rfl rfl ?_
    refine wg_s rfl rfl ?_
    refine wg_gi rfl rfl (show _ = (e : Int) from h7) ?_
    refine wg_if rfl rfl (fun h12 => ?_) (fun h12 => ?_)
    · refine wg_s rfl rfl ?_
      refine wg_ret rfl rfl trivial ⟨?_, rfl⟩
      rw [hv, show e - s = n by omega]
    · refine wg_s rfl rfl ?_
      refine wg_s rfl rfl ?_
      refine wg_imul rfl (by omega) (by omega) ?_
      refine wg_s rfl rfl ?_
      refine wg_s rfl rfl ?_
      refine wg_cf2 rfl rfl (sp_byteAt _ _ hR) (show _ = ab_i (U (s + n)) from congrArg ab_i ((if_pos (by omega)).trans (congrArg U (by omega)))) ?_
      have hq := dg_t.mp (hd (s + n) (by omega) (by omega))
      refine wg_iadd rfl (by omega) (by omega) ?_
      refine wg_s rfl rfl ?_
      refine wg_isub rfl (by omega) (by omega) ?_
      refine wg_s rfl rfl ?_
      refine wg_s rfl rfl ?_
      refine wg_s rfl rfl ?_
      refine wg_iinc rfl rfl rfl (by omega) (by omega) rfl ?_
      refine wg_s rfl rfl ?_
      have := lp_value (d := d) hR s e h6 h7 hse hel hd N (n + 1) _ (by omega) (by omega) (show min (v * 10 + U (s + n) - 48) 1000 = x_nu U s (n + 1) from by rw [hv]; rfl)
      rw [show (s : Int) + ((n + 1 : Nat) : Int) = (s : Int) + (n : Int) + 1 by omega] at this
      exact this
theorem sp_value (d : Nat) {μ : ab_M} {l : Nat} {U : Nat → Int} (hR : RS μ l U) (s e : Nat) (h6 : ag_I μ 0 0 6 = (s : Int)) (h7 : ag_I μ 0 0 7 = (e : Int)) (hse : s ≤ e) (hel : e ≤ l) (hd : ∀ i, s ≤ i → i < e → dg (U i) = true) : Wp (d + 2) 16 [ab_r 0 (some 0), ab_r 7 (some 0)] μ (fun vv μ' => vv = some (ab_i (x_nu U s (e - s))) ∧ μ' = μ) := by
  refine wp_of ?_
  refine wg_s rfl rfl ?_
  refine wg_s rfl rfl ?_
  refine wg_s rfl rfl ?_
  refine wg_gi rfl rfl (show _ = (s : Int) from h6) ?_
  refine wg_s rfl rfl ?_
  have := lp_value (d := d) hR s e h6 h7 hse hel hd 201 0 0 (by have := hR.2.2.2.1; omega) (by omega) rfl
  rw [show (s : Int) + ((0 : Nat) : Int) = (s : Int) by omega] at this
  exact this
