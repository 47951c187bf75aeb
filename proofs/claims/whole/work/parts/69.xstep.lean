/-! ===== the class: a step to the next token ===== -/
theorem ts_stop {U : Nat → Int} {l s : Nat} (h : l ≤ s ∨ U s ≠ 32) : t_s U l s = s := by
  unfold t_s
  cases hc : l - s with
  | zero => rfl
  | succ c =>
    unfold run
    rw [if_neg (fun q => by have := bk_t.mp q; omega)]
theorem ts_go {U : Nat → Int} {l s : Nat} (hs : s < l) (h : U s = 32) : t_s U l s = t_s U l (s + 1) := by
  unfold t_s
  obtain ⟨c, hc⟩ : ∃ c, l - s = c + 1 := ⟨l - s - 1, by omega⟩
  rw [hc, show l - (s + 1) = c by omega]
  show (if bk (U s) = true then _ else _) = _
  rw [if_pos (bk_t.mpr h)]
theorem run_stop {f : Int → Bool} {U : Nat → Int} {l s : Nat} (h : l ≤ s ∨ ¬ f (U s) = true) : run f U (l - s) s = s := by
  cases hc : l - s with
  | zero => rfl
  | succ c =>
    unfold run
    rw [if_neg (fun q => by rcases h with h | h; omega; exact h q)]
theorem run_go {f : Int → Bool} {U : Nat → Int} {l s : Nat} (hs : s < l) (h : f (U s) = true) : run f U (l - s) s = run f U (l - (s + 1)) (s + 1) := by
  obtain ⟨c, hc⟩ : ∃ c, l - s = c + 1 := ⟨l - s - 1, by omega⟩
  rw [hc, show l - (s + 1) = c by omega]
  show (if f (U s) = true then _ else _) = _
  rw [if_pos h]
theorem xb_eq (U : Nat → Int) (l s : Nat) : (if 0 ≤ (s : Int) ∧ (s : Int) < (l : Int) then U (s : Int).toNat else -1) = x_b U l s := if_c (by omega) rfl rfl
theorem xk_c {U : Nat → Int} {l s : Nat} (hs : s ≤ l) (h0 : ∀ i, i < l → 0 ≤ U i) : (x_k U l s = 4 ∧ s = l) ∨ (s < l ∧ x_k U l s = 1 ∧ lt (U s) = true) ∨ (s < l ∧ x_k U l s = 2 ∧ ¬ lt (U s) = true ∧ dg (U s) = true) ∨ (s < l ∧ (x_k U l s = 3 ∨ x_k U l s = 0) ∧ ¬ lt (U s) = true ∧ ¬ dg (U s) = true) := by
  by_cases e : s = l
  · subst e; exact Or.inl ⟨xk_e, rfl⟩
  · refine Or.inr ?_
    rw [xk_l (by omega) (h0 s (by omega))]
    by_cases e1 : lt (U s) = true
    · rw [if_pos e1]; exact Or.inl ⟨by omega, rfl, e1⟩
    · rw [if_neg e1]
      refine Or.inr ?_
      by_cases e2 : dg (U s) = true
      · rw [if_pos e2]; exact Or.inl ⟨by omega, rfl, e1, e2⟩
      · rw [if_neg e2]
        refine Or.inr ⟨by omega, ?_, e1, e2⟩
        split <;> omega
theorem tx_1 {U : Nat → Int} {l s : Nat} (hs : s ≤ l) (h0 : ∀ i, i < l → 0 ≤ U i) (h : x_k U l s = 1) : t_x U l s = run lt U (l - s) s := by
  rcases xk_c hs h0 with q | q | q | q
  · omega
  · unfold t_x; rw [if_neg (by omega), if_pos q.2.2]
  · omega
  · omega
theorem tx_2 {U : Nat → Int} {l s : Nat} (hs : s ≤ l) (h0 : ∀ i, i < l → 0 ≤ U i) (h : x_k U l s = 2) : t_x U l s = run dg U (l - s) s := by
  rcases xk_c hs h0 with q | q | q | q
  · omega
  · omega
  · unfold t_x; rw [if_neg (by omega), if_neg q.2.2.1, if_pos q.2.2.2]
  · omega
theorem tx_4 {U : Nat → Int} {l s : Nat} (hs : s ≤ l) (h0 : ∀ i, i < l → 0 ≤ U i) (h : x_k U l s = 4) : t_x U l s = s := by
  rcases xk_c hs h0 with q | q | q | q
  · unfold t_x; rw [if_pos q.2]
  · omega
  · omega
  · omega
theorem tx_o {U : Nat → Int} {l s : Nat} (hs : s ≤ l) (h0 : ∀ i, i < l → 0 ≤ U i) (h1 : x_k U l s ≠ 1) (h2 : x_k U l s ≠ 2) (h4 : x_k U l s ≠ 4) : t_x U l s = s + 1 := by
  rcases xk_c hs h0 with q | q | q | q
  · omega
  · omega
  · omega
  · unfold t_x; rw [if_neg (by omega), if_neg q.2.2.1, if_neg q.2.2.2]
theorem xkk_lt {y : Int} (h : 0 ≤ y) : x_kk y = 1 ↔ lt y = true := by
  unfold x_kk
  rw [if_neg (by omega)]
  by_cases e : lt y = true
  · rw [if_pos e]; exact ⟨fun _ => e, fun _ => rfl⟩
  · rw [if_neg e]; constructor
    · intro q; repeat' (split at q)
      all_goals omega
    · intro q; exact absurd q e
theorem xkk_dg {y : Int} (h : 0 ≤ y) : x_kk y = 2 ↔ dg y = true := by
  unfold x_kk
  rw [if_neg (by omega)]
  by_cases e : lt y = true
  · rw [if_pos e]; constructor
    · intro q; omega
    · intro q; have := lt_t.mp e; have := dg_t.mp q; omega
  · rw [if_neg e]
    by_cases e2 : dg y = true
    · rw [if_pos e2]; exact ⟨fun _ => e2, fun _ => rfl⟩
    · rw [if_neg e2]; constructor
      · intro q; split at q <;> omega
      · intro q; exact absurd q e2
theorem lp_blank {d l : Nat} {U : Nat → Int} {Q : Option ab_V → ab_M → Prop} : ∀ (N s : Nat) (μ : ab_M), RS μ l U → ag_I μ 0 0 6 = (s : Int) → s ≤ l → l - s < N → Wg (d + 1) 17 (as_I μ 0 0 6 (t_s U l s : Int)) 45 [(0, ab_r 0 (some 0)), (1, ab_r 7 (some 0))] [] Q → Wg (d + 1) 17 μ 8 [(0, ab_r 0 (some 0)), (1, ab_r 7 (some 0))] [] Q
  | 0, _, _, _, _, _, h, _ => by omega
  | N + 1, s, μ, hR, h6, h1, h2, K => by
    obtain ⟨hX, hS, hl, hl2, hU⟩ := id hR
    refine wg_s rfl rfl ?_
    refine wg_gi rfl rfl (show _ = (s : Int) from h6) ?_
    refine wg_s rfl rfl ?_
    refine wg_cf rfl rfl (sp_len2 _ _ hl) ?_
    refine wg_if rfl rfl (fun h16 => ?_) (fun h16 => ?_)
    · rw [ts_stop (by omega), as_I_s h6] at K
      exact K
    · refine wg_s rfl rfl ?_
      refine wg_s rfl rfl ?_
      refine wg_gi rfl rfl (show _ = (s : Int) from h6) ?_
      refine wg_cf2 rfl rfl (sp_byteAt _ _ hR) (show _ = ab_i (U s) from congrArg ab_i (if_pos (by omega))) ?_
      refine wg_s rfl rfl ?_
      refine wg_if rfl rfl (fun h29 => ?_) (fun h29 => ?_)
      · rw [ts_stop (by omega), as_I_s h6] at K
        exact K
      · refine wg_s rfl rfl ?_
        refine wg_s rfl rfl ?_
        refine wg_gi rfl rfl (show _ = (s : Int) from h6) ?_
        refine wg_s rfl rfl ?_
        refine wg_iadd rfl (by omega) (by omega) ?_
        refine wg_s rfl rfl ?_
        refine wg_s rfl rfl ?_
        refine lp_blank N (s + 1) _ (RS_0 hR 6 _) ((ag_I_y _ _ _ _ _).trans (by omega)) (by omega) (by omega) ?_
        rw [as_I_2, ← ts_go (by omega) (by omega)]
        exact K
theorem lp_stop {d l : Nat} {U : Nat → Int} {Q : Option ab_V → ab_M → Prop} (f : Int → Bool) (k : Int) (hf : ∀ y, 0 ≤ y → (x_kk y = k ↔ f y = true)) : ∀ (N e : Nat) (μ : ab_M), RS μ l U → ag_I μ 0 0 7 = (e : Int) → ag_I μ 0 0 5 = k → e ≤ l → l - e < N → Wg (d + 1) 17 (as_I μ 0 0 7 (run f U (l - e) e : Int)) 144 [(0, ab_r 0 (some 0)), (1, ab_r 7 (some 0))] [] Q → Wg (d + 1) 17 μ 84 [(0, ab_r 0 (some 0)), (1, ab_r 7 (some 0))] [] Q
  | 0, _, _, _, _, _, _, h, _ => by omega
  | N + 1, e, μ, hR, h7, h5, h1, h2, K => by
    obtain ⟨hX, hS, hl, hl2, hU⟩ := id hR
    refine wg_s rfl rfl ?_
    refine wg_gi rfl rfl (show _ = (e : Int) from h7) ?_
    refine wg_s rfl rfl ?_
    refine wg_cf rfl rfl (sp_len2 _ _ hl) ?_
    refine wg_if rfl rfl (fun h92 => ?_) (fun h92 => ?_)
    · rw [run_stop (show l ≤ e ∨ ¬ f (U e) = true from Or.inl (by omega)), as_I_s h7] at K
      exact K
    · refine wg_s rfl rfl ?_
      refine wg_s rfl rfl ?_
      refine wg_gi rfl rfl (show _ = (e : Int) from h7) ?_
      refine wg_cf2 rfl rfl (sp_byteAt _ _ hR) (show _ = ab_i (U e) from congrArg ab_i (if_pos (by omega))) ?_
      refine wg_cf rfl rfl (sp_tokBeg _ _ _) ?_
      refine wg_s rfl rfl ?_
      refine wg_gi rfl rfl (show _ = k from h5) ?_
      refine wg_if rfl rfl (fun h110 => ?_) (fun h110 => ?_)
      · rw [run_stop (show l ≤ e ∨ ¬ f (U e) = true from Or.inr (fun q => h110 ((hf _ (hU e (by omega)).2.1).mpr q))), as_I_s h7] at K
        exact K
      · refine wg_s rfl rfl ?_
        refine wg_s rfl rfl ?_
        refine wg_gi rfl rfl (show _ = (e : Int) from h7) ?_
        refine wg_s rfl rfl ?_
        refine wg_iadd rfl (by omega) (by omega) ?_
        refine wg_s rfl rfl ?_
        refine wg_s rfl rfl ?_
        refine lp_stop f k hf N (e + 1) _ (RS_0 hR 7 _) ((ag_I_y _ _ _ _ _).trans (by omega)) ((ag_I_n (by omega)).trans h5) (by omega) (by omega) ?_
        rw [as_I_2, ← run_go (by omega) ((hf _ (hU e (by omega)).2.1).mp (by omega))]
        exact K
def x_st (μ : ab_M) (U : Nat → Int) (l a : Nat) : ab_M := as_I (as_I (as_I μ 0 0 6 (t_s U l a : Int)) 0 0 5 (x_k U l (t_s U l a))) 0 0 7 (t_x U l (t_s U l a) : Int)
theorem sp_step (d a : Nat) {μ : ab_M} {l : Nat} {U : Nat → Int} (hR : RS μ l U) (h7 : ag_I μ 0 0 7 = (a : Int)) (ha : a ≤ l) : Wp (d + 2) 17 [ab_r 0 (some 0), ab_r 7 (some 0)] μ (fun vv μ' => vv = none ∧ μ' = x_st μ U l a) := by
  refine wp_of ?_
  obtain ⟨hX, hS, hl, hl2, hU⟩ := id hR
  have h0 : ∀ i, i < l → 0 ≤ U i := fun i hi => (hU i hi).2.1
  have hsr := ts_rng (T := U) ha
  refine wg_s rfl rfl ?_
  refine wg_s rfl rfl ?_
  refine wg_gi rfl rfl (show _ = (a : Int) from h7) ?_
  refine wg_s rfl rfl ?_
  refine lp_blank 201 a _ (RS_0 hR 6 _) (ag_I_y _ _ _ _ _) ha (by omega) ?_
  rw [as_I_2]
  refine wg_s rfl rfl ?_
  refine wg_s rfl rfl ?_
  refine wg_s rfl rfl ?_
  refine wg_gi rfl rfl (show _ = ((t_s U l a) : Int) from ag_I_y _ _ _ _ _) ?_
  refine wg_cf2 rfl rfl (sp_byteAt _ _ (RS_0 hR 6 _)) (show _ = ab_i (x_b U l (t_s U l a)) from congrArg ab_i (xb_eq U l _)) ?_
  refine wg_cf rfl rfl (sp_tokBeg _ _ _) ?_
  refine wg_s rfl rfl ?_
  refine wg_s rfl rfl ?_
  refine wg_s rfl rfl ?_
  refine wg_gi rfl rfl (show _ = ((t_s U l a) : Int) from (ag_I_n (by omega)).trans (ag_I_y _ _ _ _ _)) ?_
  refine wg_s rfl rfl ?_
  refine wg_s rfl rfl ?_
  refine wg_gi rfl rfl (show _ = x_k U l (t_s U l a) from (ag_I_n (by omega)).trans (ag_I_y _ _ _ _ _)) ?_
  refine wg_s rfl rfl ?_
  refine wg_if rfl rfl (fun h73 => ?_) (fun h73 => ?_)
  · refine lp_stop lt 1 (fun y hy => xkk_lt hy) 201 (t_s U l a) _ (RS_0 (RS_0 (RS_0 hR 6 _) 5 _) 7 _) (ag_I_y _ _ _ _ _) (((ag_I_n (by omega)).trans (ag_I_y _ _ _ _ _)).trans h73) hsr.2 (by omega) ?_
    rw [as_I_2]
    exact wg_ret rfl rfl trivial ⟨rfl, by unfold x_st; rw [tx_1 hsr.2 h0 h73]; rfl⟩
  · refine wg_s rfl rfl ?_
    refine wg_gi rfl rfl (show _ = x_k U l (t_s U l a) from (ag_I_n (by omega)).trans (ag_I_y _ _ _ _ _)) ?_
    refine wg_s rfl rfl ?_
    refine wg_if rfl rfl (fun h81 => ?_) (fun h81 => ?_)
    · refine wg_s rfl rfl ?_
      refine wg_gi rfl rfl (show _ = x_k U l (t_s U l a) from (ag_I_n (by omega)).trans (ag_I_y _ _ _ _ _)) ?_
      refine wg_s rfl rfl ?_
      refine wg_if rfl rfl (fun h131 => ?_) (fun h131 => ?_)
      · exact wg_ret rfl rfl trivial ⟨rfl, by unfold x_st; rw [tx_4 hsr.2 h0 h131]; rfl⟩
      
      · refine wg_s rfl rfl ?_
        refine wg_s rfl rfl ?_
        refine wg_gi rfl rfl (show _ = ((t_s U l a) : Int) from ag_I_y _ _ _ _ _) ?_
        refine wg_s rfl rfl ?_
        refine wg_iadd rfl (by omega) (by omega) ?_
        refine wg_s rfl rfl ?_
        exact wg_ret rfl rfl trivial ⟨rfl, by unfold x_st; rw [as_I_2, tx_o hsr.2 h0 h73 h81 h131]; rfl⟩
    · refine lp_stop dg 2 (fun y hy => xkk_dg hy) 201 (t_s U l a) _ (RS_0 (RS_0 (RS_0 hR 6 _) 5 _) 7 _) (ag_I_y _ _ _ _ _) (((ag_I_n (by omega)).trans (ag_I_y _ _ _ _ _)).trans (show x_k U l (t_s U l a) = 2 by omega)) hsr.2 (by omega) ?_
      rw [as_I_2]
      exact wg_ret rfl rfl trivial ⟨rfl, by unfold x_st; rw [tx_2 hsr.2 h0 (by omega)]; rfl⟩
