/-! ===== the class: its search, all of it ===== -/
theorem ag_I_Y {μ : ab_M} {t n sp n2 dp c t' n' k' : Nat} : ag_I (as_Y μ t n sp n2 dp c) t' n' k' = if t' = t ∧ n' = n2 ∧ dp ≤ k' ∧ k' < dp + c then ag_I μ t n (sp + (k' - dp)) else ag_I μ t' n' k' := rfl
theorem xmf_rng {n m : Nat} {ok : Nat → Nat → Bool} {lk ld : Nat → Nat → Int} (hbd : ∀ i j, i < n → j < m → (0 ≤ lk i j ∧ lk i j ≤ 99) ∧ (0 ≤ ld i j ∧ ld i j ≤ 99)) : ∀ c, c ≤ n → 0 ≤ x_mf m n ok lk ld c ∧ x_mf m n ok lk ld c ≤ 198 * c
  | 0, _ => by simp [x_mf]
  | c + 1, h => by
    have h1 := xmf_rng (ok := ok) hbd c (by omega)
    have h2 := x_mx_0 (m := m) (ok := ok) (lk := lk) (ld := ld) (i := n - (c + 1)) m
    have h3 := x_mx_b (m := m) (ok := ok) (lk := lk) (ld := ld) (i := n - (c + 1)) (B := 198) (fun j hj _ => by have := hbd (n - (c + 1)) j (by omega) hj; omega) (by omega) m (Nat.le_refl _)
    unfold x_mf; omega
theorem PS_keep {μ0 μ : ab_M} {n m : Nat} {ok : Nat → Nat → Bool} {A : Nat → Int} {s : Int × (Nat → Int)} {x : Int} (hn : n ≤ 6) (h : PS μ0 n m ok A n s μ) : PS μ0 n m ok A n (x, A) (as_Y (as_I μ 1 0 10 x) 11 17 0 19 0 6) := by
  obtain ⟨h1, ⟨w1, w2, w3⟩, h3, h4⟩ := h
  refine ⟨⟨h1.1, fun t n k q => ?_⟩, ⟨fun k hk => ?_, fun p hp => ?_, w3⟩, ?_, fun k hk => ?_⟩
  · rw [ag_I_Y, if_neg (by omega), ag_I_n (by omega)]; exact h1.2 t n k q
  · rw [ag_I_Y, if_neg (by omega), ag_I_n (by omega)]; exact w1 k hk
  · rw [ag_I_Y, if_neg (by omega), ag_I_n (by omega)]; exact w2 p hp
  · rw [ag_I_Y, if_neg (by omega), ag_I_y]
  · rw [ag_I_Y, if_pos (by omega), ag_I_n (by omega), show 0 + (k - 0) = k by omega]; exact w1 k hk
theorem sp_seat {d : Nat} {μ0 : ab_M} {n m : Nat} {ok : Nat → Nat → Bool} {lk ld : Nat → Nat → Int} (hB0 : BP μ0 n m ok lk ld) (M : Int) (hM : ag_I μ0 1 0 11 = M) (hMr : 0 ≤ M ∧ M ≤ 36) (hmf : ∀ k, k ≤ n → ag_I μ0 11 16 k = x_mf m n ok lk ld (n - k)) : ∀ (c i : Nat) (A : Nat → Int) (s : Int × (Nat → Int)) (μ : ab_M), i + c = n → PS μ0 n m ok A i s μ → Wp (d + c + 4) 33 [ab_r 1 (some 0), ab_i (i : Int), ab_i (rs2 m ok lk ld A i i), ab_i (pr_l lk ld A i)] μ (fun vv μ' => vv = none ∧ PS μ0 n m ok A i (pf m ok (hM_ n m ok lk ld M) c i A s) μ')
  | 0, i, A, s, μ, hic, hP => by
    refine wp_of ?_
    have hB := BP_S hP.1 hB0
    obtain ⟨hX, ⟨hn6, hm6⟩, ⟨hn, hm⟩, hlk, hbd⟩ := id hB
    obtain ⟨hS, hW, hb, hF⟩ := id hP
    have hlr := xl_rng (lk := lk) (ld := ld) hbd i (by omega) hW.2.2
    have hrn := rs2_nn (m := m) (ok := ok) (lk := lk) (ld := ld) A i i
    have hM1 : ag_I μ 1 0 11 = M := (hS.2 1 0 11 (by omega)).trans hM
    have ein : i = n := by omega
    subst ein
    have hrall := run_all_eq (m := m) (ok := ok) (lk := lk) (ld := ld) i A
    have hsr := su_rng (f := unp i ok lk ld A) (b := 6) m (fun k _ => by have := unp_rng (ok := ok) (lk := lk) (ld := ld) i A k; omega)
    refine wg_s rfl rfl ?_
    refine wg_s rfl rfl ?_
    refine wg_gi rfl rfl (show _ = M from hM1) ?_
    refine wg_if rfl rfl (fun h5 => ?_) (fun h5 => ?_)
    · refine wg_s rfl rfl ?_
      refine wg_s rfl rfl ?_
      refine wg_gi rfl rfl (show _ = (i : Int) from hn) ?_
      refine wg_if rfl rfl (fun h14 => ?_) (fun h14 => absurd (Int.le_refl _) h14)
      refine wg_s rfl rfl ?_
      refine wg_s rfl rfl ?_
      refine wg_s rfl rfl ?_
      refine wg_cf rfl rfl (sp_unpaired _ hB hW) ?_
      refine wg_iadd rfl (by omega) (by omega) ?_
      refine wg_s rfl rfl ?_
      refine wg_cv rfl rfl (sp_keep _ _ _ M s.1 hX hM1 hb) ?_
      rw [← hrall]
      refine wg_ret rfl rfl trivial ⟨rfl, ?_⟩
      show PS μ0 i m ok A i (if pr_r m i ok lk ld A i ≤ M ∧ s.1 < pr_l lk ld A i then (pr_l lk ld A i, A) else s) _
      by_cases c : pr_r m i ok lk ld A i ≤ M ∧ s.1 < pr_l lk ld A i
      · rw [if_pos c, if_pos c]; exact PS_keep hn6 hP
      · rw [if_neg c, if_neg c]; exact hP
    · exact wg_ret rfl rfl trivial ⟨rfl, by rw [skip_r (c := 0) hic hW.2.2 (by omega)]; exact hP⟩
    
  | c + 1, i, A, s, μ, hic, hP => by
    rw [show d + (c + 1) + 4 = d + c + 4 + 1 by omega]
    refine wp_of ?_
    have hB := BP_S hP.1 hB0
    obtain ⟨hX, ⟨hn6, hm6⟩, ⟨hn, hm⟩, hlk, hbd⟩ := id hB
    obtain ⟨hS, hW, hb, hF⟩ := id hP
    have hlr := xl_rng (lk := lk) (ld := ld) hbd i (by omega) hW.2.2
    have hrn := rs2_nn (m := m) (ok := ok) (lk := lk) (ld := ld) A i i
    have hM1 : ag_I μ 1 0 11 = M := (hS.2 1 0 11 (by omega)).trans hM
    have hmx := xmf_rng (ok := ok) hbd (c + 1) (by omega)
    refine wg_s rfl rfl ?_
    refine wg_s rfl rfl ?_
    refine wg_gi rfl rfl (show _ = M from hM1) ?_
    refine wg_if rfl rfl (fun h5 => ?_) (fun h5 => ?_)
    · refine wg_s rfl rfl ?_
      refine wg_s rfl rfl ?_
      refine wg_gi rfl rfl (show _ = (n : Int) from hn) ?_
      refine wg_if rfl rfl (fun h14 => absurd h14 (by omega)) (fun h14 => ?_)
      refine wg_s rfl rfl ?_
      refine wg_s rfl rfl ?_
      refine wg_if rfl rfl (fun h20 => ?_) (fun h20 => absurd (show (i : Int) < 6 by omega) h20)
      refine wg_s rfl rfl ?_
      refine wg_s rfl rfl ?_
      refine wg_gx rfl rfl hX ?_
      refine wg_s rfl rfl ?_
      refine wg_ax rfl (xf_l hX rfl) (by omega) (by omega) (show _ = x_mf m n ok lk ld (c + 1) from ((hS.2 11 16 i (by omega)).trans (hmf i (by omega))).trans (by rw [show n - i = c + 1 by omega])) ?_
      refine wg_iadd rfl (by omega) (by omega) ?_
      refine wg_s rfl rfl ?_
      refine wg_gi rfl rfl (show _ = s.1 from hb) ?_
      refine wg_if rfl rfl (fun h47 => ?_) (fun h47 => ?_)
      · refine wg_s rfl rfl ?_
        refine wg_s rfl rfl ?_
        exact lp_seat hB0 M hM hMr hmf i (show i + 1 + c = n by omega) h5 (fun A s μ hP2 => sp_seat hB0 M hM hMr hmf c (i + 1) A s μ (by omega) hP2) 7 0 s μ hP (by omega) (by omega)
      · exact wg_ret rfl rfl trivial ⟨rfl, by rw [skip_l (c := c + 1) hic hW.2.2 (by omega)]; exact hP⟩
      
    · exact wg_ret rfl rfl trivial ⟨rfl, by rw [skip_r (c := c + 1) hic hW.2.2 (by omega)]; exact hP⟩
    
theorem lp_mx {d : Nat} {μ : ab_M} {n m : Nat} {ok : Nat → Nat → Bool} {lk ld : Nat → Nat → Int} (hB : BP μ n m ok lk ld) (i : Nat) (hi : i < n) {Q : Option ab_V → ab_M → Prop} (K : Wg (d + 1) 32 μ 59 [(0, ab_r 1 (some 0)), (1, ab_i (i : Int)), (2, ab_i (x_mx m ok lk ld i m)), (3, ab_i (m : Int))] [] Q) : ∀ (N j : Nat) (c : Int), m - j < N → j ≤ m → c = x_mx m ok lk ld i j → Wg (d + 1) 32 μ 25 [(0, ab_r 1 (some 0)), (1, ab_i (i : Int)), (2, ab_i c), (3, ab_i (j : Int))] [] Q
  | 0, _, _, h, _, _ => by omega
  | N + 1, j, c, h1, h2, hc => by
    obtain ⟨hX, ⟨hn6, hm6⟩, ⟨hn, hm⟩, hlk, hbd⟩ := id hB
    have hxr := x_mx_0 (m := m) (ok := ok) (lk := lk) (ld := ld) (i := i) j
    refine wg_s rfl rfl ?_
    refine wg_s rfl rfl ?_
    refine wg_gi rfl rfl (show _ = (m : Int) from hm) ?_
    refine wg_if rfl rfl (fun h30 => ?_) (fun h30 => ?_)
    · have ej : j = m := by omega
      subst ej
      rw [hc]
      exact K
    · refine wg_s rfl rfl ?_
      refine wg_s rfl rfl ?_
      refine wg_s rfl rfl ?_
      refine wg_cf rfl rfl (sp_can _ hB i j hi (by omega)) ?_
      refine wg_eqb rfl (fun h39 => ?_) (fun h39 => ?_)
      · refine wg_iinc rfl rfl rfl (by omega) (by omega) rfl ?_
        refine wg_s rfl rfl ?_
        have hrec := lp_mx hB i hi K N (j + 1) c (by omega) (by omega) (by rw [hc]; show _ = if _ then _ else _; rw [if_neg h39])
        rw [show ((j + 1 : Nat) : Int) = (j : Int) + 1 by omega] at hrec
        exact hrec
      · refine wg_s rfl rfl ?_
        refine wg_s rfl rfl ?_
        refine wg_s rfl rfl ?_
        refine wg_s rfl rfl ?_
        refine wg_cf rfl rfl (sp_both _ hB i j hi (by omega) h39) ?_
        refine wg_s rfl rfl ?_
        refine wg_s rfl rfl ?_
        refine wg_iinc rfl rfl rfl (by omega) (by omega) rfl ?_
        refine wg_s rfl rfl ?_
        have hrec := lp_mx hB i hi K N (j + 1) (max c (lk i j + ld i j)) (by omega) (by omega) (by rw [hc]; show _ = if _ then _ else _; rw [if_pos h39])
        rw [show ((j + 1 : Nat) : Int) = (j : Int) + 1 by omega] at hrec
        exact hrec
theorem BP_16 {μ : ab_M} {n m : Nat} {ok : Nat → Nat → Bool} {lk ld : Nat → Nat → Int} (hB : BP μ n m ok lk ld) {k : Nat} {x : Int} : BP (as_I μ 11 16 k x) n m ok lk ld := by
  obtain ⟨hX, h6, ⟨hn, hm⟩, hlk, hbd⟩ := hB
  exact ⟨hX, h6, ⟨(ag_I_n (by omega)).trans hn, (ag_I_n (by omega)).trans hm⟩, fun i j hi hj => ⟨(ag_I_n (by omega)).trans (hlk i j hi hj).1, (ag_I_n (by omega)).trans (hlk i j hi hj).2⟩, hbd⟩
def t_mf (e : Option (Int × Int)) : ab_L := match e with
  | none => []
  | some (x, y) => [(2, ab_i x), (3, ab_i y)]
theorem lp_mf {d : Nat} {μ0 : ab_M} {n m : Nat} {ok : Nat → Nat → Bool} {lk ld : Nat → Nat → Int} : ∀ (N h : Nat) (e : Option (Int × Int)) (μ : ab_M), BP μ n m ok lk ld → (μ.2 = μ0.2 ∧ ∀ t x k, ¬ (t = 11 ∧ x = 16) → ag_I μ t x k = ag_I μ0 t x k) → h < N → h ≤ n → (∀ k, h ≤ k → k ≤ n → ag_I μ 11 16 k = x_mf m n ok lk ld (n - k)) → Wg (d + 1) 32 μ 17 ([(0, ab_r 1 (some 0)), (1, ab_i ((h : Int) - 1))] ++ t_mf e) [] (fun vv μ' => vv = none ∧ μ'.2 = μ0.2 ∧ (∀ t x k, ¬ (t = 11 ∧ x = 16) → ag_I μ' t x k = ag_I μ0 t x k) ∧ ∀ k, k ≤ n → ag_I μ' 11 16 k = x_mf m n ok lk ld (n - k))
  | 0, _, _, _, _, _, h, _, _ => by omega
  | N + 1, h, e, μ, hB, hM, h1, h2, hmf => by
    cases e with
    | none =>
      obtain ⟨hX, ⟨hn6, hm6⟩, ⟨hn, hm⟩, hlk, hbd⟩ := id hB
      refine wg_s rfl rfl ?_
      refine wg_if rfl rfl (fun h18 => ?_) (fun h18 => ?_)
      · exact wg_ret rfl rfl trivial ⟨rfl, hM.1, hM.2, fun k hk => hmf k (by omega) hk⟩
      
      · obtain ⟨i, rfl⟩ : ∃ i, h = i + 1 := ⟨h - 1, by omega⟩
        rw [show ((i + 1 : Nat) : Int) - 1 = (i : Int) by omega]
        refine wg_s rfl rfl ?_
        refine wg_s rfl rfl ?_
        refine wg_s rfl rfl ?_
        refine wg_s rfl rfl ?_
        refine lp_mx hB i (by omega) ?_ 7 0 0 (by omega) (by omega) rfl
        have hmr := xmf_rng (ok := ok) hbd (n - (i + 1)) (by omega)
        have hxb := x_mx_b (m := m) (ok := ok) (lk := lk) (ld := ld) (i := i) (B := 198) (fun j hj _ => by have := hbd i j (by omega) hj; omega) (by omega) m (Nat.le_refl _)
        have hx0 := x_mx_0 (m := m) (ok := ok) (lk := lk) (ld := ld) (i := i) m
        refine wg_s rfl rfl ?_
        refine wg_gx rfl rfl hX ?_
        refine wg_s rfl rfl ?_
        refine wg_s rfl rfl ?_
        refine wg_gx rfl rfl hX ?_
        refine wg_s rfl rfl ?_
        refine wg_s rfl rfl ?_
        refine wg_iadd rfl (by omega) (by omega) ?_
        refine wg_ax rfl (xf_l hX rfl) (by omega) (by omega) (show _ = x_mf m n ok lk ld (n - (i + 1)) from (congrArg (ag_I μ 11 16) (by omega)).trans (hmf (i + 1) (by omega) (by omega))) ?_
        refine wg_s rfl rfl ?_
        refine wg_iadd rfl (by omega) (by omega) ?_
        refine wg_axs rfl (xf_l hX rfl) (by omega) (by omega) ?_
        refine wg_iinc rfl rfl rfl (by omega) (by omega) rfl ?_
        refine wg_s rfl rfl ?_
        refine wg_mono (lp_mf (d := d) (μ0 := μ0) (n := n) (m := m) (ok := ok) (lk := lk) (ld := ld) N i (some (x_mx m ok lk ld i m, (m : Int))) (as_I μ 11 16 i (x_mf m n ok lk ld (n - (i + 1)) + x_mx m ok lk ld i m)) (BP_16 hB) ⟨hM.1, fun t x k q => (ag_I_n (by omega)).trans (hM.2 t x k q)⟩ (by omega) (by omega) (fun k hk hk2 => ?_)) (fun _ _ hq => hq)
        · by_cases e : k = i
          · rw [e, ag_I_y, show n - i = n - (i + 1) + 1 by omega]
            show _ = x_mf m n ok lk ld (n - (i + 1)) + x_mx m ok lk ld (n - (n - (i + 1) + 1)) m
            rw [show n - (n - (i + 1) + 1) = i by omega]
          · rw [ag_I_n (by omega)]; exact hmf k (by omega) hk2
    | some e =>
      obtain ⟨e1, e2⟩ := e
      obtain ⟨hX, ⟨hn6, hm6⟩, ⟨hn, hm⟩, hlk, hbd⟩ := id hB
      refine wg_s rfl rfl ?_
      refine wg_if rfl rfl (fun h18 => ?_) (fun h18 => ?_)
      · exact wg_ret rfl rfl trivial ⟨rfl, hM.1, hM.2, fun k hk => hmf k (by omega) hk⟩
      
      · obtain ⟨i, rfl⟩ : ∃ i, h = i + 1 := ⟨h - 1, by omega⟩
        rw [show ((i + 1 : Nat) : Int) - 1 = (i : Int) by omega]
        refine wg_s rfl rfl ?_
        refine wg_s rfl rfl ?_
        refine wg_s rfl rfl ?_
        refine wg_s rfl rfl ?_
        refine lp_mx hB i (by omega) ?_ 7 0 0 (by omega) (by omega) rfl
        have hmr := xmf_rng (ok := ok) hbd (n - (i + 1)) (by omega)
        have hxb := x_mx_b (m := m) (ok := ok) (lk := lk) (ld := ld) (i := i) (B := 198) (fun j hj _ => by have := hbd i j (by omega) hj; omega) (by omega) m (Nat.le_refl _)
        have hx0 := x_mx_0 (m := m) (ok := ok) (lk := lk) (ld := ld) (i := i) m
        refine wg_s rfl rfl ?_
        refine wg_gx rfl rfl hX ?_
        refine wg_s rfl rfl ?_
        refine wg_s rfl rfl ?_
        refine wg_gx rfl rfl hX ?_
        refine wg_s rfl rfl ?_
        refine wg_s rfl rfl ?_
        refine wg_iadd rfl (by omega) (by omega) ?_
        refine wg_ax rfl (xf_l hX rfl) (by omega) (by omega) (show _ = x_mf m n ok lk ld (n - (i + 1)) from (congrArg (ag_I μ 11 16) (by omega)).trans (hmf (i + 1) (by omega) (by omega))) ?_
        refine wg_s rfl rfl ?_
        refine wg_iadd rfl (by omega) (by omega) ?_
        refine wg_axs rfl (xf_l hX rfl) (by omega) (by omega) ?_
        refine wg_iinc rfl rfl rfl (by omega) (by omega) rfl ?_
        refine wg_s rfl rfl ?_
        refine wg_mono (lp_mf (d := d) (μ0 := μ0) (n := n) (m := m) (ok := ok) (lk := lk) (ld := ld) N i (some (x_mx m ok lk ld i m, (m : Int))) (as_I μ 11 16 i (x_mf m n ok lk ld (n - (i + 1)) + x_mx m ok lk ld i m)) (BP_16 hB) ⟨hM.1, fun t x k q => (ag_I_n (by omega)).trans (hM.2 t x k q)⟩ (by omega) (by omega) (fun k hk hk2 => ?_)) (fun _ _ hq => hq)
        · by_cases e : k = i
          · rw [e, ag_I_y, show n - i = n - (i + 1) + 1 by omega]
            show _ = x_mf m n ok lk ld (n - (i + 1)) + x_mx m ok lk ld (n - (n - (i + 1) + 1)) m
            rw [show n - (n - (i + 1) + 1) = i by omega]
          · rw [ag_I_n (by omega)]; exact hmf k (by omega) hk2
theorem sp_reckon (d : Nat) {μ : ab_M} {n m : Nat} {ok : Nat → Nat → Bool} {lk ld : Nat → Nat → Int} (hB : BP μ n m ok lk ld) : Wp (d + 2) 32 [ab_r 1 (some 0)] μ (fun vv μ' => vv = none ∧ μ'.2 = μ.2 ∧ (∀ t x k, ¬ (t = 11 ∧ x = 16) → ag_I μ' t x k = ag_I μ t x k) ∧ ∀ k, k ≤ n → ag_I μ' 11 16 k = x_mf m n ok lk ld (n - k)) := by
  refine wp_of ?_
  obtain ⟨hX, ⟨hn6, hm6⟩, ⟨hn, hm⟩, hlk, hbd⟩ := id hB
  refine wg_s rfl rfl ?_
  refine wg_gx rfl rfl hX ?_
  refine wg_s rfl rfl ?_
  refine wg_gi rfl rfl (show _ = (n : Int) from hn) ?_
  refine wg_s rfl rfl ?_
  refine wg_axs rfl (xf_l hX rfl) (by omega) (by omega) ?_
  refine wg_s rfl rfl ?_
  refine wg_gi rfl rfl (show _ = (n : Int) from hn) ?_
  refine wg_s rfl rfl ?_
  refine wg_isub rfl (by omega) (by omega) ?_
  refine wg_s rfl rfl ?_
  exact lp_mf 7 n none _ (BP_16 hB) ⟨rfl, fun t x k q => ag_I_n (by omega)⟩ (by omega) (Nat.le_refl _) (fun k hk hk2 => by rw [show k = n by omega, show n - n = 0 by omega]; exact ag_I_y _ _ _ _ _)
