/-! ===== the class: the agreement is read ===== -/
theorem sp_without (d w : Nat) {μ : ab_M} (hX : XF μ) (hS : XS μ) (hw : w < 4) : Wp (d + 1) 1 [ab_i (w : Int)] μ (fun vv μ' => vv = some (ab_i (R0_ w)) ∧ μ' = μ) := by
  refine wp_of ?_
  refine wg_s rfl rfl ?_
  refine wg_s rfl rfl ?_
  refine wg_at (pc2 := 4) (show (if (w : Int) < 0 then 20 else 4) = 4 from if_neg (by omega)) ?_
  refine wg_s rfl rfl ?_
  refine wg_s rfl rfl ?_
  refine wg_len rfl rfl (xf_l hX rfl) ?_
  refine wg_if rfl rfl (fun h9 => absurd h9 (by omega)) (fun h9 => ?_)
  refine wg_s rfl rfl ?_
  refine wg_s rfl rfl ?_
  refine wg_ar rfl (xf_l hX rfl) (by omega) (by omega) (show _ = R0_ w from (hS.1 w (by omega)).1) ?_
  refine wg_s rfl rfl ?_
  exact wg_ret rfl rfl trivial ⟨rfl, rfl⟩
theorem st_fg {d w : Nat} {μ : ab_M} {Q : Option ab_V → ab_M → Prop} (hX : XF μ) (hS : XS μ) (hw : w < 4) (K : Wg (d + 1) 9 (as_I μ 11 1 w (R0_ w)) 2 [(0, ab_r 0 (some 0)), (1, ab_i ((w : Int) + 1))] [] Q) : Wg (d + 1) 9 μ 2 [(0, ab_r 0 (some 0)), (1, ab_i (w : Int))] [] Q := by
  refine wg_s rfl rfl ?_
  refine wg_s rfl rfl ?_
  refine wg_gx rfl rfl hX ?_
  refine wg_len rfl rfl (xf_l hX rfl) ?_
  refine wg_if rfl rfl (fun h8 => absurd h8 (by omega)) (fun h8 => ?_)
  refine wg_s rfl rfl ?_
  refine wg_gx rfl rfl hX ?_
  refine wg_s rfl rfl ?_
  refine wg_s rfl rfl ?_
  refine wg_cf rfl rfl (sp_without _ w hX hS hw) ?_
  refine wg_axs rfl (xf_l hX rfl) (by omega) (by omega) ?_
  refine wg_iinc rfl rfl rfl (by omega) (by omega) rfl ?_
  refine wg_s rfl rfl ?_
  exact K
def x_n4 (μ : ab_M) : ab_M := as_I (as_I (as_I (as_I μ 11 1 0 (R0_ 0)) 11 1 1 (R0_ 1)) 11 1 2 (R0_ 2)) 11 1 3 (R0_ 3)
def x_fg (μ : ab_M) : ab_M := as_I (as_I (as_I (as_I (as_I (as_I (x_n4 μ) 0 0 1 0) 0 0 2 0) 0 0 3 0) 0 0 4 (-1)) 0 0 6 0) 0 0 7 0
theorem XS_1 {μ : ab_M} (h : XS μ) (k : Nat) (x : Int) : XS (as_I μ 11 1 k x) := XS_B (fun _ _ _ _ => ag_I_n (by omega)) h
theorem sp_forget (d : Nat) {μ : ab_M} (hX : XF μ) (hS : XS μ) : Wp (d + 2) 9 [ab_r 0 (some 0)] μ (fun vv μ' => vv = none ∧ μ' = x_fg μ) := by
  refine wp_of ?_
  refine wg_s rfl rfl ?_
  refine wg_s rfl rfl ?_
  refine st_fg (w := 0) hX hS (by omega) ?_
  refine st_fg (w := 1) hX (XS_1 hS _ _) (by omega) ?_
  refine st_fg (w := 2) hX (XS_1 (XS_1 hS _ _) _ _) (by omega) ?_
  refine st_fg (w := 3) hX (XS_1 (XS_1 (XS_1 hS _ _) _ _) _ _) (by omega) ?_
  refine wg_s rfl rfl ?_
  refine wg_s rfl rfl ?_
  refine wg_gx rfl rfl hX ?_
  refine wg_len rfl rfl (xf_l (μ := x_n4 μ) hX rfl) ?_
  refine wg_s rfl rfl ?_
  refine wg_at (pc2 := 27) (by decide) ?_
  refine wg_s rfl rfl ?_
  refine wg_s rfl rfl ?_
  refine wg_s rfl rfl ?_
  refine wg_s rfl rfl ?_
  refine wg_s rfl rfl ?_
  refine wg_s rfl rfl ?_
  refine wg_s rfl rfl ?_
  refine wg_s rfl rfl ?_
  refine wg_s rfl rfl ?_
  refine wg_s rfl rfl ?_
  refine wg_s rfl rfl ?_
  refine wg_s rfl rfl ?_
  refine wg_s rfl rfl ?_
  refine wg_s rfl rfl ?_
  refine wg_s rfl rfl ?_
  refine wg_s rfl rfl ?_
  refine wg_s rfl rfl ?_
  refine wg_s rfl rfl ?_
  exact wg_ret rfl rfl trivial ⟨rfl, rfl⟩
theorem ex_read {d i : Nat} {μ : ab_M} {f : Int} (h3 : ag_I μ 0 0 3 = f) : Wg d 8 μ 57 [(0, ab_r 0 (some 0)), (1, ab_r 7 (some 0)), (2, ab_i (i : Int))] [] (fun vv μ' => vv = some (ab_i (bI (f = 0))) ∧ μ' = μ) := by
  refine wg_s rfl rfl ?_
  refine wg_gi rfl rfl (show _ = f from h3) ?_
  refine wg_if rfl rfl (fun h61 => ?_) (fun h61 => ?_)
  · refine wg_s rfl rfl ?_
    refine wg_ret rfl rfl (by first | exact Or.inl rfl | exact Or.inr rfl) ⟨?_, rfl⟩
    first | rw [bI_t (by omega)] | rw [bI_f (by omega)]
  · refine wg_s rfl rfl ?_
    refine wg_s rfl rfl ?_
    refine wg_ret rfl rfl (by first | exact Or.inl rfl | exact Or.inr rfl) ⟨?_, rfl⟩
    first | rw [bI_t (by omega)] | rw [bI_f (by omega)]
theorem lp_read {d : Nat} {μ0 : ab_M} {l : Nat} {U : Nat → Int} : ∀ (f i a : Nat) (S : Nat → Bool) (R : Nat → Int) (μ : ab_M), RS μ l U → a ≤ l → ag_I μ 0 0 7 = (a : Int) → ag_I μ 0 0 1 = sw S → ag_I μ 0 0 2 = (i : Int) → ag_I μ 0 0 3 = 0 → ag_I μ 0 0 4 = -1 → (∀ k, k < 4 → ag_I μ 11 1 k = R k) → SX μ0 μ → i + f = 5 → Wg (d + 8) 8 μ 12 [(0, ab_r 0 (some 0)), (1, ab_r 7 (some 0)), (2, ab_i (i : Int))] [] (fun vv μ' => vv = some (ab_i (bI ((pa U l f a S R).1 = 0))) ∧ SX μ0 μ' ∧ (ag_I μ' 0 0 3 = (pa U l f a S R).1 ∧ ag_I μ' 0 0 4 = (pa U l f a S R).2.1) ∧ ((pa U l f a S R).1 = 0 → ag_I μ' 0 0 2 = (i : Int) + (pa U l f a S R).2.2.1 ∧ ∀ k, k < 4 → ag_I μ' 11 1 k = (pa U l f a S R).2.2.2 k))
  | 0, i, a, S, R, μ, hR, ha, h7, h1, h2, h3, h4, hN, hM, hif => by
    have e5 : i = 5 := by omega
    subst e5
    refine wg_s rfl rfl ?_
    refine wg_s rfl rfl ?_
    refine wg_s rfl rfl ?_
    refine wg_at (pc2 := 57) (by decide) ?_
    refine wg_mono (ex_read (f := 0) h3) (fun vv μ2 hq => ?_)
    obtain ⟨rfl, rfl⟩ := hq
    exact ⟨rfl, hM, ⟨h3, h4⟩, fun _ => ⟨h2, hN⟩⟩
  | f + 1, i, a, S, R, μ, hR, ha, h7, h1, h2, h3, h4, hN, hM, hif => by
    obtain ⟨hX, hS, hl, hl2, hU⟩ := id hR
    have h0 : ∀ i, i < l → 0 ≤ U i := fun i hi => (hU i hi).2.1
    have ra := ts_rng (T := U) ha
    have hXS : SX μ (x_st μ U l a) := ⟨rfl, fun t n k q1 q2 => by simp only [x_st, ag_I_I]; repeat rw [if_neg (by omega)]⟩
    refine wg_s rfl rfl ?_
    refine wg_s rfl rfl ?_
    refine wg_if rfl rfl (fun h14 => absurd h14 (by omega)) (fun h14 => ?_)
    refine wg_s rfl rfl ?_
    refine wg_s rfl rfl ?_
    refine wg_cv rfl rfl (sp_step _ a hR h7 ha) ?_
    refine wg_s rfl rfl ?_
    refine wg_gi rfl rfl (show _ = x_k U l (t_s U l a) from by simp [x_st, ag_I_I]) ?_
    refine wg_s rfl rfl ?_
    refine wg_if rfl rfl (fun h27 => ?_) (fun h27 => ?_)
    · have hP : pa U l (f + 1) a S R = (0, -1, 0, R) := by rw [pa, if_pos ((tk_0 ra.2 h0).mpr h27)]
      rw [hP]
      refine wg_mono (ex_read (f := 0) ((show ag_I (x_st μ U l a) 0 0 3 = ag_I μ 0 0 3 from by simp [x_st, ag_I_I]).trans h3)) (fun vv μ2 hq => ?_)
      obtain ⟨rfl, rfl⟩ := hq
      refine ⟨rfl, SX_trans hM hXS, ⟨?_, ?_⟩, fun _ => ⟨?_, fun k hk => ?_⟩⟩
      · simpa [x_st, ag_I_I] using h3
      · simpa [x_st, ag_I_I] using h4
      · simpa [x_st, ag_I_I] using h2
      · simpa [x_st, ag_I_I] using hN k hk
    · have hT : ¬ t_k U l (t_s U l a) = 0 := fun q => h27 ((tk_0 ra.2 h0).mp q)
      refine wg_s rfl rfl ?_
      refine wg_s rfl rfl ?_
      refine wg_call rfl rfl (sp_clause _ a S (RS_st hR) ha (by simp [x_st, ag_I_I]) (by simp [x_st, ag_I_I]) (by simp [x_st, ag_I_I]) (by simpa [x_st, ag_I_I] using h1) (by simpa [x_st, ag_I_I] using h3) (by simpa [x_st, ag_I_I] using h4)) (fun vv μ2 hq => ?_)
      obtain ⟨rfl, q1, q2, q3, q4⟩ := hq
      have hM2 : SX μ0 μ2 := SX_trans hM (SX_trans hXS q1)
      refine wg_neb rfl (fun hc => ?_) (fun hc => ?_)
      · have hP : pa U l (f + 1) a S R = ((pa U l f (cl U l S a).2.2.1 (sb S (cl U l S a).2.2.2.1) (sr R (cl U l S a).2.2.2.1 (cl U l S a).2.2.2.2)).1, (pa U l f (cl U l S a).2.2.1 (sb S (cl U l S a).2.2.2.1) (sr R (cl U l S a).2.2.2.1 (cl U l S a).2.2.2.2)).2.1, (pa U l f (cl U l S a).2.2.1 (sb S (cl U l S a).2.2.2.1) (sr R (cl U l S a).2.2.2.1 (cl U l S a).2.2.2.2)).2.2.1 + 1, (pa U l f (cl U l S a).2.2.1 (sb S (cl U l S a).2.2.2.1) (sr R (cl U l S a).2.2.2.1 (cl U l S a).2.2.2.2)).2.2.2) := by rw [pa, if_neg hT, if_neg (fun q => q hc)]
        obtain ⟨e1, ⟨e3, e4⟩, e7, eN⟩ := q4 hc
        have e2 : ag_I μ2 0 0 2 = (i : Int) := q2.trans (by simpa [x_st, ag_I_I] using h2)
        refine wg_s rfl rfl ?_
        refine wg_s rfl rfl ?_
        refine wg_gi rfl rfl (show _ = (i : Int) from e2) ?_
        refine wg_s rfl rfl ?_
        refine wg_iadd rfl (by omega) (by omega) ?_
        refine wg_s rfl rfl ?_
        refine wg_iinc rfl rfl rfl (by omega) (by omega) rfl ?_
        refine wg_s rfl rfl ?_
        rw [hP]
        have hrec := lp_read (d := d) (μ0 := μ0) f (i + 1) (cl U l S a).2.2.1 (sb S (cl U l S a).2.2.2.1) (sr R (cl U l S a).2.2.2.1 (cl U l S a).2.2.2.2) (as_I μ2 0 0 2 ((i : Int) + 1)) (RS_0 (RS_X (RS_st hR) q1) 2 _) (cl_a S ha) ((ag_I_n (by omega)).trans e7) ((ag_I_n (by omega)).trans e1) ((ag_I_y _ _ _ _ _).trans (by omega)) ((ag_I_n (by omega)).trans e3) ((ag_I_n (by omega)).trans e4) (fun k hk => ?_) ⟨hM2.1, fun t n k r1 r2 => (ag_I_n (by omega)).trans (hM2.2 t n k r1 r2)⟩ (by omega)
        · rw [show ((i + 1 : Nat) : Int) = (i : Int) + 1 by omega] at hrec
          refine wg_mono hrec (fun vv μ3 hq => ⟨hq.1, hq.2.1, hq.2.2.1, fun r => ⟨?_, (hq.2.2.2 r).2⟩⟩)
          have := (hq.2.2.2 r).1
          show ag_I μ3 0 0 2 = (i : Int) + ((pa U l f (cl U l S a).2.2.1 (sb S (cl U l S a).2.2.2.1) (sr R (cl U l S a).2.2.2.1 (cl U l S a).2.2.2.2)).2.2.1 + 1)
          omega
        · rw [ag_I_n (by omega), eN k]
          unfold sr
          split
          · rfl
          · simpa [x_st, ag_I_I] using hN k hk
      · have hP : pa U l (f + 1) a S R = ((cl U l S a).1, (cl U l S a).2.1, 0, R) := by rw [pa, if_neg hT, if_pos hc]
        rw [hP]
        refine wg_s rfl rfl ?_
        refine wg_mono (ex_read (f := (cl U l S a).1) (q3 hc).1) (fun vv μ2 hq => ?_)
        obtain ⟨rfl, rfl⟩ := hq
        exact ⟨rfl, hM2, q3 hc, fun r => absurd r hc⟩
theorem sp_read (d : Nat) {μ : ab_M} {l : Nat} {U : Nat → Int} (hR : RS μ l U) : Wp (d + 9) 8 [ab_r 0 (some 0), ab_r 7 (some 0)] μ (fun vv μ' => vv = some (ab_i (bI ((pa U l 5 0 S0_ R0_).1 = 0))) ∧ SX μ μ' ∧ (ag_I μ' 0 0 3 = (pa U l 5 0 S0_ R0_).1 ∧ ag_I μ' 0 0 4 = (pa U l 5 0 S0_ R0_).2.1) ∧ ((pa U l 5 0 S0_ R0_).1 = 0 → ag_I μ' 0 0 2 = (pa U l 5 0 S0_ R0_).2.2.1 ∧ ∀ k, k < 4 → ag_I μ' 11 1 k = (pa U l 5 0 S0_ R0_).2.2.2 k)) := by
  refine wp_of ?_
  obtain ⟨hX, hS, hl, hl2, hU⟩ := id hR
  refine wg_s rfl rfl ?_
  refine wg_s rfl rfl ?_
  refine wg_s rfl rfl ?_
  refine wg_cv rfl rfl (sp_forget _ hX hS) ?_
  refine wg_s rfl rfl ?_
  refine wg_s rfl rfl ?_
  have hM : SX μ (x_fg μ) := ⟨rfl, fun t n k q1 q2 => by simp only [x_fg, x_n4, ag_I_I]; repeat rw [if_neg (by omega)]⟩
  refine wg_mono (lp_read (d := d) (μ0 := μ) 5 0 0 S0_ R0_ (x_fg μ) (RS_X hR hM) (by omega) (by simp [x_fg, x_n4, ag_I_I]) (by simp [x_fg, x_n4, ag_I_I]; rfl) (by simp [x_fg, x_n4, ag_I_I]) (by simp [x_fg, x_n4, ag_I_I]) (by simp [x_fg, x_n4, ag_I_I]) (fun k hk => ?_) hM (by omega)) (fun vv μ2 hq => ⟨hq.1, hq.2.1, hq.2.2.1, fun r => ⟨?_, (hq.2.2.2 r).2⟩⟩)
  · rcases (show k = 0 ∨ k = 1 ∨ k = 2 ∨ k = 3 by omega) with rfl | rfl | rfl | rfl <;> simp [x_fg, x_n4, ag_I_I]
  · have := (hq.2.2.2 r).1
    omega
