/-! ===== the class: its search ===== -/
def SSB (μ μ' : ab_M) : Prop := μ'.2 = μ.2 ∧ ∀ t n k, ¬ ((t = 1 ∧ n = 0 ∧ k = 10) ∨ (t = 11 ∧ (n = 17 ∨ n = 18 ∨ n = 19))) → ag_I μ' t n k = ag_I μ t n k
theorem SSB_refl (μ : ab_M) : SSB μ μ := ⟨rfl, fun _ _ _ _ => rfl⟩
theorem SSB_set {μ μ' : ab_M} (h : SSB μ μ') {t n k : Nat} {x : Int} (hs : (t = 1 ∧ n = 0 ∧ k = 10) ∨ (t = 11 ∧ (n = 17 ∨ n = 18 ∨ n = 19))) : SSB μ (as_I μ' t n k x) := ⟨h.1, fun t' n' k' q => (ag_I_n (by omega)).trans (h.2 t' n' k' q)⟩
theorem BP_S {μ μ' : ab_M} {n m : Nat} {ok : Nat → Nat → Bool} {lk ld : Nat → Nat → Int} (h : SSB μ μ') (hB : BP μ n m ok lk ld) : BP μ' n m ok lk ld := by
  obtain ⟨hX, h6, ⟨hn, hm⟩, hlk, hbd⟩ := hB
  refine ⟨?_, h6, ⟨(h.2 1 0 2 (by omega)).trans hn, (h.2 1 0 3 (by omega)).trans hm⟩, fun i j hi hj => ⟨(h.2 11 (4 + i) j (by omega)).trans (hlk i j hi hj).1, (h.2 11 (10 + i) j (by omega)).trans (hlk i j hi hj).2⟩, hbd⟩
  show FX μ'.2.2.1 μ'.2.2.2.1
  rw [h.1]; exact hX
section
variable {μ0 : ab_M} {n m : Nat} {ok : Nat → Nat → Bool} {lk ld : Nat → Nat → Int}
def PS (μ0 : ab_M) (n m : Nat) (ok : Nat → Nat → Bool) (A : Nat → Int) (i : Nat) (s : Int × (Nat → Int)) (μ : ab_M) : Prop := SSB μ0 μ ∧ WA μ m ok A i ∧ ag_I μ 1 0 10 = s.1 ∧ ∀ k, k < n → ag_I μ 11 19 k = s.2 k
theorem se_lt (A : Nat → Int) {i k : Nat} (x : Int) (h : k < i) : se A i x k = A k := by unfold se; rw [if_neg (by omega)]
theorem se_at (A : Nat → Int) (i : Nat) (x : Int) : se A i x i = x := by unfold se; rw [if_pos rfl]
theorem gi_se {A : Nat → Int} {i p : Nat} {x : Int} : gi (se A i x) p (i + 1) = if x = (p : Int) then (i : Int) else gi A p i := by
  show (if se A i x i = (p : Int) then (i : Int) else gi (se A i x) p i) = _
  rw [se_at, gi_e (fun k hk => se_lt A x hk)]
theorem PS_j {A : Nat → Int} {i j : Nat} {s : Int × (Nat → Int)} {μ : ab_M} (h : PS μ0 n m ok A i s μ) (hj : j < m) (ho : ok i j = true) (hu : un A j i = true) : PS μ0 n m ok (se A i (j : Int)) (i + 1) s (as_I (as_I μ 11 17 i (j : Int)) 11 18 j (i : Int)) := by
  obtain ⟨h1, ⟨w1, w2, w3⟩, h3, h4⟩ := h
  refine ⟨SSB_set (SSB_set h1 (by omega)) (by omega), ⟨fun k hk => ?_, fun p hp => ?_, val_j w3 hj ho hu⟩, (ag_I_n (by omega)).trans ((ag_I_n (by omega)).trans h3), fun k hk => (ag_I_n (by omega)).trans ((ag_I_n (by omega)).trans (h4 k hk))⟩
  · rw [ag_I_n (by omega)]
    by_cases e : k = i
    · rw [e, ag_I_y, se_at]
    · rw [ag_I_n (by omega), se_lt A _ (by omega)]; exact w1 k (by omega)
  · rw [gi_se]
    by_cases e : p = j
    · rw [e, ag_I_y, if_pos rfl]
    · rw [ag_I_n (by omega), ag_I_n (by omega), if_neg (by omega)]; exact w2 p hp
theorem PS_jb {A : Nat → Int} {i j : Nat} {s : Int × (Nat → Int)} {μ : ab_M} (h : PS μ0 n m ok (se A i (j : Int)) (i + 1) s μ) (hv : val m ok A i) (hu : un A j i = true) : PS μ0 n m ok A i s (as_I μ 11 18 j (-1)) := by
  obtain ⟨h1, ⟨w1, w2, w3⟩, h3, h4⟩ := h
  refine ⟨SSB_set h1 (by omega), ⟨fun k hk => ?_, fun p hp => ?_, hv⟩, (ag_I_n (by omega)).trans h3, fun k hk => (ag_I_n (by omega)).trans (h4 k hk)⟩
  · rw [ag_I_n (by omega), w1 k (by omega), se_lt A _ hk]
  · by_cases e : p = j
    · rw [e, ag_I_y]; exact (gi_un.mpr (un_i.mp hu)).symm
    · rw [ag_I_n (by omega), w2 p hp, gi_se, if_neg (by omega)]
theorem PS_m {A : Nat → Int} {i : Nat} {s : Int × (Nat → Int)} {μ : ab_M} (h : PS μ0 n m ok A i s μ) : PS μ0 n m ok (se A i (-1)) (i + 1) s (as_I μ 11 17 i (-1)) := by
  obtain ⟨h1, ⟨w1, w2, w3⟩, h3, h4⟩ := h
  refine ⟨SSB_set h1 (by omega), ⟨fun k hk => ?_, fun p hp => ?_, val_m1 w3⟩, (ag_I_n (by omega)).trans h3, fun k hk => (ag_I_n (by omega)).trans (h4 k hk)⟩
  · by_cases e : k = i
    · rw [e, ag_I_y, se_at]
    · rw [ag_I_n (by omega), se_lt A _ (by omega)]; exact w1 k (by omega)
  · rw [ag_I_n (by omega), gi_se, if_neg (by omega)]; exact w2 p hp
theorem PS_mb {A : Nat → Int} {i : Nat} {s : Int × (Nat → Int)} {μ : ab_M} (h : PS μ0 n m ok (se A i (-1)) (i + 1) s μ) (hv : val m ok A i) : PS μ0 n m ok A i s μ := by
  obtain ⟨h1, ⟨w1, w2, w3⟩, h3, h4⟩ := h
  refine ⟨h1, ⟨fun k hk => ?_, fun p hp => ?_, hv⟩, h3, h4⟩
  · rw [w1 k (by omega), se_lt A _ hk]
  · rw [w2 p hp, gi_se, if_neg (by omega)]
theorem xl_rng (hbd : ∀ i j, i < n → j < m → (0 ≤ lk i j ∧ lk i j ≤ 99) ∧ (0 ≤ ld i j ∧ ld i j ≤ 99)) {A : Nat → Int} : ∀ i, i ≤ n → val m ok A i → 0 ≤ pr_l lk ld A i ∧ pr_l lk ld A i ≤ 198 * i
  | 0, _, _ => by simp [pr_l]
  | i + 1, hi, hv => by
    have h1 := xl_rng hbd i (by omega) (val_le hv (by omega))
    unfold pr_l
    rcases hv i (by omega) with q | ⟨q1, _, _⟩
    · rw [if_pos (by omega)]; omega
    · rw [if_neg (by omega)]
      have := hbd i (A i).toNat (by omega) (by omega)
      omega
abbrev hM_ (n m : Nat) (ok : Nat → Nat → Bool) (lk ld : Nat → Nat → Int) (M : Int) : (Nat → Int) → Int × (Nat → Int) → Int × (Nat → Int) := h_M (fun A => pr_r m n ok lk ld A n) (fun A => pr_l lk ld A n) M
theorem skip_r {A : Nat → Int} {i c : Nat} {M : Int} {s : Int × (Nat → Int)} (hic : i + c = n) (hv : val m ok A i) (h : M < rs2 m ok lk ld A i i) : pf m ok (hM_ n m ok lk ld M) c i A s = s := by
  refine pf_skip _ c i A s hv (fun A' he hv' => ?_)
  have h1 := rs2_mono (lk := lk) (ld := ld) (i := i) c hv'
  rw [rs2_e he i (Nat.le_refl _), hic] at h1
  have h2 := run_all_eq (m := m) (ok := ok) (lk := lk) (ld := ld) n A'
  have h3 := su_rng (f := unp n ok lk ld A') (b := n) m (fun k _ => unp_rng n A' k)
  show (if _ ∧ _ then _ else s) = s
  rw [if_neg]
  intro w
  have : pr_r m n ok lk ld A' n ≤ M := w.1
  omega
theorem skip_l {A : Nat → Int} {i c : Nat} {M : Int} {s : Int × (Nat → Int)} (hic : i + c = n) (hv : val m ok A i) (h : pr_l lk ld A i + x_mf m n ok lk ld c ≤ s.1) : pf m ok (hM_ n m ok lk ld M) c i A s = s := by
  refine pf_skip _ c i A s hv (fun A' he hv' => ?_)
  rw [hic] at hv'
  have h1 := pr_l_le (lk := lk) (ld := ld) c (by omega) hv'
  rw [show n - c = i by omega, pr_l_e i he] at h1
  show (if _ ∧ _ then _ else s) = s
  rw [if_neg]
  intro w
  have : s.1 < pr_l lk ld A' n := w.2
  omega
end
theorem sp_keep (d : Nat) (r L M b : Int) {μ : ab_M} (hX : XF μ) (hM : ag_I μ 1 0 11 = M) (hb : ag_I μ 1 0 10 = b) : Wp (d + 1) 34 [ab_r 1 (some 0), ab_i r, ab_i L] μ (fun vv μ' => vv = none ∧ μ' = if r ≤ M ∧ b < L then as_Y (as_I μ 1 0 10 L) 11 17 0 19 0 6 else μ) := by
  refine wp_of ?_
  refine wg_s rfl rfl ?_
  refine wg_s rfl rfl ?_
  refine wg_gi rfl rfl (show _ = M from hM) ?_
  refine wg_if rfl rfl (fun h5 => ?_) (fun h5 => ?_)
  · exact wg_ret rfl rfl trivial ⟨rfl, by first | rw [if_pos (by omega)]; rfl | rw [if_neg (by omega)]⟩
  · refine wg_s rfl rfl ?_
    refine wg_s rfl rfl ?_
    refine wg_gi rfl rfl (show _ = b from hb) ?_
    refine wg_if rfl rfl (fun h13 => ?_) (fun h13 => ?_)
    · exact wg_ret rfl rfl trivial ⟨rfl, by first | rw [if_pos (by omega)]; rfl | rw [if_neg (by omega)]⟩
    · refine wg_s rfl rfl ?_
      refine wg_s rfl rfl ?_
      refine wg_s rfl rfl ?_
      refine wg_s rfl rfl ?_
      refine wg_gx rfl rfl hX ?_
      refine wg_s rfl rfl ?_
      refine wg_s rfl rfl ?_
      refine wg_gx rfl rfl hX ?_
      refine wg_s rfl rfl ?_
      refine wg_s rfl rfl ?_
      refine wg_c rfl rfl ⟨by omega, by omega, by omega, ?_, ?_⟩ ?_
      · show (0 : Int) + 6 ≤ (ag_L μ 11 17 : Nat); rw [xf_l hX rfl]; decide
      · show (0 : Int) + 6 ≤ (ag_L μ 11 19 : Nat); rw [xf_l hX rfl]; decide
      exact wg_ret rfl rfl trivial ⟨rfl, by first | rw [if_pos (by omega)]; rfl | rw [if_neg (by omega)]⟩
theorem rs2_nn {m : Nat} {ok : Nat → Nat → Bool} {lk ld : Nat → Nat → Int} (A : Nat → Int) (q : Nat) : ∀ h, 0 ≤ rs2 m ok lk ld A q h
  | 0 => Int.le_refl _
  | h + 1 => by
    have h1 := rs2_nn (m := m) (ok := ok) (lk := lk) (ld := ld) A q h
    have h2 := nb_rng (rq ok lk ld A q h) m
    unfold rs2; omega
theorem lp_seat {d c : Nat} {μ0 : ab_M} {n m : Nat} {ok : Nat → Nat → Bool} {lk ld : Nat → Nat → Int} (hB0 : BP μ0 n m ok lk ld) (M : Int) (hM : ag_I μ0 1 0 11 = M) (hMr : 0 ≤ M ∧ M ≤ 36) (hmf : ∀ k, k ≤ n → ag_I μ0 11 16 k = x_mf m n ok lk ld (n - k)) (i : Nat) {A : Nat → Int} (hic : i + 1 + c = n) (hr : rs2 m ok lk ld A i i ≤ M) (ih : ∀ (A : Nat → Int) (s : Int × (Nat → Int)) (μ : ab_M), PS μ0 n m ok A (i + 1) s μ → Wp (d + c + 4) 33 [ab_r 1 (some 0), ab_i ((i : Int) + 1), ab_i (rs2 m ok lk ld A (i + 1) (i + 1)), ab_i (pr_l lk ld A (i + 1))] μ (fun vv μ' => vv = none ∧ PS μ0 n m ok A (i + 1) (pf m ok (hM_ n m ok lk ld M) c (i + 1) A s) μ')) : ∀ (N j : Nat) (s : Int × (Nat → Int)) (μ : ab_M), PS μ0 n m ok A i s μ → m - j < N → j ≤ m → Wg (d + c + 4) 33 μ 54 [(0, ab_r 1 (some 0)), (1, ab_i (i : Int)), (2, ab_i (rs2 m ok lk ld A i i)), (3, ab_i (pr_l lk ld A i)), (4, ab_i (j : Int))] [] (fun vv μ' => vv = none ∧ PS μ0 n m ok A i (pf m ok (hM_ n m ok lk ld M) c (i + 1) (se A i (-1)) (it (fun j s => if (ok i j && un A j i) = true then pf m ok (hM_ n m ok lk ld M) c (i + 1) (se A i (j : Int)) s else s) (m - j) j s)) μ')
  | 0, _, _, _, _, h, _ => by omega
  | N + 1, j, s, μ, hP, h1, h2 => by
    have hB := BP_S hP.1 hB0
    obtain ⟨hX, ⟨hn6, hm6⟩, ⟨hn, hm⟩, hlk, hbd⟩ := id hB
    obtain ⟨hS, hW, hb, hF⟩ := id hP
    have hlr := xl_rng (lk := lk) (ld := ld) hbd i (by omega) hW.2.2
    have hrn := rs2_nn (m := m) (ok := ok) (lk := lk) (ld := ld) A i i
    refine wg_s rfl rfl ?_
    refine wg_s rfl rfl ?_
    refine wg_gi rfl rfl (show _ = (m : Int) from hm) ?_
    refine wg_if rfl rfl (fun h60 => ?_) (fun h60 => ?_)
    · have hjm : m - j = 0 := by omega
      rw [hjm]
      refine wg_s rfl rfl ?_
      refine wg_gx rfl rfl hX ?_
      refine wg_s rfl rfl ?_
      refine wg_s rfl rfl ?_
      refine wg_axs rfl (xf_l hX rfl) (by omega) (by omega) ?_
      refine wg_s rfl rfl ?_
      refine wg_s rfl rfl ?_
      refine wg_s rfl rfl ?_
      refine wg_iadd rfl (by omega) (by omega) ?_
      refine wg_s rfl rfl ?_
      refine wg_s rfl rfl ?_
      refine wg_s rfl rfl ?_
      have hP2 := PS_m hP
      have hB2 := BP_S hP2.1 hB0
      have e1 := rs2_n (lk := lk) (ld := ld) hP2.2.1.2.2
      rw [rs2_e (fun k hk => se_lt A (-1) hk) i (Nat.le_refl _)] at e1
      have hnr := nr_rng (m := m) (ok := ok) (lk := lk) (ld := ld) (A := se A i (-1)) (i := i)
      refine wg_cf rfl rfl (sp_newRun _ hB2 i hP2.2.1 (by omega)) ?_
      refine wg_iadd rfl (by omega) (by omega) ?_
      refine wg_s rfl rfl ?_
      have e2 : pr_l lk ld (se A i (-1)) (i + 1) = pr_l lk ld A i := by
        show pr_l lk ld (se A i (-1)) i + _ = _
        rw [pr_l_e i (fun k hk => se_lt A (-1) hk), se_at, if_pos (by omega), Int.add_zero]
      have hi2 := ih (se A i (-1)) s _ hP2
      rw [e1, e2] at hi2
      refine wg_call rfl rfl hi2 (fun vv μ2 hq => ?_)
      obtain ⟨rfl, hq⟩ := hq
      exact wg_ret rfl rfl trivial ⟨rfl, PS_mb hq hW.2.2⟩
    · have hit : it (fun j s => if (ok i j && un A j i) = true then pf m ok (hM_ n m ok lk ld M) c (i + 1) (se A i (j : Int)) s else s) (m - j) j s = it (fun j s => if (ok i j && un A j i) = true then pf m ok (hM_ n m ok lk ld M) c (i + 1) (se A i (j : Int)) s else s) (m - (j + 1)) (j + 1) ((fun j s => if (ok i j && un A j i) = true then pf m ok (hM_ n m ok lk ld M) c (i + 1) (se A i (j : Int)) s else s) j s) := by rw [show m - j = m - (j + 1) + 1 by omega]; rfl
      refine wg_s rfl rfl ?_
      refine wg_s rfl rfl ?_
      refine wg_s rfl rfl ?_
      refine wg_cf rfl rfl (sp_can _ hB i j (by omega) (by omega)) ?_
      refine wg_eqb rfl (fun h70 => ?_) (fun h70 => ?_)
      · have hfj : (fun j s => if (ok i j && un A j i) = true then pf m ok (hM_ n m ok lk ld M) c (i + 1) (se A i (j : Int)) s else s) j s = s := if_neg (fun w => h70 (by rw [Bool.and_eq_true] at w; exact w.1))
        refine wg_iinc rfl rfl rfl (by omega) (by omega) rfl ?_
        refine wg_s rfl rfl ?_
        have hrec := lp_seat hB0 M hM hMr hmf i hic hr ih N (j + 1) s μ hP (by omega) (by omega)
        rw [show ((j + 1 : Nat) : Int) = (j : Int) + 1 by omega] at hrec
        rw [hit, hfj]
        exact hrec
      · refine wg_s rfl rfl ?_
        refine wg_gx rfl rfl hX ?_
        refine wg_s rfl rfl ?_
        refine wg_ax rfl (xf_l hX rfl) (by omega) (by omega) (show _ = gi A j i from hW.2.1 j (by omega)) ?_
        refine wg_s rfl rfl ?_
        refine wg_if rfl rfl (fun h81 => ?_) (fun h81 => ?_)
        · have hfj : (fun j s => if (ok i j && un A j i) = true then pf m ok (hM_ n m ok lk ld M) c (i + 1) (se A i (j : Int)) s else s) j s = s := if_neg (fun w => h81 (by rw [Bool.and_eq_true] at w; exact gi_un.mpr (un_i.mp w.2)))
          refine wg_iinc rfl rfl rfl (by omega) (by omega) rfl ?_
          refine wg_s rfl rfl ?_
          have hrec := lp_seat hB0 M hM hMr hmf i hic hr ih N (j + 1) s μ hP (by omega) (by omega)
          rw [show ((j + 1 : Nat) : Int) = (j : Int) + 1 by omega] at hrec
          rw [hit, hfj]
          exact hrec
        · have hu : un A j i = true := un_i.mpr (gi_un.mp (Decidable.not_not.mp h81))
          refine wg_s rfl rfl ?_
          refine wg_gx rfl rfl hX ?_
          refine wg_s rfl rfl ?_
          refine wg_s rfl rfl ?_
          refine wg_axs rfl (xf_l hX rfl) (by omega) (by omega) ?_
          refine wg_s rfl rfl ?_
          refine wg_gx rfl rfl hX ?_
          refine wg_s rfl rfl ?_
          refine wg_s rfl rfl ?_
          refine wg_axs rfl (xf_l hX rfl) (by omega) (by omega) ?_
          refine wg_s rfl rfl ?_
          refine wg_s rfl rfl ?_
          refine wg_s rfl rfl ?_
          refine wg_iadd rfl (by omega) (by omega) ?_
          refine wg_s rfl rfl ?_
          refine wg_s rfl rfl ?_
          refine wg_s rfl rfl ?_
          have hP2 := PS_j hP (show j < m by omega) h70 hu
          have hB2 := BP_S hP2.1 hB0
          have e1 := rs2_n (lk := lk) (ld := ld) hP2.2.1.2.2
          rw [rs2_e (fun k hk => se_lt A _ hk) i (Nat.le_refl _)] at e1
          have hnr := nr_rng (m := m) (ok := ok) (lk := lk) (ld := ld) (A := se A i (j : Int)) (i := i)
          have hbj := hbd i j (by omega) (by omega)
          refine wg_cf rfl rfl (sp_newRun _ hB2 i hP2.2.1 (by omega)) ?_
          refine wg_iadd rfl (by omega) (by omega) ?_
          refine wg_s rfl rfl ?_
          refine wg_s rfl rfl ?_
          refine wg_s rfl rfl ?_
          refine wg_s rfl rfl ?_
          refine wg_cf rfl rfl (sp_both _ hB2 i j (by omega) (by omega) h70) ?_
          refine wg_iadd rfl (by omega) (by omega) ?_
          have e2 : pr_l lk ld (se A i (j : Int)) (i + 1) = pr_l lk ld A i + (lk i j + ld i j) := by
            show pr_l lk ld (se A i (j : Int)) i + _ = _
            rw [pr_l_e i (fun k hk => se_lt A _ hk), se_at, if_neg (by omega)]; rfl
          have hi2 := ih (se A i (j : Int)) s _ hP2
          rw [e1, e2] at hi2
          refine wg_call rfl rfl hi2 (fun vv μ2 hq => ?_)
          obtain ⟨rfl, hq⟩ := hq
          have hP3 := PS_jb hq hW.2.2 hu
          have hX2 : XF μ2 := (BP_S hq.1 hB0).1
          have hfj : (fun j s => if (ok i j && un A j i) = true then pf m ok (hM_ n m ok lk ld M) c (i + 1) (se A i (j : Int)) s else s) j s = pf m ok (hM_ n m ok lk ld M) c (i + 1) (se A i (j : Int)) s := if_pos (by rw [Bool.and_eq_true]; exact ⟨h70, hu⟩)
          refine wg_s rfl rfl ?_
          refine wg_gx rfl rfl hX2 ?_
          refine wg_s rfl rfl ?_
          refine wg_s rfl rfl ?_
          refine wg_axs rfl (xf_l hX2 rfl) (by omega) (by omega) ?_
          refine wg_iinc rfl rfl rfl (by omega) (by omega) rfl ?_
          refine wg_s rfl rfl ?_
          have hrec := lp_seat hB0 M hM hMr hmf i hic hr ih N (j + 1) _ _ hP3 (by omega) (by omega)
          rw [show ((j + 1 : Nat) : Int) = (j : Int) + 1 by omega] at hrec
          rw [hit, hfj]
          exact hrec
