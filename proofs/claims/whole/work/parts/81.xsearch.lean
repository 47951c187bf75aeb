/-! ===== the class: search ===== -/
def SB2 (μ μ' : ab_M) : Prop := μ'.2 = μ.2 ∧ ∀ t x k, ¬ ((t = 1 ∧ x = 0 ∧ (k = 10 ∨ k = 11)) ∨ (t = 11 ∧ 16 ≤ x ∧ x ≤ 19)) → ag_I μ' t x k = ag_I μ t x k
theorem BP_S2 {μ μ' : ab_M} {n m : Nat} {ok : Nat → Nat → Bool} {lk ld : Nat → Nat → Int} (h : SB2 μ μ') (hB : BP μ n m ok lk ld) : BP μ' n m ok lk ld := by
  obtain ⟨hX, h6, ⟨hn, hm⟩, hlk, hbd⟩ := hB
  refine ⟨?_, h6, ⟨(h.2 1 0 2 (by omega)).trans hn, (h.2 1 0 3 (by omega)).trans hm⟩, fun i j hi hj => ⟨(h.2 11 (4 + i) j (by omega)).trans (hlk i j hi hj).1, (h.2 11 (10 + i) j (by omega)).trans (hlk i j hi hj).2⟩, hbd⟩
  show FX μ'.2.2.1 μ'.2.2.2.1
  rw [h.1]; exact hX
abbrev A0_ : Nat → Int := fun _ => -1
theorem lp_search {d : Nat} {μ00 : ab_M} {n m : Nat} {ok : Nat → Nat → Bool} {lk ld : Nat → Nat → Int} (hB00 : BP μ00 n m ok lk ld) (rr : Nat) (t0 ts : Int × (Nat → Int)) (ht0 : t0.1 = -1) (hr : rr ≤ 36) (H1 : ∀ M : Nat, M < rr → pf m ok (hM_ n m ok lk ld (M : Int)) n 0 A0_ t0 = t0) (H2 : pf m ok (hM_ n m ok lk ld (rr : Int)) n 0 A0_ t0 = ts) (hts : 0 ≤ ts.1) : ∀ (N M : Nat) (μ : ab_M), rr - M < N → M ≤ rr → SB2 μ00 μ → ag_I μ 1 0 10 = -1 → (∀ k, k < n → ag_I μ 11 19 k = t0.2 k) → (∀ k, k ≤ n → ag_I μ 11 16 k = x_mf m n ok lk ld (n - k)) → (∀ j, j < m → ag_I μ 11 18 j = -1) → Wg (d + n + 4) 31 μ 19 [(0, ab_r 1 (some 0)), (1, ab_i (M : Int))] [] (fun vv μ' => vv = none ∧ SB2 μ00 μ' ∧ (ag_I μ' 1 0 11 = (rr : Int) ∧ ag_I μ' 1 0 10 = ts.1) ∧ ∀ k, k < n → ag_I μ' 11 19 k = ts.2 k)
  | 0, _, _, h, _, _, _, _, _, _ => by omega
  | N + 1, M, μ, h1, h2, hS, hb, hF, hmf, hw => by
    have hB := BP_S2 hS hB00
    obtain ⟨hX, ⟨hn6, hm6⟩, ⟨hn, hm⟩, hlk, hbd⟩ := id hB
    have hBM : BP (as_I μ 1 0 11 (M : Int)) n m ok lk ld := ⟨hX, ⟨hn6, hm6⟩, ⟨(ag_I_n (by omega)).trans hn, (ag_I_n (by omega)).trans hm⟩, fun i j hi hj => ⟨(ag_I_n (by omega)).trans (hlk i j hi hj).1, (ag_I_n (by omega)).trans (hlk i j hi hj).2⟩, hbd⟩
    have hseat := sp_seat (d := d) hBM (M : Int) (ag_I_y _ _ _ _ _) (by omega) (fun k hk => (ag_I_n (by omega)).trans (hmf k hk)) n 0 A0_ t0 (as_I μ 1 0 11 (M : Int)) (by omega) ⟨SSB_refl _, ⟨fun k hk => by omega, fun j hj => (ag_I_n (by omega)).trans (hw j hj), fun k hk => by omega⟩, (ag_I_n (by omega)).trans (hb.trans ht0.symm), fun k hk => (ag_I_n (by omega)).trans (hF k hk)⟩
    refine wg_s rfl rfl ?_
    refine wg_s rfl rfl ?_
    refine wg_if rfl rfl (fun h22 => absurd h22 (by omega)) (fun h22 => ?_)
    refine wg_s rfl rfl ?_
    refine wg_gi rfl rfl (show _ = -1 from hb) ?_
    refine wg_s rfl rfl ?_
    refine wg_s rfl rfl ?_
    refine wg_at (pc2 := 33) (by decide) ?_
    refine wg_s rfl rfl ?_
    refine wg_s rfl rfl ?_
    refine wg_s rfl rfl ?_
    refine wg_s rfl rfl ?_
    refine wg_s rfl rfl ?_
    refine wg_s rfl rfl ?_
    refine wg_s rfl rfl ?_
    refine wg_call rfl rfl hseat (fun vv μ2 hq => ?_)
    obtain ⟨rfl, hq⟩ := hq
    obtain ⟨q1, ⟨_, q2, _⟩, q3, q4⟩ := hq
    have hS2 : SB2 μ00 μ2 := ⟨q1.1.trans hS.1, fun t x k q => (q1.2 t x k (by omega)).trans ((ag_I_n (by omega)).trans (hS.2 t x k q))⟩
    have h11 : ag_I μ2 1 0 11 = (M : Int) := (q1.2 1 0 11 (by omega)).trans (ag_I_y _ _ _ _ _)
    by_cases hlt : M < rr
    · rw [H1 M hlt] at q3 q4
      refine wg_iinc rfl rfl rfl (by omega) (by omega) rfl ?_
      refine wg_s rfl rfl ?_
      have hrec := lp_search (d := d) hB00 rr t0 ts ht0 hr H1 H2 hts N (M + 1) μ2 (by omega) (by omega) hS2 (q3.trans ht0) q4 (fun k hk => (q1.2 11 16 k (by omega)).trans ((ag_I_n (by omega)).trans (hmf k hk))) q2
      rw [show ((M + 1 : Nat) : Int) = (M : Int) + 1 by omega] at hrec
      exact hrec
    · have eM : M = rr := by omega
      subst eM
      rw [H2] at q3 q4
      refine wg_iinc rfl rfl rfl (by omega) (by omega) rfl ?_
      refine wg_s rfl rfl ?_
      refine wg_s rfl rfl ?_
      refine wg_s rfl rfl ?_
      refine wg_if rfl rfl (fun h22 => ?_) (fun h22 => ?_)
      · exact wg_ret rfl rfl trivial ⟨rfl, hS2, ⟨h11, q3⟩, q4⟩
      
      · refine wg_s rfl rfl ?_
        refine wg_gi rfl rfl (show _ = ts.1 from q3) ?_
        refine wg_s rfl rfl ?_
        refine wg_if rfl rfl (fun h30 => ?_) (fun h30 => absurd hts (by omega))
        · exact wg_ret rfl rfl trivial ⟨rfl, hS2, ⟨h11, q3⟩, q4⟩
        
theorem sp_search (d : Nat) {μ00 : ab_M} {n m : Nat} {ok : Nat → Nat → Bool} {lk ld : Nat → Nat → Int} (hB00 : BP μ00 n m ok lk ld) (rr : Nat) (t0 ts : Int × (Nat → Int)) (ht0 : t0.1 = -1) (hr : rr ≤ 36) (H1 : ∀ M : Nat, M < rr → pf m ok (hM_ n m ok lk ld (M : Int)) n 0 A0_ t0 = t0) (H2 : pf m ok (hM_ n m ok lk ld (rr : Int)) n 0 A0_ t0 = ts) (hts : 0 ≤ ts.1) (hF : ∀ k, k < n → ag_I μ00 11 19 k = t0.2 k) : Wp (d + 11) 31 [ab_r 1 (some 0)] μ00 (fun vv μ' => vv = none ∧ SB2 μ00 μ' ∧ (ag_I μ' 1 0 11 = (rr : Int) ∧ ag_I μ' 1 0 10 = ts.1) ∧ ∀ k, k < n → ag_I μ' 11 19 k = ts.2 k) := by
  rw [show d + 11 = (d + 6 - n) + n + 4 + 1 by have := hB00.2.1.1; omega]
  refine wp_of ?_
  obtain ⟨hX, ⟨hn6, hm6⟩, ⟨hn, hm⟩, hlk, hbd⟩ := id hB00
  refine wg_s rfl rfl ?_
  have hrk := sp_reckon (d + 6 - n + n + 2) hB00
  refine wg_call rfl rfl hrk (fun vv μ1 hq => ?_)
  obtain ⟨rfl, q1, q2, q3⟩ := hq
  have hX1 : XF μ1 := by show FX μ1.2.2.1 μ1.2.2.2.1; rw [q1]; exact hX
  refine wg_s rfl rfl ?_
  refine wg_gx rfl rfl hX1 ?_
  refine wg_s rfl rfl ?_
  refine wg_cv rfl rfl (sp_fill _ _ 18 6 (-1) (xf_l hX1 rfl) (by omega)) ?_
  refine wg_s rfl rfl ?_
  refine wg_s rfl rfl ?_
  refine wg_s rfl rfl ?_
  refine wg_s rfl rfl ?_
  refine wg_s rfl rfl ?_
  refine lp_search (d := d + 6 - n) hB00 rr t0 ts ht0 hr H1 H2 hts 37 0 _ (by omega) (by omega) ⟨q1, fun t x k q => ?_⟩ (ag_I_y _ _ _ _ _) (fun k hk => ?_) (fun k hk => ?_) (fun j hj => ?_)
  · rw [ag_I_n (by omega), a_fl_I, if_neg (by omega)]; exact q2 t x k (by omega)
  · rw [ag_I_n (by omega), a_fl_I, if_neg (by omega), q2 11 19 k (by omega)]; exact hF k hk
  · rw [ag_I_n (by omega), a_fl_I, if_neg (by omega)]; exact q3 k hk
  · rw [ag_I_n (by omega), a_fl_I, if_pos ⟨rfl, rfl, by omega⟩]
def PB (μ μ' : ab_M) : Prop := μ'.2 = μ.2 ∧ ∀ t x k, ¬ ((t = 1 ∧ x = 0) ∨ (t = 11 ∧ 2 ≤ x ∧ x ≤ 19)) → ag_I μ' t x k = ag_I μ t x k
theorem PB_refl (μ : ab_M) : PB μ μ := ⟨rfl, fun _ _ _ _ => rfl⟩
theorem PB_trans {a b c : ab_M} (h : PB a b) (k : PB b c) : PB a c := ⟨k.1.trans h.1, fun t x i q => (k.2 t x i q).trans (h.2 t x i q)⟩
theorem PB_set {μ μ' : ab_M} (h : PB μ μ') {t n k : Nat} {x : Int} (hs : (t = 1 ∧ n = 0) ∨ (t = 11 ∧ 2 ≤ n ∧ n ≤ 19)) : PB μ (as_I μ' t n k x) := ⟨h.1, fun t' n' k' q => (ag_I_n (by omega)).trans (h.2 t' n' k' q)⟩
theorem PB_S2 {μ μ' : ab_M} (h : SB2 μ μ') : PB μ μ' := ⟨h.1, fun t x k q => h.2 t x k (by omega)⟩
theorem PB_XE {μ μ' : ab_M} (h : PB μ μ') : XE μ μ' := by
  have e := h.1
  exact ⟨fun t n k q => h.2 t n k (by unfold xrel at q; omega), fun t n k _ _ => by unfold ag_R; rw [e], fun t n _ => by unfold ag_L; rw [e], fun t _ => by unfold ag_C; rw [e]⟩
theorem PB_MK {μ μ' : ab_M} (h : PB μ μ') : MK μ μ' := by
  have e := h.1
  exact ⟨fun t n k q => h.2 t n k (by unfold mrel at q; omega), fun n k => by unfold ag_R; rw [e], fun t n _ => by unfold ag_L; rw [e]⟩
theorem PB_c {μ μ' : ab_M} (h : PB μ μ') : ag_c μ' = ag_c μ ∧ ag_s μ' = ag_s μ := by
  have e := h.1
  exact ⟨by unfold ag_c; rw [e], by unfold ag_s; rw [e]⟩
theorem PB_XF {μ μ' : ab_M} (h : PB μ μ') (hX : XF μ) : XF μ' := by
  show FX μ'.2.2.1 μ'.2.2.2.1
  rw [h.1]; exact hX
