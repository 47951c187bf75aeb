/-! ===== one call of both: the rest that change ===== -/
theorem lf_M {μ μ1 : ab_M} (h : AGM μ μ1) (x : Int) (n : Nat) : m_lf μ1 x n = m_lf μ x n := m_lf_c (fun j => h 11 32 j (by unfold mrel; omega)) (fun j => h 11 40 j (by unfold mrel; omega)) x n
theorem fr_c {μ μ1 : ab_M} (h : AGM μ μ1) (x : Int) : ∀ n : Nat, m_fr μ1 x n = m_fr μ x n
  | 0 => rfl
  | n + 1 => by rw [m_fr_s, m_fr_s, fr_c h x n, h 11 33 n (by unfold mrel; omega), h 11 40 n (by unfold mrel; omega)]
theorem ct_M {μ μ1 : ab_M} (h : AGM μ μ1) (x : Int) (n : Nat) : m_ct μ1 x n = m_ct μ x n := m_ct_c (fun j => h 11 20 j (by unfold mrel; omega)) (fun j => h 11 32 j (by unfold mrel; omega)) x n
theorem why_M {μ μ1 : ab_M} (h : AGM μ μ1) (x y : Nat) : m_why μ1 x y = m_why μ x y := by
  unfold m_why
  rw [h 11 22 _ (by unfold mrel; omega), h 11 24 _ (by unfold mrel; omega), h 11 25 _ (by unfold mrel; omega), h 11 21 _ (by unfold mrel; omega), h 11 26 _ (by unfold mrel; omega), h 11 23 _ (by unfold mrel; omega), h 11 27 _ (by unfold mrel; omega), h 10 0 0 (by unfold mrel; omega)]
theorem tm1 (h p : Int) (a : Int) (ha : 0 ≤ h) (hp : 0 ≤ p) : (8 * h + p).toNat = 8 * h.toNat + p.toNat := by omega
theorem pr_like0 (a b u f : Int) (hu : u = 0) {L c0 s0 : Nat} {μ : ab_M} (h0 : INV L c0 s0 μ) : Wp 40 73 [ab_r 9 (some 0), ab_i a, ab_i b, ab_i u, ab_i f] μ (POST L c0 s0 117 [ab_r 10 (some 0), ab_i a, ab_i b, ab_i u, ab_i f] μ) := by
  obtain ⟨⟨hl, hw, pl, tm, ow, tc, hI⟩, hZ, hF, hL, hc, hs⟩ := id h0
  obtain ⟨w1, w2, w3, w4, w5, w6, w7, w8, w9, w10, w11⟩ := id hZ
  have hW := WM_of hF hZ
  refine wp_mono (sp_xlike 37 a b u f hI w1) (fun v μ1 hq => ?_)
  by_cases cc : (0 ≤ a ∧ a < ag_I μ 10 0 1) ∧ (0 ≤ b ∧ b < ag_I μ 10 0 6) ∧ (0 ≤ f ∧ f ≤ 99)
  · have hq1 := hq.1 cc
    rw [if_pos hu] at hq1
    obtain ⟨rfl, rfl⟩ := hq1
    obtain ⟨z1, z6, z26, z0, z14⟩ := id w1
    have hr : 46 ≤ hl a.toNat := by
      exact (hI.2.2.1 a.toNat (by omega)).2.2.2.2.1.1.1
    have hK : MK μ (as_I μ 11 (hl a.toNat) b.toNat f) := ⟨fun t m i q => ag_I_n (by unfold mrel at q; omega), fun _ _ => rfl, fun _ _ _ => rfl⟩
    have hZ1 := WZ_M hK.1 hZ
    have hW1 := WM_of (FM_K hK hF) hZ1
    have hI1 := IX_AG hK.1 hI
    have e1 : ag_I (as_I μ 11 (hl a.toNat) b.toNat f) 10 0 1 = ag_I μ 10 0 1 := hK.1 10 0 1 (by unfold mrel; omega)
    have e6 : ag_I (as_I μ 11 (hl a.toNat) b.toNat f) 10 0 6 = ag_I μ 10 0 6 := hK.1 10 0 6 (by unfold mrel; omega)
    refine ⟨scr_of h0 hK, _, rfl, wp_mono (sp_mlike 37 a b u f _ hW1) (fun v2 μ2 hq2 => ?_)⟩
    have hq3 := hq2.1 (by rw [e1, e6]; exact cc)
    rw [if_pos hu] at hq3
    obtain ⟨rfl, rfl⟩ := hq3
    have hI2 := IX_likeH hI1 a.toNat b.toNat f (by rw [e1]; omega) (by omega)
    rw [← tm1 a b 0 cc.1.1 cc.2.1.1] at hI2
    exact ⟨rfl, inv_of h0 hK (by show ag_c μ ≤ _; omega) (by show ag_s μ ≤ _; omega) rfl (fun t n k q => by unfold mrel at q; exact ag_I_n (by omega)) ⟨_, _, _, _, _, _, hI2⟩ (WZ_like hZ1 28 (by omega) a b (by rw [e1]; exact cc.1) (by rw [e6]; exact cc.2.1) f cc.2.2)⟩
  · obtain ⟨rfl, rfl⟩ := hq.2 cc
    exact ⟨scr_of h0 (MK_refl _), _, rfl, wp_mono (sp_mlike 37 a b u f _ hW) (fun v2 μ2 hq2 => by obtain ⟨rfl, rfl⟩ := hq2.2 cc; exact ⟨rfl, inv_same h0⟩)⟩
theorem pr_like1 (a b u f : Int) (hu : u ≠ 0) {L c0 s0 : Nat} {μ : ab_M} (h0 : INV L c0 s0 μ) : Wp 40 73 [ab_r 9 (some 0), ab_i a, ab_i b, ab_i u, ab_i f] μ (POST L c0 s0 117 [ab_r 10 (some 0), ab_i a, ab_i b, ab_i u, ab_i f] μ) := by
  obtain ⟨⟨hl, hw, pl, tm, ow, tc, hI⟩, hZ, hF, hL, hc, hs⟩ := id h0
  obtain ⟨w1, w2, w3, w4, w5, w6, w7, w8, w9, w10, w11⟩ := id hZ
  have hW := WM_of hF hZ
  refine wp_mono (sp_xlike 37 a b u f hI w1) (fun v μ1 hq => ?_)
  by_cases cc : (0 ≤ a ∧ a < ag_I μ 10 0 1) ∧ (0 ≤ b ∧ b < ag_I μ 10 0 6) ∧ (0 ≤ f ∧ f ≤ 99)
  · have hq1 := hq.1 cc
    rw [if_neg hu] at hq1
    obtain ⟨rfl, rfl⟩ := hq1
    obtain ⟨z1, z6, z26, z0, z14⟩ := id w1
    have hr : 46 ≤ pl b.toNat := by
      exact (hI.2.2.2.1 b.toNat (by omega)).2.2.2.2.1.1
    have hK : MK μ (as_I μ 11 (pl b.toNat) a.toNat f) := ⟨fun t m i q => ag_I_n (by unfold mrel at q; omega), fun _ _ => rfl, fun _ _ _ => rfl⟩
    have hZ1 := WZ_M hK.1 hZ
    have hW1 := WM_of (FM_K hK hF) hZ1
    have hI1 := IX_AG hK.1 hI
    have e1 : ag_I (as_I μ 11 (pl b.toNat) a.toNat f) 10 0 1 = ag_I μ 10 0 1 := hK.1 10 0 1 (by unfold mrel; omega)
    have e6 : ag_I (as_I μ 11 (pl b.toNat) a.toNat f) 10 0 6 = ag_I μ 10 0 6 := hK.1 10 0 6 (by unfold mrel; omega)
    refine ⟨scr_of h0 hK, _, rfl, wp_mono (sp_mlike 37 a b u f _ hW1) (fun v2 μ2 hq2 => ?_)⟩
    have hq3 := hq2.1 (by rw [e1, e6]; exact cc)
    rw [if_neg hu] at hq3
    obtain ⟨rfl, rfl⟩ := hq3
    have hI2 := IX_likeP hI1 a.toNat b.toNat f (by omega) (by rw [e6]; omega) (by omega) (by rw [e6]; exact z6.2)
    rw [← tm1 a b 0 cc.1.1 cc.2.1.1] at hI2
    exact ⟨rfl, inv_of h0 hK (by show ag_c μ ≤ _; omega) (by show ag_s μ ≤ _; omega) rfl (fun t n k q => by unfold mrel at q; exact ag_I_n (by omega)) ⟨_, _, _, _, _, _, hI2⟩ (WZ_like hZ1 29 (by omega) a b (by rw [e1]; exact cc.1) (by rw [e6]; exact cc.2.1) f cc.2.2)⟩
  · obtain ⟨rfl, rfl⟩ := hq.2 cc
    exact ⟨scr_of h0 (MK_refl _), _, rfl, wp_mono (sp_mlike 37 a b u f _ hW) (fun v2 μ2 hq2 => by obtain ⟨rfl, rfl⟩ := hq2.2 cc; exact ⟨rfl, inv_same h0⟩)⟩
theorem pr_live (a b : Int) {L c0 s0 : Nat} {μ : ab_M} (h0 : INV L c0 s0 μ) : Wp 40 78 [ab_r 9 (some 0), ab_i a, ab_i b] μ (POST L c0 s0 131 [ab_r 10 (some 0), ab_i a, ab_i b] μ) := by
  obtain ⟨⟨hl, hw, pl, tm, ow, tc, hI⟩, hZ, hF, hL, hc, hs⟩ := id h0
  obtain ⟨w1, w2, w3, w4, w5, w6, w7, w8, w9, w10, w11⟩ := id hZ
  have hW := WM_of hF hZ
  refine wp_mono (sp_xlive 37 a b hI w1 w5 w6) (fun v μ1 hq => ?_)
  by_cases cc : ((0 ≤ a ∧ a < ag_I μ 10 0 1) ∧ (0 ≤ b ∧ b < ag_I μ 10 0 6)) ∧ m_lf μ a (ag_I μ 10 0 26).toNat < 0 ∧ m_fr μ b (ag_I μ 10 0 26).toNat = true ∧ m_why μ a.toNat b.toNat = 0 ∧ m_ct μ (ag_I μ 11 20 a.toNat) (ag_I μ 10 0 26).toNat ≠ 16
  · obtain ⟨rfl, rfl⟩ := hq.1 cc
    have hr : 46 ≤ hw a.toNat := (hI.2.2.1 a.toNat (by omega)).2.2.2.2.1.2.1
    have hK : MK μ (x_li μ a.toNat b.toNat (ag_I μ 11 20 a.toNat).toNat (m_ct μ (ag_I μ 11 20 a.toNat) (ag_I μ 10 0 26).toNat) (ag_I μ 10 0 0) tc (hw a.toNat)) := MK_live hr
    have hZ1 := WZ_M hK.1 hZ
    obtain ⟨v1, v2, v3, v4, v5, v6, v7, v8, v9, v10, v11⟩ := id hZ1
    have hW1 := WM_of (FM_K hK hF) hZ1
    have hI1 := IX_AG hK.1 hI
    have e1 : ag_I (x_li μ a.toNat b.toNat (ag_I μ 11 20 a.toNat).toNat (m_ct μ (ag_I μ 11 20 a.toNat) (ag_I μ 10 0 26).toNat) (ag_I μ 10 0 0) tc (hw a.toNat)) 10 0 1 = ag_I μ 10 0 1 := hK.1 10 0 1 (by unfold mrel; omega)
    have e6 : ag_I (x_li μ a.toNat b.toNat (ag_I μ 11 20 a.toNat).toNat (m_ct μ (ag_I μ 11 20 a.toNat) (ag_I μ 10 0 26).toNat) (ag_I μ 10 0 0) tc (hw a.toNat)) 10 0 6 = ag_I μ 10 0 6 := hK.1 10 0 6 (by unfold mrel; omega)
    have e26 : ag_I (x_li μ a.toNat b.toNat (ag_I μ 11 20 a.toNat).toNat (m_ct μ (ag_I μ 11 20 a.toNat) (ag_I μ 10 0 26).toNat) (ag_I μ 10 0 0) tc (hw a.toNat)) 10 0 26 = ag_I μ 10 0 26 := hK.1 10 0 26 (by unfold mrel; omega)
    have e0 : ag_I (x_li μ a.toNat b.toNat (ag_I μ 11 20 a.toNat).toNat (m_ct μ (ag_I μ 11 20 a.toNat) (ag_I μ 10 0 26).toNat) (ag_I μ 10 0 0) tc (hw a.toNat)) 10 0 0 = ag_I μ 10 0 0 := hK.1 10 0 0 (by unfold mrel; omega)
    have e20 : ag_I (x_li μ a.toNat b.toNat (ag_I μ 11 20 a.toNat).toNat (m_ct μ (ag_I μ 11 20 a.toNat) (ag_I μ 10 0 26).toNat) (ag_I μ 10 0 0) tc (hw a.toNat)) 11 20 a.toNat = ag_I μ 11 20 a.toNat := hK.1 11 20 a.toNat (by unfold mrel; omega)
    have hh1 : (0 ≤ a ∧ a < ag_I (x_li μ a.toNat b.toNat (ag_I μ 11 20 a.toNat).toNat (m_ct μ (ag_I μ 11 20 a.toNat) (ag_I μ 10 0 26).toNat) (ag_I μ 10 0 0) tc (hw a.toNat)) 10 0 1) := by rw [e1]; exact cc.1.1
    have hp1 : (0 ≤ b ∧ b < ag_I (x_li μ a.toNat b.toNat (ag_I μ 11 20 a.toNat).toNat (m_ct μ (ag_I μ 11 20 a.toNat) (ag_I μ 10 0 26).toNat) (ag_I μ 10 0 0) tc (hw a.toNat)) 10 0 6) := by rw [e6]; exact cc.1.2
    have f1 : m_lf (x_li μ a.toNat b.toNat (ag_I μ 11 20 a.toNat).toNat (m_ct μ (ag_I μ 11 20 a.toNat) (ag_I μ 10 0 26).toNat) (ag_I μ 10 0 0) tc (hw a.toNat)) a (ag_I (x_li μ a.toNat b.toNat (ag_I μ 11 20 a.toNat).toNat (m_ct μ (ag_I μ 11 20 a.toNat) (ag_I μ 10 0 26).toNat) (ag_I μ 10 0 0) tc (hw a.toNat)) 10 0 26).toNat < 0 := by rw [e26, lf_M hK.1]; exact cc.2.1
    have f2 : m_fr (x_li μ a.toNat b.toNat (ag_I μ 11 20 a.toNat).toNat (m_ct μ (ag_I μ 11 20 a.toNat) (ag_I μ 10 0 26).toNat) (ag_I μ 10 0 0) tc (hw a.toNat)) b (ag_I (x_li μ a.toNat b.toNat (ag_I μ 11 20 a.toNat).toNat (m_ct μ (ag_I μ 11 20 a.toNat) (ag_I μ 10 0 26).toNat) (ag_I μ 10 0 0) tc (hw a.toNat)) 10 0 26).toNat = true := by rw [e26, fr_c hK.1]; exact cc.2.2.1
    have f3 : m_why (x_li μ a.toNat b.toNat (ag_I μ 11 20 a.toNat).toNat (m_ct μ (ag_I μ 11 20 a.toNat) (ag_I μ 10 0 26).toNat) (ag_I μ 10 0 0) tc (hw a.toNat)) a.toNat b.toNat = 0 := by rw [why_M hK.1]; exact cc.2.2.2.1
    have f4 : m_ct (x_li μ a.toNat b.toNat (ag_I μ 11 20 a.toNat).toNat (m_ct μ (ag_I μ 11 20 a.toNat) (ag_I μ 10 0 26).toNat) (ag_I μ 10 0 0) tc (hw a.toNat)) (ag_I (x_li μ a.toNat b.toNat (ag_I μ 11 20 a.toNat).toNat (m_ct μ (ag_I μ 11 20 a.toNat) (ag_I μ 10 0 26).toNat) (ag_I μ 10 0 0) tc (hw a.toNat)) 11 20 a.toNat) (ag_I (x_li μ a.toNat b.toNat (ag_I μ 11 20 a.toNat).toNat (m_ct μ (ag_I μ 11 20 a.toNat) (ag_I μ 10 0 26).toNat) (ag_I μ 10 0 0) tc (hw a.toNat)) 10 0 26).toNat ≠ 16 := by rw [e26, e20, ct_M hK.1]; exact cc.2.2.2.2
    refine ⟨scr_of h0 hK, _, rfl, wp_mono (sp_mlive 37 a b _ hW1 v2 (fun x y z => h63_of hZ1 a x y z)) (fun v2 μ2 hq2 => ?_)⟩
    obtain ⟨rfl, rfl⟩ := hq2.1 ⟨⟨hh1, hp1⟩, f1, f2, f3, f4⟩
    have hI2 := IX_live hI1 v1 v5 a b hh1 hp1
    rw [e26, e20, ct_M hK.1, e0] at hI2
    refine ⟨rfl, inv_of h0 hK (by rw [xl_c.1]; omega) (by rw [xl_c.2]; omega) rfl (fun t n k q => ?_) ⟨_, _, _, _, _, _, hI2⟩ (WZ_live hZ1 a b hh1 hp1 f1 f2 f4)⟩
    unfold mrel at q; exact ml_I (by omega) (by omega) (by omega)
  · obtain ⟨rfl, rfl⟩ := hq.2 cc
    exact ⟨scr_of h0 (MK_refl _), _, rfl, wp_mono (sp_mlive 37 a b _ hW w2 (fun x y z => h63_of hZ a x y z)) (fun v2 μ2 hq2 => by obtain ⟨rfl, rfl⟩ := hq2.2 cc; exact ⟨rfl, inv_same h0⟩)⟩
theorem F_M {μ μ1 : ab_M} (h : AGM μ μ1) (n : Int) (j : Nat) : m_F μ1 n j ↔ m_F μ n j := by
  unfold m_F
  rw [h 11 40 j (by unfold mrel; omega), h 11 39 j (by unfold mrel; omega), h 10 0 0 (by unfold mrel; omega)]
theorem wk_M {μ μ1 : ab_M} (h : AGM μ μ1) (n : Int) : AGM (m_wk μ n) (m_wk μ1 n) := by
  intro t x k q
  have g0 := h 10 0 0 (by unfold mrel; omega)
  have g26 := h 10 0 26 (by unfold mrel; omega)
  have g39 := h 11 39 k (by unfold mrel; omega)
  have g34 := h 11 34 k (by unfold mrel; omega)
  rw [wk_I, wk_I]
  refine if_c Iff.rfl (by omega) (if_c ?_ (by omega) (h t x k q))
  constructor
  · exact fun w => ⟨w.1, w.2.1, by have := w.2.2.1; omega, (F_M h n k).mp w.2.2.2⟩
  · exact fun w => ⟨w.1, w.2.1, by have := w.2.2.1; omega, (F_M h n k).mpr w.2.2.2⟩
theorem wc_M {μ μ1 : ab_M} (h : AGM μ μ1) (n : Int) : m_wc μ1 n = m_wc μ n := by
  unfold m_wc
  rw [h 10 0 26 (by unfold mrel; omega)]
  exact nb_cong (fun j _ => decide_eq_decide.mpr (F_M h n j))
theorem pr_weeks (a : Int) {L c0 s0 : Nat} {μ : ab_M} (h0 : INV L c0 s0 μ) : Wp 40 79 [ab_r 9 (some 0), ab_i a] μ (POST L c0 s0 133 [ab_r 10 (some 0), ab_i a] μ) := by
  obtain ⟨⟨hl, hw, pl, tm, ow, tc, hI⟩, hZ, hF, hL, hc, hs⟩ := id h0
  obtain ⟨w1, w2, w3, w4, w5, w6, w7, w8, w9, w10, w11⟩ := id hZ
  have hW := WM_of hF hZ
  refine wp_mono (sp_xweeks 37 a hI w1 w2 w5 w8) (fun v μ1 hq => ?_)
  by_cases cc : (1 ≤ a ∧ a ≤ 100) ∧ ag_I μ 10 0 0 + a ≤ 500
  · obtain ⟨rfl, hI2, hK, hc2, hs2⟩ := hq.1 cc
    have hZ1 := WZ_M hK.1 hZ
    obtain ⟨v1, v2, v3, v4, v5, v6, v7, v8, v9, v10, v11⟩ := id hZ1
    have hW1 := WM_of (FM_K hK hF) hZ1
    have e0 : ag_I μ1 10 0 0 = ag_I μ 10 0 0 := hK.1 10 0 0 (by unfold mrel; omega)
    refine ⟨scr_of h0 hK, _, rfl, wp_mono (sp_mweeks 38 a _ hW1 v2) (fun v2 μ2 hq2 => ?_)⟩
    obtain ⟨rfl, rfl⟩ := hq2.1 (by rw [e0]; exact cc)
    refine ⟨by rw [wc_M hK.1], inv_of h0 hK (by omega) (by omega) rfl (fun t n k q => ?_) ⟨_, _, _, _, _, _, IX_AG (wk_M hK.1 a) hI2⟩ (WZ_weeks hZ1 a (by rw [e0]; exact cc))⟩
    unfold mrel at q
    rw [wk_I, if_neg (by omega), if_neg (by omega)]
  · obtain ⟨rfl, rfl⟩ := hq.2 cc
    exact ⟨scr_of h0 (MK_refl _), _, rfl, wp_mono (sp_mweeks 38 a _ hW w2) (fun v2 μ2 hq2 => by obtain ⟨rfl, rfl⟩ := hq2.2 cc; exact ⟨rfl, inv_same h0⟩)⟩
theorem ne_M {μ μ1 : ab_M} (h : AGM μ μ1) (j : Nat) : m_ne μ1 j = m_ne μ j := by
  unfold m_ne
  rw [h 10 0 0 (by unfold mrel; omega), h 11 34 j (by unfold mrel; omega), h 11 38 j (by unfold mrel; omega), h 11 37 j (by unfold mrel; omega)]
theorem en_M {μ μ1 : ab_M} (h : AGM μ μ1) (n : Nat) : AGM (m_en μ n) (m_en μ1 n) := by
  intro t x k q
  have g0 := h 10 0 0 (by unfold mrel; omega)
  have g40 := h 11 40 k (by unfold mrel; omega)
  have g39 := h 11 39 k (by unfold mrel; omega)
  have g34 := h 11 34 k (by unfold mrel; omega)
  rw [ag_I_en, ag_I_en]
  refine if_c ?_ (by omega) (h t x k q)
  unfold m_E
  constructor
  · exact fun w => ⟨w.1, w.2.1, w.2.2.1, by have := w.2.2.2; omega, by have := w.2.2.2; omega⟩
  · exact fun w => ⟨w.1, w.2.1, w.2.2.1, by have := w.2.2.2; omega, by have := w.2.2.2; omega⟩
theorem set_M {μ μ1 : ab_M} (h : AGM μ μ1) (t n k : Nat) (x : Int) : AGM (as_I μ t n k x) (as_I μ1 t n k x) := by
  intro t' n' k' q
  rw [ag_I_I, ag_I_I, h t' n' k' q]
theorem pr_notice (a : Int) {L c0 s0 : Nat} {μ : ab_M} (h0 : INV L c0 s0 μ) : Wp 40 87 [ab_r 9 (some 0), ab_i a] μ (POST L c0 s0 147 [ab_r 10 (some 0), ab_i a] μ) := by
  obtain ⟨⟨hl, hw, pl, tm, ow, tc, hI⟩, hZ, hF, hL, hc, hs⟩ := id h0
  obtain ⟨w1, w2, w3, w4, w5, w6, w7, w8, w9, w10, w11⟩ := id hZ
  have hW := WM_of hF hZ
  by_cases hh : 0 ≤ a ∧ a < ag_I μ 10 0 1
  · obtain ⟨n, rfl⟩ := Int.eq_ofNat_of_zero_le hh.1
    refine wp_mono (sp_xnotice1 37 n hI w1 w2 w5 w3 w8 hh.2) (fun v μ1 hq => ?_)
    by_cases cc : 0 ≤ m_l μ n ∧ ag_I μ 11 39 (m_l μ n).toNat < 0 ∧ m_ne μ (m_l μ n).toNat ≤ 500
    · obtain ⟨rfl, hI2, hK, hc2, hs2⟩ := hq.1 cc
      have hZ1 := WZ_M hK.1 hZ
      obtain ⟨v1, v2, v3, v4, v5, v6, v7, v8, v9, v10, v11⟩ := id hZ1
      have hW1 := WM_of (FM_K hK hF) hZ1
      have e1 : ag_I μ1 10 0 1 = ag_I μ 10 0 1 := hK.1 10 0 1 (by unfold mrel; omega)
      have e26 : ag_I μ1 10 0 26 = ag_I μ 10 0 26 := hK.1 10 0 26 (by unfold mrel; omega)
      have el : m_lf μ1 (n : Int) (ag_I μ1 10 0 26).toNat = m_l μ n := by rw [e26]; exact lf_M hK.1 _ _
      have e39 : ag_I μ1 11 39 (m_l μ n).toNat = ag_I μ 11 39 (m_l μ n).toNat := hK.1 11 39 _ (by unfold mrel; omega)
      have en := ne_M hK.1 (m_l μ n).toNat
      refine ⟨scr_of h0 hK, _, rfl, wp_mono (sp_mnotice 37 (n : Int) _ hW1 v2 v3) (fun v2' μ2 hq2 => ?_)⟩
      rw [el, e39, en, e1, e26] at hq2
      obtain ⟨rfl, rfl⟩ := hq2.1 ⟨hh, cc⟩
      have ol : ag_I μ 11 40 (m_l μ n).toNat < 0 := (m_lf_o (ν := μ) (h := n) (n := (ag_I μ 10 0 26).toNat) cc.1).2
      have hlt : ((m_l μ n).toNat : Int) < ag_I μ 10 0 26 := by
        have hr := m_lf_rng μ n (ag_I μ 10 0 26).toNat
        have q : 0 ≤ m_lf μ n (ag_I μ 10 0 26).toNat := cc.1
        show ((m_lf μ n (ag_I μ 10 0 26).toNat).toNat : Int) < _
        omega
      have hne := m_ne_rng w1 w3 hlt
      refine ⟨rfl, inv_of h0 hK (by omega) (by omega) rfl (fun t x k q => ?_) ⟨_, _, _, _, _, _, IX_AG (en_M (set_M hK.1 _ _ _ _) _) hI2⟩ ?_⟩
      · unfold mrel at q; rw [ag_I_en' (by omega)]; exact ag_I_n (by omega)
      · rw [← e26]
        exact WZ_notice hZ1 (m_l μ n).toNat _ (by rw [e26]; exact hlt) (by rw [hK.1 11 40 _ (by unfold mrel; omega)]; exact ol) (by rw [hK.1 10 0 0 (by unfold mrel; omega)]; exact ⟨hne.1, cc.2.2⟩)
    · obtain ⟨rfl, rfl⟩ := hq.2 cc
      exact ⟨scr_of h0 (MK_refl _), _, rfl, wp_mono (sp_mnotice 37 (n : Int) _ hW w2 w3) (fun v2 μ2 hq2 => by obtain ⟨rfl, rfl⟩ := hq2.2 (fun w => cc w.2); exact ⟨rfl, inv_same h0⟩)⟩
  · refine wp_mono (sp_xnotice0 37 a hI w1 hh) (fun v μ1 hq => ?_)
    obtain ⟨rfl, rfl⟩ := hq
    exact ⟨scr_of h0 (MK_refl _), _, rfl, wp_mono (sp_mnotice 37 a _ hW w2 w3) (fun v2 μ2 hq2 => by obtain ⟨rfl, rfl⟩ := hq2.2 (fun w => hh w.1); exact ⟨rfl, inv_same h0⟩)⟩
