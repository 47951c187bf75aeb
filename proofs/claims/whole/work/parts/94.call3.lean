/-! ===== one call of both: feed, report, agreement, share, until, best ===== -/
theorem pr_feed (a b e f g : Int) {L c0 s0 : Nat} {μ : ab_M} (h0 : INV L c0 s0 μ) : Wp 40 80 [ab_r 9 (some 0), ab_i a, ab_i b, ab_i e, ab_i f, ab_i g] μ (POST L c0 s0 135 [ab_r 10 (some 0), ab_i a, ab_i b, ab_i e, ab_i f, ab_i g] μ) := by
  obtain ⟨⟨hl, hw, pl, tm, ow, tc, hI⟩, hZ, hF, hL, hc, hs⟩ := id h0
  obtain ⟨w1, w2, w3, w4, w5, w6, w7, w8, w9, w10, w11⟩ := id hZ
  have hW := WM_of hF hZ
  refine wp_mono (sp_xfeed 38 a b e f g hI w1) (fun v μ1 hq => ?_)
  by_cases cc : ag_I μ 10 0 14 + 20 ≤ 200
  · obtain ⟨rfl, rfl⟩ := hq.1 cc
    have z14 := w1.2.2.2.2
    have hK : MK μ (x_put (x_put (x_put (x_put (x_put μ (ag_I μ 10 0 14) a) (ag_I μ 10 0 14 + 4) b) (ag_I μ 10 0 14 + 8) e) (ag_I μ 10 0 14 + 12) f) (ag_I μ 10 0 14 + 16) g) := MK_trans (MK_put _ _ _) (MK_trans (MK_put _ _ _) (MK_trans (MK_put _ _ _) (MK_trans (MK_put _ _ _) (MK_put _ _ _))))
    have hZ1 := WZ_M hK.1 hZ
    have hW1 := WM_of (FM_K hK hF) hZ1
    have hI1 := IX_AG hK.1 hI
    have e14 : ag_I (x_put (x_put (x_put (x_put (x_put μ (ag_I μ 10 0 14) a) (ag_I μ 10 0 14 + 4) b) (ag_I μ 10 0 14 + 8) e) (ag_I μ 10 0 14 + 12) f) (ag_I μ 10 0 14 + 16) g) 10 0 14 = ag_I μ 10 0 14 := hK.1 10 0 14 (by unfold mrel; omega)
    refine ⟨scr_of h0 hK, _, rfl, wp_mono (sp_mfeed 38 a b e f g _ hW1) (fun v2 μ2 hq2 => ?_)⟩
    obtain ⟨rfl, rfl⟩ := hq2.1 (by rw [e14]; exact cc)
    have i1 := IX_put hI1 (ag_I μ 10 0 14) a z14.1 e14
    have i2 := IX_put i1 (ag_I μ 10 0 14 + 4) b (by omega) (by rw [m_put_t, e14])
    have i3 := IX_put i2 (ag_I μ 10 0 14 + 8) e (by omega) (by rw [m_put_t, m_put_t, e14]; omega)
    have i4 := IX_put i3 (ag_I μ 10 0 14 + 12) f (by omega) (by rw [m_put_t, m_put_t, m_put_t, e14]; omega)
    have i5 := IX_put i4 (ag_I μ 10 0 14 + 16) g (by omega) (by rw [m_put_t, m_put_t, m_put_t, m_put_t, e14]; omega)
    refine ⟨by rw [e14], inv_of h0 hK (by show ag_c μ ≤ _; omega) (by show ag_s μ ≤ _; omega) rfl (fun t n k q => ?_) ⟨_, _, _, _, _, _, i5⟩ (WZ_feed hZ1 a b e f g (by rw [e14]; exact cc))⟩
    unfold mrel at q
    have pI : ∀ (m : ab_M) (x : Int), ag_I (m_put m x) t n k = ag_I m t n k := fun m x => (ag_I_n (by omega)).trans ((ag_I_n (by omega)).trans ((ag_I_n (by omega)).trans ((ag_I_n (by omega)).trans (ag_I_n (by omega)))))
    exact (pI _ _).trans ((pI _ _).trans ((pI _ _).trans ((pI _ _).trans (pI _ _))))
  · obtain ⟨rfl, rfl⟩ := hq.2 cc
    exact ⟨scr_of h0 (MK_refl _), _, rfl, wp_mono (sp_mfeed 38 a b e f g _ hW) (fun v2 μ2 hq2 => by obtain ⟨rfl, rfl⟩ := hq2.2 cc; exact ⟨rfl, inv_same h0⟩)⟩
theorem pr_report (a b e f : Int) {L c0 s0 : Nat} {μ : ab_M} (h0 : INV L c0 s0 μ) : Wp 40 84 [ab_r 9 (some 0), ab_i a, ab_i b, ab_i e, ab_i f] μ (POST L c0 s0 144 [ab_r 10 (some 0), ab_i a, ab_i b, ab_i e, ab_i f] μ) := by
  obtain ⟨⟨hl, hw, pl, tm, ow, tc, hI⟩, hZ, hF, hL, hc, hs⟩ := id h0
  obtain ⟨w1, w2, w3, w4, w5, w6, w7, w8, w9, w10, w11⟩ := id hZ
  have hW := WM_of hF hZ
  refine wp_mono (sp_xreport 36 a b e f hI w1 w2) (fun v μ1 hq => ?_)
  by_cases cc : (0 ≤ a ∧ a < ag_I μ 10 0 1) ∧ 0 ≤ m_l μ a ∧ (ag_I μ 11 34 (m_l μ a).toNat ≤ b ∧ b ≤ ag_I μ 10 0 0) ∧ (-1 ≤ e ∧ e ≤ 60) ∧ (-1 ≤ f ∧ f ≤ 7)
  · obtain ⟨rfl, rfl⟩ := hq.1 cc
    obtain ⟨z1, z6, z26, z0, z14⟩ := id w1
    have hr : 46 ≤ hw a.toNat := (hI.2.2.1 a.toNat (by omega)).2.2.2.2.1.2.1
    have hK : MK μ (as_I μ 11 (hw a.toNat) b.toNat (m_jv e f (ag_I μ 11 35 (m_l μ a).toNat) (ag_I μ 11 36 (m_l μ a).toNat))) := ⟨fun t m i q => ag_I_n (by unfold mrel at q; omega), fun _ _ => rfl, fun _ _ _ => rfl⟩
    have hZ1 := WZ_M hK.1 hZ
    have hW1 := WM_of (FM_K hK hF) hZ1
    have hI1 := IX_AG hK.1 hI
    have e1 : ag_I (as_I μ 11 (hw a.toNat) b.toNat (m_jv e f (ag_I μ 11 35 (m_l μ a).toNat) (ag_I μ 11 36 (m_l μ a).toNat))) 10 0 1 = ag_I μ 10 0 1 := hK.1 10 0 1 (by unfold mrel; omega)
    have e0 : ag_I (as_I μ 11 (hw a.toNat) b.toNat (m_jv e f (ag_I μ 11 35 (m_l μ a).toNat) (ag_I μ 11 36 (m_l μ a).toNat))) 10 0 0 = ag_I μ 10 0 0 := hK.1 10 0 0 (by unfold mrel; omega)
    have e26 : ag_I (as_I μ 11 (hw a.toNat) b.toNat (m_jv e f (ag_I μ 11 35 (m_l μ a).toNat) (ag_I μ 11 36 (m_l μ a).toNat))) 10 0 26 = ag_I μ 10 0 26 := hK.1 10 0 26 (by unfold mrel; omega)
    have el : m_lf (as_I μ 11 (hw a.toNat) b.toNat (m_jv e f (ag_I μ 11 35 (m_l μ a).toNat) (ag_I μ 11 36 (m_l μ a).toNat))) a (ag_I (as_I μ 11 (hw a.toNat) b.toNat (m_jv e f (ag_I μ 11 35 (m_l μ a).toNat) (ag_I μ 11 36 (m_l μ a).toNat))) 10 0 26).toNat = m_l μ a := by rw [e26]; exact lf_M hK.1 _ _
    have e34 : ag_I (as_I μ 11 (hw a.toNat) b.toNat (m_jv e f (ag_I μ 11 35 (m_l μ a).toNat) (ag_I μ 11 36 (m_l μ a).toNat))) 11 34 (m_l μ a).toNat = ag_I μ 11 34 (m_l μ a).toNat := hK.1 11 34 _ (by unfold mrel; omega)
    have e35 : ag_I (as_I μ 11 (hw a.toNat) b.toNat (m_jv e f (ag_I μ 11 35 (m_l μ a).toNat) (ag_I μ 11 36 (m_l μ a).toNat))) 11 35 (m_l μ a).toNat = ag_I μ 11 35 (m_l μ a).toNat := hK.1 11 35 _ (by unfold mrel; omega)
    have e36 : ag_I (as_I μ 11 (hw a.toNat) b.toNat (m_jv e f (ag_I μ 11 35 (m_l μ a).toNat) (ag_I μ 11 36 (m_l μ a).toNat))) 11 36 (m_l μ a).toNat = ag_I μ 11 36 (m_l μ a).toNat := hK.1 11 36 _ (by unfold mrel; omega)
    have hlt : ((m_l μ a).toNat : Int) < ag_I μ 10 0 26 := by
      have hr := m_lf_rng μ a (ag_I μ 10 0 26).toNat
      have q : 0 ≤ m_lf μ a (ag_I μ 10 0 26).toNat := cc.2.1
      show ((m_lf μ a (ag_I μ 10 0 26).toNat).toNat : Int) < _
      omega
    have hb0 : 0 ≤ b := by have := (w2 _ hlt).2.2.1; have := cc.2.2.1; omega
    have hI2 := IX_report hI1 a.toNat b.toNat e f (by rw [e1]; omega) (by omega)
    have hlx : m_l (as_I μ 11 (hw a.toNat) b.toNat (m_jv e f (ag_I μ 11 35 (m_l μ a).toNat) (ag_I μ 11 36 (m_l μ a).toNat))) ((a.toNat : Nat) : Int) = m_l μ a := by rw [tnc cc.1.1]; exact el
    rw [hlx, e35, e36, show 501 * a.toNat + b.toNat = (501 * a + b).toNat by omega] at hI2
    refine ⟨scr_of h0 hK, _, rfl, wp_mono (sp_mreport 37 a b e f _ hW1 (WZ_M hK.1 hZ).2.1) (fun v2 μ2 hq2 => ?_)⟩
    rw [el, e34, e1, e0] at hq2
    obtain ⟨rfl, rfl⟩ := hq2.1 cc
    exact ⟨rfl, inv_of h0 hK (by show ag_c μ ≤ _; omega) (by show ag_s μ ≤ _; omega) rfl (fun t n k q => by unfold mrel at q; exact (ag_I_n (by omega)).trans (ag_I_n (by omega))) ⟨_, _, _, _, _, _, hI2⟩ (WZ_A (fun t n k q => (ag_I_n (by unfold rW at q; omega)).trans (ag_I_n (by unfold rW at q; omega))) hZ1)⟩
  · obtain ⟨rfl, rfl⟩ := hq.2 cc
    exact ⟨scr_of h0 (MK_refl _), _, rfl, wp_mono (sp_mreport 37 a b e f _ hW w2) (fun v2 μ2 hq2 => by obtain ⟨rfl, rfl⟩ := hq2.2 cc; exact ⟨rfl, inv_same h0⟩)⟩
theorem pa_M {μ μ1 : ab_M} (h : AGM μ μ1) : m_pa μ1 = m_pa μ := by
  have e : T_ μ1 = T_ μ := funext fun i => h 12 0 i (by unfold mrel; omega)
  show pa (T_ μ1) _ _ _ _ _ = pa (T_ μ) _ _ _ _ _
  rw [e, h 10 0 14 (by unfold mrel; omega)]
theorem pr_agree {L c0 s0 : Nat} {μ : ab_M} (h0 : INV L c0 s0 μ) : Wp 40 82 [ab_r 9 (some 0)] μ (POST L c0 s0 142 [ab_r 10 (some 0)] μ) := by
  obtain ⟨⟨hl, hw, pl, tm, ow, tc, hI⟩, hZ, hF, hL, hc, hs⟩ := id h0
  obtain ⟨w1, w2, w3, w4, w5, w6, w7, w8, w9, w10, w11⟩ := id hZ
  have hW := WM_of hF hZ
  refine wp_mono (sp_xagree 30 hI w1 w9) (fun v μ1 hq => ?_)
  obtain ⟨rfl, hK, ⟨hc1, hs1⟩, tc', hI2⟩ := hq
  have hZ1 := WZ_M hK.1 hZ
  have hW1 := WM_of (FM_K hK hF) hZ1
  have ep := pa_M hK.1
  refine ⟨scr_of h0 hK, _, rfl, wp_mono (sp_magreement 33 _ hW1) (fun v2 μ2 hq2 => ?_)⟩
  obtain ⟨rfl, hS, q14, q21, q22, q31⟩ := hq2
  rw [ep] at q21 q22 q31 ⊢
  have hA1 : AGR μ1 μ2 (m_pa μ) := ⟨fun t n k _ q => hS.2 t n k q, q14, q21, q22, q31⟩
  have hA : AGR μ μ2 (m_pa μ) := ⟨fun t n k r q => (hS.2 t n k q).trans (hK.1 t n k r), q14, q21, q22, fun w hw => by rw [q31 w hw, hK.1 11 31 w (by unfold mrel; omega)]⟩
  refine ⟨rfl, inv_of h0 hK (by omega) (by omega) (by rw [hS.1]) (fun t n k q => hS.2 t n k (by unfold mrel at q; unfold scQ; omega)) ⟨_, _, _, _, _, _, hI2 μ2 hA⟩ (WZ_agree hZ1 (by rw [ep]; exact hA1))⟩
theorem lo_M {μ μ1 : ab_M} (h : AGM μ μ1) (j : Nat) : m_lo μ1 j = m_lo μ j := by
  have g40 := h 11 40 j (by unfold mrel; omega)
  have g34 := h 11 34 j (by unfold mrel; omega)
  have g0 := h 10 0 0 (by unfold mrel; omega)
  unfold m_lo
  exact if_c (by omega) g40 (by omega)
theorem sh_M {μ μ1 : ab_M} (h : AGM μ μ1) (k : Int) : ∀ t, m_sh μ1 k t = m_sh μ k t
  | 0 => rfl
  | t + 1 => by
    unfold m_sh
    rw [sh_M h k t, h 10 0 26 (by unfold mrel; omega)]
    have e1 : ∀ n, m_sd μ1 k t n = m_sd μ k t n := fun n => nb_cong (fun j _ => by rw [h 11 32 j (by unfold mrel; omega), h 11 20 _ (by unfold mrel; omega), h 11 40 j (by unfold mrel; omega)])
    have e2 : ∀ n, m_sn μ1 k t n = m_sn μ k t n := fun n => nb_cong (fun j _ => by rw [h 11 32 j (by unfold mrel; omega), h 11 20 _ (by unfold mrel; omega), lo_M h j])
    rw [e1, e2]
theorem un_M {μ μ1 : ab_M} (h : AGM μ μ1) (k p : Int) : ∀ n w, m_un μ1 k p n w = m_un μ k p n w
  | 0, _ => rfl
  | n + 1, w => by unfold m_un; rw [sh_M h k, un_M h k p n]
theorem J_inv {L c0 s0 : Nat} {μ μ1 ν' : ab_M} (h0 : INV L c0 s0 μ) (hI : ∃ hl hw pl tm ow tc, IX μ μ hl hw pl tm ow tc) (hX : XE μ μ1) (hK : MK μ μ1) (hc : ag_c μ1 ≤ ag_c μ + 3) (hs : ag_s μ1 ≤ ag_s μ + 516) (h1 : ν'.1 = μ1.1) (h2 : ν'.2.2 = μ1.2.2) : INV L (c0 + 3) (s0 + 516) ν' := by
  obtain ⟨hl, hw, pl, tm, ow, tc, hI⟩ := hI
  have hi : ∀ t n k, ag_I ν' t n k = ag_I μ1 t n k := fun t n k => by unfold ag_I; rw [h1]
  exact inv_of h0 hK hc hs h2 (fun t n k _ => hi t n k) ⟨hl, hw, pl, tm, ow, tc, IX_AG (fun t n k q => (hi t n k).trans (hK.1 t n k q)) (IX_E hX hI)⟩ (WZ_M (fun t n k q => (hi t n k).trans (hK.1 t n k q)) h0.2.1)
theorem pr_until (a b : Int) {L c0 s0 : Nat} {μ : ab_M} (h0 : INV L c0 s0 μ) : Wp 40 90 [ab_r 9 (some 0), ab_i a, ab_i b] μ (POST L c0 s0 153 [ab_r 10 (some 0), ab_i a, ab_i b] μ) := by
  obtain ⟨⟨hl, hw, pl, tm, ow, tc, hI⟩, hZ, hF, hL, hc, hs⟩ := id h0
  obtain ⟨w1, w2, w3, w4, w5, w6, w7, w8, w9, w10, w11⟩ := id hZ
  have hW := WM_of hF hZ
  refine wp_mono (sp_xuntil 35 a b hI w1 w6 w7 w2) (fun v μ1 hq => ?_)
  obtain ⟨rfl, hX, hK, hc1, hs1⟩ := hq
  have hZ1 := WZ_M hK.1 hZ
  have hW1 := WM_of (FM_K hK hF) hZ1
  refine ⟨scr_of h0 hK, _, rfl, wp_mono (sp_muntil 37 a b _ hW1 hZ1.2.1 (hZ1.2.2.2.2.2.1 a)) (fun v2 μ2 hq2 => ?_)⟩
  obtain ⟨rfl, Jf, rfl, _⟩ := hq2
  exact ⟨by rw [un_M hK.1], J_inv h0 ⟨_, _, _, _, _, _, hI⟩ hX hK (by omega) (by omega) rfl rfl⟩
theorem pr_share (a b u : Int) {L c0 s0 : Nat} {μ : ab_M} (h0 : INV L c0 s0 μ) : Wp 40 89 [ab_r 9 (some 0), ab_i a, ab_i b, ab_i u] μ (fun v μ1 => (ag_L μ1 20 2 = L ∧ ∀ k, ag_I μ1 20 2 k = ag_I μ 20 2 k) ∧ ∃ y : Int, v = some (ab_l y) ∧ Wp 40 152 [ab_r 10 (some 0), ab_i a, ab_i b, ab_i u] μ1 (fun v2 μ2 => v2 = some (ab_l y) ∧ INV L (c0 + 3) (s0 + 516) μ2)) := by
  obtain ⟨⟨hl, hw, pl, tm, ow, tc, hI⟩, hZ, hF, hL, hc, hs⟩ := id h0
  obtain ⟨w1, w2, w3, w4, w5, w6, w7, w8, w9, w10, w11⟩ := id hZ
  have hW := WM_of hF hZ
  refine wp_mono (sp_xshare 35 a b u hI w1 w6 w7 w2) (fun v μ1 hq => ?_)
  obtain ⟨rfl, hX, hK, hc1, hs1⟩ := hq
  have hZ1 := WZ_M hK.1 hZ
  have hW1 := WM_of (FM_K hK hF) hZ1
  refine ⟨scr_of h0 hK, _, rfl, wp_mono (sp_mshare 37 a b u _ hW1 hZ1.2.1 (hZ1.2.2.2.2.2.1 a)) (fun v2 μ2 hq2 => ?_)⟩
  obtain ⟨rfl, Jf, rfl, _⟩ := hq2
  exact ⟨by rw [sh_M hK.1], J_inv h0 ⟨_, _, _, _, _, _, hI⟩ hX hK (by omega) (by omega) rfl rfl⟩
/-! best -/
theorem bs_M {μ μ1 : ab_M} (h : AGM μ μ1) (l0 : Int) (F0 : Nat → Int) : m_bs μ1 l0 F0 = m_bs μ l0 F0 ∧ n_h μ1 = n_h μ ∧ n_p μ1 = n_p μ ∧ f_h μ1 = f_h μ := by
  have g1 := h 10 0 1 (by unfold mrel; omega)
  have g6 := h 10 0 6 (by unfold mrel; omega)
  have g26 := h 10 0 26 (by unfold mrel; omega)
  have eh : f_h μ1 = f_h μ := funext fun x => by unfold f_h; rw [g26, lf_M h]
  have ep : f_p μ1 = f_p μ := funext fun x => by unfold f_p; rw [g26, fr_c h]
  have eo : m_ok μ1 = m_ok μ := by funext LH i p; unfold m_ok; rw [g26, fr_c h, why_M h]
  have ek : m_lk μ1 = m_lk μ := by funext LH i p; exact h 11 28 _ (by unfold mrel; omega)
  have ed : m_ld μ1 = m_ld μ := by funext LH i p; exact h 11 29 _ (by unfold mrel; omega)
  refine ⟨?_, by unfold n_h; rw [eh, g1], by unfold n_p; rw [ep, g6], eh⟩
  unfold m_bs l_h n_h
  rw [eh, g1, g6, eo, ek, ed]
theorem SK_inv {L c0 s0 : Nat} {μ μ1 ν' : ab_M} (h0 : INV L c0 s0 μ) (hP : PB μ μ1) (hS : SK μ1 ν') : INV L (c0 + 3) (s0 + 516) ν' := by
  have hK := PB_MK hP
  have hc := PB_c hP
  obtain ⟨hl, hw, pl, tm, ow, tc, hI⟩ := h0.1
  refine inv_of h0 hK (by omega) (by omega) (by rw [hS.1]) (fun t n k q => hS.2 t n k (by unfold mrel at q; unfold scr; omega)) ⟨hl, hw, pl, tm, ow, tc, ?_⟩ ?_
  · obtain ⟨hX, hC, hH, hP2, hL, hK2, hT, hR, hS2⟩ := IX_AG hK.1 (IX_E (PB_XE hP) hI)
    have ag : ∀ t n k, ¬ scr t n k → ag_I ν' t n k = ag_I μ1 t n k := fun t n k q => hS.2 t n k q
    exact ⟨hX, XC_A (fun t n k q => ag t n k (by unfold rC at q; unfold scr; omega)) hC, XH_A (fun t n k q => ag t n k (by unfold rH at q; unfold scr; omega)) hH, XP_A (fun t n k q => ag t n k (by unfold rP at q; unfold scr; omega)) hP2, XL_A (fun t n k q => ag t n k (by unfold rL at q; unfold scr; omega)) hL, XK_A (fun t n k q => ag t n k (by unfold rL at q; unfold scr; omega)) hK2, XT_A (fun t n k q => ag t n k (by unfold rT at q; unfold scr; omega)) hT, XR_A (fun t n k q => ag t n k (by unfold rR at q; unfold scr; omega)) hR, hS2⟩
  · exact WZ_A (fun t n k q => hS.2 t n k (by unfold rW at q; unfold scr; omega)) (WZ_M hK.1 h0.2.1)

theorem pr_best {L c0 s0 : Nat} {μ : ab_M} (h0 : INV L c0 s0 μ) : Wp 40 75 [ab_r 9 (some 0)] μ (POST L c0 s0 127 [ab_r 10 (some 0)] μ) := by
  obtain ⟨⟨hl, hw, pl, tm, ow, tc, hI⟩, hZ, hF, hL, hc, hs⟩ := id h0
  obtain ⟨w1, w2, w3, w4, w5, w6, w7, w8, w9, w10, w11⟩ := id hZ
  have hW := WM_of hF hZ
  refine wp_mono (sp_xbest 27 hI w1 w4) (fun v μ1 hq => ?_)
  obtain ⟨hP, hv⟩ := hq
  have hK := PB_MK hP
  have hZ1 := WZ_M hK.1 hZ
  have hW1 := WM_of (FM_K hK hF) hZ1
  refine ⟨scr_of h0 hK, _, hv 0 (fun _ => 0), wp_mono (sp_mbest 33 _ hW1 hZ1.2.2.2.1) (fun v2 μ2 hq2 => ?_)⟩
  obtain ⟨hS, l0, F0, rfl⟩ := hq2
  refine ⟨?_, SK_inv h0 hP hS⟩
  have hb := bs_M hK.1 l0 F0
  rw [hb.1, hb.2.1, hb.2.2.1]
  exact (hv l0 F0).symm.trans (hv 0 (fun _ => 0))
theorem pr_likes {L c0 s0 : Nat} {μ : ab_M} (h0 : INV L c0 s0 μ) : Wp 40 77 [ab_r 9 (some 0)] μ (POST L c0 s0 129 [ab_r 10 (some 0)] μ) := by
  obtain ⟨⟨hl, hw, pl, tm, ow, tc, hI⟩, hZ, hF, hL, hc, hs⟩ := id h0
  obtain ⟨w1, w2, w3, w4, w5, w6, w7, w8, w9, w10, w11⟩ := id hZ
  have hW := WM_of hF hZ
  refine wp_mono (sp_xlikes 27 hI w1 w4) (fun v μ1 hq => ?_)
  obtain ⟨hP, hv⟩ := hq
  have hK := PB_MK hP
  have hZ1 := WZ_M hK.1 hZ
  have hW1 := WM_of (FM_K hK hF) hZ1
  refine ⟨scr_of h0 hK, _, hv 0 (fun _ => 0), wp_mono (sp_mlikes 33 _ hW1 hZ1.2.2.2.1) (fun v2 μ2 hq2 => ?_)⟩
  obtain ⟨hS, l0, F0, rfl⟩ := hq2
  refine ⟨?_, SK_inv h0 hP hS⟩
  have hb := bs_M hK.1 l0 F0
  rw [hb.1, hb.2.1, hb.2.2.1]
  exact (hv l0 F0).symm.trans (hv 0 (fun _ => 0))
theorem pr_paired (a : Int) {L c0 s0 : Nat} {μ : ab_M} (h0 : INV L c0 s0 μ) : Wp 40 76 [ab_r 9 (some 0), ab_i a] μ (POST L c0 s0 128 [ab_r 10 (some 0), ab_i a] μ) := by
  obtain ⟨⟨hl, hw, pl, tm, ow, tc, hI⟩, hZ, hF, hL, hc, hs⟩ := id h0
  obtain ⟨w1, w2, w3, w4, w5, w6, w7, w8, w9, w10, w11⟩ := id hZ
  have hW := WM_of hF hZ
  refine wp_mono (sp_xpaired 27 a hI w1 w4) (fun v μ1 hq => ?_)
  obtain ⟨hP, hv⟩ := hq
  have hK := PB_MK hP
  have hZ1 := WZ_M hK.1 hZ
  have hW1 := WM_of (FM_K hK hF) hZ1
  refine ⟨scr_of h0 hK, _, hv 0 (fun _ => 0), wp_mono (sp_mpaired 33 a _ hW1 hZ1.2.2.2.1) (fun v2 μ2 hq2 => ?_)⟩
  obtain ⟨hS, l0, F0, rfl⟩ := hq2
  refine ⟨?_, SK_inv h0 hP hS⟩
  have hb := bs_M hK.1 l0 F0
  have e1 : ag_I μ1 10 0 1 = ag_I μ 10 0 1 := hK.1 10 0 1 (by unfold mrel; omega)
  have e26 : ag_I μ1 10 0 26 = ag_I μ 10 0 26 := hK.1 10 0 26 (by unfold mrel; omega)
  rw [hb.1, hb.2.1, hb.2.2.1, hb.2.2.2, e1, e26, lf_M hK.1]
  exact (hv l0 F0).symm.trans (hv 0 (fun _ => 0))
