/-! ===== one call of both ===== -/
def INV (L c s : Nat) (μ : ab_M) : Prop := (∃ hl hw pl tm ow tc, IX μ μ hl hw pl tm ow tc) ∧ WZ μ ∧ FM μ.2.2.1 μ.2.2.2.1 ∧ ag_L μ 20 2 = L ∧ ag_c μ ≤ c ∧ ag_s μ ≤ s
def POST (L c s M : Nat) (bs : List ab_V) (μ : ab_M) : Option ab_V → ab_M → Prop := fun v μ1 => (ag_L μ1 20 2 = L ∧ ∀ k, ag_I μ1 20 2 k = ag_I μ 20 2 k) ∧ ∃ y : Int, v = some (ab_i y) ∧ Wp 40 M bs μ1 (fun v2 μ2 => v2 = some (ab_i y) ∧ INV L (c + 3) (s + 516) μ2)
theorem FM_K {μ μ1 : ab_M} (h : MK μ μ1) (hF : FM μ.2.2.1 μ.2.2.2.1) : FM μ1.2.2.1 μ1.2.2.2.1 := by
  obtain ⟨a, b, c, d⟩ := hF
  refine ⟨fun x s q => (h.2.1 0 x).trans (a x s q), fun s N q => (h.2.2 11 s (by have := ms_l_r q; unfold mrel; omega)).trans (b s N q), (h.2.2 12 0 (by unfold mrel; omega)).trans c, (h.2.2 13 0 (by unfold mrel; omega)).trans d⟩
theorem WM_of {μ : ab_M} (hF : FM μ.2.2.1 μ.2.2.2.1) (hZ : WZ μ) : WM μ := ⟨hF, hZ.1⟩
/-- only the reference's numbers have changed -/
theorem IX_M {ν μ μ' : ab_M} {hl hw pl tm : Nat → Nat} {ow : Nat → Nat × Nat} {tc : Nat} (hn : ∀ t n k, (¬ mrel t n ∨ t = 20) → ag_I μ' t n k = ag_I μ t n k) (h2 : μ'.2.2 = μ.2.2) (hI : IX ν μ hl hw pl tm ow tc) : IX ν μ' hl hw pl tm ow tc := by
  obtain ⟨hX, hC, hH, hP, hL, hK, hT, hR, hS⟩ := hI
  have iR : ∀ t n k, ag_R μ' t n k = ag_R μ t n k := fun t n k => by unfold ag_R; rw [h2]
  have iL : ∀ t n, ag_L μ' t n = ag_L μ t n := fun t n => by unfold ag_L; rw [h2]
  have iC : ∀ t, ag_C μ' t = ag_C μ t := fun t => by unfold ag_C; rw [h2]
  obtain ⟨c7, c8, c9, cC4, cC3, cC6, cC11⟩ := hC
  have n9 : ∀ k, ag_I μ' 9 0 k = ag_I μ 9 0 k := fun k => hn 9 0 k (Or.inl (by unfold mrel; omega))
  refine ⟨XF_B (fun t n b _ => iR t n b) (fun t n _ _ => iL t n) (fun k _ => iL 17 k) hX, ⟨(n9 7).trans c7, (n9 8).trans c8, (n9 9).trans c9, (iC 4).trans cC4, (iC 3).trans cC3, (iC 6).trans cC6, by rw [iC]; exact cC11⟩, XH_B (fun t n k q => hn t n k (Or.inl (by unfold mrel; omega))) (fun t n k _ => iR t n k) (fun n _ => iL 11 n) (by rw [iC]; omega) hH, XP_B (fun t n k q => hn t n k (Or.inl (by unfold mrel; omega))) (fun t n k _ => iR t n k) (fun n _ => iL 11 n) (by rw [iC]; omega) hP, XL_B (fun t n k q => hn t n k (Or.inl (by unfold mrel; omega))) (fun n k _ => iR 6 n k) (fun k i _ _ _ => iR 17 k i) (by rw [iC]; omega) hL, XK_B (fun k _ => hn 5 k 1 (Or.inl (by unfold mrel; omega))) hK, XT_B (hn 7 0 1 (Or.inl (by unfold mrel; omega))) (fun i => hn 11 0 i (Or.inl (by unfold mrel; omega))) hT, XR_B ⟨hn 0 0 3 (Or.inl (by unfold mrel; omega)), hn 0 0 4 (Or.inl (by unfold mrel; omega))⟩ (iR 9 0 6) (fun n k _ => hn 8 n k (Or.inl (by unfold mrel; omega))) (by rw [iC]; omega) hR, XS_B (fun t n k q => hn t n k (by by_cases e : t = 20; exact Or.inr e; exact Or.inl (by unfold mrel; omega))) hS⟩
/-- how it goes on -/
theorem inv_of {L c s : Nat} {μ μ1 ν' : ab_M} (h0 : INV L c s μ) (hK : MK μ μ1) (hc : ag_c μ1 ≤ ag_c μ + 3) (hs : ag_s μ1 ≤ ag_s μ + 516) (h2 : ν'.2.2 = μ1.2.2) (hn : ∀ t n k, (¬ mrel t n ∨ t = 20) → ag_I ν' t n k = ag_I μ1 t n k) (hI : ∃ hl hw pl tm ow tc, IX ν' μ1 hl hw pl tm ow tc) (hZ : WZ ν') : INV L (c + 3) (s + 516) ν' := by
  obtain ⟨_, _, hF, hL, hc0, hs0⟩ := h0
  obtain ⟨hl, hw, pl, tm, ow, tc, hI⟩ := hI
  have hF1 := FM_K hK hF
  refine ⟨⟨hl, hw, pl, tm, ow, tc, IX_M hn h2 hI⟩, hZ, by rw [h2]; exact hF1, ?_, ?_, ?_⟩
  · rw [show ag_L ν' 20 2 = ag_L μ1 20 2 from by unfold ag_L; rw [h2], hK.2.2 20 2 (by unfold mrel; omega)]; exact hL
  · rw [show ag_c ν' = ag_c μ1 from by unfold ag_c; rw [h2]]; omega
  · rw [show ag_s ν' = ag_s μ1 from by unfold ag_s; rw [h2]]; omega
theorem scr_of {L c s : Nat} {μ μ1 : ab_M} (h0 : INV L c s μ) (hK : MK μ μ1) : ag_L μ1 20 2 = L ∧ ∀ k, ag_I μ1 20 2 k = ag_I μ 20 2 k := ⟨(hK.2.2 20 2 (by unfold mrel; omega)).trans h0.2.2.2.1, fun k => hK.1 20 2 k (by unfold mrel; omega)⟩
theorem inv_same {L c s : Nat} {μ : ab_M} (h0 : INV L c s μ) : INV L (c + 3) (s + 516) μ := ⟨h0.1, h0.2.1, h0.2.2.1, h0.2.2.2.1, by have := h0.2.2.2.2.1; omega, by have := h0.2.2.2.2.2; omega⟩
theorem pr_why (a : Int) (b : Int) {L c0 s0 : Nat} {μ : ab_M} (h0 : INV L c0 s0 μ) : Wp 40 74 [ab_r 9 (some 0), ab_i a, ab_i b] μ (POST L c0 s0 119 [ab_r 10 (some 0), ab_i a, ab_i b] μ) := by
  obtain ⟨⟨hl, hw, pl, tm, ow, tc, hI⟩, hZ, hF, hL, hc, hs⟩ := id h0
  obtain ⟨w1, w2, w3, w4, w5, w6, w7, w8, w9, w10, w11⟩ := id hZ
  have hW := WM_of hF hZ
  refine wp_mono (sp_xwhy 37 a b hI w1) (fun v μ1 hq => ?_)
  obtain ⟨rfl, rfl⟩ := hq
  refine ⟨scr_of h0 (MK_refl _), _, rfl, wp_mono (sp_mwhy 37 a b _ hW) (fun v2 μ2 hq => ?_)⟩
  obtain ⟨rfl, rfl⟩ := hq
  exact ⟨rfl, inv_same h0⟩
theorem pr_fault (a : Int) {L c0 s0 : Nat} {μ : ab_M} (h0 : INV L c0 s0 μ) : Wp 40 83 [ab_r 9 (some 0), ab_i a] μ (POST L c0 s0 143 [ab_r 10 (some 0), ab_i a] μ) := by
  obtain ⟨⟨hl, hw, pl, tm, ow, tc, hI⟩, hZ, hF, hL, hc, hs⟩ := id h0
  obtain ⟨w1, w2, w3, w4, w5, w6, w7, w8, w9, w10, w11⟩ := id hZ
  have hW := WM_of hF hZ
  refine wp_mono (sp_xfault 38 a hI w1) (fun v μ1 hq => ?_)
  obtain ⟨rfl, rfl⟩ := hq
  refine ⟨scr_of h0 (MK_refl _), _, rfl, wp_mono (sp_mfault 39 a _) (fun v2 μ2 hq => ?_)⟩
  obtain ⟨rfl, rfl⟩ := hq
  exact ⟨rfl, inv_same h0⟩
theorem pr_judge (a : Int) (b : Int) {L c0 s0 : Nat} {μ : ab_M} (h0 : INV L c0 s0 μ) : Wp 40 85 [ab_r 9 (some 0), ab_i a, ab_i b] μ (POST L c0 s0 145 [ab_r 10 (some 0), ab_i a, ab_i b] μ) := by
  obtain ⟨⟨hl, hw, pl, tm, ow, tc, hI⟩, hZ, hF, hL, hc, hs⟩ := id h0
  obtain ⟨w1, w2, w3, w4, w5, w6, w7, w8, w9, w10, w11⟩ := id hZ
  have hW := WM_of hF hZ
  refine wp_mono (sp_xjudge 36 a b hI w1 w2) (fun v μ1 hq => ?_)
  obtain ⟨rfl, rfl⟩ := hq
  refine ⟨scr_of h0 (MK_refl _), _, rfl, wp_mono (sp_mjudge 37 a b _ hW w2) (fun v2 μ2 hq => ?_)⟩
  obtain ⟨rfl, rfl⟩ := hq
  exact ⟨rfl, inv_same h0⟩
theorem pr_judged (a : Int) (b : Int) {L c0 s0 : Nat} {μ : ab_M} (h0 : INV L c0 s0 μ) : Wp 40 86 [ab_r 9 (some 0), ab_i a, ab_i b] μ (POST L c0 s0 146 [ab_r 10 (some 0), ab_i a, ab_i b] μ) := by
  obtain ⟨⟨hl, hw, pl, tm, ow, tc, hI⟩, hZ, hF, hL, hc, hs⟩ := id h0
  obtain ⟨w1, w2, w3, w4, w5, w6, w7, w8, w9, w10, w11⟩ := id hZ
  have hW := WM_of hF hZ
  refine wp_mono (sp_xjudged 36 a b hI w1 w2) (fun v μ1 hq => ?_)
  obtain ⟨rfl, rfl⟩ := hq
  refine ⟨scr_of h0 (MK_refl _), _, rfl, wp_mono (sp_mjudged 36 a b _ hW w2) (fun v2 μ2 hq => ?_)⟩
  obtain ⟨rfl, rfl⟩ := hq
  exact ⟨rfl, inv_same h0⟩
theorem pr_homeOf (a : Int) (b : Int) {L c0 s0 : Nat} {μ : ab_M} (h0 : INV L c0 s0 μ) : Wp 40 88 [ab_r 9 (some 0), ab_i a, ab_i b] μ (POST L c0 s0 148 [ab_r 10 (some 0), ab_i a, ab_i b] μ) := by
  obtain ⟨⟨hl, hw, pl, tm, ow, tc, hI⟩, hZ, hF, hL, hc, hs⟩ := id h0
  obtain ⟨w1, w2, w3, w4, w5, w6, w7, w8, w9, w10, w11⟩ := id hZ
  have hW := WM_of hF hZ
  refine wp_mono (sp_xhomeOf 37 a b hI w1 w2) (fun v μ1 hq => ?_)
  obtain ⟨rfl, rfl⟩ := hq
  refine ⟨scr_of h0 (MK_refl _), _, rfl, wp_mono (sp_mhomeOf 37 a b _ hW w2) (fun v2 μ2 hq => ?_)⟩
  obtain ⟨rfl, rfl⟩ := hq
  exact ⟨rfl, inv_same h0⟩
theorem pr_lasting (a : Int) (b : Int) {L c0 s0 : Nat} {μ : ab_M} (h0 : INV L c0 s0 μ) : Wp 40 91 [ab_r 9 (some 0), ab_i a, ab_i b] μ (POST L c0 s0 154 [ab_r 10 (some 0), ab_i a, ab_i b] μ) := by
  obtain ⟨⟨hl, hw, pl, tm, ow, tc, hI⟩, hZ, hF, hL, hc, hs⟩ := id h0
  obtain ⟨w1, w2, w3, w4, w5, w6, w7, w8, w9, w10, w11⟩ := id hZ
  have hW := WM_of hF hZ
  refine wp_mono (sp_xlasting 38 a b hI w1 w6) (fun v μ1 hq => ?_)
  obtain ⟨rfl, rfl⟩ := hq
  refine ⟨scr_of h0 (MK_refl _), _, rfl, wp_mono (sp_mlasting 38 a b _ hW w2) (fun v2 μ2 hq => ?_)⟩
  obtain ⟨rfl, rfl⟩ := hq
  exact ⟨rfl, inv_same h0⟩
theorem pr_about (a : Int) {L c0 s0 : Nat} {μ : ab_M} (h0 : INV L c0 s0 μ) : Wp 40 92 [ab_r 9 (some 0), ab_i a] μ (POST L c0 s0 155 [ab_r 10 (some 0), ab_i a] μ) := by
  obtain ⟨⟨hl, hw, pl, tm, ow, tc, hI⟩, hZ, hF, hL, hc, hs⟩ := id h0
  obtain ⟨w1, w2, w3, w4, w5, w6, w7, w8, w9, w10, w11⟩ := id hZ
  have hW := WM_of hF hZ
  refine wp_mono (sp_xabout 37 a hI w1 w2 w5) (fun v μ1 hq => ?_)
  obtain ⟨rfl, rfl⟩ := hq
  refine ⟨scr_of h0 (MK_refl _), _, rfl, wp_mono (sp_mabout 38 a _ hW w2) (fun v2 μ2 hq => ?_)⟩
  obtain ⟨rfl, rfl⟩ := hq
  exact ⟨rfl, inv_same h0⟩
theorem pr_home (a : Int) (b : Int) (e : Int) (f : Int) {L c0 s0 : Nat} {μ : ab_M} (h0 : INV L c0 s0 μ) : Wp 40 70 [ab_r 9 (some 0), ab_i a, ab_i b, ab_i e, ab_i f] μ (POST L c0 s0 114 [ab_r 10 (some 0), ab_i a, ab_i b, ab_i e, ab_i f] μ) := by
  obtain ⟨⟨hl, hw, pl, tm, ow, tc, hI⟩, hZ, hF, hL, hc, hs⟩ := id h0
  obtain ⟨w1, w2, w3, w4, w5, w6, w7, w8, w9, w10, w11⟩ := id hZ
  have hW := WM_of hF hZ
  refine wp_mono (sp_xhome 37 a b e f hI w1) (fun v μ1 hq => ?_)
  by_cases cc : ((0 ≤ a ∧ a ≤ 3) ∧ (0 ≤ b ∧ b ≤ 4095) ∧ (0 ≤ e ∧ e ≤ 4095) ∧ (0 ≤ f ∧ f ≤ 40)) ∧ ag_I μ 10 0 1 < 8
  · obtain ⟨rfl, rfl⟩ := hq.1 cc
    have hK : MK μ (h_new μ (ag_I μ 10 0 1) a b e f) := MK_home hI.2.1.2.2.2.2.2.2
    have hZ1 := WZ_M hK.1 hZ
    obtain ⟨v1, v2, v3, v4, v5, v6, v7, v8, v9, v10, v11⟩ := id hZ1
    have hW1 := WM_of (FM_K hK hF) hZ1
    have hI1 := IX_AG hK.1 hI
    have e1 : ag_I (h_new μ (ag_I μ 10 0 1) a b e f) 10 0 1 = ag_I μ 10 0 1 := hK.1 10 0 1 (by unfold mrel; omega)
    have cc1 : (0 ≤ a ∧ a ≤ 3) ∧ (0 ≤ b ∧ b ≤ 4095) ∧ (0 ≤ e ∧ e ≤ 4095) ∧ (0 ≤ f ∧ f ≤ 40) ∧ ag_I (h_new μ (ag_I μ 10 0 1) a b e f) 10 0 1 < 8 := by rw [e1]; exact ⟨cc.1.1, cc.1.2.1, cc.1.2.2.1, cc.1.2.2.2, cc.2⟩
    have z1 := w1.1
    refine ⟨scr_of h0 hK, _, rfl, wp_mono (sp_mhome 37 a b e f _ hW1) (fun v2 μ2 hq2 => ?_)⟩
    obtain ⟨rfl, rfl⟩ := hq2.1 cc1
    refine ⟨by first | rfl | (congr 2), inv_of h0 hK (by rw [hn_c.1]; omega) (by rw [hn_c.2]; omega) rfl (fun t n k q => by unfold mrel at q; exact (ag_I_n (by omega)).trans ((ag_I_n (by omega)).trans ((ag_I_n (by omega)).trans ((ag_I_n (by omega)).trans ((ag_I_n (by omega))))))) ⟨_, _, _, _, _, _, (by have := IX_home hI1 v1 v2 v5 (by rw [e1]; exact cc.2) (fun p hp => v10.1 _ p (by omega) (by rw [e1]; omega) hp) a b e f; rw [e1] at this; exact this)⟩ (WZ_home hZ1 (by rw [e1]; exact cc.2) a b e f cc.1.1)⟩
  · obtain ⟨rfl, rfl⟩ := hq.2 cc
    exact ⟨scr_of h0 (MK_refl _), _, rfl, wp_mono (sp_mhome 37 a b e f _ hW) (fun v2 μ2 hq2 => by obtain ⟨rfl, rfl⟩ := hq2.2 (fun w => cc ⟨⟨w.1, w.2.1, w.2.2.1, w.2.2.2.1⟩, w.2.2.2.2⟩); exact ⟨rfl, inv_same h0⟩)⟩
theorem pr_helper (a : Int) (b : Int) (e : Int) (f : Int) {L c0 s0 : Nat} {μ : ab_M} (h0 : INV L c0 s0 μ) : Wp 40 71 [ab_r 9 (some 0), ab_i a, ab_i b, ab_i e, ab_i f] μ (POST L c0 s0 115 [ab_r 10 (some 0), ab_i a, ab_i b, ab_i e, ab_i f] μ) := by
  obtain ⟨⟨hl, hw, pl, tm, ow, tc, hI⟩, hZ, hF, hL, hc, hs⟩ := id h0
  obtain ⟨w1, w2, w3, w4, w5, w6, w7, w8, w9, w10, w11⟩ := id hZ
  have hW := WM_of hF hZ
  refine wp_mono (sp_xhelper 37 a b e f hI w1) (fun v μ1 hq => ?_)
  by_cases cc : ((0 ≤ a ∧ a ≤ 4095) ∧ (0 ≤ b ∧ b ≤ 4095) ∧ (0 ≤ e ∧ e ≤ 40) ∧ (0 ≤ f ∧ f ≤ 500)) ∧ ag_I μ 10 0 6 < 8
  · obtain ⟨rfl, rfl⟩ := hq.1 cc
    have hK : MK μ (p_new μ (ag_I μ 10 0 6) a b e f) := MK_helper hI.2.1.2.2.2.2.2.2
    have hZ1 := WZ_M hK.1 hZ
    obtain ⟨v1, v2, v3, v4, v5, v6, v7, v8, v9, v10, v11⟩ := id hZ1
    have hW1 := WM_of (FM_K hK hF) hZ1
    have hI1 := IX_AG hK.1 hI
    have e1 : ag_I (p_new μ (ag_I μ 10 0 6) a b e f) 10 0 6 = ag_I μ 10 0 6 := hK.1 10 0 6 (by unfold mrel; omega)
    have cc1 : (0 ≤ a ∧ a ≤ 4095) ∧ (0 ≤ b ∧ b ≤ 4095) ∧ (0 ≤ e ∧ e ≤ 40) ∧ (0 ≤ f ∧ f ≤ 500) ∧ ag_I (p_new μ (ag_I μ 10 0 6) a b e f) 10 0 6 < 8 := by rw [e1]; exact ⟨cc.1.1, cc.1.2.1, cc.1.2.2.1, cc.1.2.2.2, cc.2⟩
    have z6 := w1.2.1
    refine ⟨scr_of h0 hK, _, rfl, wp_mono (sp_mhelper 37 a b e f _ hW1) (fun v2 μ2 hq2 => ?_)⟩
    obtain ⟨rfl, rfl⟩ := hq2.1 cc1
    refine ⟨by first | rfl | (congr 2), inv_of h0 hK (by rw [pn_c.1]; omega) (by rw [pn_c.2]; omega) rfl (fun t n k q => by unfold mrel at q; exact (ag_I_n (by omega)).trans ((ag_I_n (by omega)).trans ((ag_I_n (by omega)).trans ((ag_I_n (by omega)).trans ((ag_I_n (by omega))))))) ⟨_, _, _, _, _, _, (by have := IX_helper hI1 v1 v2 v5 (by rw [e1]; exact cc.2) (fun x hx => v10.2 x _ (by omega) hx (by rw [e1]; omega)) a b e f; rw [e1] at this; exact this)⟩ (WZ_helper hZ1 (by rw [e1]; exact cc.2) a b e f)⟩
  · obtain ⟨rfl, rfl⟩ := hq.2 cc
    exact ⟨scr_of h0 (MK_refl _), _, rfl, wp_mono (sp_mhelper 37 a b e f _ hW) (fun v2 μ2 hq2 => by obtain ⟨rfl, rfl⟩ := hq2.2 (fun w => cc ⟨⟨w.1, w.2.1, w.2.2.1, w.2.2.2.1⟩, w.2.2.2.2⟩); exact ⟨rfl, inv_same h0⟩)⟩
theorem pr_check (a : Int) (b : Int) {L c0 s0 : Nat} {μ : ab_M} (h0 : INV L c0 s0 μ) : Wp 40 72 [ab_r 9 (some 0), ab_i a, ab_i b] μ (POST L c0 s0 116 [ab_r 10 (some 0), ab_i a, ab_i b] μ) := by
  obtain ⟨⟨hl, hw, pl, tm, ow, tc, hI⟩, hZ, hF, hL, hc, hs⟩ := id h0
  obtain ⟨w1, w2, w3, w4, w5, w6, w7, w8, w9, w10, w11⟩ := id hZ
  have hW := WM_of hF hZ
  refine wp_mono (sp_xcheck 37 a b hI w1) (fun v μ1 hq => ?_)
  by_cases cc : (0 ≤ a ∧ a < ag_I μ 10 0 6) ∧ (0 ≤ b ∧ b ≤ 500)
  · obtain ⟨rfl, rfl⟩ := hq.1 cc
    have hK : MK μ (as_I μ 3 a.toNat 4 b) := ⟨fun t m i q => ag_I_n (by unfold mrel at q; omega), fun _ _ => rfl, fun _ _ _ => rfl⟩
    have hZ1 := WZ_M hK.1 hZ
    obtain ⟨v1, v2, v3, v4, v5, v6, v7, v8, v9, v10, v11⟩ := id hZ1
    have hW1 := WM_of (FM_K hK hF) hZ1
    have hI1 := IX_AG hK.1 hI
    have e6 : ag_I (as_I μ 3 a.toNat 4 b) 10 0 6 = ag_I μ 10 0 6 := hK.1 10 0 6 (by unfold mrel; omega)
    have cc1 : (0 ≤ a ∧ a < ag_I (as_I μ 3 a.toNat 4 b) 10 0 6) ∧ (0 ≤ b ∧ b ≤ 500) := by rw [e6]; exact cc
    refine ⟨scr_of h0 hK, _, rfl, wp_mono (sp_mcheck 37 a b _ hW1) (fun v2 μ2 hq2 => ?_)⟩
    obtain ⟨rfl, rfl⟩ := hq2.1 cc1
    refine ⟨by first | rfl | (congr 2), inv_of h0 hK (by show ag_c μ ≤ _; omega) (by show ag_s μ ≤ _; omega) rfl (fun t n k q => by unfold mrel at q; exact (ag_I_n (by omega))) ⟨_, _, _, _, _, _, IX_check hI1 a.toNat b (by rw [e6]; omega)⟩ (WZ_A (fun t n k q => ag_I_n (by unfold rW at q; omega)) hZ1)⟩
  · obtain ⟨rfl, rfl⟩ := hq.2 cc
    exact ⟨scr_of h0 (MK_refl _), _, rfl, wp_mono (sp_mcheck 37 a b _ hW) (fun v2 μ2 hq2 => by obtain ⟨rfl, rfl⟩ := hq2.2 cc; exact ⟨rfl, inv_same h0⟩)⟩
theorem pr_end (a : Int) {L c0 s0 : Nat} {μ : ab_M} (h0 : INV L c0 s0 μ) : Wp 40 81 [ab_r 9 (some 0), ab_i a] μ (POST L c0 s0 136 [ab_r 10 (some 0), ab_i a] μ) := by
  obtain ⟨⟨hl, hw, pl, tm, ow, tc, hI⟩, hZ, hF, hL, hc, hs⟩ := id h0
  obtain ⟨w1, w2, w3, w4, w5, w6, w7, w8, w9, w10, w11⟩ := id hZ
  have hW := WM_of hF hZ
  refine wp_mono (sp_xend 38 a hI w1) (fun v μ1 hq => ?_)
  by_cases cc : 0 ≤ a ∧ a ≤ ag_I μ 10 0 14
  · obtain ⟨rfl, rfl⟩ := hq.1 cc
    have hK : MK μ (as_I μ 7 0 1 a) := ⟨fun t m i q => ag_I_n (by unfold mrel at q; omega), fun _ _ => rfl, fun _ _ _ => rfl⟩
    have hZ1 := WZ_M hK.1 hZ
    obtain ⟨v1, v2, v3, v4, v5, v6, v7, v8, v9, v10, v11⟩ := id hZ1
    have hW1 := WM_of (FM_K hK hF) hZ1
    have hI1 := IX_AG hK.1 hI
    have e14 : ag_I (as_I μ 7 0 1 a) 10 0 14 = ag_I μ 10 0 14 := hK.1 10 0 14 (by unfold mrel; omega)
    have cc1 : 0 ≤ a ∧ a ≤ ag_I (as_I μ 7 0 1 a) 10 0 14 := by rw [e14]; exact cc
    refine ⟨scr_of h0 hK, _, rfl, wp_mono (sp_mend 38 a _) (fun v2 μ2 hq2 => ?_)⟩
    obtain ⟨rfl, rfl⟩ := hq2.1 cc1
    refine ⟨by first | rfl | (congr 2), inv_of h0 hK (by show ag_c μ ≤ _; omega) (by show ag_s μ ≤ _; omega) rfl (fun t n k q => by unfold mrel at q; exact (ag_I_n (by omega))) ⟨_, _, _, _, _, _, IX_end hI1 a (by rw [e14]; exact cc)⟩ (WZ_end hZ1 a (by rw [e14]; exact cc))⟩
  · obtain ⟨rfl, rfl⟩ := hq.2 cc
    exact ⟨scr_of h0 (MK_refl _), _, rfl, wp_mono (sp_mend 38 a _) (fun v2 μ2 hq2 => by obtain ⟨rfl, rfl⟩ := hq2.2 cc; exact ⟨rfl, inv_same h0⟩)⟩
