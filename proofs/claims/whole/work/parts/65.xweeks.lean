/-! ===== the class: weeks ===== -/
/-- the clock has gone on, and of the homes ahead of z all that end have ended -/
def m_wq (ν : ab_M) (n : Int) (z : Nat) : ab_M := ((fun t' n' k' => if t' = 10 ∧ n' = 0 ∧ k' = 0 then ag_I ν 10 0 0 + n else if t' = 11 ∧ n' = 40 ∧ (k' : Int) < ag_I ν 10 0 26 ∧ m_F ν n k' ∧ ag_I ν 11 32 k' < (z : Int) then ag_I ν 11 39 k' - ag_I ν 11 34 k' else ν.1 t' n' k'), ν.2)
theorem wq_I {ν : ab_M} {n : Int} {z t m k : Nat} : ag_I (m_wq ν n z) t m k = if t = 10 ∧ m = 0 ∧ k = 0 then ag_I ν 10 0 0 + n else if t = 11 ∧ m = 40 ∧ (k : Int) < ag_I ν 10 0 26 ∧ m_F ν n k ∧ ag_I ν 11 32 k < (z : Int) then ag_I ν 11 39 k - ag_I ν 11 34 k else ag_I ν t m k := rfl
theorem wq_n {ν : ab_M} {n : Int} {z t m k : Nat} (h1 : ¬ (t = 10 ∧ m = 0 ∧ k = 0)) (h2 : ¬ (t = 11 ∧ m = 40)) : ag_I (m_wq ν n z) t m k = ag_I ν t m k := by
  rw [wq_I, if_neg h1, if_neg (fun q => h2 ⟨q.1, q.2.1⟩)]
theorem wq_0 {ν : ab_M} {n : Int} {z : Nat} : ag_I (m_wq ν n z) 10 0 0 = ag_I ν 10 0 0 + n := by rw [wq_I, if_pos ⟨rfl, rfl, rfl⟩]
theorem wq_40 {ν : ab_M} {n : Int} {z k : Nat} : ag_I (m_wq ν n z) 11 40 k = if (k : Int) < ag_I ν 10 0 26 ∧ m_F ν n k ∧ ag_I ν 11 32 k < (z : Int) then ag_I ν 11 39 k - ag_I ν 11 34 k else ag_I ν 11 40 k := by
  rw [wq_I, if_neg (by omega)]
  by_cases c : (k : Int) < ag_I ν 10 0 26 ∧ m_F ν n k ∧ ag_I ν 11 32 k < (z : Int)
  · rw [if_pos ⟨rfl, rfl, c⟩, if_pos c]
  · rw [if_neg (fun q => c q.2.2), if_neg c]
theorem m_lf_s {ν : ab_M} {h : Int} {k : Nat} : ∀ {n : Nat}, k < n → ag_I ν 11 32 k = h → ag_I ν 11 40 k < 0 → 0 ≤ m_lf ν h n
  | 0, q, _, _ => by omega
  | n + 1, q, e1, e2 => by
    unfold m_lf
    by_cases c : ag_I ν 11 32 n = h ∧ ag_I ν 11 40 n < 0
    · rw [if_pos c]; omega
    · rw [if_neg c]
      have : k ≠ n := fun e => by subst e; exact c ⟨e1, e2⟩
      exact m_lf_s (by omega) e1 e2
theorem wq_o {ν : ab_M} (hZ : WR ν) (hWL : WL ν) {n : Int} {z k : Nat} (hk : (k : Int) < ag_I ν 10 0 26) (h : ag_I (m_wq ν n z) 11 40 k < 0) : ag_I ν 11 40 k < 0 ∧ ¬ (m_F ν n k ∧ ag_I ν 11 32 k < (z : Int)) := by
  rw [wq_40] at h
  have := hWL k hk
  by_cases c : (k : Int) < ag_I ν 10 0 26 ∧ m_F ν n k ∧ ag_I ν 11 32 k < (z : Int)
  · rw [if_pos c] at h; have := c.2.1; omega
  · rw [if_neg c] at h; exact ⟨h, fun q => c ⟨hk, q⟩⟩
theorem WR_wq {ν : ab_M} (hZ : WR ν) {n : Int} (z : Nat) (hn : 1 ≤ n ∧ ag_I ν 10 0 0 + n ≤ 500) : WR (m_wq ν n z) := by
  obtain ⟨z1, z6, z26, z0, z14⟩ := id hZ
  refine ⟨?_, ?_, ?_, ?_, ?_⟩
  · rw [wq_n (by omega) (by omega)]; exact z1
  · rw [wq_n (by omega) (by omega)]; exact z6
  · rw [wq_n (by omega) (by omega)]; exact z26
  · rw [wq_0]; omega
  · rw [wq_n (by omega) (by omega)]; exact z14
theorem WL_wq {ν : ab_M} (hZ : WR ν) (hWL : WL ν) {n : Int} (z : Nat) (hn : 1 ≤ n ∧ ag_I ν 10 0 0 + n ≤ 500) : WL (m_wq ν n z) := by
  intro j hj
  rw [wq_n (by omega) (by omega)] at hj
  have := hWL j hj
  have z0 := hZ.2.2.2.1
  rw [wq_n (m := 32) (by omega) (by omega), wq_n (m := 33) (by omega) (by omega), wq_n (m := 34) (by omega) (by omega), wq_0]
  refine ⟨this.1, this.2.1, by omega, ?_⟩
  rw [wq_40]
  split
  · next c => have := c.2.1; omega
  · exact this.2.2.2
theorem WU_wq {ν : ab_M} (hZ : WR ν) (hWL : WL ν) (hU : WU ν) {n : Int} (z : Nat) : WU (m_wq ν n z) := by
  refine ⟨fun j hj => ?_, fun i j hij hj oi oj => ?_, fun h hh => ?_⟩
  · rw [wq_n (by omega) (by omega)] at hj
    rw [wq_n (m := 32) (by omega) (by omega), wq_n (m := 33) (by omega) (by omega), wq_n (t := 10) (by omega) (by omega), wq_n (t := 10) (by omega) (by omega)]
    exact hU.1 j hj
  · rw [wq_n (by omega) (by omega)] at hj
    rw [wq_n (m := 32) (by omega) (by omega), wq_n (m := 32) (by omega) (by omega), wq_n (m := 33) (by omega) (by omega), wq_n (m := 33) (by omega) (by omega)]
    exact hU.2.1 i j hij hj (wq_o hZ hWL (by omega) oi).1 (wq_o hZ hWL hj oj).1
  · rw [wq_n (by omega) (by omega)] at hh
    rw [wq_n (by omega) (by omega)]; exact hU.2.2 h hh
/-- the clock alone -/
theorem IX_clock {ν μ : ab_M} {hl hw pl tm : Nat → Nat} {ow : Nat → Nat × Nat} {tc : Nat} (hI : IX ν μ hl hw pl tm ow tc) (x : Int) : IX (as_I ν 10 0 0 x) (as_I μ 9 0 9 x) hl hw pl tm ow tc := by
  obtain ⟨hX, hC, hH, hP, hL, hK, hT, hR, hS⟩ := id hI
  have hν : ∀ {r : Nat → Nat → Nat → Prop}, (¬ r 10 0 0) → AG r ν (as_I ν 10 0 0 x) := fun hr t n k hh => ag_I_n (fun e => by obtain ⟨rfl, rfl, rfl⟩ := e; exact hr hh)
  refine ⟨hX, ?_, XH_A (hν (by unfold rH; omega)) (XH_B (fun t n k h => ag_I_n (by omega)) (fun _ _ _ _ => rfl) (fun _ _ => rfl) (Nat.le_refl _) hH), XP_A (hν (by unfold rP; omega)) (XP_B (fun t n k h => ag_I_n (by omega)) (fun _ _ _ _ => rfl) (fun _ _ => rfl) (Nat.le_refl _) hP), XL_A (hν (by unfold rL; omega)) (XL_B (fun t n k h => ag_I_n (by omega)) (fun _ _ _ => rfl) (fun _ _ _ _ _ => rfl) (Nat.le_refl _) hL), XK_A (hν (by unfold rL; omega)) (XK_B (fun _ _ => ag_I_n (by omega)) hK), XT_A (hν (by unfold rT; omega)) (XT_B (ag_I_n (by omega)) (fun _ => ag_I_n (by omega)) hT), XR_A (hν (by unfold rR; omega)) (XR_B ⟨ag_I_n (by omega), ag_I_n (by omega)⟩ rfl (fun _ _ _ => ag_I_n (by omega)) (Nat.le_refl _) hR), XS_B (fun _ _ _ _ => ag_I_n (by omega)) hS⟩
  obtain ⟨c7, c8, c9, cC4, cC3, cC6, cC11⟩ := id hC
  exact ⟨(ag_I_n (by omega)).trans (c7.trans (ag_I_n (by omega)).symm), (ag_I_n (by omega)).trans (c8.trans (ag_I_n (by omega)).symm), (ag_I_y _ _ _ _ _).trans (ag_I_y _ _ _ _ _).symm, cC4, cC3, cC6, cC11⟩
theorem wq_A0 {ν : ab_M} (hWL : WL ν) {n : Int} : AGM (as_I ν 10 0 0 (ag_I ν 10 0 0 + n)) (m_wq ν n 0) := by
  intro t m k _
  rw [wq_I, ag_I_I]
  by_cases c : t = 10 ∧ m = 0 ∧ k = 0
  · rw [if_pos c, if_pos c]
  · rw [if_neg c, if_neg c, if_neg]
    intro q
    have := hWL k q.2.2.1
    have := q.2.2.2.2
    omega
theorem wq_At {ν : ab_M} (hU : WU ν) {n : Int} {z j : Nat} (hj : (j : Int) < ag_I ν 10 0 26) (hF : m_F ν n j) (hz : ag_I ν 11 32 j = z) : AGM (as_I (m_wq ν n z) 11 40 j (ag_I ν 11 39 j - ag_I ν 11 34 j)) (m_wq ν n (z + 1)) := by
  intro t m k _
  rw [ag_I_I, wq_I, wq_I]
  by_cases c : t = 10 ∧ m = 0 ∧ k = 0
  · rw [if_pos c, if_neg (by omega), if_pos c]
  · rw [if_neg c, if_neg c]
    by_cases e : t = 11 ∧ m = 40 ∧ k = j
    · obtain ⟨rfl, rfl, rfl⟩ := e
      rw [if_pos ⟨rfl, rfl, hj, hF, by omega⟩, if_pos ⟨rfl, rfl, rfl⟩]
    · rw [if_neg e]
      by_cases q : t = 11 ∧ m = 40 ∧ (k : Int) < ag_I ν 10 0 26 ∧ m_F ν n k ∧ ag_I ν 11 32 k < (z : Int)
      · rw [if_pos q, if_pos ⟨q.1, q.2.1, q.2.2.1, q.2.2.2.1, by have := q.2.2.2.2; omega⟩]
      · rw [if_neg q, if_neg]
        intro w
        by_cases zk : ag_I ν 11 32 k = (z : Int)
        · exact e ⟨w.1, w.2.1, WU_o hU w.2.2.1 hj w.2.2.2.1.1 hF.1 (Or.inl (zk.trans hz.symm))⟩
        · exact q ⟨w.1, w.2.1, w.2.2.1, w.2.2.2.1, by have := w.2.2.2.2; omega⟩
theorem wq_Af {ν : ab_M} {n : Int} {z : Nat} (hno : ∀ k : Nat, (k : Int) < ag_I ν 10 0 26 → m_F ν n k → ag_I ν 11 32 k ≠ (z : Int)) : AGM (m_wq ν n z) (m_wq ν n (z + 1)) := by
  intro t m k _
  rw [wq_I, wq_I]
  by_cases c : t = 10 ∧ m = 0 ∧ k = 0
  · rw [if_pos c, if_pos c]
  · rw [if_neg c, if_neg c]
    by_cases q : t = 11 ∧ m = 40 ∧ (k : Int) < ag_I ν 10 0 26 ∧ m_F ν n k ∧ ag_I ν 11 32 k < (z : Int)
    · rw [if_pos q, if_pos ⟨q.1, q.2.1, q.2.2.1, q.2.2.2.1, by have := q.2.2.2.2; omega⟩]
    · rw [if_neg q, if_neg]
      intro w
      have := hno k w.2.2.1 w.2.2.2.1
      exact q ⟨w.1, w.2.1, w.2.2.1, w.2.2.2.1, by have := w.2.2.2.2; omega⟩
theorem wq_AL {ν : ab_M} (hU : WU ν) (hZ : WR ν) {n : Int} : AGM (m_wq ν n (ag_I ν 10 0 1).toNat) (m_wk ν n) := by
  intro t m k _
  rw [wq_I]
  show (if t = 10 ∧ m = 0 ∧ k = 0 then _ else if t = 11 ∧ m = 40 ∧ (k : Int) < ag_I ν 10 0 26 ∧ m_F ν n k then _ else _) = _
  by_cases c : t = 10 ∧ m = 0 ∧ k = 0
  · rw [if_pos c, if_pos c]
  · rw [if_neg c, if_neg c]
    by_cases q : t = 11 ∧ m = 40 ∧ (k : Int) < ag_I ν 10 0 26 ∧ m_F ν n k
    · have := hU.1 k q.2.2.1
      rw [if_pos q, if_pos ⟨q.1, q.2.1, q.2.2.1, q.2.2.2, by omega⟩]
    · rw [if_neg q, if_neg (fun w => q ⟨w.1, w.2.1, w.2.2.1, w.2.2.2.1⟩)]; rfl
abbrev wqc (ν : ab_M) (n : Int) (z : Nat) : Int := nb (fun j => decide (m_F ν n j ∧ ag_I ν 11 32 j < (z : Int))) (ag_I ν 10 0 26).toNat
theorem wqc_t {ν : ab_M} (hU : WU ν) {n : Int} {z j : Nat} (hj : (j : Int) < ag_I ν 10 0 26) (hF : m_F ν n j) (hz : ag_I ν 11 32 j = z) : wqc ν n (z + 1) = wqc ν n z + 1 := by
  refine nb_flip (i := j) (by omega) (decide_eq_false (by omega)) (decide_eq_true ⟨hF, by omega⟩) (fun k hk hkj => ?_)
  refine decide_eq_decide.mpr ⟨fun q => ⟨q.1, by have := q.2; omega⟩, fun q => ⟨q.1, ?_⟩⟩
  by_cases zk : ag_I ν 11 32 k = (z : Int)
  · exact absurd (WU_o hU (by omega) hj q.1.1 hF.1 (Or.inl (zk.trans hz.symm))) hkj
  · have := q.2; omega
theorem wqc_f {ν : ab_M} {n : Int} {z : Nat} (hno : ∀ k : Nat, (k : Int) < ag_I ν 10 0 26 → m_F ν n k → ag_I ν 11 32 k ≠ (z : Int)) : wqc ν n (z + 1) = wqc ν n z := by
  refine nb_cong (fun k hk => decide_eq_decide.mpr ⟨fun q => ⟨q.1, ?_⟩, fun q => ⟨q.1, by have := q.2; omega⟩⟩)
  have := hno k (by omega) q.1
  have := q.2
  omega
theorem wqc_0 {ν : ab_M} (hWL : WL ν) {n : Int} : wqc ν n 0 = 0 := nb_0 (fun k hk => decide_eq_false (fun q => by have := hWL k (by omega); have := q.2; omega))
theorem wqc_L {ν : ab_M} (hU : WU ν) (hZ : WR ν) {n : Int} : wqc ν n (ag_I ν 10 0 1).toNat = m_wc ν n := by
  refine nb_cong (fun k hk => decide_eq_decide.mpr ⟨fun q => q.1, fun q => ⟨q, ?_⟩⟩)
  have := hU.1 k (by omega)
  omega
theorem lp_xweeks {d : Nat} {ν μ0 : ab_M} {hl hw pl tm : Nat → Nat} {ow : Nat → Nat × Nat} {tc : Nat} (hZ : WR ν) (hWL : WL ν) (hU : WU ν) (hO : WO ν) (n : Int) (hn : 1 ≤ n ∧ ag_I ν 10 0 0 + n ≤ 500) : ∀ (N z : Nat) (e : Int) (μ : ab_M), IX (m_wq ν n z) μ hl hw pl tm ow tc → MK μ0 μ → ag_c μ = ag_c μ0 → ag_s μ = ag_s μ0 → ag_I ν 10 0 1 - z < N → (z : Int) ≤ ag_I ν 10 0 1 → e = wqc ν n z → Wg (d + 2) 79 μ 39 [(0, ab_r 9 (some 0)), (1, ab_i n), (2, ab_i e), (3, ab_i (z : Int))] [] (fun vv μ' => vv = some (ab_i (m_wc ν n)) ∧ IX (m_wk ν n) μ' hl hw pl tm ow tc ∧ MK μ0 μ' ∧ ag_c μ' = ag_c μ0 ∧ ag_s μ' = ag_s μ0)
  | 0, z, e, μ, _, _, _, _, h1, h2, _ => by omega
  | N + 1, z, e, μ, hI, hM, hc, hs, h1, h2, he => by
    have ih := lp_xweeks (d := d) (μ0 := μ0) (hl := hl) (hw := hw) (pl := pl) (tm := tm) (ow := ow) (tc := tc) hZ hWL hU hO n hn N
    obtain ⟨hX, hC, hH, hP, hL, hK, hT, hR, hS⟩ := id hI
    obtain ⟨c7, c8, c9, cC4, cC3, cC6, cC11⟩ := id hC
    have z1 := hZ.1
    rw [wq_n (by omega) (by omega)] at c7
    have hnr : 0 ≤ wqc ν n z ∧ wqc ν n z ≤ (ag_I ν 10 0 26).toNat := nb_rng (fun j => decide (m_F ν n j ∧ ag_I ν 11 32 j < (z : Int))) (ag_I ν 10 0 26).toNat
    have z26 := hZ.2.2.1
    refine wg_s rfl rfl ?_
    refine wg_s rfl rfl ?_
    refine wg_gi rfl rfl (show _ = ag_I ν 10 0 1 from c7) ?_
    refine wg_if rfl rfl (fun h44 => ?_) (fun h44 => ?_)
    · refine wg_s rfl rfl ?_
      have ez : z = (ag_I ν 10 0 1).toNat := by omega
      subst ez
      refine wg_ret rfl rfl trivial ⟨by rw [he, wqc_L hU hZ], IX_AG (wq_AL hU hZ) hI, hM, hc, hs⟩
    · refine wg_s rfl rfl ?_
      refine wg_s rfl rfl ?_
      refine wg_gx rfl rfl hX ?_
      refine wg_s rfl rfl ?_
      refine wg_aa rfl rfl (xf_l hX rfl) (by omega) (by omega) (show _ = some z from (hH z (by rw [wq_n (by omega) (by omega)]; omega)).1) ?_
      have hp1 := sp_part d z hI (WR_wq hZ z hn) (WL_wq hZ hWL z hn) (WU_wq hZ hWL hU z) (by rw [wq_n (by omega) (by omega)]; omega)
      rw [wq_n (m := 39) (by omega) (by omega), wq_0, wq_n (m := 33) (by omega) (by omega)] at hp1
      refine wg_call rfl rfl hp1 (fun vv μ2 hq => ?_)
      by_cases c : 0 ≤ m_l (m_wq ν n z) z ∧ ag_I ν 11 39 (m_l (m_wq ν n z) z).toNat ≠ -1 ∧ ag_I ν 11 39 (m_l (m_wq ν n z) z).toNat ≤ ag_I ν 10 0 0 + n
      · obtain ⟨rfl, rfl⟩ := hq.1 c
        obtain ⟨co, c1, c2⟩ := c
        generalize hjj : (m_l (m_wq ν n z) z).toNat = j at *
        have hj : (j : Int) < ag_I ν 10 0 26 := by
          have hr := m_lf_rng (m_wq ν n z) z (ag_I (m_wq ν n z) 10 0 26).toNat
          have e26 : ag_I (m_wq ν n z) 10 0 26 = ag_I ν 10 0 26 := wq_n (by omega) (by omega)
          rw [e26] at hr
          have co2 : 0 ≤ m_lf (m_wq ν n z) z (ag_I ν 10 0 26).toNat := by rw [← e26]; exact co
          have : (m_lf (m_wq ν n z) z (ag_I ν 10 0 26).toNat).toNat = j := by rw [← hjj]; show _ = (m_lf _ _ (ag_I (m_wq ν n z) 10 0 26).toNat).toNat; rw [e26]
          omega
        have hoo := m_lf_o (ν := m_wq ν n z) (h := z) (n := (ag_I (m_wq ν n z) 10 0 26).toNat) co
        have hjj2 : (m_lf (m_wq ν n z) z (ag_I (m_wq ν n z) 10 0 26).toNat).toNat = j := hjj
        rw [hjj2, wq_n (m := 32) (by omega) (by omega)] at hoo
        have hop := wq_o hZ hWL hj hoo.2
        have hoj := hO j hj hop.1
        have hF : m_F ν n j := ⟨hop.1, by omega, c2⟩
        have hwl := hWL j hj
        have hI2 := IX_part hI (WR_wq hZ z hn) (WL_wq hZ hWL z hn) (WU_wq hZ hWL hU z) j (ag_I ν 11 39 j - ag_I ν 11 34 j) (by rw [wq_n (by omega) (by omega)]; exact hj) hoo.2 (by have := hF.2; omega)
        rw [wq_n (m := 32) (by omega) (by omega), hoo.1, wq_n (m := 33) (by omega) (by omega)] at hI2
        have hI3 := IX_AG (wq_At hU hj hF hoo.1) hI2
        have e1 := wqc_t hU hj hF hoo.1
        refine wg_s rfl rfl ?_
        refine wg_at (pc2 := 60) (by decide) ?_
        refine wg_iinc rfl rfl rfl (by omega) (by omega) rfl ?_
        refine wg_iinc rfl rfl rfl (by omega) (by omega) rfl ?_
        refine wg_s rfl rfl ?_
        refine ih (z + 1) _ _ hI3 (MK_trans hM (MK_part _ _ _ _)) (hc.trans rfl) (hs.trans rfl) (by omega) (by omega) (by rw [e1, he])
      · obtain ⟨rfl, rfl⟩ := hq.2 c
        have hno : ∀ k : Nat, (k : Int) < ag_I ν 10 0 26 → m_F ν n k → ag_I ν 11 32 k ≠ (z : Int) := by
          intro k hk hF e
          apply c
          have e26 : ag_I (m_wq ν n z) 10 0 26 = ag_I ν 10 0 26 := wq_n (by omega) (by omega)
          have h32 : ag_I (m_wq ν n z) 11 32 k = (z : Int) := (wq_n (by omega) (by omega)).trans e
          have h40 : ag_I (m_wq ν n z) 11 40 k < 0 := by rw [wq_40, if_neg (fun q => by have := q.2.2; omega)]; exact hF.1
          have a1 : 0 ≤ m_l (m_wq ν n z) z := m_lf_s (by rw [e26]; omega) h32 h40
          have a2 := m_lf_o (ν := m_wq ν n z) (h := z) (n := (ag_I (m_wq ν n z) 10 0 26).toNat) a1
          have hr := m_lf_rng (m_wq ν n z) z (ag_I (m_wq ν n z) 10 0 26).toNat
          have a1b : 0 ≤ m_lf (m_wq ν n z) z (ag_I (m_wq ν n z) 10 0 26).toNat := a1
          have a3 : (m_l (m_wq ν n z) z).toNat = k := WU_o (WU_wq hZ hWL hU z) (by show ((m_lf _ _ _).toNat : Int) < _; rw [e26] at hr a1b ⊢; omega) (by rw [e26]; exact hk) a2.2 h40 (Or.inl (a2.1.trans h32.symm))
          rw [a3]
          have := hF.2; have z0 := hZ.2.2.2.1
          exact ⟨a1, by omega, by omega⟩
        have hI3 := IX_AG (wq_Af hno) hI
        have e1 := wqc_f hno
        refine wg_s rfl rfl ?_
        refine wg_at (pc2 := 63) (by decide) ?_
        refine wg_iinc rfl rfl rfl (by omega) (by omega) rfl ?_
        refine wg_s rfl rfl ?_
        refine ih (z + 1) _ _ hI3 (MK_trans hM (MK_refl _)) hc hs (by omega) (by omega) (by rw [e1, he])
theorem sp_xweeks (d : Nat) (n : Int) {ν μ : ab_M} {hl hw pl tm : Nat → Nat} {ow : Nat → Nat × Nat} {tc : Nat} (hI : IX ν μ hl hw pl tm ow tc) (hZ : WR ν) (hWL : WL ν) (hU : WU ν) (hO : WO ν) : Wp (d + 3) 79 [ab_r 9 (some 0), ab_i n] μ (fun vv μ' => ((1 ≤ n ∧ n ≤ 100) ∧ ag_I ν 10 0 0 + n ≤ 500 → (vv = some (ab_i (m_wc ν n)) ∧ IX (m_wk ν n) μ' hl hw pl tm ow tc ∧ MK μ μ' ∧ ag_c μ' = ag_c μ ∧ ag_s μ' = ag_s μ)) ∧ (¬ ((1 ≤ n ∧ n ≤ 100) ∧ ag_I ν 10 0 0 + n ≤ 500) → vv = some (ab_i (-1)) ∧ μ' = μ)) := by
  refine wp_of ?_
  obtain ⟨hX, hC, hH, hP, hL, hK, hT, hR, hS⟩ := id hI
  obtain ⟨z1, z6, z26, z0, z14⟩ := id hZ
  obtain ⟨c7, c8, c9, cC4, cC3, cC6, cC11⟩ := id hC
  refine wg_s rfl rfl ?_
  refine wg_s rfl rfl ?_
  refine wg_if rfl rfl (fun h2 => ?_) (fun h2 => ?_)
  · refine wg_s rfl rfl ?_
    exact wg_ret rfl rfl trivial ⟨fun h => absurd h (by omega), fun _ => ⟨rfl, rfl⟩⟩
  · refine wg_s rfl rfl ?_
    refine wg_s rfl rfl ?_
    refine wg_if rfl rfl (fun h8 => ?_) (fun h8 => ?_)
    · refine wg_s rfl rfl ?_
      exact wg_ret rfl rfl trivial ⟨fun h => absurd h (by omega), fun _ => ⟨rfl, rfl⟩⟩
    · refine wg_s rfl rfl ?_
      refine wg_gi rfl rfl (show _ = ag_I ν 10 0 0 from c9) ?_
      refine wg_s rfl rfl ?_
      refine wg_iadd rfl (by omega) (by omega) ?_
      refine wg_s rfl rfl ?_
      refine wg_if rfl rfl (fun h20 => ?_) (fun h20 => ?_)
      · refine wg_s rfl rfl ?_
        refine wg_s rfl rfl ?_
        refine wg_gi rfl rfl (show _ = ag_I ν 10 0 0 from c9) ?_
        refine wg_s rfl rfl ?_
        refine wg_iadd rfl (by omega) (by omega) ?_
        refine wg_s rfl rfl ?_
        refine wg_s rfl rfl ?_
        refine wg_s rfl rfl ?_
        refine wg_s rfl rfl ?_
        refine wg_s rfl rfl ?_
        refine wg_mono (lp_xweeks (μ0 := μ) hZ hWL hU hO n (by omega) 9 0 0 _ (IX_AG (wq_A0 hWL) (IX_clock hI _)) ⟨fun t m i q => ag_I_n (by unfold mrel at q; omega), fun _ _ => rfl, fun _ _ _ => rfl⟩ rfl rfl (by omega) (by omega) (wqc_0 hWL).symm) (fun vv μ2 hq => ⟨fun _ => hq, fun h => absurd ⟨by omega, by omega⟩ h⟩)
      · refine wg_s rfl rfl ?_
        exact wg_ret rfl rfl trivial ⟨fun h => absurd h (by omega), fun _ => ⟨rfl, rfl⟩⟩
