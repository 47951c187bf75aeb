/-! ===== the class: feed ===== -/
theorem by_eq (b : BitVec 32) (s : Nat) (hs : s ≤ 24) : ((b >>> s) &&& 255#32).toInt = (((b.sshiftRight s).signExtend 8).signExtend 32).toInt % 256 := by
  have e : (b.sshiftRight s).signExtend 8 = (b >>> s).setWidth 8 := by
    rw [BitVec.signExtend_eq_setWidth_of_le _ (by omega)]
    apply BitVec.eq_of_getLsbD_eq
    intro i hi
    rw [BitVec.getLsbD_setWidth, BitVec.getLsbD_setWidth, BitVec.getLsbD_sshiftRight, BitVec.getLsbD_ushiftRight]
    have h1 : s + i < 32 := by omega
    have h2 : ¬ (32 ≤ i) := by omega
    simp [h1, h2]
  rw [e, BitVec.toInt_signExtend_of_le (by omega)]
  have h2 : ((b >>> s) &&& 255#32).toNat = (b >>> s).toNat % 256 := by
    rw [BitVec.toNat_and]
    exact Nat.and_two_pow_sub_one_eq_mod _ 8
  have h3 : ((b >>> s).setWidth 8).toNat = (b >>> s).toNat % 256 := BitVec.toNat_setWidth _ _
  rw [BitVec.toInt_eq_toNat_of_lt (by omega), h2, BitVec.toInt_eq_toNat_bmod, h3, show ((256 : Int)) = ((2 ^ 8 : Nat) : Int) from rfl, Int.bmod_emod]
  omega
theorem by_24 (x : Int) : ab_and (ab_ush x 24) 255 = ab_i2b (ab_shr x 24) % 256 := by
  unfold ab_and ab_ush ab_i2b ab_shr
  rw [Int32.ofInt_toInt, Int32.ofInt_toInt]
  exact by_eq (Int32.ofInt x).toBitVec 24 (by omega)
theorem by_16 (x : Int) : ab_and (ab_ush x 16) 255 = ab_i2b (ab_shr x 16) % 256 := by
  unfold ab_and ab_ush ab_i2b ab_shr
  rw [Int32.ofInt_toInt, Int32.ofInt_toInt]
  exact by_eq (Int32.ofInt x).toBitVec 16 (by omega)
theorem by_8 (x : Int) : ab_and (ab_ush x 8) 255 = ab_i2b (ab_shr x 8) % 256 := by
  unfold ab_and ab_ush ab_i2b ab_shr
  rw [Int32.ofInt_toInt, Int32.ofInt_toInt]
  exact by_eq (Int32.ofInt x).toBitVec 8 (by omega)
theorem by_0 (x : Int) : ab_and (ab_ush x 0) 255 = ab_i2b x % 256 := by
  have h := by_eq (Int32.ofInt x).toBitVec 0 (by omega)
  rw [BitVec.sshiftRight_zero] at h
  unfold ab_and ab_ush ab_i2b
  rw [Int32.ofInt_toInt]
  exact h
def x_p1 (μ : ab_M) (n v : Int) : ab_M := as_I (as_I μ 11 0 n.toNat v) 7 0 1 (n + 1)
def m_p1 (ν : ab_M) (n v : Int) : ab_M := as_I (as_I ν 12 0 n.toNat v) 10 0 14 (n + 1)
theorem IX_p1 {ν μ : ab_M} {hl hw pl tm : Nat → Nat} {ow : Nat → Nat × Nat} {tc : Nat} (hI : IX ν μ hl hw pl tm ow tc) (n x v : Int) (h0 : 0 ≤ n) (hn : ag_I ν 10 0 14 = n) (hv : v = x % 256) : IX (m_p1 ν n x) (x_p1 μ n v) hl hw pl tm ow tc := by
  obtain ⟨hX, hC, hH, hP, hL, hK, hT, hR, hS⟩ := id hI
  have hν : ∀ {r : Nat → Nat → Nat → Prop}, (¬ r 10 0 14) → (∀ k, ¬ r 12 0 k) → AG r ν (m_p1 ν n x) := fun h1 h2 t m k hh => (ag_I_n (fun e => by obtain ⟨rfl, rfl, rfl⟩ := e; exact h1 hh)).trans (ag_I_n (fun e => by obtain ⟨rfl, rfl, rfl⟩ := e; exact h2 _ hh))
  have iI : ∀ {t m k : Nat}, ¬ (t = 7 ∧ m = 0 ∧ k = 1) → ¬ (t = 11 ∧ m = 0) → ag_I (x_p1 μ n v) t m k = ag_I μ t m k := fun q1 q2 => (ag_I_n q1).trans (ag_I_n (by omega))
  refine ⟨hX, XC_A (hν (by unfold rC; omega) (fun k => by unfold rC; omega)) ?_, XH_A (hν (by unfold rH; omega) (fun k => by unfold rH; omega)) (XH_B (fun t n k h => iI (by omega) (by omega)) (fun _ _ _ _ => rfl) (fun _ _ => rfl) (Nat.le_refl _) hH), XP_A (hν (by unfold rP; omega) (fun k => by unfold rP; omega)) (XP_B (fun t n k h => iI (by omega) (by omega)) (fun _ _ _ _ => rfl) (fun _ _ => rfl) (Nat.le_refl _) hP), XL_A (hν (by unfold rL; omega) (fun k => by unfold rL; omega)) (XL_B (fun t n k h => iI (by omega) (by omega)) (fun _ _ _ => rfl) (fun _ _ _ _ _ => rfl) (Nat.le_refl _) hL), XK_A (hν (by unfold rL; omega) (fun k => by unfold rL; omega)) (XK_B (fun _ _ => iI (by omega) (by omega)) hK), ⟨?_, fun i hi => ?_⟩, XR_A (hν (by unfold rR; omega) (fun k => by unfold rR; omega)) (XR_B ⟨iI (by omega) (by omega), iI (by omega) (by omega)⟩ rfl (fun _ _ _ => iI (by omega) (by omega)) (Nat.le_refl _) hR), XS_B (fun _ _ _ _ => iI (by omega) (by omega)) hS⟩
  · obtain ⟨c7, c8, c9, cC4, cC3, cC6, cC11⟩ := id hC
    exact ⟨(iI (by omega) (by omega)).trans c7, (iI (by omega) (by omega)).trans c8, (iI (by omega) (by omega)).trans c9, cC4, cC3, cC6, cC11⟩
  · exact (ag_I_y _ _ _ _ _).trans (ag_I_y _ _ _ _ _).symm
  · have e1 : ag_I (m_p1 ν n x) 10 0 14 = n + 1 := ag_I_y _ _ _ _ _
    rw [e1] at hi
    by_cases e : i = n.toNat
    · subst e
      refine ((ag_I_n (by omega)).trans (ag_I_y _ _ _ _ _)).trans ?_
      have e2 : ag_I (m_p1 ν n x) 12 0 n.toNat = x := (ag_I_n (by omega)).trans (ag_I_y _ _ _ _ _)
      rw [e2]; exact hv
    · refine ((ag_I_n (by omega)).trans (ag_I_n (by omega))).trans ?_
      have e2 : ag_I (m_p1 ν n x) 12 0 i = ag_I ν 12 0 i := (ag_I_n (by omega)).trans (ag_I_n (by omega))
      rw [e2]; exact hT.2 i (by omega)
def x_put (μ : ab_M) (n x : Int) : ab_M := x_p1 (x_p1 (x_p1 (x_p1 μ n (ab_and (ab_ush x 24) 255)) (n + 1) (ab_and (ab_ush x 16) 255)) (n + 2) (ab_and (ab_ush x 8) 255)) (n + 3) (ab_and (ab_ush x 0) 255)
theorem IX_put {ν μ : ab_M} {hl hw pl tm : Nat → Nat} {ow : Nat → Nat × Nat} {tc : Nat} (hI : IX ν μ hl hw pl tm ow tc) (n x : Int) (h0 : 0 ≤ n) (hn : ag_I ν 10 0 14 = n) : IX (m_put ν x) (x_put μ n x) hl hw pl tm ow tc := by
  have h1 := IX_p1 hI n (ab_i2b (ab_shr x 24)) _ h0 hn (by_24 x)
  have h2 := IX_p1 h1 (n + 1) (ab_i2b (ab_shr x 16)) _ (by omega) (ag_I_y _ _ _ _ _) (by_16 x)
  have h3 := IX_p1 h2 (n + 1 + 1) (ab_i2b (ab_shr x 8)) _ (by omega) (ag_I_y _ _ _ _ _) (by_8 x)
  have h4 := IX_p1 h3 (n + 1 + 1 + 1) (ab_i2b x) _ (by omega) (ag_I_y _ _ _ _ _) (by_0 x)
  rw [show n + 1 + 1 = n + 2 by omega, show n + 2 + 1 = n + 3 by omega] at h4
  refine IX_AG (fun t m k _ => ?_) h4
  unfold m_put m_p1
  rw [hn]
  simp only [ag_I_I]
  by_cases c : t = 10 ∧ m = 0 ∧ k = 14
  · rw [if_pos c, if_pos c]; omega
  · rw [if_neg c, if_neg c, if_neg c, if_neg c, if_neg c]
theorem xp_c (μ : ab_M) (n x : Int) : ag_c (x_put μ n x) = ag_c μ ∧ ag_s (x_put μ n x) = ag_s μ ∧ (x_put μ n x).2 = μ.2 := ⟨rfl, rfl, rfl⟩
theorem MK_p1 (μ : ab_M) (n v : Int) : MK μ (x_p1 μ n v) := ⟨fun t m i q => (ag_I_n (by unfold mrel at q; omega)).trans (ag_I_n (by unfold mrel at q; omega)), fun _ _ => rfl, fun _ _ _ => rfl⟩
theorem MK_put (μ : ab_M) (n x : Int) : MK μ (x_put μ n x) := MK_trans (MK_p1 _ _ _) (MK_trans (MK_p1 _ _ _) (MK_trans (MK_p1 _ _ _) (MK_p1 _ _ _)))
section
variable {d : Nat} {Q : Option ab_V → ab_M → Prop}
theorem st_put {μ : ab_M} (hX : XF μ) {n x sh : Int} (hn : ag_I μ 7 0 1 = n) (h0 : 0 ≤ n ∧ n < 200) (hs : 0 ≤ sh ∧ sh ≤ 24) (K : Wg d 65 (x_p1 μ n (ab_and (ab_ush x sh) 255)) 3 [(0, ab_r 7 (some 0)), (1, ab_i x), (2, ab_i (sh - 8))] [] Q) : Wg d 65 μ 3 [(0, ab_r 7 (some 0)), (1, ab_i x), (2, ab_i sh)] [] Q := by
  refine wg_s rfl rfl ?_
  refine wg_if rfl rfl (fun h4 => absurd h4 (by omega)) (fun h4 => ?_)
  refine wg_s rfl rfl ?_
  refine wg_gi rfl rfl (show _ = n from hn) ?_
  refine wg_s rfl rfl ?_
  refine wg_gx rfl rfl hX ?_
  refine wg_len rfl rfl (xf_l hX rfl) ?_
  refine wg_if rfl rfl (fun h16 => absurd h16 (by omega)) (fun h16 => ?_)
  refine wg_s rfl rfl ?_
  refine wg_gx rfl rfl hX ?_
  refine wg_s rfl rfl ?_
  refine wg_gi rfl rfl (show _ = n from hn) ?_
  refine wg_s rfl rfl ?_
  refine wg_s rfl rfl ?_
  refine wg_s rfl rfl ?_
  refine wg_s rfl rfl ?_
  refine wg_s rfl rfl ?_
  refine wg_axs rfl (xf_l hX rfl) (by omega) (by omega) ?_
  refine wg_s rfl rfl ?_
  refine wg_s rfl rfl ?_
  refine wg_gi rfl rfl (show _ = n from (ag_I_n (by omega)).trans hn) ?_
  refine wg_s rfl rfl ?_
  refine wg_iadd rfl (by omega) (by omega) ?_
  refine wg_s rfl rfl ?_
  refine wg_iinc rfl rfl rfl (by omega) (by omega) rfl ?_
  refine wg_s rfl rfl ?_
  exact K
end
theorem sp_put (d : Nat) (n x : Int) {μ : ab_M} (hX : XF μ) (hn : ag_I μ 7 0 1 = n) (h0 : 0 ≤ n ∧ n + 4 ≤ 200) : Wp (d + 1) 65 [ab_r 7 (some 0), ab_i x] μ (fun vv μ' => vv = none ∧ μ' = x_put μ n x) := by
  refine wp_of ?_
  refine wg_s rfl rfl ?_
  refine wg_s rfl rfl ?_
  refine st_put (sh := 24) (by exact hX) (n := n) hn (by omega) (by omega) ?_
  refine st_put (sh := 16) (by exact hX) (n := n + 1) (show _ = _ from (ag_I_y _ _ _ _ _).trans (by omega)) (by omega) (by omega) ?_
  refine st_put (sh := 8) (by exact hX) (n := n + 2) (show _ = _ from (ag_I_y _ _ _ _ _).trans (by omega)) (by omega) (by omega) ?_
  refine st_put (sh := 0) (by exact hX) (n := n + 3) (show _ = _ from (ag_I_y _ _ _ _ _).trans (by omega)) (by omega) (by omega) ?_
  refine wg_s rfl rfl ?_
  refine wg_s rfl rfl ?_
  refine wg_at (pc2 := 51) (by decide) ?_
  exact wg_ret rfl rfl trivial ⟨rfl, rfl⟩
theorem sp_hasRoom (d : Nat) (n x : Int) {μ : ab_M} (hn : ag_I μ 7 0 1 = n) (h0 : 0 ≤ n ∧ n ≤ 200) (hx : 0 ≤ x ∧ x ≤ 100) : Wp (d + 1) 64 [ab_r 7 (some 0), ab_i x] μ (fun vv μ' => vv = some (ab_i (bI (n + x ≤ 200))) ∧ μ' = μ) := by
  refine wp_of ?_
  refine wg_s rfl rfl ?_
  refine wg_gi rfl rfl (show _ = n from hn) ?_
  refine wg_s rfl rfl ?_
  refine wg_iadd rfl (by omega) (by omega) ?_
  refine wg_s rfl rfl ?_
  refine wg_if rfl rfl (fun h9 => ?_) (fun h9 => ?_)
  · refine wg_s rfl rfl ?_
    refine wg_ret rfl rfl (by first | exact Or.inl rfl | exact Or.inr rfl) ⟨?_, rfl⟩
    first | rw [bI_t (by omega)] | rw [bI_f (by omega)]
  · refine wg_s rfl rfl ?_
    refine wg_s rfl rfl ?_
    refine wg_ret rfl rfl (by first | exact Or.inl rfl | exact Or.inr rfl) ⟨?_, rfl⟩
    first | rw [bI_t (by omega)] | rw [bI_f (by omega)]
theorem sp_len2 (d : Nat) (n : Int) {μ : ab_M} (hn : ag_I μ 7 0 1 = n) : Wp (d + 1) 62 [ab_r 7 (some 0)] μ (fun vv μ' => vv = some (ab_i n) ∧ μ' = μ) := by
  refine wp_of ?_
  refine wg_s rfl rfl ?_
  refine wg_gi rfl rfl (show _ = n from hn) ?_
  exact wg_ret rfl rfl trivial ⟨rfl, rfl⟩
theorem sp_xfeed (d : Nat) (a b c e f : Int) {ν μ : ab_M} {hl hw pl tm : Nat → Nat} {ow : Nat → Nat × Nat} {tc : Nat} (hI : IX ν μ hl hw pl tm ow tc) (hZ : WR ν) : Wp (d + 2) 80 [ab_r 9 (some 0), ab_i a, ab_i b, ab_i c, ab_i e, ab_i f] μ (fun vv μ' => (ag_I ν 10 0 14 + 20 ≤ 200 → vv = some (ab_i (ag_I ν 10 0 14 + 20)) ∧ μ' = x_put (x_put (x_put (x_put (x_put μ (ag_I ν 10 0 14) a) (ag_I ν 10 0 14 + 4) b) (ag_I ν 10 0 14 + 8) c) (ag_I ν 10 0 14 + 12) e) (ag_I ν 10 0 14 + 16) f) ∧ (¬ (ag_I ν 10 0 14 + 20 ≤ 200) → vv = some (ab_i (-1)) ∧ μ' = μ)) := by
  refine wp_of ?_
  obtain ⟨hX, hC, hH, hP, hL, hK, hT, hR, hS⟩ := id hI
  obtain ⟨z1, z6, z26, z0, z14⟩ := id hZ
  obtain ⟨c7, c8, c9, cC4, cC3, cC6, cC11⟩ := id hC
  refine wg_s rfl rfl ?_
  refine wg_gx rfl rfl hX ?_
  refine wg_s rfl rfl ?_
  refine wg_cf rfl rfl (sp_hasRoom _ _ _ hT.1 z14 (by omega)) ?_
  refine wg_neb rfl (fun h9 => ?_) (fun h9 => ?_)
  · refine wg_s rfl rfl ?_
    refine wg_gx rfl rfl hX ?_
    refine wg_s rfl rfl ?_
    refine wg_cv rfl rfl (sp_put _ (ag_I ν 10 0 14) _ (by exact hX) hT.1 (by omega)) ?_
    refine wg_s rfl rfl ?_
    refine wg_gx rfl rfl hX ?_
    refine wg_s rfl rfl ?_
    refine wg_cv rfl rfl (sp_put _ (ag_I ν 10 0 14 + 4) _ (by exact hX) (show _ = _ from (ag_I_y _ _ _ _ _).trans (by omega)) (by omega)) ?_
    refine wg_s rfl rfl ?_
    refine wg_gx rfl rfl hX ?_
    refine wg_s rfl rfl ?_
    refine wg_cv rfl rfl (sp_put _ (ag_I ν 10 0 14 + 8) _ (by exact hX) (show _ = _ from (ag_I_y _ _ _ _ _).trans (by omega)) (by omega)) ?_
    refine wg_s rfl rfl ?_
    refine wg_gx rfl rfl hX ?_
    refine wg_s rfl rfl ?_
    refine wg_cv rfl rfl (sp_put _ (ag_I ν 10 0 14 + 12) _ (by exact hX) (show _ = _ from (ag_I_y _ _ _ _ _).trans (by omega)) (by omega)) ?_
    refine wg_s rfl rfl ?_
    refine wg_gx rfl rfl hX ?_
    refine wg_s rfl rfl ?_
    refine wg_cv rfl rfl (sp_put _ (ag_I ν 10 0 14 + 16) _ (by exact hX) (show _ = _ from (ag_I_y _ _ _ _ _).trans (by omega)) (by omega)) ?_
    refine wg_s rfl rfl ?_
    refine wg_gx rfl rfl hX ?_
    refine wg_cf rfl rfl (sp_len2 _ (ag_I ν 10 0 14 + 20) (show _ = _ from (ag_I_y _ _ _ _ _).trans (by omega))) ?_
    exact wg_ret rfl rfl trivial ⟨fun _ => ⟨rfl, rfl⟩, fun h => absurd h9 h⟩
  · refine wg_s rfl rfl ?_
    exact wg_ret rfl rfl trivial ⟨fun h => absurd h h9, fun _ => ⟨rfl, rfl⟩⟩
