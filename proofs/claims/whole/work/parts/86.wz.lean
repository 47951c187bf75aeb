/-! ===== what the reference keeps to ===== -/
def W50 (ν : ab_M) : Prop := (∀ h p : Nat, ag_I ν 10 0 1 ≤ (h : Int) → h < 8 → p < 8 → ag_I ν 11 28 (8 * h + p) = 50) ∧ ∀ h p : Nat, ag_I ν 10 0 6 ≤ (p : Int) → h < 8 → p < 8 → ag_I ν 11 29 (8 * h + p) = 50
def W31 (ν : ab_M) : Prop := (0 ≤ ag_I ν 11 31 2 ∧ ag_I ν 11 31 2 ≤ 20) ∧ (0 ≤ ag_I ν 11 31 3 ∧ ag_I ν 11 31 3 ≤ 20)
def WZ (ν : ab_M) : Prop := WR ν ∧ WL ν ∧ WT ν ∧ WK ν ∧ WU ν ∧ W16 ν ∧ WE ν ∧ WO ν ∧ WB ν ∧ W50 ν ∧ W31 ν
section
variable {ν ν' : ab_M}
theorem WR_A (h : ∀ k, k = 0 ∨ k = 1 ∨ k = 6 ∨ k = 26 ∨ k = 14 → ag_I ν' 10 0 k = ag_I ν 10 0 k) (w : WR ν) : WR ν' := by
  unfold WR
  rw [h 0 (by omega), h 1 (by omega), h 6 (by omega), h 26 (by omega), h 14 (by omega)]; exact w
theorem WL_A (h0 : ag_I ν' 10 0 26 = ag_I ν 10 0 26 ∧ ag_I ν' 10 0 0 = ag_I ν 10 0 0) (h : ∀ n k, n = 32 ∨ n = 33 ∨ n = 34 ∨ n = 40 → ag_I ν' 11 n k = ag_I ν 11 n k) (w : WL ν) : WL ν' := by
  intro j hj
  rw [h0.1] at hj
  rw [h 32 j (by omega), h 33 j (by omega), h 34 j (by omega), h 40 j (by omega), h0.2]; exact w j hj
theorem WT_A (h0 : ag_I ν' 10 0 26 = ag_I ν 10 0 26) (h : ∀ n k, n = 37 ∨ n = 38 → ag_I ν' 11 n k = ag_I ν 11 n k) (w : WT ν) : WT ν' := by
  intro j hj
  rw [h0] at hj
  rw [h 37 j (by omega), h 38 j (by omega)]; exact w j hj
theorem WK_A (h : ∀ n k, n = 28 ∨ n = 29 → ag_I ν' 11 n k = ag_I ν 11 n k) (w : WK ν) : WK ν' := by
  intro k hk
  rw [h 28 k (by omega), h 29 k (by omega)]; exact w k hk
theorem WU_A (h0 : ag_I ν' 10 0 26 = ag_I ν 10 0 26 ∧ ag_I ν' 10 0 1 = ag_I ν 10 0 1 ∧ ag_I ν' 10 0 6 = ag_I ν 10 0 6) (h : ∀ n k, n = 32 ∨ n = 33 ∨ n = 20 ∨ n = 40 → ag_I ν' 11 n k = ag_I ν 11 n k) (w : WU ν) : WU ν' := by
  refine ⟨fun j hj => ?_, fun i j hij hj oi oj => ?_, fun x hx => ?_⟩
  · rw [h0.1] at hj
    rw [h 32 j (by omega), h 33 j (by omega), h0.2.1, h0.2.2]; exact w.1 j hj
  · rw [h0.1] at hj
    rw [h 40 _ (by omega)] at oi oj
    rw [h 32 i (by omega), h 32 j (by omega), h 33 i (by omega), h 33 j (by omega)]; exact w.2.1 i j hij hj oi oj
  · rw [h0.2.1] at hx
    rw [h 20 x (by omega)]; exact w.2.2 x hx
theorem W16_A (h0 : ag_I ν' 10 0 26 = ag_I ν 10 0 26) (h : ∀ n k, n = 20 ∨ n = 32 → ag_I ν' 11 n k = ag_I ν 11 n k) (w : W16 ν) : W16 ν' := by
  intro k
  rw [h0, m_ct_c (fun j => h 20 j (by omega)) (fun j => h 32 j (by omega))]; exact w k
theorem WE_A (h0 : ag_I ν' 10 0 26 = ag_I ν 10 0 26) (h : ∀ n k, n = 40 ∨ n = 39 ∨ n = 34 → ag_I ν' 11 n k = ag_I ν 11 n k) (w : WE ν) : WE ν' := by
  intro j hj
  rw [h0] at hj
  rw [h 40 j (by omega), h 39 j (by omega), h 34 j (by omega)]; exact w j hj
theorem WO_A (h0 : ag_I ν' 10 0 26 = ag_I ν 10 0 26 ∧ ag_I ν' 10 0 0 = ag_I ν 10 0 0) (h : ∀ n k, n = 40 ∨ n = 39 → ag_I ν' 11 n k = ag_I ν 11 n k) (w : WO ν) : WO ν' := by
  intro j hj
  rw [h0.1] at hj
  rw [h 40 j (by omega), h 39 j (by omega), h0.2]; exact w j hj
theorem WB_A (h : ∀ k, ag_I ν' 12 0 k = ag_I ν 12 0 k) (w : WB ν) : WB ν' := by
  intro i; rw [h i]; exact w i
theorem W50_A (h0 : ag_I ν' 10 0 1 = ag_I ν 10 0 1 ∧ ag_I ν' 10 0 6 = ag_I ν 10 0 6) (h : ∀ n k, n = 28 ∨ n = 29 → ag_I ν' 11 n k = ag_I ν 11 n k) (w : W50 ν) : W50 ν' := by
  refine ⟨fun a b c d e => ?_, fun a b c d e => ?_⟩
  · rw [h0.1] at c; rw [h 28 _ (by omega)]; exact w.1 a b c d e
  · rw [h0.2] at c; rw [h 29 _ (by omega)]; exact w.2 a b c d e
theorem W31_A (h : ∀ k, ag_I ν' 11 31 k = ag_I ν 11 31 k) (w : W31 ν) : W31 ν' := by
  unfold W31; rw [h 2, h 3]; exact w
def rW (t n k : Nat) : Prop := (t = 10 ∧ n = 0 ∧ (k = 0 ∨ k = 1 ∨ k = 6 ∨ k = 14 ∨ k = 26)) ∨ (t = 11 ∧ (n = 20 ∨ n = 28 ∨ n = 29 ∨ n = 31 ∨ n = 32 ∨ n = 33 ∨ n = 34 ∨ n = 37 ∨ n = 38 ∨ n = 39 ∨ n = 40)) ∨ (t = 12 ∧ n = 0)
theorem WZ_A (h : ∀ t n k, rW t n k → ag_I ν' t n k = ag_I ν t n k) (w : WZ ν) : WZ ν' := by
  obtain ⟨w1, w2, w3, w4, w5, w6, w7, w8, w9, w10, w11⟩ := w
  have g0 := h 10 0 0 (by unfold rW; omega)
  have g1 := h 10 0 1 (by unfold rW; omega)
  have g6 := h 10 0 6 (by unfold rW; omega)
  have g26 := h 10 0 26 (by unfold rW; omega)
  exact ⟨WR_A (fun k hk => h 10 0 k (by unfold rW; omega)) w1, WL_A ⟨g26, g0⟩ (fun n k hn => h 11 n k (by unfold rW; omega)) w2, WT_A g26 (fun n k hn => h 11 n k (by unfold rW; omega)) w3, WK_A (fun n k hn => h 11 n k (by unfold rW; omega)) w4, WU_A ⟨g26, g1, g6⟩ (fun n k hn => h 11 n k (by unfold rW; omega)) w5, W16_A g26 (fun n k hn => h 11 n k (by unfold rW; omega)) w6, WE_A g26 (fun n k hn => h 11 n k (by unfold rW; omega)) w7, WO_A ⟨g26, g0⟩ (fun n k hn => h 11 n k (by unfold rW; omega)) w8, WB_A (fun k => h 12 0 k (by unfold rW; omega)) w9, W50_A ⟨g1, g6⟩ (fun n k hn => h 11 n k (by unfold rW; omega)) w10, W31_A (fun k => h 11 31 k (by unfold rW; omega)) w11⟩
theorem WZ_M (h : AGM ν ν') (w : WZ ν) : WZ ν' := WZ_A (fun t n k q => h t n k (by unfold rW at q; unfold mrel; omega)) w
end
/-- a new home -/
theorem WZ_home {ν : ab_M} (w : WZ ν) (h8 : ag_I ν 10 0 1 < 8) (k a b c : Int) (hk : 0 ≤ k ∧ k ≤ 3) : WZ (m_hn ν k a b c) := by
  obtain ⟨w1, w2, w3, w4, w5, w6, w7, w8, w9, w10, w11⟩ := w
  obtain ⟨z1, z6, z26, z0, z14⟩ := id w1
  have v := @mh_v ν k a b c
  have g26 : ag_I (m_hn ν k a b c) 10 0 26 = ag_I ν 10 0 26 := mh_I (by omega) (by omega)
  have g0 : ag_I (m_hn ν k a b c) 10 0 0 = ag_I ν 10 0 0 := mh_I (by omega) (by omega)
  have g6 : ag_I (m_hn ν k a b c) 10 0 6 = ag_I ν 10 0 6 := mh_I (by omega) (by omega)
  have gn : ∀ n k', 24 ≤ n → ag_I (m_hn ν k a b c) 11 n k' = ag_I ν 11 n k' := fun n k' hn => mh_I (by omega) (by omega)
  refine ⟨⟨by rw [v.1]; omega, by rw [g6]; exact z6, by rw [g26]; exact z26, by rw [g0]; exact z0, by rw [mh_I (by omega) (by omega)]; exact z14⟩, WL_A ⟨g26, g0⟩ (fun n k hn => gn n k (by omega)) w2, WT_A g26 (fun n k hn => gn n k (by omega)) w3, WK_A (fun n k hn => gn n k (by omega)) w4, ⟨fun j hj => ?_, fun i j hij hj oi oj => ?_, fun x hx => ?_⟩, fun q => ?_, WE_A g26 (fun n k hn => gn n k (by omega)) w7, WO_A ⟨g26, g0⟩ (fun n k hn => gn n k (by omega)) w8, WB_A (fun k => mh_I (by omega) (by omega)) w9, ⟨fun x y e1 e2 e3 => ?_, fun x y e1 e2 e3 => ?_⟩, W31_A (fun k => gn 31 k (by omega)) w11⟩
  · rw [g26] at hj
    rw [gn 32 j (by omega), gn 33 j (by omega), v.1, g6]
    have := w5.1 j hj; omega
  · rw [g26] at hj
    rw [gn 40 _ (by omega)] at oi oj
    rw [gn 32 i (by omega), gn 32 j (by omega), gn 33 i (by omega), gn 33 j (by omega)]; exact w5.2.1 i j hij hj oi oj
  · rw [v.1] at hx
    by_cases e : x = (ag_I ν 10 0 1).toNat
    · rw [e, v.2.1]; exact hk
    · rw [mh_I (by omega) (by omega)]; exact w5.2.2 x (by omega)
  · rw [g26, m_ct_c2 (ν := ν) q _ (fun j hj => by rw [gn 32 j (by omega)]; have := w5.1 j (by omega); have := w2 j (by omega); exact mh_I (by omega) (by omega))]
    exact w6 q
  · rw [v.1] at e1; rw [gn 28 _ (by omega)]; exact w10.1 x y (by omega) e2 e3
  · rw [g6] at e1; rw [gn 29 _ (by omega)]; exact w10.2 x y e1 e2 e3
theorem WZ_helper {ν : ab_M} (w : WZ ν) (h8 : ag_I ν 10 0 6 < 8) (k a b c : Int) : WZ (m_pn ν k a b c) := by
  obtain ⟨w1, w2, w3, w4, w5, w6, w7, w8, w9, w10, w11⟩ := w
  obtain ⟨z1, z6, z26, z0, z14⟩ := id w1
  have v := @mp_v ν k a b c
  have g26 : ag_I (m_pn ν k a b c) 10 0 26 = ag_I ν 10 0 26 := mp_I (by omega) (by omega)
  have g0 : ag_I (m_pn ν k a b c) 10 0 0 = ag_I ν 10 0 0 := mp_I (by omega) (by omega)
  have g1 : ag_I (m_pn ν k a b c) 10 0 1 = ag_I ν 10 0 1 := mp_I (by omega) (by omega)
  have gn : ∀ n k', n < 24 ∨ 27 < n → ag_I (m_pn ν k a b c) 11 n k' = ag_I ν 11 n k' := fun n k' hn => mp_I (by omega) (by omega)
  refine ⟨⟨by rw [g1]; exact z1, by rw [v.1]; omega, by rw [g26]; exact z26, by rw [g0]; exact z0, by rw [mp_I (by omega) (by omega)]; exact z14⟩, WL_A ⟨g26, g0⟩ (fun n k hn => gn n k (by omega)) w2, WT_A g26 (fun n k hn => gn n k (by omega)) w3, WK_A (fun n k hn => gn n k (by omega)) w4, ⟨fun j hj => ?_, fun i j hij hj oi oj => ?_, fun x hx => ?_⟩, W16_A g26 (fun n k hn => gn n k (by omega)) w6, WE_A g26 (fun n k hn => gn n k (by omega)) w7, WO_A ⟨g26, g0⟩ (fun n k hn => gn n k (by omega)) w8, WB_A (fun k => mp_I (by omega) (by omega)) w9, ⟨fun x y e1 e2 e3 => ?_, fun x y e1 e2 e3 => ?_⟩, W31_A (fun k => gn 31 k (by omega)) w11⟩
  · rw [g26] at hj
    rw [gn 32 j (by omega), gn 33 j (by omega), v.1, g1]
    have := w5.1 j hj; omega
  · rw [g26] at hj
    rw [gn 40 _ (by omega)] at oi oj
    rw [gn 32 i (by omega), gn 32 j (by omega), gn 33 i (by omega), gn 33 j (by omega)]; exact w5.2.1 i j hij hj oi oj
  · rw [g1] at hx
    rw [gn 20 x (by omega)]; exact w5.2.2 x hx
  · rw [g1] at e1; rw [gn 28 _ (by omega)]; exact w10.1 x y e1 e2 e3
  · rw [v.1] at e1; rw [gn 29 _ (by omega)]; exact w10.2 x y (by omega) e2 e3
theorem WZ_like {ν : ab_M} (w : WZ ν) (a : Nat) (ha : a = 28 ∨ a = 29) (h p : Int) (hh : 0 ≤ h ∧ h < ag_I ν 10 0 1) (hp : 0 ≤ p ∧ p < ag_I ν 10 0 6) (v : Int) (hv : 0 ≤ v ∧ v ≤ 99) : WZ (as_I ν 11 a (8 * h + p).toNat v) := by
  obtain ⟨w1, w2, w3, w4, w5, w6, w7, w8, w9, w10, w11⟩ := w
  obtain ⟨z1, z6, z26, z0, z14⟩ := id w1
  have g : ∀ t n k, ¬ (t = 11 ∧ n = a) → ag_I (as_I ν 11 a (8 * h + p).toNat v) t n k = ag_I ν t n k := fun t n k q => ag_I_n (by omega)
  have gn : ∀ n k, n ≠ 28 ∧ n ≠ 29 → ag_I (as_I ν 11 a (8 * h + p).toNat v) 11 n k = ag_I ν 11 n k := fun n k q => g 11 n k (by omega)
  have gk : ∀ k, ag_I (as_I ν 11 a (8 * h + p).toNat v) 10 0 k = ag_I ν 10 0 k := fun k => g 10 0 k (by omega)
  refine ⟨WR_A (fun k _ => gk k) w1, WL_A ⟨gk 26, gk 0⟩ (fun n k hn => gn n k (by omega)) w2, WT_A (gk 26) (fun n k hn => gn n k (by omega)) w3, fun k hk => ?_, WU_A ⟨gk 26, gk 1, gk 6⟩ (fun n k hn => gn n k (by omega)) w5, W16_A (gk 26) (fun n k hn => gn n k (by omega)) w6, WE_A (gk 26) (fun n k hn => gn n k (by omega)) w7, WO_A ⟨gk 26, gk 0⟩ (fun n k hn => gn n k (by omega)) w8, WB_A (fun k => g 12 0 k (by omega)) w9, ⟨fun x y e1 e2 e3 => ?_, fun x y e1 e2 e3 => ?_⟩, W31_A (fun k => gn 31 k (by omega)) w11⟩
  · have q := w4 k hk
    rw [ag_I_I, ag_I_I]
    constructor <;> split <;> first | exact hv | exact q.1 | exact q.2
  · rw [gk] at e1; rw [ag_I_n (by omega)]; exact w10.1 x y e1 e2 e3
  · rw [gk] at e1; rw [ag_I_n (by omega)]; exact w10.2 x y e1 e2 e3
/-- lives of the four kinds -/
theorem ct_sum {ν : ab_M} : ∀ n : Nat, (∀ j, j < n → 0 ≤ ag_I ν 11 20 (ag_I ν 11 32 j).toNat ∧ ag_I ν 11 20 (ag_I ν 11 32 j).toNat ≤ 3) → m_ct ν 0 n + m_ct ν 1 n + m_ct ν 2 n + m_ct ν 3 n = n
  | 0, _ => rfl
  | n + 1, h => by
    have h1 := ct_sum n (fun j hj => h j (by omega))
    have h2 := h n (by omega)
    unfold m_ct
    rcases (show ag_I ν 11 20 (ag_I ν 11 32 n).toNat = 0 ∨ ag_I ν 11 20 (ag_I ν 11 32 n).toNat = 1 ∨ ag_I ν 11 20 (ag_I ν 11 32 n).toNat = 2 ∨ ag_I ν 11 20 (ag_I ν 11 32 n).toNat = 3 by omega) with e | e | e | e <;> rw [e] <;> simp <;> omega
theorem h63_of {ν : ab_M} (w : WZ ν) (h : Int) (h0 : 0 ≤ h) (h1 : h < ag_I ν 10 0 1) (hc : m_ct ν (ag_I ν 11 20 h.toNat) (ag_I ν 10 0 26).toNat ≠ 16) : ag_I ν 10 0 26 < 64 := by
  obtain ⟨w1, w2, w3, w4, w5, w6, w7, w8, w9, w10, w11⟩ := w
  have z26 := w1.2.2.1
  have hs := ct_sum (ν := ν) (ag_I ν 10 0 26).toNat (fun j hj => by have a := w5.1 j (by omega); have b := w2 j (by omega); exact w5.2.2 _ (by omega))
  have a0 := w6 0
  have a1 := w6 1
  have a2 := w6 2
  have a3 := w6 3
  have hk := w5.2.2 h.toNat (by omega)
  rcases (show ag_I ν 11 20 h.toNat = 0 ∨ ag_I ν 11 20 h.toNat = 1 ∨ ag_I ν 11 20 h.toNat = 2 ∨ ag_I ν 11 20 h.toNat = 3 by omega) with e | e | e | e <;> rw [e] at hc <;> omega
