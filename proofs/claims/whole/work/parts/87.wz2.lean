/-! ===== what the reference keeps to: lives, the tape, the rules ===== -/
theorem m_pf_s {ν : ab_M} {h : Int} {k : Nat} : ∀ {n : Nat}, k < n → ag_I ν 11 33 k = h → ag_I ν 11 40 k < 0 → 0 ≤ m_pf ν h n
  | 0, q, _, _ => by omega
  | n + 1, q, e1, e2 => by
    unfold m_pf
    by_cases c : ag_I ν 11 33 n = h ∧ ag_I ν 11 40 n < 0
    · rw [if_pos c]; omega
    · rw [if_neg c]
      have : k ≠ n := fun e => by subst e; exact c ⟨e1, e2⟩
      exact m_pf_s (by omega) e1 e2
theorem WZ_live {ν : ab_M} (w : WZ ν) (h p : Int) (hh : 0 ≤ h ∧ h < ag_I ν 10 0 1) (hp : 0 ≤ p ∧ p < ag_I ν 10 0 6) (hf : m_lf ν h (ag_I ν 10 0 26).toNat < 0) (hg : m_fr ν p (ag_I ν 10 0 26).toNat = true) (hc : m_ct ν (ag_I ν 11 20 h.toNat) (ag_I ν 10 0 26).toNat ≠ 16) : WZ (m_lr ν h p) := by
  have h64 := h63_of w h hh.1 hh.2 hc
  obtain ⟨w1, w2, w3, w4, w5, w6, w7, w8, w9, w10, w11⟩ := w
  obtain ⟨z1, z6, z26, z0, z14⟩ := id w1
  have v := @ml_v ν h p
  have g0 : ∀ k, k ≠ 26 → ag_I (m_lr ν h p) 10 0 k = ag_I ν 10 0 k := fun k hk => ml_I (by omega) (by omega) (by omega)
  have gj : ∀ n j : Nat, 32 ≤ n ∧ n ≤ 40 → j ≠ (ag_I ν 10 0 26).toNat → ag_I (m_lr ν h p) 11 n j = ag_I ν 11 n j := fun n j hn hj => ml_I (by omega) (by omega) (by omega)
  have gn : ∀ n k, n < 32 → ag_I (m_lr ν h p) 11 n k = ag_I ν 11 n k := fun n k hn => ml_I (by omega) (by omega) (by omega)
  have hp2 := (m_pf_fr ν p (ag_I ν 10 0 26).toNat).mpr hg
  have no32 : ∀ i, i < (ag_I ν 10 0 26).toNat → ag_I ν 11 40 i < 0 → ag_I ν 11 32 i ≠ h := fun i hi o e => by have := m_lf_s hi e o; omega
  have no33 : ∀ i, i < (ag_I ν 10 0 26).toNat → ag_I ν 11 40 i < 0 → ag_I ν 11 33 i ≠ p := fun i hi o e => by have := m_pf_s hi e o; omega
  refine ⟨⟨by rw [g0 1 (by omega)]; exact z1, by rw [g0 6 (by omega)]; exact z6, by rw [v.1]; omega, by rw [g0 0 (by omega)]; exact z0, by rw [g0 14 (by omega)]; exact z14⟩, fun j hj => ?_, fun j hj => ?_, WK_A (fun n k hn => gn n k (by omega)) w4, ⟨fun j hj => ?_, fun i j hij hj oi oj => ?_, fun x hx => ?_⟩, fun q => ?_, fun j hj e => ?_, fun j hj e => ?_, WB_A (fun k => ml_I (by omega) (by omega) (by omega)) w9, W50_A ⟨g0 1 (by omega), g0 6 (by omega)⟩ (fun n k hn => gn n k (by omega)) w10, W31_A (fun k => gn 31 k (by omega)) w11⟩
  · rw [v.1] at hj
    by_cases e : j = (ag_I ν 10 0 26).toNat
    · rw [e, v.2.1.1, v.2.1.2.1, v.2.1.2.2.1, v.2.1.2.2.2.2, g0 0 (by omega)]; omega
    · rw [gj 32 j (by omega) e, gj 33 j (by omega) e, gj 34 j (by omega) e, gj 40 j (by omega) e, g0 0 (by omega)]; exact w2 j (by omega)
  · rw [v.1] at hj
    by_cases e : j = (ag_I ν 10 0 26).toNat
    · have h2 := v.2.2.1 2 (by omega)
      have h3 := v.2.2.1 3 (by omega)
      rw [e, h2, h3]; exact w11
    · rw [gj 37 j (by omega) e, gj 38 j (by omega) e]; exact w3 j (by omega)
  · rw [v.1] at hj
    rw [g0 1 (by omega), g0 6 (by omega)]
    by_cases e : j = (ag_I ν 10 0 26).toNat
    · rw [e, v.2.1.1, v.2.1.2.1]; omega
    · rw [gj 32 j (by omega) e, gj 33 j (by omega) e]; exact w5.1 j (by omega)
  · rw [v.1] at hj
    rw [gj 40 i (by omega) (by omega)] at oi
    rw [gj 32 i (by omega) (by omega), gj 33 i (by omega) (by omega)]
    by_cases e : j = (ag_I ν 10 0 26).toNat
    · rw [e, v.2.1.1, v.2.1.2.1]; exact ⟨no32 i (by omega) oi, no33 i (by omega) oi⟩
    · rw [gj 40 j (by omega) e] at oj
      rw [gj 32 j (by omega) e, gj 33 j (by omega) e]; exact w5.2.1 i j hij (by omega) oi oj
  · rw [g0 1 (by omega)] at hx
    rw [gn 20 x (by omega)]; exact w5.2.2 x hx
  · rw [v.1, show (ag_I ν 10 0 26 + 1).toNat = (ag_I ν 10 0 26).toNat + 1 by omega]
    show m_ct _ _ _ + (if _ then (1 : Int) else 0) ≤ 16
    rw [m_ct_c2 (ν := ν) q _ (fun j hj => by rw [gj 32 j (by omega) (by omega), gn 20 _ (by omega)]), v.2.1.1, gn 20 _ (by omega)]
    have := w6 q
    by_cases e : ag_I ν 11 20 h.toNat = q
    · rw [if_pos e]; rw [e] at hc; omega
    · rw [if_neg e]; omega
  · rw [v.1] at hj
    by_cases e2 : j = (ag_I ν 10 0 26).toNat
    · rw [e2, v.2.1.2.2.2.2] at e; omega
    · rw [gj 40 j (by omega) e2] at e ⊢
      rw [gj 39 j (by omega) e2, gj 34 j (by omega) e2]; exact w7 j (by omega) e
  · rw [v.1] at hj
    by_cases e2 : j = (ag_I ν 10 0 26).toNat
    · rw [e2, v.2.1.2.2.2.1]; exact Or.inl rfl
    · rw [gj 40 j (by omega) e2] at e
      rw [gj 39 j (by omega) e2, g0 0 (by omega)]; exact w8 j (by omega) e
theorem wk_I {ν : ab_M} {n : Int} {t x k : Nat} : ag_I (m_wk ν n) t x k = if t = 10 ∧ x = 0 ∧ k = 0 then ag_I ν 10 0 0 + n else if t = 11 ∧ x = 40 ∧ (k : Int) < ag_I ν 10 0 26 ∧ m_F ν n k then ag_I ν 11 39 k - ag_I ν 11 34 k else ag_I ν t x k := rfl
theorem WZ_weeks {ν : ab_M} (w : WZ ν) (n : Int) (hn : (1 ≤ n ∧ n ≤ 100) ∧ ag_I ν 10 0 0 + n ≤ 500) : WZ (m_wk ν n) := by
  obtain ⟨w1, w2, w3, w4, w5, w6, w7, w8, w9, w10, w11⟩ := w
  obtain ⟨z1, z6, z26, z0, z14⟩ := id w1
  have g : ∀ t x k, ¬ (t = 10 ∧ x = 0 ∧ k = 0) → ¬ (t = 11 ∧ x = 40) → ag_I (m_wk ν n) t x k = ag_I ν t x k := fun t x k q1 q2 => by rw [wk_I, if_neg q1, if_neg (fun w => q2 ⟨w.1, w.2.1⟩)]
  have g0 : ag_I (m_wk ν n) 10 0 0 = ag_I ν 10 0 0 + n := by rw [wk_I, if_pos ⟨rfl, rfl, rfl⟩]
  have g40 : ∀ j : Nat, (j : Int) < ag_I ν 10 0 26 → ag_I (m_wk ν n) 11 40 j = if m_F ν n j then ag_I ν 11 39 j - ag_I ν 11 34 j else ag_I ν 11 40 j := by
    intro j hj
    rw [wk_I, if_neg (by omega)]
    by_cases c : m_F ν n j
    · rw [if_pos ⟨rfl, rfl, hj, c⟩, if_pos c]
    · rw [if_neg (fun w => c w.2.2.2), if_neg c]
  have open_ : ∀ j : Nat, (j : Int) < ag_I ν 10 0 26 → ag_I (m_wk ν n) 11 40 j < 0 → ag_I ν 11 40 j < 0 ∧ ¬ m_F ν n j := by
    intro j hj h
    rw [g40 j hj] at h
    have := w2 j hj
    by_cases c : m_F ν n j
    · rw [if_pos c] at h; have := c.2; omega
    · rw [if_neg c] at h; exact ⟨h, c⟩
  have e26 := g 10 0 26 (by omega) (by omega)
  have gn : ∀ x k, x ≠ 40 → ag_I (m_wk ν n) 11 x k = ag_I ν 11 x k := fun x k hx => g 11 x k (by omega) (by omega)
  refine ⟨⟨by rw [g 10 0 1 (by omega) (by omega)]; exact z1, by rw [g 10 0 6 (by omega) (by omega)]; exact z6, by rw [e26]; exact z26, by rw [g0]; omega, by rw [g 10 0 14 (by omega) (by omega)]; exact z14⟩, fun j hj => ?_, WT_A e26 (fun n k hn => gn n k (by omega)) w3, WK_A (fun n k hn => gn n k (by omega)) w4, ⟨fun j hj => ?_, fun i j hij hj oi oj => ?_, fun x hx => ?_⟩, W16_A e26 (fun n k hn => gn n k (by omega)) w6, fun j hj e => ?_, fun j hj e => ?_, WB_A (fun k => g 12 0 k (by omega) (by omega)) w9, W50_A ⟨g 10 0 1 (by omega) (by omega), g 10 0 6 (by omega) (by omega)⟩ (fun n k hn => gn n k (by omega)) w10, W31_A (fun k => gn 31 k (by omega)) w11⟩
  · rw [e26] at hj
    have := w2 j hj
    rw [gn 32 j (by omega), gn 33 j (by omega), gn 34 j (by omega), g0, g40 j hj]
    refine ⟨this.1, this.2.1, by omega, ?_⟩
    split
    · next c => have := c.2; omega
    · exact this.2.2.2
  · rw [e26] at hj
    rw [gn 32 j (by omega), gn 33 j (by omega), g 10 0 1 (by omega) (by omega), g 10 0 6 (by omega) (by omega)]; exact w5.1 j hj
  · rw [e26] at hj
    rw [gn 32 i (by omega), gn 32 j (by omega), gn 33 i (by omega), gn 33 j (by omega)]
    exact w5.2.1 i j hij hj (open_ i (by omega) oi).1 (open_ j hj oj).1
  · rw [g 10 0 1 (by omega) (by omega)] at hx
    rw [gn 20 x (by omega)]; exact w5.2.2 x hx
  · rw [e26] at hj
    rw [gn 39 j (by omega), gn 34 j (by omega)]
    rw [g40 j hj] at e ⊢
    by_cases c : m_F ν n j
    · rw [if_pos c]
    · rw [if_neg c] at e ⊢; exact w7 j hj e
  · rw [e26] at hj
    have o := open_ j hj e
    have := w8 j hj o.1
    rw [gn 39 j (by omega), g0]
    have hF : ¬ (ag_I ν 10 0 0 < ag_I ν 11 39 j ∧ ag_I ν 11 39 j ≤ ag_I ν 10 0 0 + n) := fun q => o.2 ⟨o.1, q.1, q.2⟩
    omega
theorem i2b_r (x : Int) : -128 ≤ ab_i2b x ∧ ab_i2b x ≤ 127 := by
  unfold ab_i2b
  have e : ((Int32.ofInt x).toInt8.toInt32).toInt = (Int32.ofInt x).toInt8.toInt := Int8.toInt_toInt32 _
  rw [e]
  have h1 := Int8.le_toInt (Int32.ofInt x).toInt8
  have h2 := Int8.toInt_lt (Int32.ofInt x).toInt8
  omega
theorem WZ_tape {ν ν' : ab_M} (w : WZ ν) (h14 : 0 ≤ ag_I ν' 10 0 14 ∧ ag_I ν' 10 0 14 ≤ 200) (hg : ∀ t n k, ¬ (t = 10 ∧ n = 0 ∧ k = 14) → ¬ (t = 12 ∧ n = 0) → ag_I ν' t n k = ag_I ν t n k) (hb : WB ν') : WZ ν' := by
  obtain ⟨w1, w2, w3, w4, w5, w6, w7, w8, w9, w10, w11⟩ := w
  obtain ⟨z1, z6, z26, z0, z14⟩ := id w1
  have gk : ∀ k, k ≠ 14 → ag_I ν' 10 0 k = ag_I ν 10 0 k := fun k hk => hg 10 0 k (by omega) (by omega)
  have gn : ∀ n k, ag_I ν' 11 n k = ag_I ν 11 n k := fun n k => hg 11 n k (by omega) (by omega)
  exact ⟨⟨by rw [gk 1 (by omega)]; exact z1, by rw [gk 6 (by omega)]; exact z6, by rw [gk 26 (by omega)]; exact z26, by rw [gk 0 (by omega)]; exact z0, h14⟩, WL_A ⟨gk 26 (by omega), gk 0 (by omega)⟩ (fun n k _ => gn n k) w2, WT_A (gk 26 (by omega)) (fun n k _ => gn n k) w3, WK_A (fun n k _ => gn n k) w4, WU_A ⟨gk 26 (by omega), gk 1 (by omega), gk 6 (by omega)⟩ (fun n k _ => gn n k) w5, W16_A (gk 26 (by omega)) (fun n k _ => gn n k) w6, WE_A (gk 26 (by omega)) (fun n k _ => gn n k) w7, WO_A ⟨gk 26 (by omega), gk 0 (by omega)⟩ (fun n k _ => gn n k) w8, hb, W50_A ⟨gk 1 (by omega), gk 6 (by omega)⟩ (fun n k _ => gn n k) w10, W31_A (fun k => gn 31 k) w11⟩
theorem WZ_end {ν : ab_M} (w : WZ ν) (n : Int) (hn : 0 ≤ n ∧ n ≤ ag_I ν 10 0 14) : WZ (as_I ν 10 0 14 n) := by
  have z14 := w.1.2.2.2.2
  refine WZ_tape w (by rw [ag_I_y]; omega) (fun t m k q1 q2 => ag_I_n q1) ?_
  exact WB_A (fun k => ag_I_n (by omega)) w.2.2.2.2.2.2.2.2.1
theorem WB_set {ν : ab_M} (w : WB ν) {k : Nat} {y : Int} (hy : -128 ≤ y ∧ y ≤ 127) : WB (as_I ν 12 0 k y) := by
  intro i
  rw [ag_I_I]
  by_cases c : 12 = 12 ∧ 0 = 0 ∧ i = k
  · rw [if_pos c]; exact hy
  · rw [if_neg c]; exact w i
theorem WZ_put {ν : ab_M} (w : WZ ν) (x : Int) (h : ag_I ν 10 0 14 + 4 ≤ 200) : WZ (m_put ν x) := by
  have z14 := w.1.2.2.2.2
  refine WZ_tape w (by rw [m_put_t]; omega) (fun t m k q1 q2 => ?_) ?_
  · exact (ag_I_n q1).trans ((ag_I_n (by omega)).trans ((ag_I_n (by omega)).trans ((ag_I_n (by omega)).trans (ag_I_n (by omega)))))
  · exact WB_A (fun k => ag_I_n (by omega)) (WB_set (WB_set (WB_set (WB_set w.2.2.2.2.2.2.2.2.1 (i2b_r _)) (i2b_r _)) (i2b_r _)) (i2b_r _))
theorem WZ_feed {ν : ab_M} (w : WZ ν) (a b c e f : Int) (h : ag_I ν 10 0 14 + 20 ≤ 200) : WZ (m_put (m_put (m_put (m_put (m_put ν a) b) c) e) f) := by
  have h1 := WZ_put w a (by omega)
  have h2 := WZ_put h1 b (by rw [m_put_t]; omega)
  have h3 := WZ_put h2 c (by rw [m_put_t, m_put_t]; omega)
  have h4 := WZ_put h3 e (by rw [m_put_t, m_put_t, m_put_t]; omega)
  exact WZ_put h4 f (by rw [m_put_t, m_put_t, m_put_t, m_put_t]; omega)
/-- the rules that are read are within their bounds -/
def WRr (R : Nat → Int) : Prop := ∀ w, w < 4 → 0 ≤ R w ∧ R w ≤ mo w
theorem cl_num {T : Nat → Int} {l a : Nat} {S : Nat → Bool} (ha : a ≤ l) (h : (cl T l S a).1 = 0) : 0 ≤ (cl T l S a).2.2.2.2 ∧ (cl T l S a).2.2.2.2 ≤ mo (cl T l S a).2.2.2.1 := by
  have h1 := ts_rng (T := T) ha
  have h2 := tx_rng (T := T) h1.2
  have h3 := ts_rng (T := T) h2.2
  have h4 := tx_rng (T := T) h3.2
  unfold cl at h ⊢
  by_cases e1 : t_k T l (t_s T l a) ≠ 1
  · rw [if_pos e1] at h; exact absurd h (by show ¬ (1 : Int) = 0; omega)
  · rw [if_neg e1] at h ⊢
    by_cases e2 : S (t_v T l (t_s T l a)).toNat = true
    · rw [if_pos e2] at h; exact absurd h (by show ¬ (2 : Int) = 0; omega)
    · rw [if_neg e2] at h ⊢
      by_cases e3 : t_k T l (t_s T l (t_x T l (t_s T l a))) ≠ 2
      · rw [if_pos e3] at h; exact absurd h (by show ¬ (1 : Int) = 0; omega)
      · rw [if_neg e3] at h ⊢
        by_cases e4 : mo (t_v T l (t_s T l a)).toNat < t_v T l (t_s T l (t_x T l (t_s T l a)))
        · rw [if_pos e4] at h; exact absurd h (by show ¬ (3 : Int) = 0; omega)
        · rw [if_neg e4] at h ⊢
          by_cases e5 : t_k T l (t_s T l (t_x T l (t_s T l (t_x T l (t_s T l a))))) ≠ 3
          · rw [if_pos e5] at h; exact absurd h (by show ¬ (1 : Int) = 0; omega)
          · rw [if_neg e5]
            refine ⟨?_, Int.not_lt.mp e4⟩
            show 0 ≤ t_v T l (t_s T l (t_x T l (t_s T l a)))
            have e3' : t_k T l (t_s T l (t_x T l (t_s T l a))) = 2 := Decidable.not_not.mp e3
            have q := tk_12 h3.2 (Or.inr e3')
            have nl : ¬ lt (T (t_s T l (t_x T l (t_s T l a)))) = true := by
              intro w
              unfold t_k at e3'
              rw [if_neg (by omega), if_pos w] at e3'
              split at e3' <;> omega
            have dgs := tx_dg q.1 nl (q.2.elim (fun z => absurd z nl) id)
            unfold t_v
            rw [if_neg nl]
            exact (nu_rng T _ _ (fun i hi => dgs _ (by omega) (by omega))).1
theorem pa_wr {T : Nat → Int} {l : Nat} : ∀ (c a : Nat) (S : Nat → Bool) (R : Nat → Int), a ≤ l → WRr R → WRr (pa T l c a S R).2.2.2
  | 0, _, _, R, _, h => h
  | c + 1, a, S, R, ha, h => by
    rw [pa]
    by_cases e1 : t_k T l (t_s T l a) = 0
    · rw [if_pos e1]; exact h
    · rw [if_neg e1]
      by_cases e2 : (cl T l S a).1 ≠ 0
      · rw [if_pos e2]; exact h
      · rw [if_neg e2]
        refine pa_wr c _ _ _ (cl_a S ha) (fun w hw => ?_)
        have := cl_num ha (Decidable.not_not.mp e2)
        unfold sr
        split
        · next e => rw [e]; exact this
        · exact h w hw
theorem R0_r : WRr R0_ := by
  intro w hw
  unfold R0_ mo
  repeat' split
  all_goals omega
theorem WZ_agree {ν ν' : ab_M} (w : WZ ν) (hA : AGR ν ν' (m_pa ν)) : WZ ν' := by
  obtain ⟨w1, w2, w3, w4, w5, w6, w7, w8, w9, w10, w11⟩ := w
  obtain ⟨z1, z6, z26, z0, z14⟩ := id w1
  obtain ⟨a1, a14, a21, a22, a31⟩ := hA
  have gk : ∀ k, k < 14 ∨ 22 < k → ag_I ν' 10 0 k = ag_I ν 10 0 k := fun k hk => a1 10 0 k (by unfold mrel; omega) (by unfold scQ; omega)
  have gn : ∀ n k, 20 ≤ n ∧ n < 46 → n ≠ 30 ∧ n ≠ 31 → ag_I ν' 11 n k = ag_I ν 11 n k := fun n k h1 h2 => a1 11 n k (by unfold mrel; omega) (by unfold scQ; omega)
  refine ⟨⟨by rw [gk 1 (by omega)]; exact z1, by rw [gk 6 (by omega)]; exact z6, by rw [gk 26 (by omega)]; exact z26, by rw [gk 0 (by omega)]; exact z0, by rw [a14]; omega⟩, WL_A ⟨gk 26 (by omega), gk 0 (by omega)⟩ (fun n k hn => gn n k (by omega) (by omega)) w2, WT_A (gk 26 (by omega)) (fun n k hn => gn n k (by omega) (by omega)) w3, WK_A (fun n k hn => gn n k (by omega) (by omega)) w4, WU_A ⟨gk 26 (by omega), gk 1 (by omega), gk 6 (by omega)⟩ (fun n k hn => gn n k (by omega) (by omega)) w5, W16_A (gk 26 (by omega)) (fun n k hn => gn n k (by omega) (by omega)) w6, WE_A (gk 26 (by omega)) (fun n k hn => gn n k (by omega) (by omega)) w7, WO_A ⟨gk 26 (by omega), gk 0 (by omega)⟩ (fun n k hn => gn n k (by omega) (by omega)) w8, WB_A (fun k => a1 12 0 k (by unfold mrel; omega) (by unfold scQ; omega)) w9, W50_A ⟨gk 1 (by omega), gk 6 (by omega)⟩ (fun n k hn => gn n k (by omega) (by omega)) w10, ?_⟩
  unfold W31
  rw [a31 2 (by omega), a31 3 (by omega)]
  have hr := pa_wr (T := T_ ν) (l := (ag_I ν 10 0 14).toNat) 5 0 S0_ R0_ (by omega) R0_r
  have r2 := hr 2 (by omega)
  have r3 := hr 3 (by omega)
  by_cases c : (m_pa ν).1 = 0
  · rw [if_pos c, if_pos c]; exact ⟨r2, r3⟩
  · rw [if_neg c, if_neg c]; exact w11
theorem WZ_notice {ν : ab_M} (w : WZ ν) (j : Nat) (e : Int) (hj : (j : Int) < ag_I ν 10 0 26) (ho : ag_I ν 11 40 j < 0) (he : ag_I ν 10 0 0 ≤ e ∧ e ≤ 500) : WZ (m_en (as_I ν 11 39 j e) (ag_I ν 10 0 26).toNat) := by
  refine WZ_M (en_AG w.2.2.2.2.2.2.2.1 w.1.2.2.2.1.1 j e hj ho) ?_
  obtain ⟨w1, w2, w3, w4, w5, w6, w7, w8, w9, w10, w11⟩ := w
  obtain ⟨z1, z6, z26, z0, z14⟩ := id w1
  have hwj := w2 j hj
  by_cases c : e = ag_I ν 10 0 0
  · rw [if_pos c]
    have g : ∀ t n k, ¬ (t = 11 ∧ (n = 39 ∨ n = 40) ∧ k = j) → ag_I (as_I (as_I ν 11 39 j e) 11 40 j (ag_I ν 10 0 0 - ag_I ν 11 34 j)) t n k = ag_I ν t n k := fun t n k q => (ag_I_n (by omega)).trans (ag_I_n (by omega))
    have y40 : ag_I (as_I (as_I ν 11 39 j e) 11 40 j (ag_I ν 10 0 0 - ag_I ν 11 34 j)) 11 40 j = ag_I ν 10 0 0 - ag_I ν 11 34 j := ag_I_y _ _ _ _ _
    have y39 : ag_I (as_I (as_I ν 11 39 j e) 11 40 j (ag_I ν 10 0 0 - ag_I ν 11 34 j)) 11 39 j = e := (ag_I_n (by omega)).trans (ag_I_y _ _ _ _ _)
    have gk : ∀ k, ag_I (as_I (as_I ν 11 39 j e) 11 40 j (ag_I ν 10 0 0 - ag_I ν 11 34 j)) 10 0 k = ag_I ν 10 0 k := fun k => g 10 0 k (by omega)
    have gn : ∀ n k, n ≠ 39 ∧ n ≠ 40 → ag_I (as_I (as_I ν 11 39 j e) 11 40 j (ag_I ν 10 0 0 - ag_I ν 11 34 j)) 11 n k = ag_I ν 11 n k := fun n k h => g 11 n k (by omega)
    have open_ : ∀ i : Nat, ag_I (as_I (as_I ν 11 39 j e) 11 40 j (ag_I ν 10 0 0 - ag_I ν 11 34 j)) 11 40 i < 0 → i ≠ j ∧ ag_I ν 11 40 i < 0 := by
      intro i h
      by_cases q : i = j
      · subst q; rw [y40] at h; omega
      · rw [g 11 40 i (by omega)] at h; exact ⟨q, h⟩
    refine ⟨WR_A (fun k _ => gk k) w1, fun i hi => ?_, WT_A (gk 26) (fun n k hn => gn n k (by omega)) w3, WK_A (fun n k hn => gn n k (by omega)) w4, ⟨fun i hi => ?_, fun i i2 hii hi oi oj => ?_, fun x hx => ?_⟩, W16_A (gk 26) (fun n k hn => gn n k (by omega)) w6, fun i hi q => ?_, fun i hi q => ?_, WB_A (fun k => g 12 0 k (by omega)) w9, W50_A ⟨gk 1, gk 6⟩ (fun n k hn => gn n k (by omega)) w10, W31_A (fun k => gn 31 k (by omega)) w11⟩
    · rw [gk] at hi
      rw [gn 32 i (by omega), gn 33 i (by omega), gn 34 i (by omega), gk]
      have := w2 i hi
      refine ⟨this.1, this.2.1, this.2.2.1, ?_⟩
      by_cases q : i = j
      · subst q; rw [y40]; omega
      · rw [g 11 40 i (by omega)]; exact this.2.2.2
    · rw [gk] at hi
      rw [gn 32 i (by omega), gn 33 i (by omega), gk, gk]; exact w5.1 i hi
    · rw [gk] at hi
      rw [gn 32 i (by omega), gn 33 i (by omega), gn 32 i2 (by omega), gn 33 i2 (by omega)]
      exact w5.2.1 i i2 hii hi (open_ i oi).2 (open_ i2 oj).2
    · rw [gk] at hx
      rw [gn 20 x (by omega)]; exact w5.2.2 x hx
    · rw [gk] at hi
      rw [gn 34 i (by omega)]
      by_cases q2 : i = j
      · subst q2; rw [y40, y39, c]
      · rw [g 11 40 i (by omega)] at q ⊢
        rw [g 11 39 i (by omega)]; exact w7 i hi q
    · rw [gk] at hi
      have oo := open_ i q
      rw [g 11 39 i (by omega), gk]; exact w8 i hi oo.2
  · rw [if_neg c]
    have g : ∀ t n k, ¬ (t = 11 ∧ n = 39 ∧ k = j) → ag_I (as_I ν 11 39 j e) t n k = ag_I ν t n k := fun t n k q => ag_I_n q
    have gk : ∀ k, ag_I (as_I ν 11 39 j e) 10 0 k = ag_I ν 10 0 k := fun k => g 10 0 k (by omega)
    have gn : ∀ n k, n ≠ 39 → ag_I (as_I ν 11 39 j e) 11 n k = ag_I ν 11 n k := fun n k h => g 11 n k (by omega)
    refine ⟨WR_A (fun k _ => gk k) w1, WL_A ⟨gk 26, gk 0⟩ (fun n k hn => gn n k (by omega)) w2, WT_A (gk 26) (fun n k hn => gn n k (by omega)) w3, WK_A (fun n k hn => gn n k (by omega)) w4, WU_A ⟨gk 26, gk 1, gk 6⟩ (fun n k hn => gn n k (by omega)) w5, W16_A (gk 26) (fun n k hn => gn n k (by omega)) w6, fun i hi q => ?_, fun i hi q => ?_, WB_A (fun k => g 12 0 k (by omega)) w9, W50_A ⟨gk 1, gk 6⟩ (fun n k hn => gn n k (by omega)) w10, W31_A (fun k => gn 31 k (by omega)) w11⟩
    · rw [gk] at hi
      rw [gn 40 i (by omega)] at q ⊢
      rw [gn 34 i (by omega)]
      have : i ≠ j := fun z => by subst z; omega
      rw [g 11 39 i (by omega)]; exact w7 i hi q
    · rw [gk] at hi
      rw [gn 40 i (by omega)] at q
      rw [gk]
      by_cases z : i = j
      · subst z; rw [ag_I_y]; omega
      · rw [g 11 39 i (by omega)]; exact w8 i hi q
