/-! ===== the class: a whole clause ===== -/
def SX (μ μ' : ab_M) : Prop := μ'.2 = μ.2 ∧ ∀ t n k, ¬ (t = 0 ∧ n = 0) → ¬ (t = 11 ∧ n = 1) → ag_I μ' t n k = ag_I μ t n k
theorem SX_refl (μ : ab_M) : SX μ μ := ⟨rfl, fun _ _ _ _ _ => rfl⟩
theorem SX_trans {a b c : ab_M} (h : SX a b) (k : SX b c) : SX a c := ⟨k.1.trans h.1, fun t n i q r => (k.2 t n i q r).trans (h.2 t n i q r)⟩
theorem RS_X {μ μ' : ab_M} {l : Nat} {U : Nat → Int} (h : RS μ l U) (q : SX μ μ') : RS μ' l U := by
  obtain ⟨hX, hS, hl, hl2, hU⟩ := h
  refine ⟨?_, XS_B (fun t n k _ => q.2 t n k (by omega) (by omega)) hS, (q.2 7 0 1 (by omega) (by omega)).trans hl, hl2, fun i hi => ⟨(q.2 11 0 i (by omega) (by omega)).trans (hU i hi).1, (hU i hi).2⟩⟩
  show FX μ'.2.2.1 μ'.2.2.2.1
  rw [q.1]; exact hX
theorem mo_r (w : Nat) : 0 ≤ mo w ∧ mo w ≤ 60 := by
  unfold mo
  repeat' split
  all_goals omega
section
variable {U : Nat → Int} {l a : Nat} {S : Nat → Bool}
theorem cl_1 (h0 : ∀ i, i < l → 0 ≤ U i) (ha : a ≤ l) (h : ¬ (x_k U l (t_s U l a) = 1 ∧ 0 ≤ x_w U (t_s U l a) (t_x U l (t_s U l a)))) : cl U l S a = (1, (t_s U l a : Int), 0, 0, 0) := by
  unfold cl
  rw [if_pos (fun q => h ((tk_1 (ts_rng ha).2 h0).mp q))]
theorem cl_w (h0 : ∀ i, i < l → 0 ≤ U i) (ha : a ≤ l) (h : x_k U l (t_s U l a) = 1) : t_v U l (t_s U l a) = x_w U (t_s U l a) (t_x U l (t_s U l a)) := by
  rcases xk_c (ts_rng (T := U) ha).2 h0 with q | q | q | q
  · omega
  · exact tv_w q.1 q.2.2
  · omega
  · omega
theorem cl_2 (h0 : ∀ i, i < l → 0 ≤ U i) (ha : a ≤ l) (h : x_k U l (t_s U l a) = 1) (hw : 0 ≤ x_w U (t_s U l a) (t_x U l (t_s U l a))) (hs : S (x_w U (t_s U l a) (t_x U l (t_s U l a))).toNat = true) : cl U l S a = (2, (t_s U l a : Int), 0, 0, 0) := by
  unfold cl
  rw [if_neg (fun q => q ((tk_1 (ts_rng ha).2 h0).mpr ⟨h, hw⟩)), cl_w h0 ha h, if_pos hs]
theorem cl_3 (h0 : ∀ i, i < l → 0 ≤ U i) (ha : a ≤ l) (h : x_k U l (t_s U l a) = 1) (hw : 0 ≤ x_w U (t_s U l a) (t_x U l (t_s U l a))) (hs : S (x_w U (t_s U l a) (t_x U l (t_s U l a))).toNat = false) (h2 : x_k U l (t_s U l (t_x U l (t_s U l a))) ≠ 2) : cl U l S a = (1, (t_s U l (t_x U l (t_s U l a)) : Int), 0, 0, 0) := by
  have hb := (tx_rng (T := U) (ts_rng (T := U) ha).2).2
  unfold cl
  rw [if_neg (fun q => q ((tk_1 (ts_rng ha).2 h0).mpr ⟨h, hw⟩)), cl_w h0 ha h, if_neg (by rw [hs]; decide), if_pos (fun q => h2 ((tk_2 (ts_rng hb).2 h0).mp q))]
theorem cl_v (h0 : ∀ i, i < l → 0 ≤ U i) {s : Nat} (hs : s ≤ l) (h : x_k U l s = 2) : t_v U l s = nu U s (t_x U l s - s) ∧ (∀ i, s ≤ i → i < t_x U l s → dg (U i) = true) := by
  rcases xk_c hs h0 with q | q | q | q
  · omega
  · omega
  · refine ⟨?_, tx_dg q.1 q.2.2.1 q.2.2.2⟩
    unfold t_v; rw [if_neg q.2.2.1]
  · omega
theorem cl_4 (h0 : ∀ i, i < l → 0 ≤ U i) (ha : a ≤ l) (h : x_k U l (t_s U l a) = 1) (hw : 0 ≤ x_w U (t_s U l a) (t_x U l (t_s U l a))) (hs : S (x_w U (t_s U l a) (t_x U l (t_s U l a))).toNat = false) (h2 : x_k U l (t_s U l (t_x U l (t_s U l a))) = 2) (hv : mo (x_w U (t_s U l a) (t_x U l (t_s U l a))).toNat < x_nu U (t_s U l (t_x U l (t_s U l a))) (t_x U l (t_s U l (t_x U l (t_s U l a))) - t_s U l (t_x U l (t_s U l a)))) : cl U l S a = (3, (t_s U l (t_x U l (t_s U l a)) : Int), 0, 0, 0) := by
  have hb := (tx_rng (T := U) (ts_rng (T := U) ha).2).2
  obtain ⟨v1, v2⟩ := cl_v h0 (ts_rng (T := U) hb).2 h2
  have hm := mo_r (x_w U (t_s U l a) (t_x U l (t_s U l a))).toNat
  rw [xnu_eq _ _ _ (fun i hi => v2 _ (by omega) (by show _ < t_x U l _; omega))] at hv
  unfold cl
  rw [if_neg (fun q => q ((tk_1 (ts_rng ha).2 h0).mpr ⟨h, hw⟩)), cl_w h0 ha h, if_neg (by rw [hs]; decide), if_neg (fun q => q ((tk_2 (ts_rng hb).2 h0).mpr h2)), v1, if_pos (by omega)]
theorem cl_5 (h0 : ∀ i, i < l → 0 ≤ U i) (ha : a ≤ l) (h : x_k U l (t_s U l a) = 1) (hw : 0 ≤ x_w U (t_s U l a) (t_x U l (t_s U l a))) (hs : S (x_w U (t_s U l a) (t_x U l (t_s U l a))).toNat = false) (h2 : x_k U l (t_s U l (t_x U l (t_s U l a))) = 2) (hv : x_nu U (t_s U l (t_x U l (t_s U l a))) (t_x U l (t_s U l (t_x U l (t_s U l a))) - t_s U l (t_x U l (t_s U l a))) ≤ mo (x_w U (t_s U l a) (t_x U l (t_s U l a))).toNat) : cl U l S a = if x_k U l (t_s U l (t_x U l (t_s U l (t_x U l (t_s U l a))))) ≠ 3 then (1, (t_s U l (t_x U l (t_s U l (t_x U l (t_s U l a)))) : Int), 0, 0, 0) else (0, -1, t_x U l (t_s U l (t_x U l (t_s U l (t_x U l (t_s U l a))))), (x_w U (t_s U l a) (t_x U l (t_s U l a))).toNat, x_nu U (t_s U l (t_x U l (t_s U l a))) (t_x U l (t_s U l (t_x U l (t_s U l a))) - t_s U l (t_x U l (t_s U l a)))) := by
  have hb := (tx_rng (T := U) (ts_rng (T := U) ha).2).2
  have hc := (tx_rng (T := U) (ts_rng (T := U) hb).2).2
  obtain ⟨v1, v2⟩ := cl_v h0 (ts_rng (T := U) hb).2 h2
  have hm := mo_r (x_w U (t_s U l a) (t_x U l (t_s U l a))).toNat
  have hx := xnu_eq U (t_s U l (t_x U l (t_s U l a))) (t_x U l (t_s U l (t_x U l (t_s U l a))) - t_s U l (t_x U l (t_s U l a))) (fun i hi => v2 _ (by omega) (by omega))
  have e1 : nu U (t_s U l (t_x U l (t_s U l a))) (t_x U l (t_s U l (t_x U l (t_s U l a))) - t_s U l (t_x U l (t_s U l a))) = x_nu U (t_s U l (t_x U l (t_s U l a))) (t_x U l (t_s U l (t_x U l (t_s U l a))) - t_s U l (t_x U l (t_s U l a))) := by omega
  unfold cl
  rw [if_neg (fun q => q ((tk_1 (ts_rng ha).2 h0).mpr ⟨h, hw⟩)), cl_w h0 ha h, if_neg (by rw [hs]; decide), if_neg (fun q => q ((tk_2 (ts_rng hb).2 h0).mpr h2)), v1, e1, if_neg (by omega)]
  by_cases q : x_k U l (t_s U l (t_x U l (t_s U l (t_x U l (t_s U l a))))) = 3
  · rw [if_neg (fun w => w ((tk_3 (ts_rng hc).2 h0).mpr q)), if_neg (fun w => w q)]
  · rw [if_pos q, if_pos (fun w => q ((tk_3 (ts_rng hc).2 h0).mp w))]
end
theorem RS_st {μ : ab_M} {l a : Nat} {U : Nat → Int} (h : RS μ l U) : RS (x_st μ U l a) l U := RS_0 (RS_0 (RS_0 h 6 _) 5 _) 7 _
theorem sp_clause (d a : Nat) {μ : ab_M} {l : Nat} {U : Nat → Int} (S : Nat → Bool) (hR : RS μ l U) (ha : a ≤ l) (h5 : ag_I μ 0 0 5 = x_k U l (t_s U l a)) (h6 : ag_I μ 0 0 6 = (t_s U l a : Int)) (h7 : ag_I μ 0 0 7 = (t_x U l (t_s U l a) : Int)) (h1 : ag_I μ 0 0 1 = sw S) (h3 : ag_I μ 0 0 3 = 0) (h4 : ag_I μ 0 0 4 = -1) : Wp (d + 8) 10 [ab_r 0 (some 0), ab_r 7 (some 0)] μ (fun vv μ' => vv = some (ab_i (bI ((cl U l S a).1 = 0))) ∧ SX μ μ' ∧ ag_I μ' 0 0 2 = ag_I μ 0 0 2 ∧ ((cl U l S a).1 ≠ 0 → ag_I μ' 0 0 3 = (cl U l S a).1 ∧ ag_I μ' 0 0 4 = (cl U l S a).2.1) ∧ ((cl U l S a).1 = 0 → ag_I μ' 0 0 1 = sw (sb S (cl U l S a).2.2.2.1) ∧ (ag_I μ' 0 0 3 = 0 ∧ ag_I μ' 0 0 4 = -1) ∧ ag_I μ' 0 0 7 = ((cl U l S a).2.2.1 : Int) ∧ ∀ k, ag_I μ' 11 1 k = if k = (cl U l S a).2.2.2.1 then (cl U l S a).2.2.2.2 else ag_I μ 11 1 k)) := by
  refine wp_of ?_
  obtain ⟨hX, hS, hl, hl2, hU⟩ := id hR
  have h0 : ∀ i, i < l → 0 ≤ U i := fun i hi => (hU i hi).2.1
  have ra := ts_rng (T := U) ha
  have rb := tx_rng (T := U) ra.2
  have rc := ts_rng (T := U) rb.2
  have rd := tx_rng (T := U) rc.2
  have re := ts_rng (T := U) rd.2
  have rf_ := tx_rng (T := U) re.2
  have hwr := xw_rng U (t_s U l a) (t_x U l (t_s U l a))
  by_cases hb : x_k U l (t_s U l a) = 1 ∧ 0 ≤ (x_w U (t_s U l a) (t_x U l (t_s U l a)))
  · cases hs : S (x_w U (t_s U l a) (t_x U l (t_s U l a))).toNat with
    | true =>
      refine wg_s rfl rfl ?_
      refine wg_s rfl rfl ?_
      refine wg_cf rfl rfl (sp_rw2 _ hR (t_s U l a) (t_x U l (t_s U l a)) h6 h7 rb.1 rb.2 S h1 _ h5 hb.1 hb.2 hs) ?_
      refine wg_s rfl rfl ?_
      refine wg_s rfl rfl ?_
      refine wg_s rfl rfl ?_
      refine wg_s rfl rfl ?_
      refine wg_at (pc2 := 11) (by decide) ?_
      refine wg_s rfl rfl ?_
      have hC := cl_2 (S := S) h0 ha hb.1 hb.2 hs
      refine wg_ret rfl rfl (Or.inl rfl) ⟨?_, ⟨rfl, fun t n k q1 q2 => by simp only [x_rf, x_st, ag_I_I]; repeat rw [if_neg (by omega)]⟩, ?_, fun _ => ⟨?_, ?_⟩, fun q => ?_⟩
      · rw [hC]; rfl
      · simp [x_rf, x_st, ag_I_I]
      · rw [hC]; simp [x_rf, x_st, ag_I_I]
      · rw [hC]; simp [x_rf, x_st, ag_I_I]
      · rw [hC] at q; exact absurd q (by show ¬ _ = (0 : Int); omega)
    | false =>
      by_cases h2 : x_k U l (t_s U l (t_x U l (t_s U l a))) = 2
      · by_cases hv : mo (x_w U (t_s U l a) (t_x U l (t_s U l a))).toNat < x_nu U (t_s U l (t_x U l (t_s U l a))) ((t_x U l (t_s U l (t_x U l (t_s U l a)))) - (t_s U l (t_x U l (t_s U l a))))
        · refine wg_s rfl rfl ?_
          refine wg_s rfl rfl ?_
          refine wg_cf rfl rfl (sp_rw3 _ hR (t_s U l a) (t_x U l (t_s U l a)) h6 h7 rb.1 rb.2 S h1 _ h5 hb.1 hb.2 hs) ?_
          refine wg_s rfl rfl ?_
          refine wg_s rfl rfl ?_
          refine wg_s rfl rfl ?_
          refine wg_if rfl rfl (fun h8 => ?_) (fun h8 => absurd h8 (by omega))
          refine wg_s rfl rfl ?_
          refine wg_s rfl rfl ?_
          refine wg_cv rfl rfl (sp_step _ (t_x U l (t_s U l a)) (RS_0 hR 1 _) ((ag_I_n (by omega)).trans h7) rb.2) ?_
          refine wg_s rfl rfl ?_
          refine wg_s rfl rfl ?_
          refine wg_s rfl rfl ?_
          refine wg_cf rfl rfl (sp_rn2 _ (RS_st (RS_0 hR 1 _)) (t_s U l (t_x U l (t_s U l a))) (t_x U l (t_s U l (t_x U l (t_s U l a)))) (by simp [x_st, ag_I_I]) (by simp [x_st, ag_I_I]) rd.1 rd.2 _ (show _ = x_k U l (t_s U l (t_x U l (t_s U l a))) from by simp [x_st, ag_I_I]) (x_w U (t_s U l a) (t_x U l (t_s U l a))) ⟨hb.2, hwr.2⟩ h2 (cl_v h0 rc.2 h2).2 hv) ?_
          refine wg_s rfl rfl ?_
          refine wg_at (pc2 := 27) (by decide) ?_
          refine wg_s rfl rfl ?_
          have hC := cl_4 (S := S) h0 ha hb.1 hb.2 hs h2 hv
          refine wg_ret rfl rfl (Or.inl rfl) ⟨?_, ⟨rfl, fun t n k q1 q2 => by simp only [x_rf, x_st, ag_I_I]; repeat rw [if_neg (by omega)]⟩, ?_, fun _ => ⟨?_, ?_⟩, fun q => ?_⟩
          · rw [hC]; rfl
          · simp [x_rf, x_st, ag_I_I]
          · rw [hC]; simp [x_rf, x_st, ag_I_I]
          · rw [hC]; simp [x_rf, x_st, ag_I_I]
          · rw [hC] at q; exact absurd q (by show ¬ _ = (0 : Int); omega)
        · refine wg_s rfl rfl ?_
          refine wg_s rfl rfl ?_
          refine wg_cf rfl rfl (sp_rw3 _ hR (t_s U l a) (t_x U l (t_s U l a)) h6 h7 rb.1 rb.2 S h1 _ h5 hb.1 hb.2 hs) ?_
          refine wg_s rfl rfl ?_
          refine wg_s rfl rfl ?_
          refine wg_s rfl rfl ?_
          refine wg_if rfl rfl (fun h8 => ?_) (fun h8 => absurd h8 (by omega))
          refine wg_s rfl rfl ?_
          refine wg_s rfl rfl ?_
          refine wg_cv rfl rfl (sp_step _ (t_x U l (t_s U l a)) (RS_0 hR 1 _) ((ag_I_n (by omega)).trans h7) rb.2) ?_
          refine wg_s rfl rfl ?_
          refine wg_s rfl rfl ?_
          refine wg_s rfl rfl ?_
          refine wg_cf rfl rfl (sp_rn3 _ (RS_st (RS_0 hR 1 _)) (t_s U l (t_x U l (t_s U l a))) (t_x U l (t_s U l (t_x U l (t_s U l a)))) (by simp [x_st, ag_I_I]) (by simp [x_st, ag_I_I]) rd.1 rd.2 _ (show _ = x_k U l (t_s U l (t_x U l (t_s U l a))) from by simp [x_st, ag_I_I]) (x_w U (t_s U l a) (t_x U l (t_s U l a))) ⟨hb.2, hwr.2⟩ h2 (cl_v h0 rc.2 h2).2 (by omega)) ?_
          refine wg_s rfl rfl ?_
          refine wg_at (pc2 := 29) (by decide) ?_
          refine wg_s rfl rfl ?_
          refine wg_s rfl rfl ?_
          refine wg_cv rfl rfl (sp_step _ (t_x U l (t_s U l (t_x U l (t_s U l a)))) (RS_1 (RS_st (RS_0 hR 1 _)) _ _) (by simp [x_st, ag_I_I]) rd.2) ?_
          refine wg_s rfl rfl ?_
          refine wg_gi rfl rfl (show _ = x_k U l (t_s U l (t_x U l (t_s U l (t_x U l (t_s U l a))))) from by simp [x_st, ag_I_I]) ?_
          refine wg_s rfl rfl ?_
          refine wg_if rfl rfl (fun h39 => ?_) (fun h39 => ?_)
          · refine wg_s rfl rfl ?_
            refine wg_s rfl rfl ?_
            have hC := cl_5 (S := S) h0 ha hb.1 hb.2 hs h2 (by omega)
            rw [if_neg (fun w => w h39)] at hC
            refine wg_ret rfl rfl (Or.inr rfl) ⟨?_, ⟨rfl, fun t n k q1 q2 => by simp only [x_rf, x_st, ag_I_I]; repeat rw [if_neg (by omega)]⟩, ?_, fun q => ?_, fun _ => ⟨?_, ⟨?_, ?_⟩, ?_, fun k => ?_⟩⟩
            · rw [hC]; rfl
            · simp [x_st, ag_I_I]
            · rw [hC] at q; exact absurd rfl q
            · rw [hC]; simp [x_st, ag_I_I]
            · simpa [x_st, ag_I_I] using h3
            · simpa [x_st, ag_I_I] using h4
            · rw [hC]; simp [x_st, ag_I_I]
            · rw [hC]; simp [x_st, ag_I_I]
          · refine wg_s rfl rfl ?_
            refine wg_s rfl rfl ?_
            refine wg_cf rfl rfl (sp_refuse _ _ ((t_s U l (t_x U l (t_s U l (t_x U l (t_s U l a))))) : Int) (by simp [x_st, ag_I_I])) ?_
            refine wg_s rfl rfl ?_
            refine wg_at (pc2 := 54) (by decide) ?_
            refine wg_s rfl rfl ?_
            have hC := cl_5 (S := S) h0 ha hb.1 hb.2 hs h2 (by omega)
            rw [if_pos h39] at hC
            refine wg_ret rfl rfl (Or.inl rfl) ⟨?_, ⟨rfl, fun t n k q1 q2 => by simp only [x_rf, x_st, ag_I_I]; repeat rw [if_neg (by omega)]⟩, ?_, fun _ => ⟨?_, ?_⟩, fun q => ?_⟩
            · rw [hC]; rfl
            · simp [x_rf, x_st, ag_I_I]
            · rw [hC]; simp [x_rf, x_st, ag_I_I]
            · rw [hC]; simp [x_rf, x_st, ag_I_I]
            · rw [hC] at q; exact absurd q (by show ¬ _ = (0 : Int); omega)
      · refine wg_s rfl rfl ?_
        refine wg_s rfl rfl ?_
        refine wg_cf rfl rfl (sp_rw3 _ hR (t_s U l a) (t_x U l (t_s U l a)) h6 h7 rb.1 rb.2 S h1 _ h5 hb.1 hb.2 hs) ?_
        refine wg_s rfl rfl ?_
        refine wg_s rfl rfl ?_
        refine wg_s rfl rfl ?_
        refine wg_if rfl rfl (fun h8 => ?_) (fun h8 => absurd h8 (by omega))
        refine wg_s rfl rfl ?_
        refine wg_s rfl rfl ?_
        refine wg_cv rfl rfl (sp_step _ (t_x U l (t_s U l a)) (RS_0 hR 1 _) ((ag_I_n (by omega)).trans h7) rb.2) ?_
        refine wg_s rfl rfl ?_
        refine wg_s rfl rfl ?_
        refine wg_s rfl rfl ?_
        refine wg_cf rfl rfl (sp_rn1 _ (RS_st (RS_0 hR 1 _)) (t_s U l (t_x U l (t_s U l a))) (t_x U l (t_s U l (t_x U l (t_s U l a)))) (by simp [x_st, ag_I_I]) (by simp [x_st, ag_I_I]) rd.1 rd.2 _ (show _ = x_k U l (t_s U l (t_x U l (t_s U l a))) from by simp [x_st, ag_I_I]) (x_w U (t_s U l a) (t_x U l (t_s U l a))) ⟨hb.2, hwr.2⟩ h2) ?_
        refine wg_s rfl rfl ?_
        refine wg_at (pc2 := 27) (by decide) ?_
        refine wg_s rfl rfl ?_
        have hC := cl_3 (S := S) h0 ha hb.1 hb.2 hs h2
        refine wg_ret rfl rfl (Or.inl rfl) ⟨?_, ⟨rfl, fun t n k q1 q2 => by simp only [x_rf, x_st, ag_I_I]; repeat rw [if_neg (by omega)]⟩, ?_, fun _ => ⟨?_, ?_⟩, fun q => ?_⟩
        · rw [hC]; rfl
        · simp [x_rf, x_st, ag_I_I]
        · rw [hC]; simp [x_rf, x_st, ag_I_I]
        · rw [hC]; simp [x_rf, x_st, ag_I_I]
        · rw [hC] at q; exact absurd q (by show ¬ _ = (0 : Int); omega)
  · refine wg_s rfl rfl ?_
    refine wg_s rfl rfl ?_
    refine wg_cf rfl rfl (sp_rw1 _ hR (t_s U l a) (t_x U l (t_s U l a)) h6 h7 rb.1 rb.2 S h1 _ h5 hb) ?_
    refine wg_s rfl rfl ?_
    refine wg_s rfl rfl ?_
    refine wg_s rfl rfl ?_
    refine wg_s rfl rfl ?_
    refine wg_at (pc2 := 11) (by decide) ?_
    refine wg_s rfl rfl ?_
    have hC := cl_1 (S := S) h0 ha hb
    refine wg_ret rfl rfl (Or.inl rfl) ⟨?_, ⟨rfl, fun t n k q1 q2 => by simp only [x_rf, x_st, ag_I_I]; repeat rw [if_neg (by omega)]⟩, ?_, fun _ => ⟨?_, ?_⟩, fun q => ?_⟩
    · rw [hC]; rfl
    · simp [x_rf, x_st, ag_I_I]
    · rw [hC]; simp [x_rf, x_st, ag_I_I]
    · rw [hC]; simp [x_rf, x_st, ag_I_I]
    · rw [hC] at q; exact absurd q (by show ¬ _ = (0 : Int); omega)
