/-! ===== the reference: the agreement ===== -/
theorem t_s_rng {T : Nat → Int} {l a : Nat} (h : a ≤ l) : a ≤ t_s T l a ∧ t_s T l a ≤ l := by
  have := run_rng bk T (l - a) a
  unfold t_s; omega
theorem t_x_rng {T : Nat → Int} {l s : Nat} (h : s ≤ l) : s ≤ t_x T l s ∧ t_x T l s ≤ l := by
  unfold t_x
  have h1 := run_rng lt T (l - s) s
  have h2 := run_rng dg T (l - s) s
  split
  · omega
  · split
    · omega
    · split <;> omega
theorem t_k_1 {T : Nat → Int} {l s : Nat} (h : t_k T l s = 1) : 0 ≤ t_v T l s ∧ t_v T l s ≤ 3 := by
  unfold t_k at h
  split at h
  · omega
  · split at h
    · split at h
      · omega
      · rename_i q1 q2 q3
        refine ⟨by omega, ?_⟩
        unfold t_v
        rw [if_pos q2]
        split
        · omega
        · exact (wo_rng _).2
    · split at h
      · omega
      · split at h <;> omega
theorem t_k_2 {T : Nat → Int} {l s : Nat} (hs : s ≤ l) (h : t_k T l s = 2) : 0 ≤ t_v T l s ∧ t_v T l s ≤ 999999 := by
  unfold t_k at h
  split at h
  · omega
  · rename_i q0
    split at h
    · split at h <;> omega
    · rename_i q1
      split at h
      · rename_i q2
        unfold t_v
        rw [if_neg q1]
        refine nu_rng T s _ (fun i hi => ?_)
        have hx : t_x T l s = run dg T (l - s) s := by unfold t_x; rw [if_neg q0, if_neg q1, if_pos q2]
        rw [hx] at hi
        exact run_all dg T (l - s) s (s + i) (by omega) (by omega)
      · split at h <;> omega
def mo (w : Nat) : Int := if w = 0 then 60 else if w = 1 then 7 else 20
def sb (S : Nat → Bool) (w : Nat) : Nat → Bool := fun k => if k = w then true else S k
def sr (R : Nat → Int) (w : Nat) (x : Int) : Nat → Int := fun k => if k = w then x else R k
/-- a clause: the fault and its place; where the next one begins, its word, its number -/
def cl (T : Nat → Int) (l : Nat) (S : Nat → Bool) (a : Nat) : Int × Int × Nat × Nat × Int :=
  if t_k T l (t_s T l a) ≠ 1 then (1, (t_s T l a : Int), 0, 0, 0)
  else if S (t_v T l (t_s T l a)).toNat = true then (2, (t_s T l a : Int), 0, 0, 0)
  else if t_k T l (t_s T l (t_x T l (t_s T l a))) ≠ 2 then (1, (t_s T l (t_x T l (t_s T l a)) : Int), 0, 0, 0)
  else if mo (t_v T l (t_s T l a)).toNat < t_v T l (t_s T l (t_x T l (t_s T l a))) then (3, (t_s T l (t_x T l (t_s T l a)) : Int), 0, 0, 0)
  else if t_k T l (t_s T l (t_x T l (t_s T l (t_x T l (t_s T l a))))) ≠ 3 then (1, (t_s T l (t_x T l (t_s T l (t_x T l (t_s T l a)))) : Int), 0, 0, 0)
  else (0, -1, t_x T l (t_s T l (t_x T l (t_s T l (t_x T l (t_s T l a))))), (t_v T l (t_s T l a)).toNat, t_v T l (t_s T l (t_x T l (t_s T l a))))
/-- all clauses: the fault, its place, how many, the rules -/
def pa (T : Nat → Int) (l : Nat) : Nat → Nat → (Nat → Bool) → (Nat → Int) → Int × Int × Int × (Nat → Int)
  | 0, _, _, R => (0, -1, 0, R)
  | c + 1, a, S, R => if t_k T l (t_s T l a) = 0 then (0, -1, 0, R) else if (cl T l S a).1 ≠ 0 then ((cl T l S a).1, (cl T l S a).2.1, 0, R) else ((pa T l c (cl T l S a).2.2.1 (sb S (cl T l S a).2.2.2.1) (sr R (cl T l S a).2.2.2.1 (cl T l S a).2.2.2.2)).1, (pa T l c (cl T l S a).2.2.1 (sb S (cl T l S a).2.2.2.1) (sr R (cl T l S a).2.2.2.1 (cl T l S a).2.2.2.2)).2.1, (pa T l c (cl T l S a).2.2.1 (sb S (cl T l S a).2.2.2.1) (sr R (cl T l S a).2.2.2.1 (cl T l S a).2.2.2.2)).2.2.1 + 1, (pa T l c (cl T l S a).2.2.1 (sb S (cl T l S a).2.2.2.1) (sr R (cl T l S a).2.2.2.1 (cl T l S a).2.2.2.2)).2.2.2)
/-- where the reading scribbles -/
def scP (t n k : Nat) : Prop := (t = 10 ∧ n = 0 ∧ 14 ≤ k ∧ k ≤ 20) ∨ (t = 13 ∧ n = 0) ∨ (t = 11 ∧ n = 30)
def SP (μ ν : ab_M) : Prop := ν.2 = μ.2 ∧ ∀ t n k, ¬ scP t n k → ν.1 t n k = μ.1 t n k
theorem SP_refl (μ : ab_M) : SP μ μ := ⟨rfl, fun _ _ _ _ => rfl⟩
theorem SP_i {μ ν : ab_M} (h : SP μ ν) (t n k : Nat) (hs : ¬ scP t n k) : ag_I ν t n k = ag_I μ t n k := h.2 t n k hs
theorem SP_set {μ ν : ab_M} {t n k : Nat} {x : Int} (h : SP μ ν) (hs : scP t n k) : SP μ (as_I ν t n k x) := by
  refine ⟨h.1, fun t' n' k' q => ?_⟩
  show (if t' = t ∧ n' = n ∧ k' = k then x else ν.1 t' n' k') = _
  rw [if_neg (by intro e; obtain ⟨rfl, rfl, rfl⟩ := e; exact q hs)]
  exact h.2 t' n' k' q
theorem SP_N {μ ν ν2 : ab_M} (h : SP μ ν) (h2 : SN ν ν2) : SP μ ν2 := by
  refine ⟨h2.1.trans h.1, fun t n k q => (h2.2 t n k (fun w => q ?_)).trans (h.2 t n k q)⟩
  obtain ⟨a, b, c, d⟩ := w
  exact Or.inl ⟨a, b, by omega, by omega⟩
theorem SP_M {μ ν : ab_M} (h : SP μ ν) (hM : FM μ.2.2.1 μ.2.2.2.1) : FM ν.2.2.1 ν.2.2.2.1 := by rw [h.1]; exact hM
theorem SP_T {μ ν : ab_M} (h : SP μ ν) : T_ ν = T_ μ := by
  funext i
  exact SP_i h 12 0 i (by unfold scP; omega)
/-- the token that begins behind a has been taken -/
def TK (T : Nat → Int) (l a : Nat) (ν : ab_M) : Prop := ag_I ν 10 0 15 = (t_x T l (t_s T l a) : Int) ∧ ag_I ν 10 0 16 = (t_s T l a : Int) ∧ ag_I ν 10 0 17 = t_k T l (t_s T l a) ∧ (ag_I ν 10 0 17 = 1 ∨ ag_I ν 10 0 17 = 2 → ag_I ν 10 0 18 = t_v T l (t_s T l a))
def PR (μ ν : ab_M) (S : Nat → Bool) (R : Nat → Int) : Prop := SP μ ν ∧ (∀ w, w < 4 → ag_I ν 13 0 w = bI (S w = true)) ∧ (∀ w, w < 4 → ag_I ν 11 30 w = R w) ∧ ag_I ν 10 0 19 = 0 ∧ ag_I ν 10 0 20 = -1 ∧ ag_I ν 10 0 14 = 0
theorem PR_N {μ ν ν2 : ab_M} {S : Nat → Bool} {R : Nat → Int} (h : PR μ ν S R) (h2 : SN ν ν2) : PR μ ν2 S R := by
  obtain ⟨a, b, c, d, e, f⟩ := h
  refine ⟨SP_N a h2, fun w hw => (SN_i h2 13 0 w (by unfold scN; omega)).trans (b w hw), fun w hw => (SN_i h2 11 30 w (by unfold scN; omega)).trans (c w hw), ?_, ?_, ?_⟩
  · rw [SN_i h2 10 0 19 (by unfold scN; omega)]; exact d
  · rw [SN_i h2 10 0 20 (by unfold scN; omega)]; exact e
  · rw [SN_i h2 10 0 14 (by unfold scN; omega)]; exact f
theorem sp_mfails (d : Nat) (f : Int) (μ : ab_M) (h0 : ag_I μ 10 0 19 = 0) : Wp (d + 1) 140 [ab_r 10 (some 0), ab_i f] μ (fun v μ' => v = none ∧ μ' = as_I (as_I μ 10 0 19 f) 10 0 20 (ag_I μ 10 0 16)) := by
  refine wp_of ?_
  refine wg_s rfl rfl ?_
  refine wg_gi rfl rfl (h0) ?_
  refine wg_s rfl rfl ?_
  refine wg_s rfl rfl ?_
  refine wg_s rfl rfl ?_
  refine wg_s rfl rfl ?_
  refine wg_s rfl rfl ?_
  refine wg_s rfl rfl ?_
  refine wg_gi rfl rfl (show _ = ag_I μ 10 0 16 from rfl) ?_
  refine wg_s rfl rfl ?_
  exact wg_ret rfl rfl trivial ⟨rfl, rfl⟩
theorem PR_told {μ ν : ab_M} {S : Nat → Bool} {R : Nat → Int} {w : Nat} (h : PR μ ν S R) (hw : w < 4) : PR μ (as_I ν 13 0 w 1) (sb S w) R := by
  obtain ⟨a, b, c, d, e, f⟩ := h
  refine ⟨SP_set a (Or.inr (Or.inl ⟨rfl, rfl⟩)), fun v hv => ?_, c, d, e, f⟩
  show (if (13 : Nat) = 13 ∧ (0 : Nat) = 0 ∧ v = w then (1 : Int) else ag_I ν 13 0 v) = bI ((if v = w then true else S v) = true)
  by_cases q : v = w
  · rw [if_pos ⟨rfl, rfl, q⟩]
    exact (bI_t (by rw [if_pos q])).symm
  · rw [if_neg (fun z => q z.2.2), b v hv]
    have : (if v = w then true else S v) = S v := if_neg q
    unfold bI
    rw [this]
theorem PR_rule {μ ν : ab_M} {S : Nat → Bool} {R : Nat → Int} {w : Nat} {x : Int} (h : PR μ ν S R) : PR μ (as_I ν 11 30 w x) S (sr R w x) := by
  obtain ⟨a, b, c, d, e, f⟩ := h
  refine ⟨SP_set a (Or.inr (Or.inr ⟨rfl, rfl⟩)), b, fun v hv => ?_, d, e, f⟩
  show (if (11 : Nat) = 11 ∧ (30 : Nat) = 30 ∧ v = w then x else ag_I ν 11 30 v) = (if v = w then x else R v)
  by_cases q : v = w
  · rw [if_pos ⟨rfl, rfl, q⟩, if_pos q]
  · rw [if_neg (fun z => q z.2.2), if_neg q]; exact c v hv
theorem sp_mnext2 {d : Nat} {l a : Nat} {μ ν : ab_M} {S : Nat → Bool} {R : Nat → Int} (hM : FM μ.2.2.1 μ.2.2.2.1) (hP : PR μ ν S R) (hl : l ≤ 200) (hal : a ≤ l) (ha : ag_I ν 10 0 15 = (a : Int)) : Wp (d + 4) 139 [ab_r 10 (some 0), ab_i (l : Int)] ν (fun v ν2 => v = none ∧ PR μ ν2 S R ∧ TK (T_ μ) l a ν2) := by
  refine wp_mono (sp_mnext d l a ν (SP_M hP.1 hM) hl hal ha) (fun v ν2 h => ?_)
  rw [SP_T hP.1] at h
  exact ⟨h.1, PR_N hP h.2.1, h.2.2⟩
theorem mo_rng (w : Nat) : 0 ≤ mo w ∧ mo w ≤ 60 := by
  unfold mo; repeat' split
  all_goals omega
theorem sp_mclause (d : Nat) (l a : Nat) (S : Nat → Bool) (R : Nat → Int) (μ ν : ab_M) (hM : FM μ.2.2.1 μ.2.2.2.1) (hl : l ≤ 200) (hal : a ≤ l) (hP : PR μ ν S R) (hT : TK (T_ μ) l a ν) : Wp (d + 6) 141 [ab_r 10 (some 0), ab_i (l : Int)] ν (fun v ν2 => v = none ∧ SP μ ν2 ∧ ag_I ν2 10 0 14 = 0 ∧ ((cl (T_ μ) l S a).1 ≠ 0 → ag_I ν2 10 0 19 = (cl (T_ μ) l S a).1 ∧ ag_I ν2 10 0 20 = (cl (T_ μ) l S a).2.1) ∧ ((cl (T_ μ) l S a).1 = 0 → PR μ ν2 (sb S (cl (T_ μ) l S a).2.2.2.1) (sr R (cl (T_ μ) l S a).2.2.2.1 (cl (T_ μ) l S a).2.2.2.2) ∧ TK (T_ μ) l (cl (T_ μ) l S a).2.2.1 ν2)) := by
  refine wp_of ?_
  have hM2 := SP_M hP.1 hM
  refine wg_s rfl rfl ?_
  refine wg_gi rfl rfl (show _ = t_k (T_ μ) l (t_s (T_ μ) l a) from hT.2.2.1) ?_
  refine wg_s rfl rfl ?_
  refine wg_if rfl rfl (fun h5 => ?_) (fun h5 => ?_)
  · refine wg_s rfl rfl ?_
    refine wg_gi rfl rfl (show _ = (t_v (T_ μ) l (t_s (T_ μ) l a)) from hT.2.2.2 (Or.inl (hT.2.2.1.trans h5))) ?_
    refine wg_s rfl rfl ?_
    have hw := t_k_1 h5
    refine wg_s rfl rfl ?_
    refine wg_gm rfl rfl hM2 ?_
    refine wg_s rfl rfl ?_
    refine wg_za rfl hM2 (by omega) (by omega) ?_
    rw [show ag_I ν 13 0 (t_v (T_ μ) l (t_s (T_ μ) l a)).toNat = bI (S (t_v (T_ μ) l (t_s (T_ μ) l a)).toNat = true) from hP.2.1 _ (by omega)]
    refine wg_eqb rfl (fun h25 => ?_) (fun h25 => ?_)
    · refine wg_s rfl rfl ?_
      refine wg_gm rfl rfl hM2 ?_
      refine wg_s rfl rfl ?_
      refine wg_s rfl rfl ?_
      refine wg_zas rfl hM2 (by omega) (by omega) (Or.inr rfl) ?_
      have hP1 := PR_told hP (show (t_v (T_ μ) l (t_s (T_ μ) l a)).toNat < 4 by omega)
      have r1 := t_s_rng (T := T_ μ) hal
      have r2 := t_x_rng (T := T_ μ) r1.2
      have r3 := t_s_rng (T := T_ μ) r2.2
      have r4 := t_x_rng (T := T_ μ) r3.2
      refine wg_s rfl rfl ?_
      refine wg_s rfl rfl ?_
      refine wg_call rfl rfl (sp_mnext2 hM hP1 hl r2.2 hT.1) (fun v ν2 h => ?_)
      obtain ⟨rfl, hP2, hT2⟩ := h
      have hM3 := SP_M hP2.1 hM
      refine wg_s rfl rfl ?_
      refine wg_gi rfl rfl (show _ = t_k (T_ μ) l (t_s (T_ μ) l (t_x (T_ μ) l (t_s (T_ μ) l a))) from hT2.2.2.1) ?_
      refine wg_s rfl rfl ?_
      refine wg_if rfl rfl (fun h51 => ?_) (fun h51 => ?_)
      · have hv2 := t_k_2 r3.2 h51
        have hmo := mo_rng (t_v (T_ μ) l (t_s (T_ μ) l a)).toNat
        have K92 : ∀ m : Int, m = mo (t_v (T_ μ) l (t_s (T_ μ) l a)).toNat → Wg (d + 5) 141 ν2 92 [(0, ab_r 10 (some 0)), (1, ab_i (l : Int)), (2, ab_i (t_v (T_ μ) l (t_s (T_ μ) l a)))] [ab_l m, ab_l 0, ab_l (t_v (T_ μ) l (t_s (T_ μ) l (t_x (T_ μ) l (t_s (T_ μ) l a))))] (fun v ν2 => v = none ∧ SP μ ν2 ∧ ag_I ν2 10 0 14 = 0 ∧ ((cl (T_ μ) l S a).1 ≠ 0 → ag_I ν2 10 0 19 = (cl (T_ μ) l S a).1 ∧ ag_I ν2 10 0 20 = (cl (T_ μ) l S a).2.1) ∧ ((cl (T_ μ) l S a).1 = 0 → PR μ ν2 (sb S (cl (T_ μ) l S a).2.2.2.1) (sr R (cl (T_ μ) l S a).2.2.2.1 (cl (T_ μ) l S a).2.2.2.2) ∧ TK (T_ μ) l (cl (T_ μ) l S a).2.2.1 ν2)) := by
          intro m hm
          refine wg_cf rfl rfl (sp_in _ _ _ _ _) ?_
          refine wg_neb rfl (fun h95 => ?_) (fun h95 => ?_)
          · refine wg_s rfl rfl ?_
            refine wg_gi rfl rfl (show _ = 0 from hP2.2.2.2.1) ?_
            refine wg_s rfl rfl ?_
            refine wg_s rfl rfl ?_
            refine wg_gm rfl rfl hM3 ?_
            refine wg_s rfl rfl ?_
            refine wg_s rfl rfl ?_
            refine wg_gi rfl rfl (show _ = (t_v (T_ μ) l (t_s (T_ μ) l (t_x (T_ μ) l (t_s (T_ μ) l a)))) from hT2.2.2.2 (Or.inr (hT2.2.2.1.trans h51))) ?_
            refine wg_ias rfl hM3 rfl (by omega) (by omega) ?_
            have hP3 := PR_rule (w := (t_v (T_ μ) l (t_s (T_ μ) l a)).toNat) (x := (t_v (T_ μ) l (t_s (T_ μ) l (t_x (T_ μ) l (t_s (T_ μ) l a))))) hP2
            have r5 := t_s_rng (T := T_ μ) r4.2
            have r6 := t_x_rng (T := T_ μ) r5.2
            refine wg_s rfl rfl ?_
            refine wg_s rfl rfl ?_
            refine wg_call rfl rfl (sp_mnext2 hM hP3 hl r4.2 hT2.1) (fun v ν3 h => ?_)
            obtain ⟨rfl, hP4, hT3⟩ := h
            refine wg_s rfl rfl ?_
            refine wg_gi rfl rfl (show _ = t_k (T_ μ) l (t_s (T_ μ) l (t_x (T_ μ) l (t_s (T_ μ) l (t_x (T_ μ) l (t_s (T_ μ) l a))))) from hT3.2.2.1) ?_
            refine wg_s rfl rfl ?_
            refine wg_if rfl rfl (fun h131 => ?_) (fun h131 => ?_)
            · refine wg_s rfl rfl ?_
              refine wg_s rfl rfl ?_
              refine wg_call rfl rfl (sp_mnext2 hM hP4 hl r6.2 hT3.1) (fun v ν4 h => ?_)
              obtain ⟨rfl, hP5, hT4⟩ := h
              have hc : cl (T_ μ) l S a = (0, -1, (t_x (T_ μ) l (t_s (T_ μ) l (t_x (T_ μ) l (t_s (T_ μ) l (t_x (T_ μ) l (t_s (T_ μ) l a)))))), (t_v (T_ μ) l (t_s (T_ μ) l a)).toNat, (t_v (T_ μ) l (t_s (T_ μ) l (t_x (T_ μ) l (t_s (T_ μ) l a))))) := by unfold cl; rw [if_neg (show ¬ (t_k (T_ μ) l (t_s (T_ μ) l a) ≠ 1) by omega), if_neg h25, if_neg (show ¬ (t_k (T_ μ) l (t_s (T_ μ) l (t_x (T_ μ) l (t_s (T_ μ) l a))) ≠ 2) by omega), if_neg (show ¬ (mo (t_v (T_ μ) l (t_s (T_ μ) l a)).toNat < (t_v (T_ μ) l (t_s (T_ μ) l (t_x (T_ μ) l (t_s (T_ μ) l a))))) by omega), if_neg (show ¬ (t_k (T_ μ) l (t_s (T_ μ) l (t_x (T_ μ) l (t_s (T_ μ) l (t_x (T_ μ) l (t_s (T_ μ) l a))))) ≠ 3) by omega)]
              rw [hc]
              exact wg_ret rfl rfl trivial ⟨rfl, hP5.1, hP5.2.2.2.2.2, fun q => absurd rfl q, fun _ => ⟨hP5, hT4⟩⟩
            · refine wg_s rfl rfl ?_
              refine wg_s rfl rfl ?_
              refine wg_cv rfl rfl (sp_mfails _ _ _ hP4.2.2.2.1) ?_
              refine wg_s rfl rfl ?_
              have hc : cl (T_ μ) l S a = (1, ((t_s (T_ μ) l (t_x (T_ μ) l (t_s (T_ μ) l (t_x (T_ μ) l (t_s (T_ μ) l a))))) : Int), 0, 0, 0) := by unfold cl; rw [if_neg (show ¬ (t_k (T_ μ) l (t_s (T_ μ) l a) ≠ 1) by omega), if_neg h25, if_neg (show ¬ (t_k (T_ μ) l (t_s (T_ μ) l (t_x (T_ μ) l (t_s (T_ μ) l a))) ≠ 2) by omega), if_neg (show ¬ (mo (t_v (T_ μ) l (t_s (T_ μ) l a)).toNat < (t_v (T_ μ) l (t_s (T_ μ) l (t_x (T_ μ) l (t_s (T_ μ) l a))))) by omega), if_pos (show t_k (T_ μ) l (t_s (T_ μ) l (t_x (T_ μ) l (t_s (T_ μ) l (t_x (T_ μ) l (t_s (T_ μ) l a))))) ≠ 3 by omega)]
              rw [hc]
              exact wg_ret rfl rfl trivial ⟨rfl, SP_set (SP_set hP4.1 (Or.inl ⟨rfl, rfl, by omega, by omega⟩)) (Or.inl ⟨rfl, rfl, by omega, by omega⟩), hP4.2.2.2.2.2, fun _ => ⟨rfl, hT3.2.1⟩, fun q => absurd q (by show ¬ ((1 : Int) = 0); omega)⟩
          · refine wg_s rfl rfl ?_
            refine wg_s rfl rfl ?_
            refine wg_cv rfl rfl (sp_mfails _ _ _ hP2.2.2.2.1) ?_
            refine wg_s rfl rfl ?_
            refine wg_gi rfl rfl (show _ = 3 from rfl) ?_
            refine wg_s rfl rfl ?_
            have hc : cl (T_ μ) l S a = (3, ((t_s (T_ μ) l (t_x (T_ μ) l (t_s (T_ μ) l a))) : Int), 0, 0, 0) := by unfold cl; rw [if_neg (show ¬ (t_k (T_ μ) l (t_s (T_ μ) l a) ≠ 1) by omega), if_neg h25, if_neg (show ¬ (t_k (T_ μ) l (t_s (T_ μ) l (t_x (T_ μ) l (t_s (T_ μ) l a))) ≠ 2) by omega), if_pos (show mo (t_v (T_ μ) l (t_s (T_ μ) l a)).toNat < (t_v (T_ μ) l (t_s (T_ μ) l (t_x (T_ μ) l (t_s (T_ μ) l a)))) by omega)]
            rw [hc]
            exact wg_ret rfl rfl trivial ⟨rfl, SP_set (SP_set hP2.1 (Or.inl ⟨rfl, rfl, by omega, by omega⟩)) (Or.inl ⟨rfl, rfl, by omega, by omega⟩), hP2.2.2.2.2.2, fun _ => ⟨rfl, hT2.2.1⟩, fun q => absurd q (by show ¬ ((3 : Int) = 0); omega)⟩
        refine wg_s rfl rfl ?_
        refine wg_gi rfl rfl (show _ = (t_v (T_ μ) l (t_s (T_ μ) l (t_x (T_ μ) l (t_s (T_ μ) l a)))) from hT2.2.2.2 (Or.inr (hT2.2.2.1.trans h51))) ?_
        refine wg_s rfl rfl ?_
        refine wg_s rfl rfl ?_
        refine wg_s rfl rfl ?_
        refine wg_if rfl rfl (fun h69 => ?_) (fun h69 => ?_)
        · refine wg_s rfl rfl ?_
          refine wg_s rfl rfl ?_
          refine wg_if rfl rfl (fun h80 => ?_) (fun h80 => ?_)
          · refine wg_s rfl rfl ?_
            exact K92 _ (by unfold mo; first | rw [if_pos (by omega)]; rfl | rw [if_neg (by omega), if_pos (by omega)]; rfl | rw [if_neg (by omega), if_neg (by omega)]; rfl)
          · refine wg_s rfl rfl ?_
            refine wg_s rfl rfl ?_
            exact K92 _ (by unfold mo; first | rw [if_pos (by omega)]; rfl | rw [if_neg (by omega), if_pos (by omega)]; rfl | rw [if_neg (by omega), if_neg (by omega)]; rfl)
        · refine wg_s rfl rfl ?_
          refine wg_s rfl rfl ?_
          exact K92 _ (by unfold mo; first | rw [if_pos (by omega)]; rfl | rw [if_neg (by omega), if_pos (by omega)]; rfl | rw [if_neg (by omega), if_neg (by omega)]; rfl)
      · refine wg_s rfl rfl ?_
        refine wg_s rfl rfl ?_
        refine wg_cv rfl rfl (sp_mfails _ _ _ hP2.2.2.2.1) ?_
        refine wg_s rfl rfl ?_
        refine wg_s rfl rfl ?_
        refine wg_gi rfl rfl (show _ = 1 from rfl) ?_
        refine wg_s rfl rfl ?_
        have hc : cl (T_ μ) l S a = (1, ((t_s (T_ μ) l (t_x (T_ μ) l (t_s (T_ μ) l a))) : Int), 0, 0, 0) := by unfold cl; rw [if_neg (show ¬ (t_k (T_ μ) l (t_s (T_ μ) l a) ≠ 1) by omega), if_neg h25, if_pos (show t_k (T_ μ) l (t_s (T_ μ) l (t_x (T_ μ) l (t_s (T_ μ) l a))) ≠ 2 by omega)]
        rw [hc]
        exact wg_ret rfl rfl trivial ⟨rfl, SP_set (SP_set hP2.1 (Or.inl ⟨rfl, rfl, by omega, by omega⟩)) (Or.inl ⟨rfl, rfl, by omega, by omega⟩), hP2.2.2.2.2.2, fun _ => ⟨rfl, hT2.2.1⟩, fun q => absurd q (by show ¬ ((1 : Int) = 0); omega)⟩
    · refine wg_s rfl rfl ?_
      refine wg_s rfl rfl ?_
      refine wg_cv rfl rfl (sp_mfails _ _ _ hP.2.2.2.1) ?_
      have hc : cl (T_ μ) l S a = (2, ((t_s (T_ μ) l a) : Int), 0, 0, 0) := by unfold cl; rw [if_neg (show ¬ (t_k (T_ μ) l (t_s (T_ μ) l a) ≠ 1) by omega), if_pos h25]
      rw [hc]
      exact wg_ret rfl rfl trivial ⟨rfl, SP_set (SP_set hP.1 (Or.inl ⟨rfl, rfl, by omega, by omega⟩)) (Or.inl ⟨rfl, rfl, by omega, by omega⟩), hP.2.2.2.2.2, fun _ => ⟨rfl, hT.2.1⟩, fun q => absurd q (by show ¬ ((2 : Int) = 0); omega)⟩
  · refine wg_s rfl rfl ?_
    refine wg_s rfl rfl ?_
    refine wg_cv rfl rfl (sp_mfails _ _ _ hP.2.2.2.1) ?_
    have hc : cl (T_ μ) l S a = (1, ((t_s (T_ μ) l a) : Int), 0, 0, 0) := by unfold cl; rw [if_pos (show t_k (T_ μ) l (t_s (T_ μ) l a) ≠ 1 by omega)]
    rw [hc]
    exact wg_ret rfl rfl trivial ⟨rfl, SP_set (SP_set hP.1 (Or.inl ⟨rfl, rfl, by omega, by omega⟩)) (Or.inl ⟨rfl, rfl, by omega, by omega⟩), hP.2.2.2.2.2, fun _ => ⟨rfl, hT.2.1⟩, fun q => absurd q (by show ¬ ((1 : Int) = 0); omega)⟩
def S0_ : Nat → Bool := fun _ => false
def R0_ : Nat → Int := fun w => if w = 1 then 7 else if w = 2 then 2 else 0
abbrev m_pa (μ : ab_M) : Int × Int × Int × (Nat → Int) := pa (T_ μ) (ag_I μ 10 0 14).toNat 5 0 S0_ R0_
def scQ (t n k : Nat) : Prop := (t = 10 ∧ n = 0 ∧ 14 ≤ k ∧ k ≤ 22) ∨ (t = 13 ∧ n = 0) ∨ (t = 11 ∧ (n = 30 ∨ n = 31))
def SQ (μ ν : ab_M) : Prop := ν.2 = μ.2 ∧ ∀ t n k, ¬ scQ t n k → ν.1 t n k = μ.1 t n k
theorem SQ_P {μ ν : ab_M} (h : SP μ ν) : SQ μ ν := ⟨h.1, fun t n k q => h.2 t n k (fun w => q (by unfold scP at w; unfold scQ; omega))⟩
theorem SQ_set {μ ν : ab_M} {t n k : Nat} {x : Int} (h : SQ μ ν) (hs : scQ t n k) : SQ μ (as_I ν t n k x) := by
  refine ⟨h.1, fun t' n' k' q => ?_⟩
  show (if t' = t ∧ n' = n ∧ k' = k then x else ν.1 t' n' k') = _
  rw [if_neg (by intro e; obtain ⟨rfl, rfl, rfl⟩ := e; exact q hs)]
  exact h.2 t' n' k' q
theorem sb_cn {S : Nat → Bool} {w : Nat} (hw : w < 4) (h : ¬ (S w = true)) : cn (sb S w) 4 = cn S 4 + 1 := by
  have h9 : S w = false := by cases q : S w <;> simp_all
  have : w = 0 ∨ w = 1 ∨ w = 2 ∨ w = 3 := by omega
  rcases this with e | e | e | e <;> subst e <;> simp only [cn, sb, h9] <;> simp <;> omega
theorem cl_0 {T : Nat → Int} {l : Nat} {S : Nat → Bool} {a : Nat} (hal : a ≤ l) (h : (cl T l S a).1 = 0) : (cl T l S a).2.2.2.1 < 4 ∧ ¬ (S (cl T l S a).2.2.2.1 = true) ∧ (cl T l S a).2.2.1 ≤ l := by
  have r1 := t_s_rng (T := T) hal
  have r2 := t_x_rng (T := T) r1.2
  have r3 := t_s_rng (T := T) r2.2
  have r4 := t_x_rng (T := T) r3.2
  have r5 := t_s_rng (T := T) r4.2
  have r6 := t_x_rng (T := T) r5.2
  unfold cl at h ⊢
  split at h
  · simp at h
  · rename_i q1
    split at h
    · simp at h
    · rename_i q2
      split at h
      · simp at h
      · rename_i q3
        split at h
        · simp at h
        · rename_i q4
          split at h
          · simp at h
          · rename_i q5
            have hw := t_k_1 (Decidable.not_not.mp q1)
            rw [if_neg q1, if_neg q2, if_neg q3, if_neg q4, if_neg q5]
            exact ⟨by show (t_v T l (t_s T l a)).toNat < 4; omega, q2, r6.2⟩
theorem lp_agr {d : Nat} {μ : ab_M} {l : Nat} {Q : Option ab_V → ab_M → Prop} (hM : FM μ.2.2.1 μ.2.2.2.1) (hl : l ≤ 200) : ∀ (c a : Nat) (S : Nat → Bool) (R : Nat → Int) (ν : ab_M) (n : Int), 4 - cn S 4 < c → 0 ≤ n → n + c ≤ 100 → a ≤ l → PR μ ν S R → TK (T_ μ) l a ν →
    (∀ ν n3, SP μ ν → ag_I ν 10 0 14 = 0 → ag_I ν 10 0 19 = (pa (T_ μ) l c a S R).1 → ag_I ν 10 0 20 = (pa (T_ μ) l c a S R).2.1 → ((pa (T_ μ) l c a S R).1 = 0 → n3 = n + (pa (T_ μ) l c a S R).2.2.1 ∧ ∀ w, w < 4 → ag_I ν 11 30 w = (pa (T_ μ) l c a S R).2.2.2 w) → Wg (d + 6) 142 ν 103 [(0, ab_r 10 (some 0)), (1, ab_i (l : Int)), (2, ab_i n3), (3, ab_i 4)] [] Q) →
    Wg (d + 6) 142 ν 78 [(0, ab_r 10 (some 0)), (1, ab_i (l : Int)), (2, ab_i n), (3, ab_i 4)] [] Q := by
  intro c
  induction c with
  | zero => intro a S R ν n hn; omega
  | succ c ih =>
    intro a S R ν n hn hn0 hn1 hal hP hT K
    have hM2 := SP_M hP.1 hM
    refine wg_s rfl rfl ?_
    refine wg_gi rfl rfl (show _ = t_k (T_ μ) l (t_s (T_ μ) l a) from hT.2.2.1) ?_
    refine wg_if rfl rfl (fun h82 => ?_) (fun h82 => ?_)
    · have e1 : pa (T_ μ) l (c + 1) a S R = (0, -1, 0, R) := if_pos h82
      rw [e1] at K
      exact K ν n hP.1 hP.2.2.2.2.2 hP.2.2.2.1 hP.2.2.2.2.1 (fun _ => ⟨(Int.add_zero n).symm, hP.2.2.1⟩)
    · refine wg_s rfl rfl ?_
      refine wg_gi rfl rfl (show _ = 0 from hP.2.2.2.1) ?_
      refine wg_s rfl rfl ?_
      refine wg_s rfl rfl ?_
      refine wg_s rfl rfl ?_
      refine wg_call rfl rfl (sp_mclause d l a S R μ ν hM hl hal hP hT) (fun v ν2 h => ?_)
      obtain ⟨rfl, p1, p2, p3, p4⟩ := h
      by_cases hc : (cl (T_ μ) l S a).1 = 0
      · have hz := cl_0 hal hc
        obtain ⟨hP2, hT2⟩ := p4 hc
        have hb := sb_cn hz.1 hz.2.1
        have hb2 := cn_le (sb S (cl (T_ μ) l S a).2.2.2.1) 4
        refine wg_iinc rfl rfl rfl (by omega) (by omega) rfl ?_
        refine wg_s rfl rfl ?_
        have e1 : pa (T_ μ) l (c + 1) a S R = ((pa (T_ μ) l c (cl (T_ μ) l S a).2.2.1 (sb S (cl (T_ μ) l S a).2.2.2.1) (sr R (cl (T_ μ) l S a).2.2.2.1 (cl (T_ μ) l S a).2.2.2.2)).1, (pa (T_ μ) l c (cl (T_ μ) l S a).2.2.1 (sb S (cl (T_ μ) l S a).2.2.2.1) (sr R (cl (T_ μ) l S a).2.2.2.1 (cl (T_ μ) l S a).2.2.2.2)).2.1, (pa (T_ μ) l c (cl (T_ μ) l S a).2.2.1 (sb S (cl (T_ μ) l S a).2.2.2.1) (sr R (cl (T_ μ) l S a).2.2.2.1 (cl (T_ μ) l S a).2.2.2.2)).2.2.1 + 1, (pa (T_ μ) l c (cl (T_ μ) l S a).2.2.1 (sb S (cl (T_ μ) l S a).2.2.2.1) (sr R (cl (T_ μ) l S a).2.2.2.1 (cl (T_ μ) l S a).2.2.2.2)).2.2.2) := by
          show (if _ then _ else _) = _
          rw [if_neg h82, if_neg (fun q => q hc)]
        rw [e1] at K
        refine ih _ _ _ ν2 (n + 1) (by omega) (by omega) (by omega) hz.2.2 hP2 hT2 (fun ν3 n3 k1 k2 k3 k4 k5 => K ν3 n3 k1 k2 k3 k4 (fun q => ⟨?_, (k5 q).2⟩))
        have := (k5 q).1
        show n3 = n + (_ + 1)
        omega
      · have e1 : pa (T_ μ) l (c + 1) a S R = ((cl (T_ μ) l S a).1, (cl (T_ μ) l S a).2.1, 0, R) := by
          show (if _ then _ else _) = _
          rw [if_neg h82, if_pos hc]
        rw [e1] at K
        have p5 := p3 hc
        refine wg_iinc rfl rfl rfl (by omega) (by omega) rfl ?_
        refine wg_s rfl rfl ?_
        refine wg_s rfl rfl ?_
        refine wg_s rfl rfl ?_
        refine wg_if rfl rfl (fun h82b => ?_) (fun h82b => ?_)
        · exact K ν2 _ p1 p2 p5.1 p5.2 (fun q => absurd q hc)
        · refine wg_s rfl rfl ?_
          refine wg_gi rfl rfl (show _ = (cl (T_ μ) l S a).1 from p5.1) ?_
          refine wg_if rfl rfl (fun h89 => ?_) (fun h89 => ?_)
          · exact K ν2 _ p1 p2 p5.1 p5.2 (fun q => absurd q hc)
          · exact absurd h89 (by omega)
theorem lp_rules {d : Nat} {μ : ab_M} {r1 r2 n : Int} {l : Nat} {R : Nat → Int} {Q : Option ab_V → ab_M → Prop} (hM : FM μ.2.2.1 μ.2.2.2.1) (K : ∀ ν, SQ μ ν → ag_I ν 10 0 14 = 0 → ag_I ν 10 0 21 = r1 → ag_I ν 10 0 22 = r2 → (∀ w, w < 4 → ag_I ν 11 31 w = R w) → Q (some (ab_i n)) ν) : ∀ (N z : Nat) (ν : ab_M), 4 - z < N → z ≤ 4 → SQ μ ν → ag_I ν 10 0 14 = 0 → ag_I ν 10 0 21 = r1 → ag_I ν 10 0 22 = r2 → (∀ w, w < 4 → ag_I ν 11 30 w = R w) → (∀ w, w < z → ag_I ν 11 31 w = R w) → Wg d 142 ν 130 [(0, ab_r 10 (some 0)), (1, ab_i (l : Int)), (2, ab_i n), (3, ab_i (z : Int))] [] Q := by
  intro N
  induction N with
  | zero => intro z ν hn; omega
  | succ N ih =>
    intro z ν hn hz2 hQ h14 h21 h22 h30 h31
    have hM2 : FM ν.2.2.1 ν.2.2.2.1 := by rw [hQ.1]; exact hM
    refine wg_s rfl rfl ?_
    refine wg_s rfl rfl ?_
    refine wg_if rfl rfl (fun h132 => ?_) (fun h132 => ?_)
    · refine wg_s rfl rfl ?_
      have e : z = 4 := by omega
      subst e
      exact wg_ret rfl rfl trivial (K ν hQ h14 h21 h22 h31)
    · refine wg_s rfl rfl ?_
      refine wg_gm rfl rfl hM2 ?_
      refine wg_s rfl rfl ?_
      refine wg_s rfl rfl ?_
      refine wg_gm rfl rfl hM2 ?_
      refine wg_s rfl rfl ?_
      refine wg_iav rfl hM2 rfl (by omega) (by omega) (show _ = R z from h30 z (by omega)) ?_
      refine wg_ias rfl hM2 rfl (by omega) (by omega) ?_
      refine wg_iinc rfl rfl rfl (by omega) (by omega) rfl ?_
      refine wg_s rfl rfl ?_
      refine ih (z + 1) _ (by omega) (by omega) (SQ_set hQ (Or.inr (Or.inr ⟨rfl, Or.inr rfl⟩))) h14 h21 h22 h30 (fun w hw => ?_)
      show (if (11 : Nat) = 11 ∧ (31 : Nat) = 31 ∧ w = (z : Int).toNat then R z else ag_I ν 11 31 w) = R w
      by_cases q : w = z
      · rw [if_pos ⟨rfl, rfl, q⟩, q]
      · rw [if_neg (fun y => q y.2.2)]; exact h31 w (by omega)
theorem lp_ini {d : Nat} {μ : ab_M} {l : Nat} {Q : Option ab_V → ab_M → Prop} (hM : FM μ.2.2.1 μ.2.2.2.1) (K : ∀ ν, SP μ ν → ag_I ν 10 0 14 = 0 → ag_I ν 10 0 15 = 0 → ag_I ν 10 0 19 = 0 → ag_I ν 10 0 20 = -1 → (∀ w, w < 4 → ag_I ν 13 0 w = 0) → (∀ w, w < 4 → ag_I ν 11 30 w = R0_ w) → Wg d 142 ν 73 [(0, ab_r 10 (some 0)), (1, ab_i (l : Int)), (2, ab_i 0), (3, ab_i 4)] [] Q) : ∀ (N z : Nat) (ν : ab_M), 4 - z < N → z ≤ 4 → SP μ ν → ag_I ν 10 0 14 = 0 → ag_I ν 10 0 15 = 0 → ag_I ν 10 0 19 = 0 → ag_I ν 10 0 20 = -1 → (∀ w, w < z → ag_I ν 13 0 w = 0) → (∀ w, w < z → ag_I ν 11 30 w = R0_ w) → Wg d 142 ν 29 [(0, ab_r 10 (some 0)), (1, ab_i (l : Int)), (2, ab_i 0), (3, ab_i (z : Int))] [] Q := by
  intro N
  induction N with
  | zero => intro z ν hn; omega
  | succ N ih =>
    intro z ν hn hz2 hP h14 h15 h19 h20 h13 h30
    have hM2 : FM ν.2.2.1 ν.2.2.2.1 := by rw [hP.1]; exact hM
    refine wg_s rfl rfl ?_
    refine wg_s rfl rfl ?_
    refine wg_if rfl rfl (fun h31 => ?_) (fun h31 => ?_)
    · have e : z = 4 := by omega
      subst e
      exact K ν hP h14 h15 h19 h20 h13 h30
    · refine wg_s rfl rfl ?_
      refine wg_gm rfl rfl hM2 ?_
      refine wg_s rfl rfl ?_
      refine wg_s rfl rfl ?_
      refine wg_zas rfl hM2 (by omega) (by omega) (Or.inl rfl) ?_
      refine wg_s rfl rfl ?_
      refine wg_gm rfl rfl hM2 ?_
      refine wg_s rfl rfl ?_
      refine wg_s rfl rfl ?_
      refine wg_s rfl rfl ?_
      refine wg_if rfl rfl (fun h48 => ?_) (fun h48 => ?_)
      · refine wg_s rfl rfl ?_
        refine wg_s rfl rfl ?_
        refine wg_if rfl rfl (fun h58 => ?_) (fun h58 => ?_)
        · refine wg_s rfl rfl ?_
          refine wg_ias rfl hM2 rfl (by omega) (by omega) ?_
          refine wg_iinc rfl rfl rfl (by omega) (by omega) rfl ?_
          refine wg_s rfl rfl ?_
          refine ih (z + 1) _ (by omega) (by omega) (SP_set (SP_set hP (Or.inr (Or.inl ⟨rfl, rfl⟩))) (Or.inr (Or.inr ⟨rfl, rfl⟩))) h14 h15 h19 h20 (fun w hw => ?_) (fun w hw => ?_)
          · show (if (13 : Nat) = 13 ∧ (0 : Nat) = 0 ∧ w = (z : Int).toNat then (0 : Int) else ag_I ν 13 0 w) = 0
            by_cases q : w = z
            · rw [if_pos ⟨rfl, rfl, q⟩]
            · rw [if_neg (fun y => q y.2.2)]; exact h13 w (by omega)
          · show (if (11 : Nat) = 11 ∧ (30 : Nat) = 30 ∧ w = (z : Int).toNat then _ else ag_I ν 11 30 w) = R0_ w
            by_cases q : w = z
            · rw [if_pos ⟨rfl, rfl, q⟩, q]; have q4 : z = 0 ∨ z = 1 ∨ z = 2 ∨ z = 3 := by omega
              rcases q4 with e | e | e | e <;> rw [e] <;> first | rfl | (exfalso; omega)
            · rw [if_neg (fun y => q y.2.2)]; exact h30 w (by omega)
        · refine wg_s rfl rfl ?_
          refine wg_s rfl rfl ?_
          refine wg_ias rfl hM2 rfl (by omega) (by omega) ?_
          refine wg_iinc rfl rfl rfl (by omega) (by omega) rfl ?_
          refine wg_s rfl rfl ?_
          refine ih (z + 1) _ (by omega) (by omega) (SP_set (SP_set hP (Or.inr (Or.inl ⟨rfl, rfl⟩))) (Or.inr (Or.inr ⟨rfl, rfl⟩))) h14 h15 h19 h20 (fun w hw => ?_) (fun w hw => ?_)
          · show (if (13 : Nat) = 13 ∧ (0 : Nat) = 0 ∧ w = (z : Int).toNat then (0 : Int) else ag_I ν 13 0 w) = 0
            by_cases q : w = z
            · rw [if_pos ⟨rfl, rfl, q⟩]
            · rw [if_neg (fun y => q y.2.2)]; exact h13 w (by omega)
          · show (if (11 : Nat) = 11 ∧ (30 : Nat) = 30 ∧ w = (z : Int).toNat then _ else ag_I ν 11 30 w) = R0_ w
            by_cases q : w = z
            · rw [if_pos ⟨rfl, rfl, q⟩, q]; have q4 : z = 0 ∨ z = 1 ∨ z = 2 ∨ z = 3 := by omega
              rcases q4 with e | e | e | e <;> rw [e] <;> first | rfl | (exfalso; omega)
            · rw [if_neg (fun y => q y.2.2)]; exact h30 w (by omega)
      · refine wg_s rfl rfl ?_
        refine wg_s rfl rfl ?_
        refine wg_ias rfl hM2 rfl (by omega) (by omega) ?_
        refine wg_iinc rfl rfl rfl (by omega) (by omega) rfl ?_
        refine wg_s rfl rfl ?_
        refine ih (z + 1) _ (by omega) (by omega) (SP_set (SP_set hP (Or.inr (Or.inl ⟨rfl, rfl⟩))) (Or.inr (Or.inr ⟨rfl, rfl⟩))) h14 h15 h19 h20 (fun w hw => ?_) (fun w hw => ?_)
        · show (if (13 : Nat) = 13 ∧ (0 : Nat) = 0 ∧ w = (z : Int).toNat then (0 : Int) else ag_I ν 13 0 w) = 0
          by_cases q : w = z
          · rw [if_pos ⟨rfl, rfl, q⟩]
          · rw [if_neg (fun y => q y.2.2)]; exact h13 w (by omega)
        · show (if (11 : Nat) = 11 ∧ (30 : Nat) = 30 ∧ w = (z : Int).toNat then _ else ag_I ν 11 30 w) = R0_ w
          by_cases q : w = z
          · rw [if_pos ⟨rfl, rfl, q⟩, q]; have q4 : z = 0 ∨ z = 1 ∨ z = 2 ∨ z = 3 := by omega
            rcases q4 with e | e | e | e <;> rw [e] <;> first | rfl | (exfalso; omega)
          · rw [if_neg (fun y => q y.2.2)]; exact h30 w (by omega)
theorem cl_rng (T : Nat → Int) (l : Nat) (S : Nat → Bool) (a : Nat) : 0 ≤ (cl T l S a).1 := by
  unfold cl
  repeat' split
  all_goals simp
theorem pa_rng (T : Nat → Int) (l : Nat) : ∀ (c a : Nat) (S : Nat → Bool) (R : Nat → Int), 0 ≤ (pa T l c a S R).1
  | 0, _, _, _ => Int.le_refl 0
  | c + 1, a, S, R => by
    unfold pa
    split
    · exact Int.le_refl 0
    · split
      · exact cl_rng T l S a
      · exact pa_rng T l c _ _ _
theorem sp_magreement (d : Nat) (μ : ab_M) (hW : WM μ) : Wp (d + 7) 142 [ab_r 10 (some 0)] μ (fun v ν => v = some (ab_i (if (m_pa μ).1 = 0 then (m_pa μ).2.2.1 else -1)) ∧ SQ μ ν ∧ ag_I ν 10 0 14 = 0 ∧ ag_I ν 10 0 21 = (m_pa μ).1 ∧ ag_I ν 10 0 22 = (m_pa μ).2.1 ∧ ∀ w, w < 4 → ag_I ν 11 31 w = if (m_pa μ).1 = 0 then (m_pa μ).2.2.2 w else ag_I μ 11 31 w) := by
  refine wp_of ?_
  obtain ⟨hM, h1, h6, h26, h0, h14⟩ := id hW
  refine wg_s rfl rfl ?_
  refine wg_gi rfl rfl (show _ = (((ag_I μ 10 0 14).toNat : Nat) : Int) from (by omega)) ?_
  refine wg_s rfl rfl ?_
  refine wg_s rfl rfl ?_
  refine wg_s rfl rfl ?_
  refine wg_s rfl rfl ?_
  refine wg_s rfl rfl ?_
  refine wg_s rfl rfl ?_
  refine wg_s rfl rfl ?_
  refine wg_s rfl rfl ?_
  refine wg_s rfl rfl ?_
  refine wg_s rfl rfl ?_
  refine wg_s rfl rfl ?_
  refine wg_s rfl rfl ?_
  refine wg_s rfl rfl ?_
  refine wg_s rfl rfl ?_
  refine wg_s rfl rfl ?_
  refine wg_s rfl rfl ?_
  refine wg_s rfl rfl ?_
  refine lp_ini (d := d + 6) (μ := μ) hM (fun ν p0 p14 p15 p19 p20 p13 p30 => ?_) 5 0 _ (by omega) (by omega) (SP_set (SP_set (SP_set (SP_set (SP_refl μ) (Or.inl ⟨rfl, rfl, by omega, by omega⟩)) (Or.inl ⟨rfl, rfl, by omega, by omega⟩)) (Or.inl ⟨rfl, rfl, by omega, by omega⟩)) (Or.inl ⟨rfl, rfl, by omega, by omega⟩)) rfl rfl rfl rfl (fun w hw => absurd hw (Nat.not_lt_zero w)) (fun w hw => absurd hw (Nat.not_lt_zero w))
  have hP : PR μ ν S0_ R0_ := ⟨p0, p13, p30, p19, p20, p14⟩
  refine wg_s rfl rfl ?_
  refine wg_s rfl rfl ?_
  refine wg_call rfl rfl (sp_mnext2 (d := d + 2) (a := 0) hM hP (by omega) (by omega) p15) (fun v ν2 h => ?_)
  obtain ⟨rfl, hP2, hT2⟩ := h
  refine lp_agr hM (by omega) 5 0 S0_ R0_ ν2 0 (by decide) (by omega) (by omega) (by omega) hP2 hT2 (fun ν3 n3 k1 k2 k3 k4 k5 => ?_)
  have hpr : 0 ≤ (m_pa μ).1 := pa_rng (T_ μ) (ag_I μ 10 0 14).toNat 5 0 S0_ R0_
  refine wg_s rfl rfl ?_
  refine wg_s rfl rfl ?_
  refine wg_gi rfl rfl (show _ = (m_pa μ).1 from k3) ?_
  refine wg_s rfl rfl ?_
  refine wg_s rfl rfl ?_
  refine wg_s rfl rfl ?_
  refine wg_gi rfl rfl (show _ = (m_pa μ).2.1 from k4) ?_
  refine wg_s rfl rfl ?_
  refine wg_s rfl rfl ?_
  refine wg_gi rfl rfl (show _ = (m_pa μ).1 from k3) ?_
  refine wg_if rfl rfl (fun h123 => ?_) (fun h123 => ?_)
  · refine wg_s rfl rfl ?_
    refine wg_s rfl rfl ?_
    have hc : (m_pa μ).1 = 0 := by omega
    refine lp_rules (d := d + 6) (r1 := (m_pa μ).1) (r2 := (m_pa μ).2.1) (R := (m_pa μ).2.2.2) hM (fun ν4 q1 q2 q3 q4 q5 => ⟨?_, q1, q2, q3, q4, fun w hw => ?_⟩) 5 0 _ (by omega) (by omega) (SQ_set (SQ_set (SQ_P k1) (Or.inl ⟨rfl, rfl, by omega, by omega⟩)) (Or.inl ⟨rfl, rfl, by omega, by omega⟩)) k2 rfl rfl (k5 hc).2 (fun w hw => absurd hw (Nat.not_lt_zero w))
    · rw [if_pos hc, (k5 hc).1, Int.zero_add]
    · rw [if_pos hc]; exact q5 w hw
  · refine wg_s rfl rfl ?_
    have hc : ¬ ((m_pa μ).1 = 0) := by omega
    refine wg_ret rfl rfl trivial ⟨by rw [if_neg hc], SQ_set (SQ_set (SQ_P k1) (Or.inl ⟨rfl, rfl, by omega, by omega⟩)) (Or.inl ⟨rfl, rfl, by omega, by omega⟩), k2, rfl, rfl, fun w hw => ?_⟩
    rw [if_neg hc]; exact SP_i k1 11 31 w (by unfold scP; omega)
