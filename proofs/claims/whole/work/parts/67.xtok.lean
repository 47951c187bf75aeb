/-! ===== the agreement: bytes with and without a sign; words and numbers ===== -/
theorem run_cong (f : Int → Bool) (T U : Nat → Int) : ∀ c a, (∀ i, a ≤ i → i < a + c → f (T i) = f (U i)) → run f T c a = run f U c a
  | 0, a, _ => rfl
  | c + 1, a, h => by
    unfold run
    rw [h a (by omega) (by omega), run_cong f T U c (a + 1) (fun i h1 h2 => h i (by omega) (by omega))]
def tu (T U : Nat → Int) (l : Nat) : Prop := ∀ i, i < l → T i = U i ∨ (T i < 0 ∧ 128 ≤ U i)
theorem tu_bk {T U : Nat → Int} {l i : Nat} (h : tu T U l) (hi : i < l) : bk (T i) = bk (U i) := by
  rcases h i hi with e | ⟨a, b⟩
  · rw [e]
  · unfold bk; rw [decide_eq_false (by omega), decide_eq_false (by omega)]
theorem tu_lt {T U : Nat → Int} {l i : Nat} (h : tu T U l) (hi : i < l) : lt (T i) = lt (U i) := by
  rcases h i hi with e | ⟨a, b⟩
  · rw [e]
  · unfold lt; rw [decide_eq_false (by omega), decide_eq_false (by omega)]
theorem tu_dg {T U : Nat → Int} {l i : Nat} (h : tu T U l) (hi : i < l) : dg (T i) = dg (U i) := by
  rcases h i hi with e | ⟨a, b⟩
  · rw [e]
  · unfold dg; rw [decide_eq_false (by omega), decide_eq_false (by omega)]
theorem tu_lte {T U : Nat → Int} {l i : Nat} (h : tu T U l) (hi : i < l) (q : lt (T i) = true ∨ dg (T i) = true) : T i = U i := by
  rcases h i hi with e | ⟨a, b⟩
  · exact e
  · rcases q with q | q
    · have := lt_t.mp q; omega
    · have := dg_t.mp q; omega
theorem ts_rng {T : Nat → Int} {l a : Nat} (h : a ≤ l) : a ≤ t_s T l a ∧ t_s T l a ≤ l := by
  have := run_rng bk T (l - a) a
  unfold t_s; omega
theorem tx_rng {T : Nat → Int} {l s : Nat} (h : s ≤ l) : s ≤ t_x T l s ∧ t_x T l s ≤ l := by
  have h1 := run_rng lt T (l - s) s
  have h2 := run_rng dg T (l - s) s
  unfold t_x
  repeat' split
  all_goals omega
theorem ts_c {T U : Nat → Int} {l a : Nat} (h : tu T U l) (ha : a ≤ l) : t_s T l a = t_s U l a := run_cong bk T U _ _ (fun i _ h2 => tu_bk h (by omega))
theorem tx_c {T U : Nat → Int} {l s : Nat} (h : tu T U l) (hs : s ≤ l) : t_x T l s = t_x U l s := by
  unfold t_x
  by_cases e : s = l
  · rw [if_pos e, if_pos e]
  · rw [if_neg e, if_neg e, tu_lt h (by omega), tu_dg h (by omega), run_cong lt T U _ _ (fun i _ h2 => tu_lt h (by omega)), run_cong dg T U _ _ (fun i _ h2 => tu_dg h (by omega))]
theorem hs_c {T U : Nat → Int} (s : Nat) : ∀ n, (∀ i, i < n → T (s + i) = U (s + i)) → hs T s n = hs U s n
  | 0, _ => rfl
  | n + 1, h => by unfold hs; rw [hs_c s n (fun i hi => h i (by omega)), h n (by omega)]
theorem nu_c {T U : Nat → Int} (s : Nat) : ∀ n, (∀ i, i < n → T (s + i) = U (s + i)) → nu T s n = nu U s n
  | 0, _ => rfl
  | n + 1, h => by unfold nu; rw [nu_c s n (fun i hi => h i (by omega)), h n (by omega)]
theorem tx_lt {T : Nat → Int} {l s : Nat} (h : s < l) (q : lt (T s) = true) : ∀ i, s ≤ i → i < t_x T l s → lt (T i) = true := by
  intro i h1 h2
  unfold t_x at h2
  rw [if_neg (by omega), if_pos q] at h2
  exact run_all lt T _ s i h1 h2
theorem tx_dg {T : Nat → Int} {l s : Nat} (h : s < l) (q : ¬ lt (T s) = true) (q2 : dg (T s) = true) : ∀ i, s ≤ i → i < t_x T l s → dg (T i) = true := by
  intro i h1 h2
  unfold t_x at h2
  rw [if_neg (by omega), if_neg q, if_pos q2] at h2
  exact run_all dg T _ s i h1 h2
theorem tv_c {T U : Nat → Int} {l s : Nat} (h : tu T U l) (hs : s < l) (q : lt (T s) = true ∨ dg (T s) = true) : t_v T l s = t_v U l s := by
  have hx := tx_rng (T := T) (l := l) (s := s) (by omega)
  unfold t_v
  rw [← tx_c h (by omega), ← tu_lt h hs]
  by_cases e : lt (T s) = true
  · rw [if_pos e, if_pos e, hs_c (T := T) (U := U) s _ (fun i hi => tu_lte h (by omega) (Or.inl (tx_lt hs e (s + i) (by omega) (by omega))))]
  · have e2 : dg (T s) = true := by rcases q with q | q; exact absurd q e; exact q
    rw [if_neg e, if_neg e, nu_c (T := T) (U := U) s _ (fun i hi => tu_lte h (by omega) (Or.inr (tx_dg hs e e2 (s + i) (by omega) (by omega))))]
theorem tk_c {T U : Nat → Int} {l s : Nat} (h : tu T U l) (hs : s ≤ l) : t_k T l s = t_k U l s := by
  unfold t_k
  by_cases e : s = l
  · rw [if_pos e, if_pos e]
  · rw [if_neg e, if_neg e, ← tu_lt h (by omega), ← tu_dg h (by omega)]
    by_cases e1 : lt (T s) = true
    · rw [if_pos e1, if_pos e1, tv_c h (by omega) (Or.inl e1)]
    · rw [if_neg e1, if_neg e1]
      by_cases e2 : dg (T s) = true
      · rw [if_pos e2, if_pos e2]
      · rw [if_neg e2, if_neg e2]
        rcases h s (by omega) with q | ⟨q1, q2⟩
        · rw [q]
        · rw [if_neg (by omega), if_neg (by omega)]
theorem tk_12 {T : Nat → Int} {l s : Nat} (hs : s ≤ l) (h : t_k T l s = 1 ∨ t_k T l s = 2) : s < l ∧ (lt (T s) = true ∨ dg (T s) = true) := by
  unfold t_k at h
  by_cases e : s = l
  · rw [if_pos e] at h; omega
  · rw [if_neg e] at h
    refine ⟨by omega, ?_⟩
    by_cases e1 : lt (T s) = true
    · exact Or.inl e1
    · rw [if_neg e1] at h
      by_cases e2 : dg (T s) = true
      · exact Or.inr e2
      · rw [if_neg e2] at h
        split at h <;> omega
theorem cl_c {T U : Nat → Int} {l a : Nat} (S : Nat → Bool) (h : tu T U l) (ha : a ≤ l) : cl T l S a = cl U l S a := by
  have h1 := ts_rng (T := T) ha
  have h2 := tx_rng (T := T) h1.2
  have h3 := ts_rng (T := T) h2.2
  have h4 := tx_rng (T := T) h3.2
  have h5 := ts_rng (T := T) h4.2
  have h6 := tx_rng (T := T) h5.2
  unfold cl
  rw [← ts_c h ha, ← tx_c h h1.2, ← ts_c h h2.2, ← tx_c h h3.2, ← ts_c h h4.2, ← tx_c h h5.2, ← tk_c h h1.2, ← tk_c h h3.2, ← tk_c h h5.2]
  by_cases e1 : t_k T l (t_s T l a) = 1
  · have q1 := tk_12 h1.2 (Or.inl e1)
    rw [← tv_c h q1.1 q1.2]
    by_cases e2 : t_k T l (t_s T l (t_x T l (t_s T l a))) = 2
    · have q2 := tk_12 h3.2 (Or.inr e2)
      rw [← tv_c h q2.1 q2.2]
    · simp only [if_pos (show t_k T l (t_s T l (t_x T l (t_s T l a))) ≠ 2 from e2)]
  · rw [if_pos e1, if_pos e1]
theorem cl_a {T : Nat → Int} {l a : Nat} (S : Nat → Bool) (ha : a ≤ l) : (cl T l S a).2.2.1 ≤ l := by
  have h1 := ts_rng (T := T) ha
  have h2 := tx_rng (T := T) h1.2
  have h3 := ts_rng (T := T) h2.2
  have h4 := tx_rng (T := T) h3.2
  have h5 := ts_rng (T := T) h4.2
  have h6 := tx_rng (T := T) h5.2
  unfold cl
  repeat' split
  all_goals first | exact Nat.zero_le _ | exact h6.2
theorem pa_c {T U : Nat → Int} {l : Nat} (h : tu T U l) : ∀ c a S R, a ≤ l → pa T l c a S R = pa U l c a S R
  | 0, _, _, _, _ => rfl
  | c + 1, a, S, R, ha => by
    have h1 := ts_rng (T := T) ha
    have h2 := cl_a (T := T) S ha
    unfold pa
    rw [← cl_c S h ha, ← ts_c h ha, ← tk_c h h1.2, pa_c h c _ _ _ h2]
/-! the class's words and numbers -/
def sp_w (U : Nat → Int) (s e w : Nat) : Bool := decide (e - s = ab_bl.getD w 0) && decide (∀ i, i < ab_bl.getD w 0 → U (s + i) = (ab_bt.getD w []).getD i 0)
def x_w (U : Nat → Int) (s e : Nat) : Int := if sp_w U s e 0 = true then 0 else if sp_w U s e 1 = true then 1 else if sp_w U s e 2 = true then 2 else if sp_w U s e 3 = true then 3 else -1
def x_nu (U : Nat → Int) (s : Nat) : Nat → Int
  | 0 => 0
  | n + 1 => min (x_nu U s n * 10 + U (s + n) - 48) 1000
theorem xnu_eq (U : Nat → Int) (s : Nat) : ∀ n, (∀ i, i < n → dg (U (s + i)) = true) → x_nu U s n = min (nu U s n) 1000
  | 0, _ => by show (0 : Int) = min 0 1000; omega
  | n + 1, h => by
    have q := dg_t.mp (h n (by omega))
    have r := nu_rng U s n (fun i hi => h i (by omega))
    unfold x_nu nu
    rw [xnu_eq U s n (fun i hi => h i (by omega))]
    split <;> omega
theorem xnu_rng (U : Nat → Int) (s : Nat) (n : Nat) (h : ∀ i, i < n → dg (U (s + i)) = true) : 0 ≤ x_nu U s n ∧ x_nu U s n ≤ 1000 := by
  have r := nu_rng U s n h
  rw [xnu_eq U s n h]; omega
theorem spw_i {U : Nat → Int} {s e w : Nat} : sp_w U s e w = true ↔ e - s = ab_bl.getD w 0 ∧ ∀ i, i < ab_bl.getD w 0 → U (s + i) = (ab_bt.getD w []).getD i 0 := by
  unfold sp_w
  rw [Bool.and_eq_true, decide_eq_true_eq, decide_eq_true_eq]
theorem spw_0 {U : Nat → Int} {s e : Nat} : sp_w U s e 0 = true ↔ e - s = 5 ∧ U s = 104 ∧ U (s + 1) = 111 ∧ U (s + 2) = 117 ∧ U (s + 3) = 114 ∧ U (s + 4) = 115 := by
  rw [spw_i]
  constructor
  · rintro ⟨h, q⟩
    exact ⟨h, q 0 (by decide), q 1 (by decide), q 2 (by decide), q 3 (by decide), q 4 (by decide)⟩
  · rintro ⟨h, q⟩
    refine ⟨h, fun i hi => ?_⟩
    have hi2 : i < 5 := hi
    rcases (show i = 0 ∨ i = 1 ∨ i = 2 ∨ i = 3 ∨ i = 4 by omega) with rfl | rfl | rfl | rfl | rfl
    · exact q.1
    · exact q.2.1
    · exact q.2.2.1
    · exact q.2.2.2.1
    · exact q.2.2.2.2
theorem spw_1 {U : Nat → Int} {s e : Nat} : sp_w U s e 1 = true ↔ e - s = 6 ∧ U s = 110 ∧ U (s + 1) = 105 ∧ U (s + 2) = 103 ∧ U (s + 3) = 104 ∧ U (s + 4) = 116 ∧ U (s + 5) = 115 := by
  rw [spw_i]
  constructor
  · rintro ⟨h, q⟩
    exact ⟨h, q 0 (by decide), q 1 (by decide), q 2 (by decide), q 3 (by decide), q 4 (by decide), q 5 (by decide)⟩
  · rintro ⟨h, q⟩
    refine ⟨h, fun i hi => ?_⟩
    have hi2 : i < 6 := hi
    rcases (show i = 0 ∨ i = 1 ∨ i = 2 ∨ i = 3 ∨ i = 4 ∨ i = 5 by omega) with rfl | rfl | rfl | rfl | rfl | rfl
    · exact q.1
    · exact q.2.1
    · exact q.2.2.1
    · exact q.2.2.2.1
    · exact q.2.2.2.2.1
    · exact q.2.2.2.2.2
theorem spw_2 {U : Nat → Int} {s e : Nat} : sp_w U s e 2 = true ↔ e - s = 6 ∧ U s = 110 ∧ U (s + 1) = 111 ∧ U (s + 2) = 116 ∧ U (s + 3) = 105 ∧ U (s + 4) = 99 ∧ U (s + 5) = 101 := by
  rw [spw_i]
  constructor
  · rintro ⟨h, q⟩
    exact ⟨h, q 0 (by decide), q 1 (by decide), q 2 (by decide), q 3 (by decide), q 4 (by decide), q 5 (by decide)⟩
  · rintro ⟨h, q⟩
    refine ⟨h, fun i hi => ?_⟩
    have hi2 : i < 6 := hi
    rcases (show i = 0 ∨ i = 1 ∨ i = 2 ∨ i = 3 ∨ i = 4 ∨ i = 5 by omega) with rfl | rfl | rfl | rfl | rfl | rfl
    · exact q.1
    · exact q.2.1
    · exact q.2.2.1
    · exact q.2.2.2.1
    · exact q.2.2.2.2.1
    · exact q.2.2.2.2.2
theorem spw_3 {U : Nat → Int} {s e : Nat} : sp_w U s e 3 = true ↔ e - s = 5 ∧ U s = 116 ∧ U (s + 1) = 114 ∧ U (s + 2) = 105 ∧ U (s + 3) = 97 ∧ U (s + 4) = 108 := by
  rw [spw_i]
  constructor
  · rintro ⟨h, q⟩
    exact ⟨h, q 0 (by decide), q 1 (by decide), q 2 (by decide), q 3 (by decide), q 4 (by decide)⟩
  · rintro ⟨h, q⟩
    refine ⟨h, fun i hi => ?_⟩
    have hi2 : i < 5 := hi
    rcases (show i = 0 ∨ i = 1 ∨ i = 2 ∨ i = 3 ∨ i = 4 by omega) with rfl | rfl | rfl | rfl | rfl
    · exact q.1
    · exact q.2.1
    · exact q.2.2.1
    · exact q.2.2.2.1
    · exact q.2.2.2.2
theorem hs_0 (U : Nat → Int) (s : Nat) : hs U s 0 = 0 := rfl
theorem hs_1 (U : Nat → Int) (s : Nat) : hs U s 1 = 64 * (0) + U s - 64 := rfl
theorem hs_2 (U : Nat → Int) (s : Nat) : hs U s 2 = 64 * (64 * (0) + U s - 64) + U (s + 1) - 64 := rfl
theorem hs_3 (U : Nat → Int) (s : Nat) : hs U s 3 = 64 * (64 * (64 * (0) + U s - 64) + U (s + 1) - 64) + U (s + 2) - 64 := rfl
theorem hs_4 (U : Nat → Int) (s : Nat) : hs U s 4 = 64 * (64 * (64 * (64 * (0) + U s - 64) + U (s + 1) - 64) + U (s + 2) - 64) + U (s + 3) - 64 := rfl
theorem hs_5 (U : Nat → Int) (s : Nat) : hs U s 5 = 64 * (64 * (64 * (64 * (64 * (0) + U s - 64) + U (s + 1) - 64) + U (s + 2) - 64) + U (s + 3) - 64) + U (s + 4) - 64 := rfl
theorem hs_6 (U : Nat → Int) (s : Nat) : hs U s 6 = 64 * (64 * (64 * (64 * (64 * (64 * (0) + U s - 64) + U (s + 1) - 64) + U (s + 2) - 64) + U (s + 3) - 64) + U (s + 4) - 64) + U (s + 5) - 64 := rfl
theorem if_c {a b : Prop} [Decidable a] [Decidable b] {x y z w : Int} (h : a ↔ b) (hx : x = z) (hy : y = w) : (if a then x else y) = (if b then z else w) := by
  subst hx; subst hy
  by_cases q : a
  · rw [if_pos q, if_pos (h.mp q)]
  · rw [if_neg q, if_neg (fun r => q (h.mpr r))]
theorem word_eq {U : Nat → Int} {s e0 : Nat} (h6 : e0 - s ≤ 6) (hse : s ≤ e0) (hl : ∀ i, s ≤ i → i < e0 → lt (U i) = true) : wo (hs U s (e0 - s)) = x_w U s e0 := by
  unfold wo x_w
  obtain ⟨m, rfl⟩ : ∃ m, e0 = s + m := ⟨e0 - s, by omega⟩
  rcases (show m = 0 ∨ m = 1 ∨ m = 2 ∨ m = 3 ∨ m = 4 ∨ m = 5 ∨ m = 6 by omega) with rfl | rfl | rfl | rfl | rfl | rfl | rfl
  · rw [show s + 0 - s = 0 by omega, hs_0]
    exact if_c ⟨fun q => absurd q (by omega), fun q => absurd (spw_0.mp q).1 (by omega)⟩ rfl (if_c ⟨fun q => absurd q (by omega), fun q => absurd (spw_1.mp q).1 (by omega)⟩ rfl (if_c ⟨fun q => absurd q (by omega), fun q => absurd (spw_2.mp q).1 (by omega)⟩ rfl (if_c ⟨fun q => absurd q (by omega), fun q => absurd (spw_3.mp q).1 (by omega)⟩ rfl rfl)))
  · rw [show s + 1 - s = 1 by omega, hs_1]
    have u0 := lt_t.mp (hl s (by omega) (by omega))
    exact if_c ⟨fun q => absurd q (by omega), fun q => absurd (spw_0.mp q).1 (by omega)⟩ rfl (if_c ⟨fun q => absurd q (by omega), fun q => absurd (spw_1.mp q).1 (by omega)⟩ rfl (if_c ⟨fun q => absurd q (by omega), fun q => absurd (spw_2.mp q).1 (by omega)⟩ rfl (if_c ⟨fun q => absurd q (by omega), fun q => absurd (spw_3.mp q).1 (by omega)⟩ rfl rfl)))
  · rw [show s + 2 - s = 2 by omega, hs_2]
    have u0 := lt_t.mp (hl s (by omega) (by omega))
    have u1 := lt_t.mp (hl (s + 1) (by omega) (by omega))
    exact if_c ⟨fun q => absurd q (by omega), fun q => absurd (spw_0.mp q).1 (by omega)⟩ rfl (if_c ⟨fun q => absurd q (by omega), fun q => absurd (spw_1.mp q).1 (by omega)⟩ rfl (if_c ⟨fun q => absurd q (by omega), fun q => absurd (spw_2.mp q).1 (by omega)⟩ rfl (if_c ⟨fun q => absurd q (by omega), fun q => absurd (spw_3.mp q).1 (by omega)⟩ rfl rfl)))
  · rw [show s + 3 - s = 3 by omega, hs_3]
    have u0 := lt_t.mp (hl s (by omega) (by omega))
    have u1 := lt_t.mp (hl (s + 1) (by omega) (by omega))
    have u2 := lt_t.mp (hl (s + 2) (by omega) (by omega))
    exact if_c ⟨fun q => absurd q (by omega), fun q => absurd (spw_0.mp q).1 (by omega)⟩ rfl (if_c ⟨fun q => absurd q (by omega), fun q => absurd (spw_1.mp q).1 (by omega)⟩ rfl (if_c ⟨fun q => absurd q (by omega), fun q => absurd (spw_2.mp q).1 (by omega)⟩ rfl (if_c ⟨fun q => absurd q (by omega), fun q => absurd (spw_3.mp q).1 (by omega)⟩ rfl rfl)))
  · rw [show s + 4 - s = 4 by omega, hs_4]
    have u0 := lt_t.mp (hl s (by omega) (by omega))
    have u1 := lt_t.mp (hl (s + 1) (by omega) (by omega))
    have u2 := lt_t.mp (hl (s + 2) (by omega) (by omega))
    have u3 := lt_t.mp (hl (s + 3) (by omega) (by omega))
    exact if_c ⟨fun q => absurd q (by omega), fun q => absurd (spw_0.mp q).1 (by omega)⟩ rfl (if_c ⟨fun q => absurd q (by omega), fun q => absurd (spw_1.mp q).1 (by omega)⟩ rfl (if_c ⟨fun q => absurd q (by omega), fun q => absurd (spw_2.mp q).1 (by omega)⟩ rfl (if_c ⟨fun q => absurd q (by omega), fun q => absurd (spw_3.mp q).1 (by omega)⟩ rfl rfl)))
  · rw [show s + 5 - s = 5 by omega, hs_5]
    have u0 := lt_t.mp (hl s (by omega) (by omega))
    have u1 := lt_t.mp (hl (s + 1) (by omega) (by omega))
    have u2 := lt_t.mp (hl (s + 2) (by omega) (by omega))
    have u3 := lt_t.mp (hl (s + 3) (by omega) (by omega))
    have u4 := lt_t.mp (hl (s + 4) (by omega) (by omega))
    exact if_c (Iff.trans (by constructor <;> (intro q; omega)) spw_0.symm) rfl (if_c ⟨fun q => absurd q (by omega), fun q => absurd (spw_1.mp q).1 (by omega)⟩ rfl (if_c ⟨fun q => absurd q (by omega), fun q => absurd (spw_2.mp q).1 (by omega)⟩ rfl (if_c (Iff.trans (by constructor <;> (intro q; omega)) spw_3.symm) rfl rfl)))
  · rw [show s + 6 - s = 6 by omega, hs_6]
    have u0 := lt_t.mp (hl s (by omega) (by omega))
    have u1 := lt_t.mp (hl (s + 1) (by omega) (by omega))
    have u2 := lt_t.mp (hl (s + 2) (by omega) (by omega))
    have u3 := lt_t.mp (hl (s + 3) (by omega) (by omega))
    have u4 := lt_t.mp (hl (s + 4) (by omega) (by omega))
    have u5 := lt_t.mp (hl (s + 5) (by omega) (by omega))
    exact if_c ⟨fun q => absurd q (by omega), fun q => absurd (spw_0.mp q).1 (by omega)⟩ rfl (if_c (Iff.trans (by constructor <;> (intro q; omega)) spw_1.symm) rfl (if_c (Iff.trans (by constructor <;> (intro q; omega)) spw_2.symm) rfl (if_c ⟨fun q => absurd q (by omega), fun q => absurd (spw_3.mp q).1 (by omega)⟩ rfl rfl)))
theorem xw_long {U : Nat → Int} {s e : Nat} (h : 6 < e - s) : x_w U s e = -1 := by
  unfold x_w
  rw [if_neg (fun q => by have := (spw_0.mp q).1; omega), if_neg (fun q => by have := (spw_1.mp q).1; omega), if_neg (fun q => by have := (spw_2.mp q).1; omega), if_neg (fun q => by have := (spw_3.mp q).1; omega)]
theorem xw_rng (U : Nat → Int) (s e : Nat) : -1 ≤ x_w U s e ∧ x_w U s e ≤ 3 := by
  unfold x_w; repeat' split
  all_goals omega
/-- the sort of a token, as the class tells it -/
def x_kk (y : Int) : Int := if y = -1 then 4 else if lt y = true then 1 else if dg y = true then 2 else if y = 59 then 3 else 0
def x_b (U : Nat → Int) (l i : Nat) : Int := if i < l then U i else -1
def x_k (U : Nat → Int) (l s : Nat) : Int := x_kk (x_b U l s)
theorem xk_l {U : Nat → Int} {l s : Nat} (hs : s < l) (h0 : 0 ≤ U s) : x_k U l s = if lt (U s) = true then 1 else if dg (U s) = true then 2 else if U s = 59 then 3 else 0 := by
  unfold x_k x_b x_kk
  rw [if_pos hs, if_neg (by omega)]
theorem xk_e {U : Nat → Int} {l : Nat} : x_k U l l = 4 := by
  unfold x_k x_b
  rw [if_neg (show ¬ l < l by omega)]; rfl
theorem tv_w {U : Nat → Int} {l s : Nat} (hs : s < l) (h : lt (U s) = true) : t_v U l s = x_w U s (t_x U l s) := by
  have h1 := tx_rng (T := U) (l := l) (s := s) (by omega)
  unfold t_v
  rw [if_pos h]
  by_cases e : 6 < t_x U l s - s
  · rw [if_pos e, xw_long e]
  · rw [if_neg e]; exact word_eq (by omega) h1.1 (tx_lt hs h)
/-- a known word, a number, a semicolon, the end: both tell the same -/
theorem tk_1 {U : Nat → Int} {l s : Nat} (hs : s ≤ l) (h0 : ∀ i, i < l → 0 ≤ U i) : t_k U l s = 1 ↔ x_k U l s = 1 ∧ 0 ≤ x_w U s (t_x U l s) := by
  by_cases e : s = l
  · subst e; rw [xk_e]; unfold t_k; rw [if_pos rfl]; constructor <;> (intro q; omega)
  · rw [xk_l (by omega) (h0 s (by omega))]
    unfold t_k
    rw [if_neg e]
    by_cases e1 : lt (U s) = true
    · rw [if_pos e1, if_pos e1, tv_w (by omega) e1]; split <;> constructor <;> (intro q; omega)
    · rw [if_neg e1, if_neg e1]; repeat' split
      all_goals (constructor <;> (intro q; omega))
theorem tk_2 {U : Nat → Int} {l s : Nat} (hs : s ≤ l) (h0 : ∀ i, i < l → 0 ≤ U i) : t_k U l s = 2 ↔ x_k U l s = 2 := by
  by_cases e : s = l
  · subst e; rw [xk_e]; unfold t_k; rw [if_pos rfl]; constructor <;> (intro q; omega)
  · rw [xk_l (by omega) (h0 s (by omega))]
    unfold t_k
    rw [if_neg e]
    repeat' split
    all_goals (constructor <;> (intro q; omega))
theorem tk_3 {U : Nat → Int} {l s : Nat} (hs : s ≤ l) (h0 : ∀ i, i < l → 0 ≤ U i) : t_k U l s = 3 ↔ x_k U l s = 3 := by
  by_cases e : s = l
  · subst e; rw [xk_e]; unfold t_k; rw [if_pos rfl]; constructor <;> (intro q; omega)
  · rw [xk_l (by omega) (h0 s (by omega))]
    unfold t_k
    rw [if_neg e]
    repeat' split
    all_goals (constructor <;> (intro q; omega))
theorem tk_0 {U : Nat → Int} {l s : Nat} (hs : s ≤ l) (h0 : ∀ i, i < l → 0 ≤ U i) : t_k U l s = 0 ↔ x_k U l s = 4 := by
  by_cases e : s = l
  · subst e; rw [xk_e]; unfold t_k; rw [if_pos rfl]; constructor <;> (intro q; omega)
  · rw [xk_l (by omega) (h0 s (by omega))]
    unfold t_k
    rw [if_neg e]
    repeat' split
    all_goals (constructor <;> (intro q; omega))
