/-! ===== what the relation looks at ===== -/
def xrel (t n k : Nat) : Prop := (t = 0 ∧ n = 0 ∧ (k = 3 ∨ k = 4)) ∨ (3 ≤ t ∧ t ≤ 9) ∨ (t = 11 ∧ (n = 0 ∨ 46 ≤ n)) ∨ 20 ≤ t
def XE (μ μ' : ab_M) : Prop := (∀ t n k, xrel t n k → ag_I μ' t n k = ag_I μ t n k) ∧ (∀ t n k, t ≠ 2 → t ≠ 10 → ag_R μ' t n k = ag_R μ t n k) ∧ (∀ t n, t ≠ 2 → ag_L μ' t n = ag_L μ t n) ∧ (∀ t, t ≠ 2 → ag_C μ' t = ag_C μ t)
theorem xs_n_2 {t n b s : Nat} (h : xs_n t n b = some s) : t ≠ 2 ∧ t ≠ 10 := by
  constructor <;> (intro e; subst e; unfold xs_n at h; cases hn : Nat.beq n 0 <;> rw [hn] at h <;> exact absurd (show (none : Option Nat) = some s from h) (by simp))
theorem xs_l_2 {t n N : Nat} (h : xs_l t n = some N) : t ≠ 2 := by
  intro e; subst e; exact absurd (show (none : Option Nat) = some N from h) (by simp)
theorem XF_E {μ μ' : ab_M} (h : XE μ μ') (hX : XF μ) : XF μ' := by
  obtain ⟨hi, hr, hl, hc⟩ := h
  obtain ⟨a, b, c, d⟩ := hX
  refine ⟨fun t n b s q => ?_, fun t n N q => ?_, fun i hi => ⟨?_, ?_⟩, fun k hk => ⟨?_, ?_, ?_⟩⟩
  · exact (hr t n b (xs_n_2 q).1 (xs_n_2 q).2).trans (a t n b s q)
  · exact (hl t n (xs_l_2 q)).trans (b t n N q)
  · exact (hr 18 0 i (by omega) (by omega)).trans (c i hi).1
  · exact (hr 18 1 i (by omega) (by omega)).trans (c i hi).2
  · exact (hr 16 0 k (by omega) (by omega)).trans (d k hk).1
  · exact (hr 5 k 0 (by omega) (by omega)).trans (d k hk).2.1
  · exact (hl 17 k (by omega)).trans (d k hk).2.2
theorem XC_E {ν μ μ' : ab_M} (h : XE μ μ') (hX : XC ν μ) : XC ν μ' := by
  obtain ⟨hi, hr, hl, hc⟩ := h
  obtain ⟨a, b, c, d, e, f, g⟩ := hX
  refine ⟨(hi 9 0 7 (by unfold xrel; omega)).trans a, (hi 9 0 8 (by unfold xrel; omega)).trans b, (hi 9 0 9 (by unfold xrel; omega)).trans c, (hc 4 (by omega)).trans d, (hc 3 (by omega)).trans e, (hc 6 (by omega)).trans f, ?_⟩
  rw [hc 11 (by omega)]; exact g
theorem XH_E {ν μ μ' : ab_M} {hl hw : Nat → Nat} {ow : Nat → Nat × Nat} (h : XE μ μ') (hX : XH ν μ hl hw ow) : XH ν μ' hl hw ow := by
  obtain ⟨hi, hr, hL, hc⟩ := h
  intro n hn
  obtain ⟨e15, ⟨e40, e41, e42, e43⟩, ⟨e44, e45, e46⟩, ⟨hL8, hL501⟩, hrng, how, hlk, hwk⟩ := hX n hn
  refine ⟨(hr 15 0 n (by omega) (by omega)).trans e15, ⟨(hi 4 n 0 (by unfold xrel; omega)).trans e40, (hi 4 n 1 (by unfold xrel; omega)).trans e41, (hi 4 n 2 (by unfold xrel; omega)).trans e42, (hi 4 n 3 (by unfold xrel; omega)).trans e43⟩, ⟨(hr 4 n 4 (by omega) (by omega)).trans e44, (hr 4 n 5 (by omega) (by omega)).trans e45, (hr 4 n 6 (by omega) (by omega)).trans e46⟩, ⟨(hL 11 _ (by omega)).trans hL8, (hL 11 _ (by omega)).trans hL501⟩, ?_, how, fun p hp => (hi 11 _ p (by unfold xrel; omega)).trans (hlk p hp), fun q w hw => (hi 11 _ w (by unfold xrel; omega)).trans (hwk q w hw)⟩
  rw [hc 11 (by omega)]; exact hrng
theorem XP_E {ν μ μ' : ab_M} {pl : Nat → Nat} {ow : Nat → Nat × Nat} (h : XE μ μ') (hX : XP ν μ pl ow) : XP ν μ' pl ow := by
  obtain ⟨hi, hr, hL, hc⟩ := h
  intro n hn
  obtain ⟨p14, ⟨p30, p31, p32, p34⟩, ⟨p33, p35⟩, pL8, prng, pow, plk⟩ := hX n hn
  refine ⟨(hr 14 0 n (by omega) (by omega)).trans p14, ⟨(hi 3 n 0 (by unfold xrel; omega)).trans p30, (hi 3 n 1 (by unfold xrel; omega)).trans p31, (hi 3 n 2 (by unfold xrel; omega)).trans p32, (hi 3 n 4 (by unfold xrel; omega)).trans p34⟩, ⟨(hr 3 n 3 (by omega) (by omega)).trans p33, (hr 3 n 5 (by omega) (by omega)).trans p35⟩, (hL 11 _ (by omega)).trans pL8, ?_, pow, fun p hp => (hi 11 _ p (by unfold xrel; omega)).trans (plk p hp)⟩
  rw [hc 11 (by omega)]; exact prng
theorem XL_E {ν μ μ' : ab_M} {tm : Nat → Nat} (h : XE μ μ') (hX : XL ν μ tm) : XL ν μ' tm := by
  obtain ⟨hi, hr, hL, hc⟩ := h
  intro j hj
  obtain ⟨⟨j0, j1, j3, j4⟩, ⟨j2, jt⟩, jr, j17⟩ := hX j hj
  refine ⟨⟨(hi 6 j 0 (by unfold xrel; omega)).trans j0, (hi 6 j 1 (by unfold xrel; omega)).trans j1, (hi 6 j 3 (by unfold xrel; omega)).trans j3, (hi 6 j 4 (by unfold xrel; omega)).trans j4⟩, ⟨(hr 6 j 2 (by omega) (by omega)).trans j2, ?_⟩, fun b hb => (hi 8 _ b (by unfold xrel; omega)).trans (jr b hb), (hr 17 _ _ (by omega) (by omega)).trans j17⟩
  rw [hc 8 (by omega)]; exact jt
theorem IX_E {ν μ μ' : ab_M} {hl hw pl tm : Nat → Nat} {ow : Nat → Nat × Nat} {tc : Nat} (h : XE μ μ') (hX : IX ν μ hl hw pl tm ow tc) : IX ν μ' hl hw pl tm ow tc := by
  obtain ⟨hF, hC, hH, hP, hL, hK, hT, hR, hS⟩ := hX
  refine ⟨XF_E h hF, XC_E h hC, XH_E h hH, XP_E h hP, XL_E h hL, fun k hk => (h.1 5 k 1 (by unfold xrel; omega)).trans (hK k hk), ⟨(h.1 7 0 1 (by unfold xrel; omega)).trans hT.1, fun i hi => (h.1 11 0 i (by unfold xrel; omega)).trans (hT.2 i hi)⟩, ⟨⟨(h.1 0 0 3 (by unfold xrel; omega)).trans hR.1.1, (h.1 0 0 4 (by unfold xrel; omega)).trans hR.1.2⟩, ⟨(h.2.1 9 0 6 (by omega) (by omega)).trans hR.2.1.1, ?_⟩, fun b hb => (h.1 8 tc b (by unfold xrel; omega)).trans (hR.2.2 b hb)⟩, ⟨fun w hw => ⟨(h.1 20 0 w (by unfold xrel; omega)).trans (hS.1 w hw).1, (h.1 20 1 w (by unfold xrel; omega)).trans (hS.1 w hw).2⟩, fun n hn => ⟨(h.1 21 n 1 (by unfold xrel; omega)).trans (hS.2 n hn).1, fun k hk => (h.1 22 n k (by unfold xrel; omega)).trans ((hS.2 n hn).2 k hk)⟩⟩⟩
  rw [h.2.2.2 8 (by omega)]; exact hR.2.1.2
/-- the reference's part stays -/
def mrel (t n : Nat) : Prop := t = 10 ∨ t = 12 ∨ t = 13 ∨ (t = 11 ∧ 20 ≤ n ∧ n < 46) ∨ t = 20
def MK (μ μ' : ab_M) : Prop := (∀ t n k, mrel t n → ag_I μ' t n k = ag_I μ t n k) ∧ (∀ n k, ag_R μ' 10 n k = ag_R μ 10 n k) ∧ (∀ t n, mrel t n → ag_L μ' t n = ag_L μ t n)
theorem MK_refl (μ : ab_M) : MK μ μ := ⟨fun _ _ _ _ => rfl, fun _ _ => rfl, fun _ _ _ => rfl⟩
theorem XE_refl (μ : ab_M) : XE μ μ := ⟨fun _ _ _ _ => rfl, fun _ _ _ _ _ => rfl, fun _ _ _ => rfl, fun _ _ => rfl⟩
theorem XE_trans {a b c : ab_M} (h : XE a b) (k : XE b c) : XE a c := ⟨fun t n i q => (k.1 t n i q).trans (h.1 t n i q), fun t n i q r => (k.2.1 t n i q r).trans (h.2.1 t n i q r), fun t n q => (k.2.2.1 t n q).trans (h.2.2.1 t n q), fun t q => (k.2.2.2 t q).trans (h.2.2.2 t q)⟩
theorem MK_trans {a b c : ab_M} (h : MK a b) (k : MK b c) : MK a c := ⟨fun t n i q => (k.1 t n i q).trans (h.1 t n i q), fun n i => (k.2.1 n i).trans (h.2.1 n i), fun t n q => (k.2.2 t n q).trans (h.2.2 t n q)⟩
/-- a new fraction -/
theorem XE_N2 (μ : ab_M) (len sl : Nat) : XE μ (as_N μ 2 len sl) := by
  refine ⟨fun t n k q => ?_, fun t n k q _ => ?_, fun t n q => ?_, fun t q => ?_⟩
  · show ab_z3 μ.1 2 (ag_C μ 2) 0 t n k = _
    have : t ≠ 2 := by unfold xrel at q; omega
    unfold ab_z3; simp [this]; rfl
  · show ab_z3 μ.2.2.1 2 (ag_C μ 2) none t n k = _
    unfold ab_z3; simp [q]; rfl
  · show (if t = 2 ∧ n = ag_C μ 2 then len else μ.2.2.2.1 t n) = _
    rw [if_neg (fun w => q w.1)]; rfl
  · show (if t = 2 then ag_C μ 2 + 1 else μ.2.2.2.2.1 t) = _
    rw [if_neg q]; rfl
theorem MK_N2 (μ : ab_M) (len sl : Nat) : MK μ (as_N μ 2 len sl) := by
  refine ⟨fun t n k q => ?_, fun n k => ?_, fun t n q => ?_⟩
  · show ab_z3 μ.1 2 (ag_C μ 2) 0 t n k = _
    have : t ≠ 2 := by unfold mrel at q; omega
    unfold ab_z3; simp [this]; rfl
  · show ab_z3 μ.2.2.1 2 (ag_C μ 2) none 10 n k = _
    unfold ab_z3; simp; rfl
  · show (if t = 2 ∧ n = ag_C μ 2 then len else μ.2.2.2.1 t n) = _
    rw [if_neg (by unfold mrel at q; omega)]; rfl
