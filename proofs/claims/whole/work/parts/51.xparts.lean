/-! ===== the relation, part by part: what it reads of the reference ===== -/
theorem m_lf_c {ν ν' : ab_M} (h32 : ∀ j, ag_I ν' 11 32 j = ag_I ν 11 32 j) (h40 : ∀ j, ag_I ν' 11 40 j = ag_I ν 11 40 j) (h : Int) : ∀ n, m_lf ν' h n = m_lf ν h n
  | 0 => rfl
  | n + 1 => by unfold m_lf; rw [m_lf_c h32 h40 h n, h32, h40]
theorem m_pf_c {ν ν' : ab_M} (h33 : ∀ j, ag_I ν' 11 33 j = ag_I ν 11 33 j) (h40 : ∀ j, ag_I ν' 11 40 j = ag_I ν 11 40 j) (h : Int) : ∀ n, m_pf ν' h n = m_pf ν h n
  | 0 => rfl
  | n + 1 => by unfold m_pf; rw [m_pf_c h33 h40 h n, h33, h40]
theorem m_ct_c {ν ν' : ab_M} (h20 : ∀ j, ag_I ν' 11 20 j = ag_I ν 11 20 j) (h32 : ∀ j, ag_I ν' 11 32 j = ag_I ν 11 32 j) (h : Int) : ∀ n, m_ct ν' h n = m_ct ν h n
  | 0 => rfl
  | n + 1 => by unfold m_ct; rw [m_ct_c h20 h32 h n, h32, h20]
def rC (t n k : Nat) : Prop := t = 10 ∧ n = 0 ∧ (k = 0 ∨ k = 1 ∨ k = 6 ∨ k = 26)
def rH (t n k : Nat) : Prop := (t = 10 ∧ n = 0 ∧ (k = 1 ∨ k = 26)) ∨ (t = 11 ∧ (n = 20 ∨ n = 21 ∨ n = 22 ∨ n = 23 ∨ n = 28 ∨ n = 32 ∨ n = 35 ∨ n = 36 ∨ n = 40 ∨ n = 41 ∨ n = 42))
def rP (t n k : Nat) : Prop := (t = 10 ∧ n = 0 ∧ (k = 6 ∨ k = 26)) ∨ (t = 11 ∧ (n = 24 ∨ n = 25 ∨ n = 26 ∨ n = 27 ∨ n = 29 ∨ n = 33 ∨ n = 40))
def rL (t n k : Nat) : Prop := (t = 10 ∧ n = 0 ∧ k = 26) ∨ (t = 11 ∧ (n = 20 ∨ n = 32 ∨ n = 33 ∨ n = 34 ∨ n = 35 ∨ n = 36 ∨ n = 37 ∨ n = 38 ∨ n = 39 ∨ n = 40))
def rT (t n k : Nat) : Prop := (t = 10 ∧ n = 0 ∧ k = 14) ∨ (t = 12 ∧ n = 0)
def rR (t n k : Nat) : Prop := (t = 10 ∧ n = 0 ∧ (k = 21 ∨ k = 22)) ∨ (t = 11 ∧ n = 31)
abbrev AG (r : Nat → Nat → Nat → Prop) (ν ν' : ab_M) : Prop := ∀ t n k, r t n k → ag_I ν' t n k = ag_I ν t n k
theorem XC_A {ν ν' μ : ab_M} (h : AG rC ν ν') (hX : XC ν μ) : XC ν' μ := by
  unfold XC
  rw [h 10 0 0 (by unfold rC; omega), h 10 0 1 (by unfold rC; omega), h 10 0 6 (by unfold rC; omega), h 10 0 26 (by unfold rC; omega)]
  exact hX
theorem XH_A {ν ν' μ : ab_M} {hl hw : Nat → Nat} {ow : Nat → Nat × Nat} (h : AG rH ν ν') (hX : XH ν μ hl hw ow) : XH ν' μ hl hw ow := by
  intro n hn
  rw [h 10 0 1 (by unfold rH; omega)] at hn
  have e : m_l ν' n = m_l ν n := by
    show m_lf ν' n (ag_I ν' 10 0 26).toNat = m_lf ν n (ag_I ν 10 0 26).toNat
    rw [h 10 0 26 (by unfold rH; omega), m_lf_c (fun j => h 11 32 j (by unfold rH; omega)) (fun j => h 11 40 j (by unfold rH; omega))]
  have e2 : ∀ w : Int, ∀ j, m_ju ν' n w j = m_ju ν n w j := by
    intro w j
    unfold m_ju
    rw [h 11 41 _ (by unfold rH; omega), h 11 42 _ (by unfold rH; omega), h 11 35 _ (by unfold rH; omega), h 11 36 _ (by unfold rH; omega)]
  obtain ⟨e15, ⟨e40, e41, e42, e43⟩, ⟨e44, e45, e46⟩, h8, hrng, how, hlk, hwk⟩ := hX n hn
  refine ⟨e15, ⟨?_, ?_, ?_, ?_⟩, ⟨e44, e45, by rw [e]; exact e46⟩, h8, hrng, how, fun p hp => ?_, fun q w hw => ?_⟩
  · rw [h 11 20 n (by unfold rH; omega)]; exact e40
  · rw [h 11 21 n (by unfold rH; omega)]; exact e41
  · rw [h 11 22 n (by unfold rH; omega)]; exact e42
  · rw [h 11 23 n (by unfold rH; omega)]; exact e43
  · rw [h 11 28 _ (by unfold rH; omega)]; exact hlk p hp
  · rw [e] at q ⊢; rw [e2]; exact hwk q w hw
theorem XP_A {ν ν' μ : ab_M} {pl : Nat → Nat} {ow : Nat → Nat × Nat} (h : AG rP ν ν') (hX : XP ν μ pl ow) : XP ν' μ pl ow := by
  intro n hn
  rw [h 10 0 6 (by unfold rP; omega)] at hn
  obtain ⟨p14, ⟨p30, p31, p32, p34⟩, ⟨p33, p35⟩, pL8, prng, pow, plk⟩ := hX n hn
  refine ⟨p14, ⟨?_, ?_, ?_, ?_⟩, ⟨p33, ?_⟩, pL8, prng, pow, fun p hp => ?_⟩
  · rw [h 11 24 n (by unfold rP; omega)]; exact p30
  · rw [h 11 25 n (by unfold rP; omega)]; exact p31
  · rw [h 11 26 n (by unfold rP; omega)]; exact p32
  · rw [h 11 27 n (by unfold rP; omega)]; exact p34
  · rw [h 10 0 26 (by unfold rP; omega), m_pf_c (fun j => h 11 33 j (by unfold rP; omega)) (fun j => h 11 40 j (by unfold rP; omega))]; exact p35
  · rw [h 11 29 _ (by unfold rP; omega)]; exact plk p hp
theorem XL_A {ν ν' μ : ab_M} {tm : Nat → Nat} (h : AG rL ν ν') (hX : XL ν μ tm) : XL ν' μ tm := by
  intro j hj
  rw [h 10 0 26 (by unfold rL; omega)] at hj
  obtain ⟨⟨j0, j1, j3, j4⟩, j2, jr, j17⟩ := hX j hj
  refine ⟨⟨?_, ?_, ?_, ?_⟩, j2, fun b hb => ?_, ?_⟩
  · rw [h 11 33 j (by unfold rL; omega)]; exact j0
  · rw [h 11 34 j (by unfold rL; omega)]; exact j1
  · rw [h 11 39 j (by unfold rL; omega)]; exact j3
  · rw [h 11 40 j (by unfold rL; omega)]; exact j4
  · rw [h 11 (35 + b) j (by unfold rL; omega)]; exact jr b hb
  · rw [h 11 32 j (by unfold rL; omega), h 11 20 _ (by unfold rL; omega), m_ct_c (fun j => h 11 20 j (by unfold rL; omega)) (fun j => h 11 32 j (by unfold rL; omega))]; exact j17
theorem XK_A {ν ν' μ : ab_M} (h : AG rL ν ν') (hX : XK ν μ) : XK ν' μ := by
  intro k hk
  rw [h 10 0 26 (by unfold rL; omega), m_ct_c (fun j => h 11 20 j (by unfold rL; omega)) (fun j => h 11 32 j (by unfold rL; omega))]
  exact hX k hk
theorem XT_A {ν ν' μ : ab_M} (h : AG rT ν ν') (hX : XT ν μ) : XT ν' μ := by
  unfold XT
  rw [h 10 0 14 (by unfold rT; omega)]
  refine ⟨hX.1, fun i hi => ?_⟩
  rw [h 12 0 i (by unfold rT; omega)]
  exact hX.2 i hi
theorem XR_A {ν ν' μ : ab_M} {tc : Nat} (h : AG rR ν ν') (hX : XR ν μ tc) : XR ν' μ tc := by
  refine ⟨⟨?_, ?_⟩, hX.2.1, fun b hb => ?_⟩
  · rw [h 10 0 21 (by unfold rR; omega)]; exact hX.1.1
  · rw [h 10 0 22 (by unfold rR; omega)]; exact hX.1.2
  · rw [h 11 31 b (by unfold rR; omega)]; exact hX.2.2 b hb
/-! what it reads of the class's memory -/
/-- ints alone have changed -/
abbrev IE (s : Nat → Nat → Nat → Prop) (μ μ' : ab_M) : Prop := (∀ t n k, s t n k → ag_I μ' t n k = ag_I μ t n k) ∧ μ'.2.2 = μ.2.2
theorem IE_R {s : Nat → Nat → Nat → Prop} {μ μ' : ab_M} (h : IE s μ μ') (t n k : Nat) : ag_R μ' t n k = ag_R μ t n k := by unfold ag_R; rw [h.2]
theorem IE_L {s : Nat → Nat → Nat → Prop} {μ μ' : ab_M} (h : IE s μ μ') (t n : Nat) : ag_L μ' t n = ag_L μ t n := by unfold ag_L; rw [h.2]
theorem IE_C {s : Nat → Nat → Nat → Prop} {μ μ' : ab_M} (h : IE s μ μ') (t : Nat) : ag_C μ' t = ag_C μ t := by unfold ag_C; rw [h.2]
