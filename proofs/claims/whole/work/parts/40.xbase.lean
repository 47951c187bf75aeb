/-! ===== the class: what stands fast ===== -/
def xs_n (t n b : Nat) : Option Nat := bif Nat.beq t 21 then (bif Nat.blt n 5 && Nat.beq b 0 then some n else none) else bif Nat.beq n 0 then (bif Nat.beq t 9 then (bif Nat.blt b 6 then some 0 else none) else bif Nat.beq t 7 then (bif Nat.beq b 0 then some 0 else none) else bif Nat.beq t 0 then (bif Nat.beq b 0 then some 1 else none) else bif Nat.beq t 1 then (bif Nat.beq b 0 then some 2 else bif Nat.beq b 1 then some 3 else bif Nat.beq b 4 then some 0 else bif Nat.beq b 5 then some 1 else bif Nat.beq b 6 then some 16 else bif Nat.beq b 7 then some 17 else bif Nat.beq b 8 then some 18 else bif Nat.beq b 9 then some 19 else none) else none) else none
def xs_l (t n : Nat) : Option Nat := bif Nat.beq t 11 then (bif Nat.beq n 0 then some 200 else bif Nat.beq n 1 then some 4 else bif Nat.blt n 16 then some 6 else bif Nat.beq n 16 then some 7 else bif Nat.blt n 20 then some 6 else none) else bif Nat.beq t 14 || Nat.beq t 15 then (bif Nat.beq n 0 then some 8 else none) else bif Nat.beq t 16 then (bif Nat.beq n 0 then some 4 else none) else bif Nat.beq t 17 then (bif Nat.blt n 4 then some 16 else none) else bif Nat.beq t 18 then (bif Nat.blt n 2 then some 6 else none) else bif Nat.beq t 20 then (bif Nat.blt n 2 then some 4 else none) else bif Nat.beq t 22 then (bif Nat.blt n 5 then some (ab_bl.getD n 0) else none) else none
def FX (r : Nat → Nat → Nat → Option Nat) (ln : Nat → Nat → Nat) : Prop := (∀ t n b s, xs_n t n b = some s → r t n b = some s) ∧ (∀ t n N, xs_l t n = some N → ln t n = N) ∧ (∀ i, i < 6 → r 18 0 i = some (4 + i) ∧ r 18 1 i = some (10 + i)) ∧ (∀ k, k < 4 → r 16 0 k = some k ∧ r 5 k 0 = some k ∧ ln 17 k = 16)
abbrev XF (μ : ab_M) : Prop := FX μ.2.2.1 μ.2.2.2.1
section
variable {d k : Nat} {μ : ab_M} {pc : Nat} {l : ab_L} {st : List ab_V} {Q : Option ab_V → ab_M → Prop} {nx a b : Nat}
theorem wg_gx {x n tg s : Nat} (hi : ab_ins k pc = some (.getfield x, nx, a, b)) (hf : (ab_ft a b, xs_n a n b) = ((3, tg), some s)) (hX : XF μ) (K : Wg d k μ nx l (ab_r tg (some s) :: st) Q) : Wg d k μ pc l (ab_r a (some n) :: st) Q := by
  have h1 := congrArg Prod.fst hf
  have h2 := congrArg Prod.snd hf
  exact wg_gr hi h1 (hX.1 a n b s h2) K
/-- an int array whose length and value are known -/
theorem wg_ax {s N : Nat} {j x : Int} (hi : ab_ins k pc = some (.iaload, nx, a, b)) (hL : ag_L μ 11 s = N) (h1 : 0 ≤ j) (h2 : j < (N : Int)) (hv : ag_I μ 11 s j.toNat = x) (K : Wg d k μ nx l (ab_i x :: st) Q) : Wg d k μ pc l (ab_i j :: ab_r 11 (some s) :: st) Q := by
  refine wg_c hi rfl ⟨h1, ?_⟩ ?_
  · show j < (ag_L μ 11 s : Nat); rw [hL]; exact h2
  · rw [hv]; exact K
theorem wg_axs {s N : Nat} {j x : Int} (hi : ab_ins k pc = some (.iastore, nx, a, b)) (hL : ag_L μ 11 s = N) (h1 : 0 ≤ j) (h2 : j < (N : Int)) (K : Wg d k (as_I μ 11 s j.toNat x) nx l st Q) : Wg d k μ pc l (ab_i x :: ab_i j :: ab_r 11 (some s) :: st) Q := by
  refine wg_c hi rfl ⟨h1, ?_⟩ K
  show j < (ag_L μ 11 s : Nat); rw [hL]; exact h2
/-- read-only ints -/
theorem wg_ar {s N : Nat} {j x : Int} (hi : ab_ins k pc = some (.iaload, nx, a, b)) (hL : ag_L μ 20 s = N) (h1 : 0 ≤ j) (h2 : j < (N : Int)) (hv : ag_I μ 20 s j.toNat = x) (K : Wg d k μ nx l (ab_i x :: st) Q) : Wg d k μ pc l (ab_i j :: ab_r 20 (some s) :: st) Q := by
  refine wg_c hi rfl ⟨h1, ?_⟩ ?_
  · show j < (ag_L μ 20 s : Nat); rw [hL]; exact h2
  · rw [hv]; exact K
theorem wg_aa {t n N : Nat} {j : Int} {o : Option Nat} (hi : ab_ins k pc = some (.aaload, nx, a, b)) (ht : (Nat.ble 14 t && Nat.ble t 18) = true) (hL : ag_L μ t n = N) (h1 : 0 ≤ j) (h2 : j < (N : Int)) (hv : ag_R μ t n j.toNat = o) (K : Wg d k μ nx l (ab_r (ab_et t) o :: st) Q) : Wg d k μ pc l (ab_i j :: ab_r t (some n) :: st) Q := by
  refine wg_c hi (c := 0 ≤ j ∧ j < (ag_L μ t n : Nat)) (μ1 := μ) (pc1 := nx) (l1 := l) (st1 := ab_r (ab_et t) (ag_R μ t n j.toNat) :: st) ?_ ⟨h1, by rw [hL]; exact h2⟩ (by rw [hv]; exact K)
  dsimp only [ab_step]
  rw [ht]; rfl
theorem wg_aas {t n N x : Nat} {j : Int} (hi : ab_ins k pc = some (.aastore, nx, a, b)) (ht : (Nat.ble 14 t && (Nat.ble t 17 && Nat.beq (ab_et t) (ab_et t))) = true) (hL : ag_L μ t n = N) (h1 : 0 ≤ j) (h2 : j < (N : Int)) (K : Wg d k (as_R μ t n j.toNat (some x)) nx l st Q) : Wg d k μ pc l (ab_r (ab_et t) (some x) :: ab_i j :: ab_r t (some n) :: st) Q := by
  refine wg_c hi (c := 0 ≤ j ∧ j < (ag_L μ t n : Nat)) (μ1 := as_R μ t n j.toNat (some x)) (pc1 := nx) (l1 := l) (st1 := st) ?_ ⟨h1, by rw [hL]; exact h2⟩ K
  dsimp only [ab_step]
  rw [ht]; rfl
theorem wg_len {t n N : Nat} (hi : ab_ins k pc = some (.arraylength, nx, a, b)) (ht : ((Nat.ble 11 t && Nat.ble t 18) || (Nat.beq t 20 || Nat.beq t 22)) = true) (hL : ag_L μ t n = N) (K : Wg d k μ nx l (ab_i (N : Int) :: st) Q) : Wg d k μ pc l (ab_r t (some n) :: st) Q := by
  refine wg_s hi (μ1 := μ) (pc1 := nx) (l1 := l) (st1 := ab_i (ag_L μ t n : Int) :: st) ?_ (by rw [hL]; exact K)
  dsimp only [ab_step]
  rw [ht]; rfl
end
theorem xf_l {μ : ab_M} (hX : XF μ) {t n N : Nat} (h : xs_l t n = some N) : ag_L μ t n = N := hX.2.1 t n N h
/-- the life that goes on with a helper, among the first n -/
def m_pf (ν : ab_M) (p : Int) : Nat → Int
  | 0 => -1
  | n + 1 => if ag_I ν 11 33 n = p ∧ ag_I ν 11 40 n < 0 then (n : Int) else m_pf ν p n
theorem m_pf_rng (μ : ab_M) (h : Int) : ∀ n : Nat, -1 ≤ m_pf μ h n ∧ m_pf μ h n < n
  | 0 => by simp [m_pf]
  | n + 1 => by
    have := m_pf_rng μ h n
    unfold m_pf
    split <;> omega
theorem m_pf_fr (μ : ab_M) (p : Int) : ∀ n : Nat, m_pf μ p n < 0 ↔ m_fr μ p n = true
  | 0 => by simp [m_pf, m_fr]
  | n + 1 => by
    have := m_pf_fr μ p n
    rw [m_fr_s, Bool.and_eq_true, ← this, decide_eq_true_eq]
    show (if ag_I μ 11 33 n = p ∧ ag_I μ 11 40 n < 0 then (n : Int) else m_pf μ p n) < 0 ↔ _
    by_cases h : ag_I μ 11 33 n = p ∧ ag_I μ 11 40 n < 0
    · rw [if_pos h]; constructor
      · intro q; omega
      · intro q; omega
    · rw [if_neg h]; constructor
      · intro q; exact ⟨q, by omega⟩
      · intro q; exact q.1
def op (x : Int) : Option Nat := if x < 0 then none else some x.toNat
/-- the class's counters -/
def XC (ν μ : ab_M) : Prop := ag_I μ 9 0 7 = ag_I ν 10 0 1 ∧ ag_I μ 9 0 8 = ag_I ν 10 0 6 ∧ ag_I μ 9 0 9 = ag_I ν 10 0 0 ∧ ag_C μ 4 = (ag_I ν 10 0 1).toNat ∧ ag_C μ 3 = (ag_I ν 10 0 6).toNat ∧ ag_C μ 6 = (ag_I ν 10 0 26).toNat ∧ 46 ≤ ag_C μ 11
/-- its homes -/
def XH (ν μ : ab_M) (hl hw : Nat → Nat) (ow : Nat → Nat × Nat) : Prop := ∀ h : Nat, (h : Int) < ag_I ν 10 0 1 → ag_R μ 15 0 h = some h ∧ (ag_I μ 4 h 0 = ag_I ν 11 20 h ∧ ag_I μ 4 h 1 = ag_I ν 11 21 h ∧ ag_I μ 4 h 2 = ag_I ν 11 22 h ∧ ag_I μ 4 h 3 = ag_I ν 11 23 h) ∧ (ag_R μ 4 h 4 = some (hl h) ∧ ag_R μ 4 h 5 = some (hw h) ∧ ag_R μ 4 h 6 = op (m_l ν h)) ∧ (ag_L μ 11 (hl h) = 8 ∧ ag_L μ 11 (hw h) = 501) ∧ ((46 ≤ hl h ∧ hl h < ag_C μ 11) ∧ (46 ≤ hw h ∧ hw h < ag_C μ 11)) ∧ (ow (hl h) = (0, h) ∧ ow (hw h) = (1, h)) ∧ (∀ p, p < 8 → ag_I μ 11 (hl h) p = ag_I ν 11 28 (8 * h + p)) ∧ (0 ≤ m_l ν h → ∀ w, w < 501 → ag_I μ 11 (hw h) w = m_ju ν h w (m_l ν h).toNat)
/-- its helpers -/
def XP (ν μ : ab_M) (pl : Nat → Nat) (ow : Nat → Nat × Nat) : Prop := ∀ p : Nat, (p : Int) < ag_I ν 10 0 6 → ag_R μ 14 0 p = some p ∧ (ag_I μ 3 p 0 = ag_I ν 11 24 p ∧ ag_I μ 3 p 1 = ag_I ν 11 25 p ∧ ag_I μ 3 p 2 = ag_I ν 11 26 p ∧ ag_I μ 3 p 4 = ag_I ν 11 27 p) ∧ (ag_R μ 3 p 3 = some (pl p) ∧ ag_R μ 3 p 5 = op (m_pf ν p (ag_I ν 10 0 26).toNat)) ∧ ag_L μ 11 (pl p) = 8 ∧ (46 ≤ pl p ∧ pl p < ag_C μ 11) ∧ ow (pl p) = (2, p) ∧ (∀ h, h < 8 → ag_I μ 11 (pl p) h = ag_I ν 11 29 (8 * h + p))
/-- its pairs, and the terms of each -/
def XL (ν μ : ab_M) (tm : Nat → Nat) : Prop := ∀ j : Nat, (j : Int) < ag_I ν 10 0 26 → (ag_I μ 6 j 0 = ag_I ν 11 33 j ∧ ag_I μ 6 j 1 = ag_I ν 11 34 j ∧ ag_I μ 6 j 3 = ag_I ν 11 39 j ∧ ag_I μ 6 j 4 = bI (0 ≤ ag_I ν 11 40 j)) ∧ (ag_R μ 6 j 2 = some (tm j) ∧ tm j < ag_C μ 8) ∧ (∀ b, b < 4 → ag_I μ 8 (tm j) b = ag_I ν 11 (35 + b) j) ∧ ag_R μ 17 (ag_I ν 11 20 (ag_I ν 11 32 j).toNat).toNat (m_ct ν (ag_I ν 11 20 (ag_I ν 11 32 j).toNat) j).toNat = some j
/-- how many of each kind; the tape; the reader's fault; the terms that stand now -/
def XK (ν μ : ab_M) : Prop := ∀ k : Nat, k < 4 → ag_I μ 5 k 1 = m_ct ν k (ag_I ν 10 0 26).toNat
def XT (ν μ : ab_M) : Prop := ag_I μ 7 0 1 = ag_I ν 10 0 14 ∧ ∀ i : Nat, (i : Int) < ag_I ν 10 0 14 → ag_I μ 11 0 i = ag_I ν 12 0 i % 256
def XR (ν μ : ab_M) (tc : Nat) : Prop := (ag_I μ 0 0 3 = ag_I ν 10 0 21 ∧ ag_I μ 0 0 4 = ag_I ν 10 0 22) ∧ (ag_R μ 9 0 6 = some tc ∧ tc < ag_C μ 8) ∧ ∀ b, b < 4 → ag_I μ 8 tc b = ag_I ν 11 31 b
/-- read-only ints -/
def XS (μ : ab_M) : Prop := (∀ w, w < 4 → ag_I μ 20 0 w = R0_ w ∧ ag_I μ 20 1 w = mo w) ∧ ∀ n, n < 5 → ag_I μ 21 n 1 = 0 ∧ ∀ k, k < 6 → ag_I μ 22 n k = (ab_bt.getD n []).getD k 0
def IX (ν μ : ab_M) (hl hw pl tm : Nat → Nat) (ow : Nat → Nat × Nat) (tc : Nat) : Prop := XF μ ∧ XC ν μ ∧ XH ν μ hl hw ow ∧ XP ν μ pl ow ∧ XL ν μ tm ∧ XK ν μ ∧ XT ν μ ∧ XR ν μ tc ∧ XS μ
/-- the reference's numbers -/
def WR (ν : ab_M) : Prop := ((0 ≤ ag_I ν 10 0 1 ∧ ag_I ν 10 0 1 ≤ 8) ∧ (0 ≤ ag_I ν 10 0 6 ∧ ag_I ν 10 0 6 ≤ 8) ∧ (0 ≤ ag_I ν 10 0 26 ∧ ag_I ν 10 0 26 ≤ 64) ∧ (0 ≤ ag_I ν 10 0 0 ∧ ag_I ν 10 0 0 ≤ 500) ∧ (0 ≤ ag_I ν 10 0 14 ∧ ag_I ν 10 0 14 ≤ 200))
theorem sp_within (d : Nat) (v m : Int) (μ : ab_M) : Wp (d + 1) 93 [ab_i v, ab_i m] μ (fun w μ' => w = some (ab_i (bI (0 ≤ v ∧ v ≤ m))) ∧ μ' = μ) := by
  refine wp_of ?_
  refine wg_s rfl rfl ?_
  refine wg_if rfl rfl (fun h1 => ?_) (fun h1 => ?_)
  · refine wg_s rfl rfl ?_
    refine wg_ret rfl rfl (by first | exact Or.inl rfl | exact Or.inr rfl) ⟨?_, rfl⟩
    first | rw [bI_t (by omega)] | rw [bI_f (by omega)]
  · refine wg_s rfl rfl ?_
    refine wg_s rfl rfl ?_
    refine wg_if rfl rfl (fun h6 => ?_) (fun h6 => ?_)
    · refine wg_s rfl rfl ?_
      refine wg_ret rfl rfl (by first | exact Or.inl rfl | exact Or.inr rfl) ⟨?_, rfl⟩
      first | rw [bI_t (by omega)] | rw [bI_f (by omega)]
    · refine wg_s rfl rfl ?_
      refine wg_s rfl rfl ?_
      refine wg_ret rfl rfl (by first | exact Or.inl rfl | exact Or.inr rfl) ⟨?_, rfl⟩
      first | rw [bI_t (by omega)] | rw [bI_f (by omega)]
theorem sp_areTraits (d : Nat) (v : Int) (μ : ab_M) : Wp (d + 2) 94 [ab_i v] μ (fun w μ' => w = some (ab_i (bI (0 ≤ v ∧ v ≤ 4095))) ∧ μ' = μ) := by
  refine wp_of ?_
  refine wg_s rfl rfl ?_
  refine wg_s rfl rfl ?_
  refine wg_cf rfl rfl (sp_within _ _ _ _) ?_
  exact wg_ret rfl rfl bI_01 ⟨rfl, rfl⟩
theorem sp_isWeek (d : Nat) (v : Int) (μ : ab_M) : Wp (d + 2) 95 [ab_i v] μ (fun w μ' => w = some (ab_i (bI (0 ≤ v ∧ v ≤ 500))) ∧ μ' = μ) := by
  refine wp_of ?_
  refine wg_s rfl rfl ?_
  refine wg_s rfl rfl ?_
  refine wg_cf rfl rfl (sp_within _ _ _ _) ?_
  exact wg_ret rfl rfl bI_01 ⟨rfl, rfl⟩
theorem sp_isNone (d : Nat) (v m : Int) (μ : ab_M) (hm : 0 ≤ m) : Wp (d + 2) 96 [ab_i v, ab_i m] μ (fun w μ' => w = some (ab_i (bI (-1 ≤ v ∧ v ≤ m))) ∧ μ' = μ) := by
  refine wp_of ?_
  refine wg_s rfl rfl ?_
  refine wg_s rfl rfl ?_
  refine wg_if rfl rfl (fun h2 => ?_) (fun h2 => ?_)
  · refine wg_s rfl rfl ?_
    refine wg_s rfl rfl ?_
    refine wg_ret rfl rfl (by first | exact Or.inl rfl | exact Or.inr rfl) ⟨?_, rfl⟩
    first | rw [bI_t (by omega)] | rw [bI_f (by omega)]
  · refine wg_s rfl rfl ?_
    refine wg_s rfl rfl ?_
    refine wg_cf rfl rfl (sp_within _ _ _ _) ?_
    refine wg_eqb rfl (fun h10 => ?_) (fun h10 => ?_)
    · refine wg_s rfl rfl ?_
      refine wg_ret rfl rfl (by first | exact Or.inl rfl | exact Or.inr rfl) ⟨?_, rfl⟩
      first | rw [bI_t (by omega)] | rw [bI_f (by omega)]
    · refine wg_s rfl rfl ?_
      refine wg_s rfl rfl ?_
      refine wg_ret rfl rfl (by first | exact Or.inl rfl | exact Or.inr rfl) ⟨?_, rfl⟩
      first | rw [bI_t (by omega)] | rw [bI_f (by omega)]
theorem sp_homeAt_t (d : Nat) (h : Int) {ν μ : ab_M} {hl hw pl tm : Nat → Nat} {ow : Nat → Nat × Nat} {tc : Nat} (hI : IX ν μ hl hw pl tm ow tc) (hZ : WR ν) (hh : 0 ≤ h ∧ h < ag_I ν 10 0 1) : Wp (d + 1) 97 [ab_r 9 (some 0), ab_i h] μ (fun w μ' => w = some (ab_r 4 (some h.toNat)) ∧ μ' = μ) := by
  refine wp_of ?_
  obtain ⟨hX, hC, hH, hP, hL, hK, hT, hR, hS⟩ := id hI
  obtain ⟨z1, z6, z26, z0, z14⟩ := id hZ
  obtain ⟨c7, c8, c9, cC4, cC3, cC6, cC11⟩ := id hC
  refine wg_s rfl rfl ?_
  refine wg_if rfl rfl (fun h1 => ?_) (fun h1 => ?_)
  · refine wg_s rfl rfl ?_
    first | exact wg_ret rfl rfl trivial ⟨rfl, rfl⟩ | (exfalso; omega)
  · refine wg_s rfl rfl ?_
    refine wg_s rfl rfl ?_
    refine wg_gi rfl rfl (show _ = ag_I ν 10 0 1 from c7) ?_
    refine wg_if rfl rfl (fun h9 => ?_) (fun h9 => ?_)
    · refine wg_s rfl rfl ?_
      first | exact wg_ret rfl rfl trivial ⟨rfl, rfl⟩ | (exfalso; omega)
    · refine wg_s rfl rfl ?_
      refine wg_s rfl rfl ?_
      refine wg_gx rfl rfl hX ?_
      refine wg_len rfl rfl (xf_l hX rfl) ?_
      refine wg_if rfl rfl (fun h18 => ?_) (fun h18 => ?_)
      · refine wg_s rfl rfl ?_
        first | exact wg_ret rfl rfl trivial ⟨rfl, rfl⟩ | (exfalso; omega)
      · refine wg_s rfl rfl ?_
        refine wg_gx rfl rfl hX ?_
        refine wg_s rfl rfl ?_
        refine wg_aa rfl rfl (xf_l hX rfl) (by omega) (by omega) (show _ = some h.toNat from (hH h.toNat (by omega)).1) ?_
        refine wg_s rfl rfl ?_
        first | exact wg_ret rfl rfl trivial ⟨rfl, rfl⟩ | (exfalso; omega)
theorem sp_homeAt_f (d : Nat) (h : Int) {ν μ : ab_M} {hl hw pl tm : Nat → Nat} {ow : Nat → Nat × Nat} {tc : Nat} (hI : IX ν μ hl hw pl tm ow tc) (hZ : WR ν) (hh : ¬ (0 ≤ h ∧ h < ag_I ν 10 0 1)) : Wp (d + 1) 97 [ab_r 9 (some 0), ab_i h] μ (fun w μ' => w = some (ab_r 99 (none)) ∧ μ' = μ) := by
  refine wp_of ?_
  obtain ⟨hX, hC, hH, hP, hL, hK, hT, hR, hS⟩ := id hI
  obtain ⟨z1, z6, z26, z0, z14⟩ := id hZ
  obtain ⟨c7, c8, c9, cC4, cC3, cC6, cC11⟩ := id hC
  refine wg_s rfl rfl ?_
  refine wg_if rfl rfl (fun h1 => ?_) (fun h1 => ?_)
  · refine wg_s rfl rfl ?_
    exact wg_ret rfl rfl trivial ⟨rfl, rfl⟩
  · refine wg_s rfl rfl ?_
    refine wg_s rfl rfl ?_
    refine wg_gi rfl rfl (show _ = ag_I ν 10 0 1 from c7) ?_
    refine wg_if rfl rfl (fun h9 => ?_) (fun h9 => ?_)
    · refine wg_s rfl rfl ?_
      exact wg_ret rfl rfl trivial ⟨rfl, rfl⟩
    · refine wg_s rfl rfl ?_
      refine wg_s rfl rfl ?_
      refine wg_gx rfl rfl hX ?_
      refine wg_len rfl rfl (xf_l hX rfl) ?_
      refine wg_if rfl rfl (fun h18 => ?_) (fun h18 => ?_)
      · refine wg_s rfl rfl ?_
        exact wg_ret rfl rfl trivial ⟨rfl, rfl⟩
      · refine wg_s rfl rfl ?_
        refine wg_gx rfl rfl hX ?_
        refine wg_s rfl rfl ?_
        exfalso; omega
theorem sp_helperAt_t (d : Nat) (h : Int) {ν μ : ab_M} {hl hw pl tm : Nat → Nat} {ow : Nat → Nat × Nat} {tc : Nat} (hI : IX ν μ hl hw pl tm ow tc) (hZ : WR ν) (hh : 0 ≤ h ∧ h < ag_I ν 10 0 6) : Wp (d + 1) 98 [ab_r 9 (some 0), ab_i h] μ (fun w μ' => w = some (ab_r 3 (some h.toNat)) ∧ μ' = μ) := by
  refine wp_of ?_
  obtain ⟨hX, hC, hH, hP, hL, hK, hT, hR, hS⟩ := id hI
  obtain ⟨z1, z6, z26, z0, z14⟩ := id hZ
  obtain ⟨c7, c8, c9, cC4, cC3, cC6, cC11⟩ := id hC
  refine wg_s rfl rfl ?_
  refine wg_if rfl rfl (fun h1 => ?_) (fun h1 => ?_)
  · refine wg_s rfl rfl ?_
    first | exact wg_ret rfl rfl trivial ⟨rfl, rfl⟩ | (exfalso; omega)
  · refine wg_s rfl rfl ?_
    refine wg_s rfl rfl ?_
    refine wg_gi rfl rfl (show _ = ag_I ν 10 0 6 from c8) ?_
    refine wg_if rfl rfl (fun h9 => ?_) (fun h9 => ?_)
    · refine wg_s rfl rfl ?_
      first | exact wg_ret rfl rfl trivial ⟨rfl, rfl⟩ | (exfalso; omega)
    · refine wg_s rfl rfl ?_
      refine wg_s rfl rfl ?_
      refine wg_gx rfl rfl hX ?_
      refine wg_len rfl rfl (xf_l hX rfl) ?_
      refine wg_if rfl rfl (fun h18 => ?_) (fun h18 => ?_)
      · refine wg_s rfl rfl ?_
        first | exact wg_ret rfl rfl trivial ⟨rfl, rfl⟩ | (exfalso; omega)
      · refine wg_s rfl rfl ?_
        refine wg_gx rfl rfl hX ?_
        refine wg_s rfl rfl ?_
        refine wg_aa rfl rfl (xf_l hX rfl) (by omega) (by omega) (show _ = some h.toNat from (hP h.toNat (by omega)).1) ?_
        refine wg_s rfl rfl ?_
        first | exact wg_ret rfl rfl trivial ⟨rfl, rfl⟩ | (exfalso; omega)
theorem sp_helperAt_f (d : Nat) (h : Int) {ν μ : ab_M} {hl hw pl tm : Nat → Nat} {ow : Nat → Nat × Nat} {tc : Nat} (hI : IX ν μ hl hw pl tm ow tc) (hZ : WR ν) (hh : ¬ (0 ≤ h ∧ h < ag_I ν 10 0 6)) : Wp (d + 1) 98 [ab_r 9 (some 0), ab_i h] μ (fun w μ' => w = some (ab_r 99 (none)) ∧ μ' = μ) := by
  refine wp_of ?_
  obtain ⟨hX, hC, hH, hP, hL, hK, hT, hR, hS⟩ := id hI
  obtain ⟨z1, z6, z26, z0, z14⟩ := id hZ
  obtain ⟨c7, c8, c9, cC4, cC3, cC6, cC11⟩ := id hC
  refine wg_s rfl rfl ?_
  refine wg_if rfl rfl (fun h1 => ?_) (fun h1 => ?_)
  · refine wg_s rfl rfl ?_
    exact wg_ret rfl rfl trivial ⟨rfl, rfl⟩
  · refine wg_s rfl rfl ?_
    refine wg_s rfl rfl ?_
    refine wg_gi rfl rfl (show _ = ag_I ν 10 0 6 from c8) ?_
    refine wg_if rfl rfl (fun h9 => ?_) (fun h9 => ?_)
    · refine wg_s rfl rfl ?_
      exact wg_ret rfl rfl trivial ⟨rfl, rfl⟩
    · refine wg_s rfl rfl ?_
      refine wg_s rfl rfl ?_
      refine wg_gx rfl rfl hX ?_
      refine wg_len rfl rfl (xf_l hX rfl) ?_
      refine wg_if rfl rfl (fun h18 => ?_) (fun h18 => ?_)
      · refine wg_s rfl rfl ?_
        exact wg_ret rfl rfl trivial ⟨rfl, rfl⟩
      · refine wg_s rfl rfl ?_
        refine wg_gx rfl rfl hX ?_
        refine wg_s rfl rfl ?_
        exfalso; omega
theorem sp_kindAt_t (d : Nat) (h : Int) {ν μ : ab_M} {hl hw pl tm : Nat → Nat} {ow : Nat → Nat × Nat} {tc : Nat} (hI : IX ν μ hl hw pl tm ow tc) (hZ : WR ν) (hh : 0 ≤ h ∧ h < 4) : Wp (d + 1) 99 [ab_r 9 (some 0), ab_i h] μ (fun w μ' => w = some (ab_r 5 (some h.toNat)) ∧ μ' = μ) := by
  refine wp_of ?_
  obtain ⟨hX, hC, hH, hP, hL, hK, hT, hR, hS⟩ := id hI
  obtain ⟨z1, z6, z26, z0, z14⟩ := id hZ
  obtain ⟨c7, c8, c9, cC4, cC3, cC6, cC11⟩ := id hC
  refine wg_s rfl rfl ?_
  refine wg_if rfl rfl (fun h1 => ?_) (fun h1 => ?_)
  · refine wg_s rfl rfl ?_
    first | exact wg_ret rfl rfl trivial ⟨rfl, rfl⟩ | (exfalso; omega)
  · refine wg_s rfl rfl ?_
    refine wg_s rfl rfl ?_
    refine wg_gx rfl rfl hX ?_
    refine wg_len rfl rfl (xf_l hX rfl) ?_
    refine wg_if rfl rfl (fun h10 => ?_) (fun h10 => ?_)
    · refine wg_s rfl rfl ?_
      first | exact wg_ret rfl rfl trivial ⟨rfl, rfl⟩ | (exfalso; omega)
    · refine wg_s rfl rfl ?_
      refine wg_gx rfl rfl hX ?_
      refine wg_s rfl rfl ?_
      refine wg_aa rfl rfl (xf_l hX rfl) (by omega) (by omega) (show _ = some h.toNat from (hX.2.2.2 h.toNat (by omega)).1) ?_
      refine wg_s rfl rfl ?_
      first | exact wg_ret rfl rfl trivial ⟨rfl, rfl⟩ | (exfalso; omega)
theorem sp_kindAt_f (d : Nat) (h : Int) {ν μ : ab_M} {hl hw pl tm : Nat → Nat} {ow : Nat → Nat × Nat} {tc : Nat} (hI : IX ν μ hl hw pl tm ow tc) (hZ : WR ν) (hh : ¬ (0 ≤ h ∧ h < 4)) : Wp (d + 1) 99 [ab_r 9 (some 0), ab_i h] μ (fun w μ' => w = some (ab_r 99 (none)) ∧ μ' = μ) := by
  refine wp_of ?_
  obtain ⟨hX, hC, hH, hP, hL, hK, hT, hR, hS⟩ := id hI
  obtain ⟨z1, z6, z26, z0, z14⟩ := id hZ
  obtain ⟨c7, c8, c9, cC4, cC3, cC6, cC11⟩ := id hC
  refine wg_s rfl rfl ?_
  refine wg_if rfl rfl (fun h1 => ?_) (fun h1 => ?_)
  · refine wg_s rfl rfl ?_
    exact wg_ret rfl rfl trivial ⟨rfl, rfl⟩
  · refine wg_s rfl rfl ?_
    refine wg_s rfl rfl ?_
    refine wg_gx rfl rfl hX ?_
    refine wg_len rfl rfl (xf_l hX rfl) ?_
    refine wg_if rfl rfl (fun h10 => ?_) (fun h10 => ?_)
    · refine wg_s rfl rfl ?_
      exact wg_ret rfl rfl trivial ⟨rfl, rfl⟩
    · refine wg_s rfl rfl ?_
      refine wg_gx rfl rfl hX ?_
      refine wg_s rfl rfl ?_
      exfalso; omega
