/-! ===== the reference: tokens ===== -/
def run (f : Int → Bool) (T : Nat → Int) : Nat → Nat → Nat
  | 0, a => a
  | c + 1, a => if f (T a) = true then run f T c (a + 1) else a
theorem run_rng (f : Int → Bool) (T : Nat → Int) : ∀ c a, a ≤ run f T c a ∧ run f T c a ≤ a + c
  | 0, a => by simp [run]
  | c + 1, a => by
    have := run_rng f T c (a + 1)
    unfold run
    split <;> omega
theorem run_all (f : Int → Bool) (T : Nat → Int) : ∀ c a i, a ≤ i → i < run f T c a → f (T i) = true
  | 0, a, i, h, h2 => by simp [run] at h2; omega
  | c + 1, a, i, h, h2 => by
    unfold run at h2
    by_cases q : f (T a) = true
    · rw [if_pos q] at h2
      by_cases e : i = a
      · rw [e]; exact q
      · exact run_all f T c (a + 1) i (by omega) h2
    · rw [if_neg q] at h2; omega
def bk (x : Int) : Bool := decide (x = 32)
def lt (x : Int) : Bool := decide ((97 ≤ x ∧ x ≤ 122) ∨ (65 ≤ x ∧ x ≤ 90))
def dg (x : Int) : Bool := decide (48 ≤ x ∧ x ≤ 57)
theorem bk_t {x : Int} : bk x = true ↔ x = 32 := by unfold bk; exact decide_eq_true_iff
theorem lt_t {x : Int} : lt x = true ↔ (97 ≤ x ∧ x ≤ 122) ∨ (65 ≤ x ∧ x ≤ 90) := by unfold lt; exact decide_eq_true_iff
theorem dg_t {x : Int} : dg x = true ↔ 48 ≤ x ∧ x ≤ 57 := by unfold dg; exact decide_eq_true_iff
/-- letters as a number -/
def hs (T : Nat → Int) (s : Nat) : Nat → Int
  | 0 => 0
  | n + 1 => 64 * hs T s n + T (s + n) - 64
def nu (T : Nat → Int) (s : Nat) : Nat → Int
  | 0 => 0
  | n + 1 => if 99999 < nu T s n then nu T s n else 10 * nu T s n + T (s + n) - 48
def wo (x : Int) : Int := if x = 683629747 then 0 else if x = 50090380595 then 1 else if x = 50194454757 then 2 else if x = 885692524 then 3 else -1
theorem hs_rng (T : Nat → Int) (s : Nat) : ∀ n, (∀ i, i < n → lt (T (s + i)) = true) → 0 ≤ hs T s n ∧ hs T s n < (64 ^ n : Nat)
  | 0, _ => by simp [hs]
  | n + 1, h => by
    have ih := hs_rng T s n (fun i hi => h i (by omega))
    have q := lt_t.mp (h n (by omega))
    unfold hs
    rw [Nat.pow_succ]
    omega
theorem nu_rng (T : Nat → Int) (s : Nat) : ∀ n, (∀ i, i < n → dg (T (s + i)) = true) → 0 ≤ nu T s n ∧ nu T s n ≤ 999999
  | 0, _ => by simp [nu]
  | n + 1, h => by
    have ih := nu_rng T s n (fun i hi => h i (by omega))
    have q := dg_t.mp (h n (by omega))
    unfold nu
    split <;> omega
def t_s (T : Nat → Int) (l a : Nat) : Nat := run bk T (l - a) a
def t_x (T : Nat → Int) (l s : Nat) : Nat := if s = l then s else if lt (T s) = true then run lt T (l - s) s else if dg (T s) = true then run dg T (l - s) s else s + 1
def t_v (T : Nat → Int) (l s : Nat) : Int := if lt (T s) = true then (if 6 < t_x T l s - s then -1 else wo (hs T s (t_x T l s - s))) else nu T s (t_x T l s - s)
def t_k (T : Nat → Int) (l s : Nat) : Int := if s = l then 0 else if lt (T s) = true then (if t_v T l s < 0 then 4 else 1) else if dg (T s) = true then 2 else if T s = 59 then 3 else 4
theorem wo_rng (x : Int) : -1 ≤ wo x ∧ wo x ≤ 3 := by
  unfold wo; repeat' split
  all_goals omega
/-- a token is taken: all but four numbers stay -/
def scN (t n k : Nat) : Prop := t = 10 ∧ n = 0 ∧ 15 ≤ k ∧ k ≤ 18
def SN (μ ν : ab_M) : Prop := ν.2 = μ.2 ∧ ∀ t n k, ¬ scN t n k → ν.1 t n k = μ.1 t n k
theorem SN_refl (μ : ab_M) : SN μ μ := ⟨rfl, fun _ _ _ _ => rfl⟩
theorem SN_i {μ ν : ab_M} (h : SN μ ν) (t n k : Nat) (hs : ¬ scN t n k) : ag_I ν t n k = ag_I μ t n k := h.2 t n k hs
theorem SN_set {μ ν : ab_M} {k : Nat} {x : Int} (h : SN μ ν) (h1 : 15 ≤ k) (h2 : k ≤ 18) : SN μ (as_I ν 10 0 k x) := by
  refine ⟨h.1, fun t' n' k' q => ?_⟩
  show (if t' = 10 ∧ n' = 0 ∧ k' = k then x else ν.1 t' n' k') = _
  rw [if_neg (by intro e; obtain ⟨rfl, rfl, rfl⟩ := e; exact q ⟨rfl, rfl, h1, h2⟩)]
  exact h.2 t' n' k' q
theorem SN_M {μ ν : ab_M} (h : SN μ ν) (hM : FM μ.2.2.1 μ.2.2.2.1) : FM ν.2.2.1 ν.2.2.2.1 := by rw [h.1]; exact hM
def T_ (μ : ab_M) (i : Nat) : Int := ag_I μ 12 0 i
theorem SN_T {μ ν : ab_M} (h : SN μ ν) (i : Nat) : ag_I ν 12 0 i = T_ μ i := SN_i h 12 0 i (by unfold scN; omega)
theorem wg_bv {d k : Nat} {μ : ab_M} {pc : Nat} {l : ab_L} {st : List ab_V} {Q : Option ab_V → ab_M → Prop} {nx a b : Nat} {j x : Int} (hi : ab_ins k pc = some (.baload, nx, a, b)) (hM : FM μ.2.2.1 μ.2.2.2.1) (h1 : 0 ≤ j) (h2 : j < 200) (hv : ag_I μ 12 0 j.toNat = x) (K : Wg d k μ nx l (ab_i x :: st) Q) : Wg d k μ pc l (ab_i j :: ab_r 12 (some 0) :: st) Q := wg_ba hi hM h1 h2 (by rw [hv]; exact K)
theorem sp_isLetter (d : Nat) (x : Int) (μ : ab_M) : Wp (d + 2) 137 [ab_i x] μ (fun v μ' => v = some (ab_i (bI (lt x = true))) ∧ μ' = μ) := by
  refine wp_of ?_
  refine wg_s rfl rfl ?_
  refine wg_s rfl rfl ?_
  refine wg_s rfl rfl ?_
  refine wg_s rfl rfl ?_
  refine wg_cf rfl rfl (sp_in _ _ _ _ _) ?_
  refine wg_neb rfl (fun h11 => ?_) (fun h11 => ?_)
  · refine wg_s rfl rfl ?_
    refine wg_s rfl rfl ?_
    refine wg_ret rfl rfl (by first | exact Or.inl rfl | exact Or.inr rfl) ⟨?_, rfl⟩
    first | (rw [bI_t (lt_t.mpr (by omega))]) | (rw [bI_f (fun q => absurd (lt_t.mp q) (by omega))])
  · refine wg_s rfl rfl ?_
    refine wg_s rfl rfl ?_
    refine wg_s rfl rfl ?_
    refine wg_s rfl rfl ?_
    refine wg_cf rfl rfl (sp_in _ _ _ _ _) ?_
    refine wg_eqb rfl (fun h25 => ?_) (fun h25 => ?_)
    · refine wg_s rfl rfl ?_
      refine wg_ret rfl rfl (by first | exact Or.inl rfl | exact Or.inr rfl) ⟨?_, rfl⟩
      first | (rw [bI_t (lt_t.mpr (by omega))]) | (rw [bI_f (fun q => absurd (lt_t.mp q) (by omega))])
    · refine wg_s rfl rfl ?_
      refine wg_s rfl rfl ?_
      refine wg_ret rfl rfl (by first | exact Or.inl rfl | exact Or.inr rfl) ⟨?_, rfl⟩
      first | (rw [bI_t (lt_t.mpr (by omega))]) | (rw [bI_f (fun q => absurd (lt_t.mp q) (by omega))])
theorem sp_wordOf (d : Nat) (x : Int) (μ : ab_M) : Wp (d + 1) 138 [ab_l x] μ (fun v μ' => v = some (ab_i (wo x)) ∧ μ' = μ) := by
  refine wp_of ?_
  refine wg_s rfl rfl ?_
  refine wg_s rfl rfl ?_
  refine wg_lc_ne rfl rfl (fun h4 => ?_) (fun h4 => ?_)
  · refine wg_s rfl rfl ?_
    refine wg_s rfl rfl ?_
    refine wg_lc_ne rfl rfl (fun h14 => ?_) (fun h14 => ?_)
    · refine wg_s rfl rfl ?_
      refine wg_s rfl rfl ?_
      refine wg_lc_ne rfl rfl (fun h24 => ?_) (fun h24 => ?_)
      · refine wg_s rfl rfl ?_
        refine wg_s rfl rfl ?_
        refine wg_lc_ne rfl rfl (fun h34 => ?_) (fun h34 => ?_)
        · refine wg_s rfl rfl ?_
          refine wg_ret rfl rfl trivial ⟨?_, rfl⟩
          unfold wo
          congr 2
          repeat (first | rw [if_pos (by omega)] | rw [if_neg (by omega)])
        · refine wg_s rfl rfl ?_
          refine wg_ret rfl rfl trivial ⟨?_, rfl⟩
          unfold wo
          congr 2
          repeat (first | rw [if_pos (by omega)] | rw [if_neg (by omega)])
      · refine wg_s rfl rfl ?_
        refine wg_ret rfl rfl trivial ⟨?_, rfl⟩
        unfold wo
        congr 2
        repeat (first | rw [if_pos (by omega)] | rw [if_neg (by omega)])
    · refine wg_s rfl rfl ?_
      refine wg_ret rfl rfl trivial ⟨?_, rfl⟩
      unfold wo
      congr 2
      repeat (first | rw [if_pos (by omega)] | rw [if_neg (by omega)])
  · refine wg_s rfl rfl ?_
    refine wg_ret rfl rfl trivial ⟨?_, rfl⟩
    unfold wo
    congr 2
    repeat (first | rw [if_pos (by omega)] | rw [if_neg (by omega)])
theorem lp_bk {d : Nat} {μ : ab_M} {l e : Nat} {Q : Option ab_V → ab_M → Prop} (hM : FM μ.2.2.1 μ.2.2.2.1) (hl : l ≤ 200) (K : ∀ ν, SN μ ν → ag_I ν 10 0 15 = (e : Int) → Wg d 139 ν 35 [(0, ab_r 10 (some 0)), (1, ab_i (l : Int))] [] Q) : ∀ (N a : Nat) (ν : ab_M), l - a < N → a ≤ l → SN μ ν → ag_I ν 10 0 15 = (a : Int) → run bk (T_ μ) (l - a) a = e → Wg d 139 ν 0 [(0, ab_r 10 (some 0)), (1, ab_i (l : Int))] [] Q := by
  intro N
  induction N with
  | zero => intro a ν hn; omega
  | succ N ih =>
    intro a ν hn hal hK ha he
    have hM2 := SN_M hK hM
    have hT := SN_T hK a
    refine wg_s rfl rfl ?_
    refine wg_gi rfl rfl (show _ = (a : Int) from ha) ?_
    refine wg_s rfl rfl ?_
    refine wg_if rfl rfl (fun h5 => ?_) (fun h5 => ?_)
    · have e1 : a = e := by rw [← he, show l - a = 0 by omega]; rfl
      subst e1
      exact K ν hK ha
    · refine wg_s rfl rfl ?_
      refine wg_gm rfl rfl hM2 ?_
      refine wg_s rfl rfl ?_
      refine wg_gi rfl rfl (show _ = (a : Int) from ha) ?_
      refine wg_bv rfl hM2 (by omega) (by omega) (show _ = T_ μ a from hT) ?_
      refine wg_s rfl rfl ?_
      refine wg_if rfl rfl (fun h19 => ?_) (fun h19 => ?_)
      · have e1 : a = e := by rw [← he, show l - a = (l - (a + 1)) + 1 by omega]; show _ = (if bk (T_ μ a) = true then _ else _); rw [if_neg (fun q => h19 (bk_t.mp q))]
        subst e1
        exact K ν hK ha
      · refine wg_s rfl rfl ?_
        refine wg_s rfl rfl ?_
        refine wg_gi rfl rfl (show _ = (a : Int) from ha) ?_
        refine wg_s rfl rfl ?_
        refine wg_iadd rfl (by omega) (by omega) ?_
        refine wg_s rfl rfl ?_
        refine wg_s rfl rfl ?_
        exact ih (a + 1) _ (by omega) (by omega) (SN_set hK (by omega) (by omega)) rfl (by rw [← he]; rw [show l - a = (l - (a + 1)) + 1 by omega]; show _ = (if bk (T_ μ a) = true then _ else _); rw [if_pos (bk_t.mpr (Decidable.not_not.mp h19))])
theorem lp_dg {d : Nat} {μ : ab_M} {l e s : Nat} {x c16 c17 : Int} {Q : Option ab_V → ab_M → Prop} (hM : FM μ.2.2.1 μ.2.2.2.1) (hl : l ≤ 200) (K : ∀ ν n, SN μ ν → s + n = e → ag_I ν 10 0 15 = (e : Int) → (ag_I ν 10 0 16 = c16 ∧ ag_I ν 10 0 17 = c17) → ag_I ν 10 0 18 = nu (T_ μ) s n → Wg (d + 1) 139 ν 320 [(0, ab_r 10 (some 0)), (1, ab_i (l : Int)), (2, ab_i x)] [] Q) : ∀ (N n : Nat) (ν : ab_M), l - (s + n) < N → s + n ≤ l → SN μ ν → ag_I ν 10 0 15 = ((s + n : Nat) : Int) → (ag_I ν 10 0 16 = c16 ∧ ag_I ν 10 0 17 = c17) → ag_I ν 10 0 18 = nu (T_ μ) s n → run dg (T_ μ) (l - (s + n)) (s + n) = e → (∀ i, i < n → dg (T_ μ (s + i)) = true) → Wg (d + 1) 139 ν 212 [(0, ab_r 10 (some 0)), (1, ab_i (l : Int)), (2, ab_i x)] [] Q := by
  intro N
  induction N with
  | zero => intro n ν hn; omega
  | succ N ih =>
    intro n ν hn hal hK ha hc hv he hd
    have hM2 := SN_M hK hM
    have hT := SN_T hK (s + n)
    have hr := nu_rng (T_ μ) s n hd
    refine wg_s rfl rfl ?_
    refine wg_gi rfl rfl (show _ = ((s + n : Nat) : Int) from ha) ?_
    refine wg_s rfl rfl ?_
    refine wg_if rfl rfl (fun h217 => ?_) (fun h217 => ?_)
    · have e1 : s + n = e := by rw [← he, show l - (s + n) = 0 by omega]; rfl
      exact K ν n hK e1 (by rw [ha, e1]) hc hv
    · refine wg_s rfl rfl ?_
      refine wg_gm rfl rfl hM2 ?_
      refine wg_s rfl rfl ?_
      refine wg_gi rfl rfl (show _ = ((s + n : Nat) : Int) from ha) ?_
      refine wg_bv rfl hM2 (by omega) (by omega) (show _ = T_ μ (s + n) from hT) ?_
      refine wg_s rfl rfl ?_
      refine wg_s rfl rfl ?_
      refine wg_s rfl rfl ?_
      refine wg_cf rfl rfl (sp_in _ _ _ _ _) ?_
      refine wg_eqb rfl (fun h239 => ?_) (fun h239 => ?_)
      · have e1 : s + n = e := by rw [← he, show l - (s + n) = (l - (s + n + 1)) + 1 by omega]; show _ = (if dg (T_ μ (s + n)) = true then _ else _); rw [if_neg (fun q => h239 (dg_t.mp q))]
        exact K ν n hK e1 (by rw [ha, e1]) hc hv
      · refine wg_s rfl rfl ?_
        refine wg_s rfl rfl ?_
        refine wg_gi rfl rfl (show _ = nu (T_ μ) s n from hv) ?_
        refine wg_s rfl rfl ?_
        refine wg_if rfl rfl (fun h249 => ?_) (fun h249 => ?_)
        · refine wg_s rfl rfl ?_
          refine wg_s rfl rfl ?_
          refine wg_gi rfl rfl (show _ = nu (T_ μ) s n from hv) ?_
          refine wg_imul rfl (by omega) (by omega) ?_
          refine wg_s rfl rfl ?_
          refine wg_gm rfl rfl hM2 ?_
          refine wg_s rfl rfl ?_
          refine wg_gi rfl rfl (show _ = ((s + n : Nat) : Int) from ha) ?_
          refine wg_bv rfl hM2 (by omega) (by omega) (show _ = T_ μ (s + n) from hT) ?_
          refine wg_iadd rfl (by omega) (by omega) ?_
          refine wg_s rfl rfl ?_
          refine wg_isub rfl (by omega) (by omega) ?_
          refine wg_s rfl rfl ?_
          refine wg_s rfl rfl ?_
          refine wg_s rfl rfl ?_
          refine wg_gi rfl rfl (show _ = ((s + n : Nat) : Int) from ha) ?_
          refine wg_s rfl rfl ?_
          refine wg_iadd rfl (by omega) (by omega) ?_
          refine wg_s rfl rfl ?_
          refine wg_s rfl rfl ?_
          refine ih (n + 1) _ (by omega) (by omega) (SN_set (SN_set hK (by omega) (by omega)) (by omega) (by omega)) rfl hc ?_ ?_ ?_
          · show _ = (if 99999 < nu (T_ μ) s n then nu (T_ μ) s n else 10 * nu (T_ μ) s n + T_ μ (s + n) - 48)
            rw [if_neg (by omega)]; rfl
          · rw [← he, show l - (s + n) = (l - (s + (n + 1))) + 1 by omega]; show _ = (if dg (T_ μ (s + n)) = true then _ else _); rw [if_pos (dg_t.mpr h239)]; rfl
          · intro i hi; by_cases q : i = n
            · rw [q]; exact dg_t.mpr h239
            · exact hd i (by omega)
        · refine wg_s rfl rfl ?_
          refine wg_gi rfl rfl (show _ = nu (T_ μ) s n from hv) ?_
          refine wg_s rfl rfl ?_
          refine wg_s rfl rfl ?_
          refine wg_s rfl rfl ?_
          refine wg_s rfl rfl ?_
          refine wg_gi rfl rfl (show _ = ((s + n : Nat) : Int) from ha) ?_
          refine wg_s rfl rfl ?_
          refine wg_iadd rfl (by omega) (by omega) ?_
          refine wg_s rfl rfl ?_
          refine wg_s rfl rfl ?_
          refine ih (n + 1) _ (by omega) (by omega) (SN_set (SN_set hK (by omega) (by omega)) (by omega) (by omega)) rfl hc ?_ ?_ ?_
          · show _ = (if 99999 < nu (T_ μ) s n then nu (T_ μ) s n else 10 * nu (T_ μ) s n + T_ μ (s + n) - 48)
            rw [if_pos (by omega)]; rfl
          · rw [← he, show l - (s + n) = (l - (s + (n + 1))) + 1 by omega]; show _ = (if dg (T_ μ (s + n)) = true then _ else _); rw [if_pos (dg_t.mpr h239)]; rfl
          · intro i hi; by_cases q : i = n
            · rw [q]; exact dg_t.mpr h239
            · exact hd i (by omega)
theorem lp_lt {d : Nat} {μ : ab_M} {l e s : Nat} {x c16 c17 : Int} {Q : Option ab_V → ab_M → Prop} (hM : FM μ.2.2.1 μ.2.2.2.1) (hl : l ≤ 200) (K : ∀ ν n, SN μ ν → s + n = e → ag_I ν 10 0 15 = (e : Int) → (ag_I ν 10 0 16 = c16 ∧ ag_I ν 10 0 17 = c17) → (∀ i, i < n → lt (T_ μ (s + i)) = true) → Wg (d + 2) 139 ν 150 [(0, ab_r 10 (some 0)), (1, ab_i (l : Int)), (2, ab_i x), (3, ab_l (hs (T_ μ) s (Nat.min n 8))), (5, ab_i (n : Int))] [] Q) : ∀ (N n : Nat) (ν : ab_M), l - (s + n) < N → s + n ≤ l → SN μ ν → ag_I ν 10 0 15 = ((s + n : Nat) : Int) → (ag_I ν 10 0 16 = c16 ∧ ag_I ν 10 0 17 = c17) → run lt (T_ μ) (l - (s + n)) (s + n) = e → (∀ i, i < n → lt (T_ μ (s + i)) = true) → Wg (d + 2) 139 ν 79 [(0, ab_r 10 (some 0)), (1, ab_i (l : Int)), (2, ab_i x), (3, ab_l (hs (T_ μ) s (Nat.min n 8))), (5, ab_i (n : Int))] [] Q := by
  intro N
  induction N with
  | zero => intro n ν hn; omega
  | succ N ih =>
    intro n ν hn hal hK ha hc he hd
    have hM2 := SN_M hK hM
    have hT := SN_T hK (s + n)
    refine wg_s rfl rfl ?_
    refine wg_gi rfl rfl (show _ = ((s + n : Nat) : Int) from ha) ?_
    refine wg_s rfl rfl ?_
    refine wg_if rfl rfl (fun h84 => ?_) (fun h84 => ?_)
    · have e1 : s + n = e := by rw [← he, show l - (s + n) = 0 by omega]; rfl
      exact K ν n hK e1 (by rw [ha, e1]) hc hd
    · refine wg_s rfl rfl ?_
      refine wg_gm rfl rfl hM2 ?_
      refine wg_s rfl rfl ?_
      refine wg_gi rfl rfl (show _ = ((s + n : Nat) : Int) from ha) ?_
      refine wg_bv rfl hM2 (by omega) (by omega) (show _ = T_ μ (s + n) from hT) ?_
      refine wg_cf rfl rfl (sp_isLetter _ _ _) ?_
      refine wg_eqb rfl (fun h99 => ?_) (fun h99b => ?_)
      · have e1 : s + n = e := by rw [← he, show l - (s + n) = (l - (s + n + 1)) + 1 by omega]; show _ = (if lt (T_ μ (s + n)) = true then _ else _); rw [if_neg h99]
        exact K ν n hK e1 (by rw [ha, e1]) hc hd
      · refine wg_s rfl rfl ?_
        refine wg_s rfl rfl ?_
        refine wg_if rfl rfl (fun h106 => ?_) (fun h106 => ?_)
        · refine wg_s rfl rfl ?_
          refine wg_s rfl rfl ?_
          refine wg_iinc rfl rfl rfl (by omega) (by omega) rfl ?_
          refine wg_s rfl rfl ?_
          refine wg_s rfl rfl ?_
          refine wg_gi rfl rfl (show _ = ((s + n : Nat) : Int) from ha) ?_
          refine wg_s rfl rfl ?_
          refine wg_iadd rfl (by omega) (by omega) ?_
          refine wg_s rfl rfl ?_
          refine wg_s rfl rfl ?_
          have hi := ih (n + 1) (as_I ν 10 0 15 (((s + n : Nat) : Int) + 1)) (by omega) (by omega) (SN_set hK (by omega) (by omega)) rfl hc (by rw [← he, show l - (s + n) = (l - (s + (n + 1))) + 1 by omega]; show _ = (if lt (T_ μ (s + n)) = true then _ else _); rw [if_pos h99b]; rfl) (fun i hi => by by_cases q : i = n; (rw [q]; exact h99b); exact hd i (by omega))
          rw [show Nat.min (n + 1) 8 = 8 from Nat.min_eq_right (by omega)] at hi
          rw [show Nat.min n 8 = 8 from Nat.min_eq_right (by omega)]
          exact hi
        · refine wg_s rfl rfl ?_
          refine wg_s rfl rfl ?_
          have h99 := lt_t.mp h99b
          have hr := hs_rng (T_ μ) s n hd
          have hp : (64 ^ n : Nat) ≤ 64 ^ 8 := Nat.pow_le_pow_right (by omega) (by omega)
          have e8 : Nat.min n 8 = n := Nat.min_eq_left (by omega)
          rw [e8]
          refine wg_lbin (z := 64 * hs (T_ μ) s n) rfl rfl (by omega) (by omega) ?_
          refine wg_s rfl rfl ?_
          refine wg_gm rfl rfl hM2 ?_
          refine wg_s rfl rfl ?_
          refine wg_gi rfl rfl (show _ = ((s + n : Nat) : Int) from ha) ?_
          refine wg_bv rfl hM2 (by omega) (by omega) (show _ = T_ μ (s + n) from hT) ?_
          refine wg_s rfl rfl ?_
          refine wg_lbin (z := 64 * hs (T_ μ) s n + T_ μ (s + n)) rfl rfl (by omega) (by omega) ?_
          refine wg_s rfl rfl ?_
          refine wg_lbin (z := 64 * hs (T_ μ) s n + T_ μ (s + n) - 64) rfl rfl (by omega) (by omega) ?_
          refine wg_s rfl rfl ?_
          refine wg_s rfl rfl ?_
          refine wg_iinc rfl rfl rfl (by omega) (by omega) rfl ?_
          refine wg_s rfl rfl ?_
          refine wg_s rfl rfl ?_
          refine wg_gi rfl rfl (show _ = ((s + n : Nat) : Int) from ha) ?_
          refine wg_s rfl rfl ?_
          refine wg_iadd rfl (by omega) (by omega) ?_
          refine wg_s rfl rfl ?_
          refine wg_s rfl rfl ?_
          have hi := ih (n + 1) (as_I ν 10 0 15 (((s + n : Nat) : Int) + 1)) (by omega) (by omega) (SN_set hK (by omega) (by omega)) rfl hc (by rw [← he, show l - (s + n) = (l - (s + (n + 1))) + 1 by omega]; show _ = (if lt (T_ μ (s + n)) = true then _ else _); rw [if_pos h99b]; rfl) (fun i hi => by by_cases q : i = n; (rw [q]; exact h99b); exact hd i (by omega))
          rw [show Nat.min (n + 1) 8 = n + 1 from Nat.min_eq_left (by omega)] at hi
          exact hi
theorem sp_next0 {d : Nat} {μ ν : ab_M} {l s : Nat} (hM : FM μ.2.2.1 μ.2.2.2.1) (hl : l ≤ 200) (hsl : s ≤ l) (hK : SN μ ν) (ha : ag_I ν 10 0 15 = (s : Int)) : Wg (d + 3) 139 ν 35 [(0, ab_r 10 (some 0)), (1, ab_i (l : Int))] [] (fun v ν => v = none ∧ SN μ ν ∧ ag_I ν 10 0 15 = (t_x (T_ μ) l s : Int) ∧ ag_I ν 10 0 16 = (s : Int) ∧ ag_I ν 10 0 17 = t_k (T_ μ) l s ∧ (ag_I ν 10 0 17 = 1 ∨ ag_I ν 10 0 17 = 2 → ag_I ν 10 0 18 = t_v (T_ μ) l s)) := by
  have hM2 := SN_M hK hM
  refine wg_s rfl rfl ?_
  refine wg_s rfl rfl ?_
  refine wg_gi rfl rfl (show _ = (s : Int) from ha) ?_
  refine wg_s rfl rfl ?_
  refine wg_s rfl rfl ?_
  refine wg_gi rfl rfl (show _ = (s : Int) from ha) ?_
  refine wg_s rfl rfl ?_
  refine wg_if rfl rfl (fun h48 => ?_) (fun h48 => ?_)
  · refine wg_s rfl rfl ?_
    refine wg_gm rfl rfl hM2 ?_
    refine wg_s rfl rfl ?_
    refine wg_gi rfl rfl (show _ = (s : Int) from ha) ?_
    have hT := SN_T hK s
    refine wg_bv rfl hM2 (by omega) (by omega) (show _ = T_ μ s from hT) ?_
    refine wg_s rfl rfl ?_
    refine wg_s rfl rfl ?_
    refine wg_cf rfl rfl (sp_isLetter _ _ _) ?_
    refine wg_eqb rfl (fun h71 => ?_) (fun h71 => ?_)
    · refine wg_s rfl rfl ?_
      refine wg_s rfl rfl ?_
      refine wg_s rfl rfl ?_
      refine wg_s rfl rfl ?_
      refine wg_cf rfl rfl (sp_in _ _ _ _ _) ?_
      refine wg_eqb rfl (fun h199 => ?_) (fun h199 => ?_)
      · refine wg_s rfl rfl ?_
        refine wg_s rfl rfl ?_
        refine wg_gi rfl rfl (show _ = (s : Int) from ha) ?_
        refine wg_s rfl rfl ?_
        refine wg_iadd rfl (by omega) (by omega) ?_
        refine wg_s rfl rfl ?_
        refine wg_s rfl rfl ?_
        refine wg_s rfl rfl ?_
        refine wg_s rfl rfl ?_
        refine wg_if rfl rfl (fun h309 => ?_) (fun h309 => ?_)
        · refine wg_s rfl rfl ?_
          refine wg_s rfl rfl ?_
          have ne : s ≠ l := by omega
          have g1 : ¬ (dg (T_ μ s) = true) := fun q => h199 (dg_t.mp q)
          refine wg_ret rfl rfl trivial ⟨rfl, SN_set (SN_set (SN_set hK (by omega) (by omega)) (by omega) (by omega)) (by omega) (by omega), ?_, rfl, ?_, fun q => ?_⟩
          · unfold t_x; rw [if_neg ne, if_neg h71, if_neg g1]; rfl
          · unfold t_k; rw [if_neg ne, if_neg h71, if_neg g1, if_neg (by omega)]; rfl
          · exact absurd q (by show ¬ ((4 : Int) = 1 ∨ (4 : Int) = 2); omega)
        · refine wg_s rfl rfl ?_
          refine wg_s rfl rfl ?_
          refine wg_s rfl rfl ?_
          have ne : s ≠ l := by omega
          have g1 : ¬ (dg (T_ μ s) = true) := fun q => h199 (dg_t.mp q)
          refine wg_ret rfl rfl trivial ⟨rfl, SN_set (SN_set (SN_set hK (by omega) (by omega)) (by omega) (by omega)) (by omega) (by omega), ?_, rfl, ?_, fun q => ?_⟩
          · unfold t_x; rw [if_neg ne, if_neg h71, if_neg g1]; rfl
          · unfold t_k; rw [if_neg ne, if_neg h71, if_neg g1, if_pos (by omega)]; rfl
          · exact absurd q (by show ¬ ((3 : Int) = 1 ∨ (3 : Int) = 2); omega)
      · refine wg_s rfl rfl ?_
        refine wg_s rfl rfl ?_
        refine wg_s rfl rfl ?_
        refine wg_s rfl rfl ?_
        refine wg_s rfl rfl ?_
        refine wg_s rfl rfl ?_
        refine lp_dg (d := d + 2) (e := run dg (T_ μ) (l - s) s) (s := s) (c16 := (s : Int)) (c17 := 2) hM hl (fun ν3 n h3 e3 a3 c3 v3 => ?_) 201 0 _ (by omega) (by omega) (SN_set (SN_set (SN_set hK (by omega) (by omega)) (by omega) (by omega)) (by omega) (by omega)) ha ⟨rfl, rfl⟩ rfl rfl (fun i hi => absurd hi (Nat.not_lt_zero i))
        have ne : s ≠ l := by omega
        have g1 := dg_t.mpr h199
        have hx : t_x (T_ μ) l s = run dg (T_ μ) (l - s) s := by unfold t_x; rw [if_neg ne, if_neg h71, if_pos g1]
        have hn : t_x (T_ μ) l s - s = n := by omega
        refine wg_ret rfl rfl trivial ⟨rfl, h3, ?_, c3.1, ?_, fun q => ?_⟩
        · rw [hx]; exact a3
        · rw [c3.2]; unfold t_k; rw [if_neg ne, if_neg h71, if_pos g1]
        · rw [v3]; unfold t_v; rw [if_neg h71, hn]
    · refine wg_s rfl rfl ?_
      refine wg_s rfl rfl ?_
      refine wg_s rfl rfl ?_
      refine wg_s rfl rfl ?_
      refine lp_lt (d := d + 1) (e := run lt (T_ μ) (l - s) s) (s := s) (c16 := (s : Int)) (c17 := ag_I ν 10 0 17) hM hl (fun ν3 n h3 e3 a3 c3 d3 => ?_) 201 0 _ (by omega) (by omega) (SN_set hK (by omega) (by omega)) ha ⟨rfl, rfl⟩ rfl (fun i hi => absurd hi (Nat.not_lt_zero i))
      have ne : s ≠ l := by omega
      have hx : t_x (T_ μ) l s = run lt (T_ μ) (l - s) s := by unfold t_x; rw [if_neg ne, if_pos h71]
      have hn : t_x (T_ μ) l s - s = n := by omega
      have hv : t_v (T_ μ) l s = (if 6 < n then -1 else wo (hs (T_ μ) s n)) := by unfold t_v; rw [if_pos h71, hn]
      have hk : t_k (T_ μ) l s = (if t_v (T_ μ) l s < 0 then 4 else 1) := by unfold t_k; rw [if_neg ne, if_pos h71]
      refine wg_s rfl rfl ?_
      refine wg_s rfl rfl ?_
      refine wg_s rfl rfl ?_
      refine wg_if rfl rfl (fun h155 => ?_) (fun h155 => ?_)
      · refine wg_s rfl rfl ?_
        rw [show Nat.min n 8 = n from Nat.min_eq_left (by omega)]
        refine wg_cf rfl rfl (sp_wordOf _ _ _) ?_
        refine wg_s rfl rfl ?_
        refine wg_s rfl rfl ?_
        refine wg_s rfl rfl ?_
        refine wg_gi rfl rfl (show _ = t_v (T_ μ) l s from (by rw [hv]; rw [if_neg (by omega)]; rfl)) ?_
        refine wg_if rfl rfl (fun h174 => ?_) (fun h174 => ?_)
        · refine wg_s rfl rfl ?_
          refine wg_s rfl rfl ?_
          refine wg_s rfl rfl ?_
          refine wg_ret rfl rfl trivial ⟨rfl, SN_set (SN_set h3 (by omega) (by omega)) (by omega) (by omega), ?_, c3.1, ?_, fun q => ?_⟩
          · rw [hx]; exact a3
          · rw [hk]; rw [if_neg (by omega)]; rfl
          · rw [hv]; rw [if_neg (by omega)]; rfl
        · refine wg_s rfl rfl ?_
          refine wg_s rfl rfl ?_
          refine wg_s rfl rfl ?_
          refine wg_s rfl rfl ?_
          refine wg_ret rfl rfl trivial ⟨rfl, SN_set (SN_set h3 (by omega) (by omega)) (by omega) (by omega), ?_, c3.1, ?_, fun q => ?_⟩
          · rw [hx]; exact a3
          · rw [hk]; rw [if_pos (by omega)]; rfl
          · rw [hv]; rw [if_neg (by omega)]; rfl
      · refine wg_s rfl rfl ?_
        refine wg_s rfl rfl ?_
        refine wg_s rfl rfl ?_
        refine wg_s rfl rfl ?_
        refine wg_s rfl rfl ?_
        refine wg_gi rfl rfl (show _ = t_v (T_ μ) l s from (by rw [hv]; rw [if_pos (by omega)]; rfl)) ?_
        refine wg_if rfl rfl (fun h174 => ?_) (fun h174 => ?_)
        · refine wg_s rfl rfl ?_
          refine wg_s rfl rfl ?_
          refine wg_s rfl rfl ?_
          refine wg_ret rfl rfl trivial ⟨rfl, SN_set (SN_set h3 (by omega) (by omega)) (by omega) (by omega), ?_, c3.1, ?_, fun q => ?_⟩
          · rw [hx]; exact a3
          · rw [hk]; rw [if_neg (by omega)]; rfl
          · rw [hv]; rw [if_pos (by omega)]; rfl
        · refine wg_s rfl rfl ?_
          refine wg_s rfl rfl ?_
          refine wg_s rfl rfl ?_
          refine wg_s rfl rfl ?_
          refine wg_ret rfl rfl trivial ⟨rfl, SN_set (SN_set h3 (by omega) (by omega)) (by omega) (by omega), ?_, c3.1, ?_, fun q => ?_⟩
          · rw [hx]; exact a3
          · rw [hk]; rw [if_pos (by omega)]; rfl
          · rw [hv]; rw [if_pos (by omega)]; rfl
  · refine wg_s rfl rfl ?_
    refine wg_s rfl rfl ?_
    refine wg_s rfl rfl ?_
    have e1 : s = l := by omega
    refine wg_ret rfl rfl trivial ⟨rfl, SN_set (SN_set hK (by omega) (by omega)) (by omega) (by omega), ?_, rfl, ?_, fun q => ?_⟩
    · unfold t_x; rw [if_pos e1]; exact ha
    · unfold t_k; rw [if_pos e1]; rfl
    · exact absurd q (by show ¬ ((0 : Int) = 1 ∨ (0 : Int) = 2); omega)
theorem sp_mnext (d : Nat) (l a : Nat) (μ : ab_M) (hM : FM μ.2.2.1 μ.2.2.2.1) (hl : l ≤ 200) (hal : a ≤ l) (ha : ag_I μ 10 0 15 = (a : Int)) : Wp (d + 4) 139 [ab_r 10 (some 0), ab_i (l : Int)] μ (fun v ν => v = none ∧ SN μ ν ∧ ag_I ν 10 0 15 = (t_x (T_ μ) l (t_s (T_ μ) l a) : Int) ∧ ag_I ν 10 0 16 = (t_s (T_ μ) l a : Int) ∧ ag_I ν 10 0 17 = t_k (T_ μ) l (t_s (T_ μ) l a) ∧ (ag_I ν 10 0 17 = 1 ∨ ag_I ν 10 0 17 = 2 → ag_I ν 10 0 18 = t_v (T_ μ) l (t_s (T_ μ) l a))) := by
  refine wp_of ?_
  refine lp_bk (e := t_s (T_ μ) l a) hM hl (fun ν hK h => ?_) 201 a μ (by omega) hal (SN_refl μ) ha rfl
  have hr := run_rng bk (T_ μ) (l - a) a
  exact sp_next0 (d := d) hM hl (show run bk (T_ μ) (l - a) a ≤ l by omega) hK h
