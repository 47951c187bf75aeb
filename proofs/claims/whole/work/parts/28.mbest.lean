/-! ===== pairings ===== -/
/-- who is with a helper: the last of the first k homes, or -1 -/
def gi (A : Nat → Int) (p : Nat) : Nat → Int
  | 0 => -1
  | k + 1 => if A k = (p : Int) then (k : Int) else gi A p k
theorem gi_rng (A : Nat → Int) (p : Nat) : ∀ k : Nat, -1 ≤ gi A p k ∧ gi A p k < k
  | 0 => by simp [gi]
  | k + 1 => by
    have := gi_rng A p k
    unfold gi
    split <;> omega
/-- a home and a helper that would run away -/
def pr_ru (n : Nat) (ok : Nat → Nat → Bool) (lk ld : Nat → Nat → Int) (A : Nat → Int) (i p : Nat) : Bool := ok i p && decide (A i ≠ (p : Int) ∧ (A i < 0 ∨ lk i (A i).toNat < lk i p) ∧ (gi A p n < 0 ∨ ld (gi A p n).toNat p < ld i p))
def pr_r (K n : Nat) (ok : Nat → Nat → Bool) (lk ld : Nat → Nat → Int) (A : Nat → Int) : Nat → Int
  | 0 => 0
  | i + 1 => pr_r K n ok lk ld A i + nb (pr_ru n ok lk ld A i) K
def pr_l (lk ld : Nat → Nat → Int) (A : Nat → Int) : Nat → Int
  | 0 => 0
  | i + 1 => pr_l lk ld A i + if A i < 0 then 0 else lk i (A i).toNat + ld i (A i).toNat
theorem pr_r_rng (K n : Nat) (ok : Nat → Nat → Bool) (lk ld : Nat → Nat → Int) (A : Nat → Int) : ∀ i : Nat, 0 ≤ pr_r K n ok lk ld A i ∧ pr_r K n ok lk ld A i ≤ i * K
  | 0 => by simp [pr_r]
  | i + 1 => by
    have h1 := pr_r_rng K n ok lk ld A i
    have h2 := nb_rng (pr_ru n ok lk ld A i) K
    unfold pr_r
    rw [Int.natCast_add, Int.add_mul]
    omega
/-- the reference in the middle of its search -/
def m_ok (μ : ab_M) (LH : Nat → Nat) (i p : Nat) : Bool := m_fr μ p (ag_I μ 10 0 26).toNat && decide (m_why μ (LH i) p = 0)
def m_lk (μ : ab_M) (LH : Nat → Nat) (i p : Nat) : Int := ag_I μ 11 28 (8 * LH i + p)
def m_ld (μ : ab_M) (LH : Nat → Nat) (i p : Nat) : Int := ag_I μ 11 29 (8 * LH i + p)
def SB (μ : ab_M) (LH : Nat → Nat) (n : Nat) (A : Nat → Int) : Prop := WM μ ∧ n ≤ 6 ∧ ag_I μ 10 0 38 = (n : Int) ∧ (∀ i, i < n → ag_I μ 11 43 i = (LH i : Int) ∧ LH i < 8 ∧ ag_I μ 11 44 (LH i) = A i ∧ -1 ≤ A i ∧ A i < ag_I μ 10 0 6) ∧ (∀ k, k < 64 → (0 ≤ ag_I μ 11 28 k ∧ ag_I μ 11 28 k ≤ 99) ∧ (0 ≤ ag_I μ 11 29 k ∧ ag_I μ 11 29 k ≤ 99))
def t_r (e : Option (Int × Int × Int)) : ab_L := match e with
  | none => []
  | some (x, y, z) => [(5, ab_i x), (6, ab_i y), (7, ab_i z)]
def t_7 (e : Option Int) : ab_L := match e with
  | none => []
  | some z => [(7, ab_i z)]
def ot (LH : Nat → Nat) (x : Int) : Int := if x < 0 then -1 else (LH x.toNat : Int)
theorem tnn (n : Nat) : ((n : Nat) : Int).toNat = n := rfl
theorem lp_other {d : Nat} {μ : ab_M} {LH : Nat → Nat} {n : Nat} {A : Nat → Int} (hS : SB μ LH n A) {Q : Option ab_V → ab_M → Prop} (c i : Int) (h : Nat) (p : Nat) (e : Option Int) (hQ : Wg d 122 μ 116 ([(0, ab_r 10 (some 0)), (1, ab_i c), (2, ab_i i), (3, ab_i (h : Int)), (4, ab_i (p : Int)), (5, ab_i (ot LH (gi A p n))), (6, ab_i (n : Int))] ++ t_7 e) [] Q) : ∀ (N : Nat) (z f : Int), (n : Int) - z < N → 0 ≤ z → z ≤ n → f = ot LH (gi A p z.toNat) → Wg d 122 μ 70 ([(0, ab_r 10 (some 0)), (1, ab_i c), (2, ab_i i), (3, ab_i (h : Int)), (4, ab_i (p : Int)), (5, ab_i f), (6, ab_i z)] ++ t_7 e) [] Q := by
  intro N
  induction N with
  | zero => intro z f hn hz; omega
  | succ N ih =>
    intro z f hn hz hz2 hf
    obtain ⟨hW, hn6, h38, hA, hlk⟩ := id hS
    obtain ⟨hM, h1, h6, h26, h0, h14⟩ := id hW
    by_cases hzn : z = (n : Int)
    · cases e with
      | none =>
        have e : z = (n : Int) := hzn
        subst e
        rw [hf]
        refine wg_s rfl rfl ?_
        refine wg_s rfl rfl ?_
        refine wg_gi rfl rfl (show _ = (n : Int) from h38) ?_
        refine wg_if rfl rfl (fun h76 => ?_) (fun h76 => ?_)
        · exact (by rw [tnn] at *; exact hQ)
        · exfalso; omega
      | some t =>
        have e : z = (n : Int) := hzn
        subst e
        rw [hf]
        refine wg_s rfl rfl ?_
        refine wg_s rfl rfl ?_
        refine wg_gi rfl rfl (show _ = (n : Int) from h38) ?_
        refine wg_if rfl rfl (fun h76 => ?_) (fun h76 => ?_)
        · exact (by rw [tnn] at *; exact hQ)
        · exfalso; omega
    · have hz3 : ag_I μ 11 43 z.toNat = (LH z.toNat : Int) ∧ LH z.toNat < 8 ∧ ag_I μ 11 44 (LH z.toNat) = A z.toNat ∧ -1 ≤ A z.toNat ∧ A z.toNat < ag_I μ 10 0 6 := hA _ (by omega)
      cases e with
      | none =>
        refine wg_s rfl rfl ?_
        refine wg_s rfl rfl ?_
        refine wg_gi rfl rfl (show _ = (n : Int) from h38) ?_
        refine wg_if rfl rfl (fun h76 => ?_) (fun h76 => ?_)
        · exfalso; omega
        · refine wg_s rfl rfl ?_
          refine wg_gm rfl rfl hM ?_
          refine wg_s rfl rfl ?_
          refine wg_gm rfl rfl hM ?_
          refine wg_s rfl rfl ?_
          refine wg_iav rfl hM rfl (by omega) (by omega) (show _ = (LH z.toNat : Int) from hz3.1) ?_
          refine wg_iav rfl hM rfl (by omega) (by omega) (show _ = A z.toNat from hz3.2.2.1) ?_
          refine wg_s rfl rfl ?_
          refine wg_if rfl rfl (fun h93 => ?_) (fun h93 => ?_)
          · refine wg_s rfl rfl ?_
            refine wg_s rfl rfl ?_
            refine wg_iinc rfl rfl rfl (by omega) (by omega) rfl ?_
            refine wg_s rfl rfl ?_
            exact ih _ _ (by omega) (by omega) (by omega) (by rw [tn1 hz]; unfold gi; first | rw [if_pos (by omega)]; unfold ot; rw [if_neg (by omega)]; rfl | rw [if_neg (by omega)]; exact hf)
          · refine wg_s rfl rfl ?_
            refine wg_gm rfl rfl hM ?_
            refine wg_s rfl rfl ?_
            refine wg_iav rfl hM rfl (by omega) (by omega) (show _ = (LH z.toNat : Int) from hz3.1) ?_
            refine wg_s rfl rfl ?_
            refine wg_s rfl rfl ?_
            refine wg_iinc rfl rfl rfl (by omega) (by omega) rfl ?_
            refine wg_s rfl rfl ?_
            exact ih _ _ (by omega) (by omega) (by omega) (by rw [tn1 hz]; unfold gi; first | rw [if_pos (by omega)]; unfold ot; rw [if_neg (by omega)]; rfl | rw [if_neg (by omega)]; exact hf)
      | some t =>
        refine wg_s rfl rfl ?_
        refine wg_s rfl rfl ?_
        refine wg_gi rfl rfl (show _ = (n : Int) from h38) ?_
        refine wg_if rfl rfl (fun h76 => ?_) (fun h76 => ?_)
        · exfalso; omega
        · refine wg_s rfl rfl ?_
          refine wg_gm rfl rfl hM ?_
          refine wg_s rfl rfl ?_
          refine wg_gm rfl rfl hM ?_
          refine wg_s rfl rfl ?_
          refine wg_iav rfl hM rfl (by omega) (by omega) (show _ = (LH z.toNat : Int) from hz3.1) ?_
          refine wg_iav rfl hM rfl (by omega) (by omega) (show _ = A z.toNat from hz3.2.2.1) ?_
          refine wg_s rfl rfl ?_
          refine wg_if rfl rfl (fun h93 => ?_) (fun h93 => ?_)
          · refine wg_s rfl rfl ?_
            refine wg_s rfl rfl ?_
            refine wg_iinc rfl rfl rfl (by omega) (by omega) rfl ?_
            refine wg_s rfl rfl ?_
            exact ih _ _ (by omega) (by omega) (by omega) (by rw [tn1 hz]; unfold gi; first | rw [if_pos (by omega)]; unfold ot; rw [if_neg (by omega)]; rfl | rw [if_neg (by omega)]; exact hf)
          · refine wg_s rfl rfl ?_
            refine wg_gm rfl rfl hM ?_
            refine wg_s rfl rfl ?_
            refine wg_iav rfl hM rfl (by omega) (by omega) (show _ = (LH z.toNat : Int) from hz3.1) ?_
            refine wg_s rfl rfl ?_
            refine wg_s rfl rfl ?_
            refine wg_iinc rfl rfl rfl (by omega) (by omega) rfl ?_
            refine wg_s rfl rfl ?_
            exact ih _ _ (by omega) (by omega) (by omega) (by rw [tn1 hz]; unfold gi; first | rw [if_pos (by omega)]; unfold ot; rw [if_neg (by omega)]; rfl | rw [if_neg (by omega)]; exact hf)
theorem pr_ru_t {n : Nat} {ok : Nat → Nat → Bool} {lk ld : Nat → Nat → Int} {A : Nat → Int} {i p : Nat} (h : ok i p = true) (h1 : A i ≠ (p : Int)) (h2 : A i < 0 ∨ lk i (A i).toNat < lk i p) (h3 : gi A p n < 0 ∨ ld (gi A p n).toNat p < ld i p) : pr_ru n ok lk ld A i p = true := by
  unfold pr_ru; rw [h]; simp only [Bool.true_and, decide_eq_true_eq]; exact ⟨h1, h2, h3⟩
theorem pr_ru_f {n : Nat} {ok : Nat → Nat → Bool} {lk ld : Nat → Nat → Int} {A : Nat → Int} {i p : Nat} (h : ok i p = true → A i ≠ (p : Int) → (A i < 0 ∨ lk i (A i).toNat < lk i p) → (gi A p n < 0 ∨ ld (gi A p n).toNat p < ld i p) → False) : pr_ru n ok lk ld A i p = false := by
  unfold pr_ru
  cases ho : ok i p with
  | false => rfl
  | true =>
    simp only [Bool.true_and, decide_eq_false_iff_not]
    exact fun q => h ho q.1 q.2.1 q.2.2
theorem m_ok_t {μ : ab_M} {LH : Nat → Nat} {i p : Nat} : m_ok μ LH i p = true ↔ m_fr μ p (ag_I μ 10 0 26).toNat = true ∧ m_why μ (LH i) p = 0 := by
  unfold m_ok; simp only [Bool.and_eq_true, decide_eq_true_eq]
theorem lp_ruin {d : Nat} {μ : ab_M} {LH : Nat → Nat} {n : Nat} {A : Nat → Int} (hS : SB μ LH n A) {Q : Option ab_V → ab_M → Prop} (i : Nat) (hi : i < n) (hQ : ∀ e p, p = pr_r (ag_I μ 10 0 6).toNat n (m_ok μ LH) (m_lk μ LH) (m_ld μ LH) A i + nb (pr_ru n (m_ok μ LH) (m_lk μ LH) (m_ld μ LH) A i) (ag_I μ 10 0 6).toNat → Wg (d + 1) 122 μ 227 ([(0, ab_r 10 (some 0)), (1, ab_i p), (2, ab_i (i : Int)), (3, ab_i (LH i : Int)), (4, ab_i ((ag_I μ 10 0 6).toNat : Int))] ++ t_r e) [] Q) : ∀ (N p : Nat) (f : Int) (e : Option (Int × Int × Int)), ag_I μ 10 0 6 - p < N → (p : Int) ≤ ag_I μ 10 0 6 → f = pr_r (ag_I μ 10 0 6).toNat n (m_ok μ LH) (m_lk μ LH) (m_ld μ LH) A i + nb (pr_ru n (m_ok μ LH) (m_lk μ LH) (m_ld μ LH) A i) p → Wg (d + 1) 122 μ 22 ([(0, ab_r 10 (some 0)), (1, ab_i f), (2, ab_i (i : Int)), (3, ab_i (LH i : Int)), (4, ab_i (p : Int))] ++ t_r e) [] Q := by
  intro N
  induction N with
  | zero => intro p f e hn hp; omega
  | succ N ih =>
    intro p f e hn hp2 hf
    obtain ⟨hW, hn6, h38, hA, hlk⟩ := id hS
    obtain ⟨hM, h1, h6, h26, h0, h14⟩ := id hW
    have hi3 := hA i hi
    have rr := pr_r_rng (ag_I μ 10 0 6).toNat n (m_ok μ LH) (m_lk μ LH) (m_ld μ LH) A i
    have rm : (i : Int) * ((ag_I μ 10 0 6).toNat : Int) ≤ 6 * 8 := Int.mul_le_mul (by omega) (by omega) (by omega) (by omega)
    have rn := nb_rng (pr_ru n (m_ok μ LH) (m_lk μ LH) (m_ld μ LH) A i) p
    rcases e with _ | ⟨x0, y0, t⟩
    · refine wg_s rfl rfl ?_
      refine wg_s rfl rfl ?_
      refine wg_gi rfl rfl (show _ = ag_I μ 10 0 6 from rfl) ?_
      refine wg_if rfl rfl (fun h28 => ?_) (fun h28 => ?_)
      · have e : (p : Int) = ag_I μ 10 0 6 := by omega
        have e2 : p = (ag_I μ 10 0 6).toNat := by omega
        subst e2
        exact hQ none _ hf
      · refine wg_s rfl rfl ?_
        refine wg_gm rfl rfl hM ?_
        refine wg_s rfl rfl ?_
        refine wg_iav rfl hM rfl (by omega) (by omega) (show _ = A i from hi3.2.2.1) ?_
        refine wg_s rfl rfl ?_
        refine wg_if rfl rfl (fun h39 => ?_) (fun h39 => ?_)
        · refine wg_iinc rfl rfl rfl (by omega) (by omega) rfl ?_
          refine wg_s rfl rfl ?_
          exact ih (p + 1) _ none (by omega) (by omega) (by show _ = _ + (nb _ p + _); rw [hf, if_neg (by rw [pr_ru_f (fun _ q _ _ => q h39)]; exact Bool.false_ne_true), Int.add_zero])
        · refine wg_s rfl rfl ?_
          refine wg_s rfl rfl ?_
          refine wg_cf rfl rfl (sp_isFree _ _ _ hW) ?_
          refine wg_eqb rfl (fun h48 => ?_) (fun h48 => ?_)
          · refine wg_iinc rfl rfl rfl (by omega) (by omega) rfl ?_
            refine wg_s rfl rfl ?_
            exact ih (p + 1) _ none (by omega) (by omega) (by show _ = _ + (nb _ p + _); rw [hf, if_neg (by rw [pr_ru_f (fun q _ _ _ => h48 (m_ok_t.mp q).1)]; exact Bool.false_ne_true), Int.add_zero])
          · refine wg_s rfl rfl ?_
            refine wg_s rfl rfl ?_
            refine wg_s rfl rfl ?_
            refine wg_cf rfl rfl (show Wp _ 118 _ _ (fun w μ' => w = some (ab_i (m_why μ (LH i) p)) ∧ μ' = μ) from sp_mwhyNot _ _ _ _ hM ⟨by omega, by omega⟩ ⟨by omega, by omega⟩) ?_
            refine wg_if rfl rfl (fun h58 => ?_) (fun h58 => ?_)
            · refine wg_s rfl rfl ?_
              refine wg_s rfl rfl ?_
              refine wg_s rfl rfl ?_
              refine wg_s rfl rfl ?_
              refine lp_other (d := d + 1) hS _ _ _ p none ?_ (n + 1) 0 (-1) (by omega) (by omega) (by omega) rfl
              have hok : m_ok μ LH i p = true := m_ok_t.mpr ⟨h48, h58⟩
              have hg := gi_rng A p n
              have hx : (gi A p n < 0 ∧ ot LH (gi A p n) = -1) ∨ (0 ≤ gi A p n ∧ ot LH (gi A p n) = (LH (gi A p n).toNat : Int) ∧ LH (gi A p n).toNat < 8) := by
                by_cases q : gi A p n < 0
                · left; exact ⟨q, if_pos q⟩
                · right; exact ⟨by omega, if_neg q, (hA _ (by omega)).2.1⟩
              generalize ot LH (gi A p n) = x at hx
              have K2 : ∀ u v : Int, u = bI (A i < 0 ∨ m_lk μ LH i (A i).toNat < m_lk μ LH i p) → v = bI (gi A p n < 0 ∨ m_ld μ LH (gi A p n).toNat p < m_ld μ LH i p) → Wg (d + 1) 122 μ 201 [(0, ab_r 10 (some 0)), (1, ab_i f), (2, ab_i (i : Int)), (3, ab_i (LH i : Int)), (4, ab_i (p : Int)), (5, ab_i x), (6, ab_i u)] [ab_i v] Q := by
                intro u v hu hv
                refine wg_s rfl rfl ?_
                refine wg_s rfl rfl ?_
                refine wg_s rfl rfl ?_
                refine wg_if rfl rfl (fun h206 => ?_) (fun h206 => ?_)
                · refine wg_s rfl rfl ?_
                  refine wg_iadd rfl (by omega) (by omega) ?_
                  refine wg_s rfl rfl ?_
                  refine wg_iinc rfl rfl rfl (by omega) (by omega) rfl ?_
                  refine wg_s rfl rfl ?_
                  rw [Int.add_zero]
                  exact ih (p + 1) _ (some (x, u, v)) (by omega) (by omega) (by show _ = _ + (nb _ p + _); rw [hf, if_neg (by rw [pr_ru_f (fun _ _ q _ => by rw [bI_t q] at hu; omega)]; exact Bool.false_ne_true), Int.add_zero])
                · refine wg_s rfl rfl ?_
                  refine wg_if rfl rfl (fun h211 => ?_) (fun h211 => ?_)
                  · refine wg_s rfl rfl ?_
                    refine wg_iadd rfl (by omega) (by omega) ?_
                    refine wg_s rfl rfl ?_
                    refine wg_iinc rfl rfl rfl (by omega) (by omega) rfl ?_
                    refine wg_s rfl rfl ?_
                    rw [Int.add_zero]
                    exact ih (p + 1) _ (some (x, u, v)) (by omega) (by omega) (by show _ = _ + (nb _ p + _); rw [hf, if_neg (by rw [pr_ru_f (fun _ _ _ q => by rw [bI_t q] at hv; omega)]; exact Bool.false_ne_true), Int.add_zero])
                  · refine wg_s rfl rfl ?_
                    refine wg_s rfl rfl ?_
                    refine wg_iadd rfl (by omega) (by omega) ?_
                    refine wg_s rfl rfl ?_
                    refine wg_iinc rfl rfl rfl (by omega) (by omega) rfl ?_
                    refine wg_s rfl rfl ?_
                    exact ih (p + 1) _ (some (x, u, v)) (by omega) (by omega) (by show _ = _ + (nb _ p + _); rw [hf, if_pos (pr_ru_t hok (by omega) (Decidable.not_not.mp (fun q => h206 (by rw [hu, bI_f q]))) (Decidable.not_not.mp (fun q => h211 (by rw [hv, bI_f q])))), Int.add_assoc])
              have K1 : ∀ u : Int, u = bI (A i < 0 ∨ m_lk μ LH i (A i).toNat < m_lk μ LH i p) → Wg (d + 1) 122 μ 161 [(0, ab_r 10 (some 0)), (1, ab_i f), (2, ab_i (i : Int)), (3, ab_i (LH i : Int)), (4, ab_i (p : Int)), (5, ab_i x), (6, ab_i (n : Int))] [ab_i u] Q := by
                intro u hu
                refine wg_s rfl rfl ?_
                refine wg_s rfl rfl ?_
                refine wg_if rfl rfl (fun h165 => ?_) (fun h165 => ?_)
                · refine wg_s rfl rfl ?_
                  refine wg_s rfl rfl ?_
                  exact K2 _ _ hu (by first | exact (bI_t (by omega)).symm | exact (bI_f (by omega)).symm)
                · refine wg_s rfl rfl ?_
                  refine wg_gm rfl rfl hM ?_
                  refine wg_s rfl rfl ?_
                  refine wg_s rfl rfl ?_
                  refine wg_imul rfl (by omega) (by omega) ?_
                  refine wg_s rfl rfl ?_
                  refine wg_iadd rfl (by omega) (by omega) ?_
                  refine wg_iav rfl hM rfl (by omega) (by omega) (show _ = m_ld μ LH i p from congrArg (ag_I μ 11 29) (by omega)) ?_
                  refine wg_s rfl rfl ?_
                  refine wg_gm rfl rfl hM ?_
                  refine wg_s rfl rfl ?_
                  refine wg_s rfl rfl ?_
                  refine wg_imul rfl (by omega) (by omega) ?_
                  refine wg_s rfl rfl ?_
                  refine wg_iadd rfl (by omega) (by omega) ?_
                  refine wg_iav rfl hM rfl (by omega) (by omega) (show _ = m_ld μ LH (gi A p n).toNat p from congrArg (ag_I μ 11 29) (by omega)) ?_
                  refine wg_if rfl rfl (fun h193 => ?_) (fun h193 => ?_)
                  · refine wg_s rfl rfl ?_
                    exact K2 _ _ hu (by first | exact (bI_t (by omega)).symm | exact (bI_f (by omega)).symm)
                  · refine wg_s rfl rfl ?_
                    refine wg_s rfl rfl ?_
                    exact K2 _ _ hu (by first | exact (bI_t (by omega)).symm | exact (bI_f (by omega)).symm)
              refine wg_s rfl rfl ?_
              refine wg_gm rfl rfl hM ?_
              refine wg_s rfl rfl ?_
              refine wg_iav rfl hM rfl (by omega) (by omega) (show _ = A i from hi3.2.2.1) ?_
              refine wg_if rfl rfl (fun h122 => ?_) (fun h122 => ?_)
              · refine wg_s rfl rfl ?_
                refine wg_s rfl rfl ?_
                exact K1 _ (by first | exact (bI_t (by omega)).symm | exact (bI_f (by omega)).symm)
              · refine wg_s rfl rfl ?_
                refine wg_gm rfl rfl hM ?_
                refine wg_s rfl rfl ?_
                refine wg_s rfl rfl ?_
                refine wg_imul rfl (by omega) (by omega) ?_
                refine wg_s rfl rfl ?_
                refine wg_iadd rfl (by omega) (by omega) ?_
                refine wg_iav rfl hM rfl (by omega) (by omega) (show _ = m_lk μ LH i p from congrArg (ag_I μ 11 28) (by omega)) ?_
                refine wg_s rfl rfl ?_
                refine wg_gm rfl rfl hM ?_
                refine wg_s rfl rfl ?_
                refine wg_s rfl rfl ?_
                refine wg_imul rfl (by omega) (by omega) ?_
                refine wg_s rfl rfl ?_
                refine wg_gm rfl rfl hM ?_
                refine wg_s rfl rfl ?_
                refine wg_iav rfl hM rfl (by omega) (by omega) (show _ = A i from hi3.2.2.1) ?_
                refine wg_iadd rfl (by omega) (by omega) ?_
                refine wg_iav rfl hM rfl (by omega) (by omega) (show _ = m_lk μ LH i (A i).toNat from congrArg (ag_I μ 11 28) (by omega)) ?_
                refine wg_if rfl rfl (fun h153 => ?_) (fun h153 => ?_)
                · refine wg_s rfl rfl ?_
                  exact K1 _ (by first | exact (bI_t (by omega)).symm | exact (bI_f (by omega)).symm)
                · refine wg_s rfl rfl ?_
                  refine wg_s rfl rfl ?_
                  exact K1 _ (by first | exact (bI_t (by omega)).symm | exact (bI_f (by omega)).symm)
            · refine wg_s rfl rfl ?_
              refine wg_iinc rfl rfl rfl (by omega) (by omega) rfl ?_
              refine wg_s rfl rfl ?_
              exact ih (p + 1) _ none (by omega) (by omega) (by show _ = _ + (nb _ p + _); rw [hf, if_neg (by rw [pr_ru_f (fun q _ _ _ => h58 (m_ok_t.mp q).2)]; exact Bool.false_ne_true), Int.add_zero])
    · refine wg_s rfl rfl ?_
      refine wg_s rfl rfl ?_
      refine wg_gi rfl rfl (show _ = ag_I μ 10 0 6 from rfl) ?_
      refine wg_if rfl rfl (fun h28 => ?_) (fun h28 => ?_)
      · have e : (p : Int) = ag_I μ 10 0 6 := by omega
        have e2 : p = (ag_I μ 10 0 6).toNat := by omega
        subst e2
        exact hQ (some (x0, y0, t)) _ hf
      · refine wg_s rfl rfl ?_
        refine wg_gm rfl rfl hM ?_
        refine wg_s rfl rfl ?_
        refine wg_iav rfl hM rfl (by omega) (by omega) (show _ = A i from hi3.2.2.1) ?_
        refine wg_s rfl rfl ?_
        refine wg_if rfl rfl (fun h39 => ?_) (fun h39 => ?_)
        · refine wg_iinc rfl rfl rfl (by omega) (by omega) rfl ?_
          refine wg_s rfl rfl ?_
          exact ih (p + 1) _ (some (x0, y0, t)) (by omega) (by omega) (by show _ = _ + (nb _ p + _); rw [hf, if_neg (by rw [pr_ru_f (fun _ q _ _ => q h39)]; exact Bool.false_ne_true), Int.add_zero])
        · refine wg_s rfl rfl ?_
          refine wg_s rfl rfl ?_
          refine wg_cf rfl rfl (sp_isFree _ _ _ hW) ?_
          refine wg_eqb rfl (fun h48 => ?_) (fun h48 => ?_)
          · refine wg_iinc rfl rfl rfl (by omega) (by omega) rfl ?_
            refine wg_s rfl rfl ?_
            exact ih (p + 1) _ (some (x0, y0, t)) (by omega) (by omega) (by show _ = _ + (nb _ p + _); rw [hf, if_neg (by rw [pr_ru_f (fun q _ _ _ => h48 (m_ok_t.mp q).1)]; exact Bool.false_ne_true), Int.add_zero])
          · refine wg_s rfl rfl ?_
            refine wg_s rfl rfl ?_
            refine wg_s rfl rfl ?_
            refine wg_cf rfl rfl (show Wp _ 118 _ _ (fun w μ' => w = some (ab_i (m_why μ (LH i) p)) ∧ μ' = μ) from sp_mwhyNot _ _ _ _ hM ⟨by omega, by omega⟩ ⟨by omega, by omega⟩) ?_
            refine wg_if rfl rfl (fun h58 => ?_) (fun h58 => ?_)
            · refine wg_s rfl rfl ?_
              refine wg_s rfl rfl ?_
              refine wg_s rfl rfl ?_
              refine wg_s rfl rfl ?_
              refine lp_other (d := d + 1) hS _ _ _ p (some t) ?_ (n + 1) 0 (-1) (by omega) (by omega) (by omega) rfl
              have hok : m_ok μ LH i p = true := m_ok_t.mpr ⟨h48, h58⟩
              have hg := gi_rng A p n
              have hx : (gi A p n < 0 ∧ ot LH (gi A p n) = -1) ∨ (0 ≤ gi A p n ∧ ot LH (gi A p n) = (LH (gi A p n).toNat : Int) ∧ LH (gi A p n).toNat < 8) := by
                by_cases q : gi A p n < 0
                · left; exact ⟨q, if_pos q⟩
                · right; exact ⟨by omega, if_neg q, (hA _ (by omega)).2.1⟩
              generalize ot LH (gi A p n) = x at hx
              have K2 : ∀ u v : Int, u = bI (A i < 0 ∨ m_lk μ LH i (A i).toNat < m_lk μ LH i p) → v = bI (gi A p n < 0 ∨ m_ld μ LH (gi A p n).toNat p < m_ld μ LH i p) → Wg (d + 1) 122 μ 201 [(0, ab_r 10 (some 0)), (1, ab_i f), (2, ab_i (i : Int)), (3, ab_i (LH i : Int)), (4, ab_i (p : Int)), (5, ab_i x), (6, ab_i u), (7, ab_i t)] [ab_i v] Q := by
                intro u v hu hv
                refine wg_s rfl rfl ?_
                refine wg_s rfl rfl ?_
                refine wg_s rfl rfl ?_
                refine wg_if rfl rfl (fun h206 => ?_) (fun h206 => ?_)
                · refine wg_s rfl rfl ?_
                  refine wg_iadd rfl (by omega) (by omega) ?_
                  refine wg_s rfl rfl ?_
                  refine wg_iinc rfl rfl rfl (by omega) (by omega) rfl ?_
                  refine wg_s rfl rfl ?_
                  rw [Int.add_zero]
                  exact ih (p + 1) _ (some (x, u, v)) (by omega) (by omega) (by show _ = _ + (nb _ p + _); rw [hf, if_neg (by rw [pr_ru_f (fun _ _ q _ => by rw [bI_t q] at hu; omega)]; exact Bool.false_ne_true), Int.add_zero])
                · refine wg_s rfl rfl ?_
                  refine wg_if rfl rfl (fun h211 => ?_) (fun h211 => ?_)
                  · refine wg_s rfl rfl ?_
                    refine wg_iadd rfl (by omega) (by omega) ?_
                    refine wg_s rfl rfl ?_
                    refine wg_iinc rfl rfl rfl (by omega) (by omega) rfl ?_
                    refine wg_s rfl rfl ?_
                    rw [Int.add_zero]
                    exact ih (p + 1) _ (some (x, u, v)) (by omega) (by omega) (by show _ = _ + (nb _ p + _); rw [hf, if_neg (by rw [pr_ru_f (fun _ _ _ q => by rw [bI_t q] at hv; omega)]; exact Bool.false_ne_true), Int.add_zero])
                  · refine wg_s rfl rfl ?_
                    refine wg_s rfl rfl ?_
                    refine wg_iadd rfl (by omega) (by omega) ?_
                    refine wg_s rfl rfl ?_
                    refine wg_iinc rfl rfl rfl (by omega) (by omega) rfl ?_
                    refine wg_s rfl rfl ?_
                    exact ih (p + 1) _ (some (x, u, v)) (by omega) (by omega) (by show _ = _ + (nb _ p + _); rw [hf, if_pos (pr_ru_t hok (by omega) (Decidable.not_not.mp (fun q => h206 (by rw [hu, bI_f q]))) (Decidable.not_not.mp (fun q => h211 (by rw [hv, bI_f q])))), Int.add_assoc])
              have K1 : ∀ u : Int, u = bI (A i < 0 ∨ m_lk μ LH i (A i).toNat < m_lk μ LH i p) → Wg (d + 1) 122 μ 161 [(0, ab_r 10 (some 0)), (1, ab_i f), (2, ab_i (i : Int)), (3, ab_i (LH i : Int)), (4, ab_i (p : Int)), (5, ab_i x), (6, ab_i (n : Int)), (7, ab_i t)] [ab_i u] Q := by
                intro u hu
                refine wg_s rfl rfl ?_
                refine wg_s rfl rfl ?_
                refine wg_if rfl rfl (fun h165 => ?_) (fun h165 => ?_)
                · refine wg_s rfl rfl ?_
                  refine wg_s rfl rfl ?_
                  exact K2 _ _ hu (by first | exact (bI_t (by omega)).symm | exact (bI_f (by omega)).symm)
                · refine wg_s rfl rfl ?_
                  refine wg_gm rfl rfl hM ?_
                  refine wg_s rfl rfl ?_
                  refine wg_s rfl rfl ?_
                  refine wg_imul rfl (by omega) (by omega) ?_
                  refine wg_s rfl rfl ?_
                  refine wg_iadd rfl (by omega) (by omega) ?_
                  refine wg_iav rfl hM rfl (by omega) (by omega) (show _ = m_ld μ LH i p from congrArg (ag_I μ 11 29) (by omega)) ?_
                  refine wg_s rfl rfl ?_
                  refine wg_gm rfl rfl hM ?_
                  refine wg_s rfl rfl ?_
                  refine wg_s rfl rfl ?_
                  refine wg_imul rfl (by omega) (by omega) ?_
                  refine wg_s rfl rfl ?_
                  refine wg_iadd rfl (by omega) (by omega) ?_
                  refine wg_iav rfl hM rfl (by omega) (by omega) (show _ = m_ld μ LH (gi A p n).toNat p from congrArg (ag_I μ 11 29) (by omega)) ?_
                  refine wg_if rfl rfl (fun h193 => ?_) (fun h193 => ?_)
                  · refine wg_s rfl rfl ?_
                    exact K2 _ _ hu (by first | exact (bI_t (by omega)).symm | exact (bI_f (by omega)).symm)
                  · refine wg_s rfl rfl ?_
                    refine wg_s rfl rfl ?_
                    exact K2 _ _ hu (by first | exact (bI_t (by omega)).symm | exact (bI_f (by omega)).symm)
              refine wg_s rfl rfl ?_
              refine wg_gm rfl rfl hM ?_
              refine wg_s rfl rfl ?_
              refine wg_iav rfl hM rfl (by omega) (by omega) (show _ = A i from hi3.2.2.1) ?_
              refine wg_if rfl rfl (fun h122 => ?_) (fun h122 => ?_)
              · refine wg_s rfl rfl ?_
                refine wg_s rfl rfl ?_
                exact K1 _ (by first | exact (bI_t (by omega)).symm | exact (bI_f (by omega)).symm)
              · refine wg_s rfl rfl ?_
                refine wg_gm rfl rfl hM ?_
                refine wg_s rfl rfl ?_
                refine wg_s rfl rfl ?_
                refine wg_imul rfl (by omega) (by omega) ?_
                refine wg_s rfl rfl ?_
                refine wg_iadd rfl (by omega) (by omega) ?_
                refine wg_iav rfl hM rfl (by omega) (by omega) (show _ = m_lk μ LH i p from congrArg (ag_I μ 11 28) (by omega)) ?_
                refine wg_s rfl rfl ?_
                refine wg_gm rfl rfl hM ?_
                refine wg_s rfl rfl ?_
                refine wg_s rfl rfl ?_
                refine wg_imul rfl (by omega) (by omega) ?_
                refine wg_s rfl rfl ?_
                refine wg_gm rfl rfl hM ?_
                refine wg_s rfl rfl ?_
                refine wg_iav rfl hM rfl (by omega) (by omega) (show _ = A i from hi3.2.2.1) ?_
                refine wg_iadd rfl (by omega) (by omega) ?_
                refine wg_iav rfl hM rfl (by omega) (by omega) (show _ = m_lk μ LH i (A i).toNat from congrArg (ag_I μ 11 28) (by omega)) ?_
                refine wg_if rfl rfl (fun h153 => ?_) (fun h153 => ?_)
                · refine wg_s rfl rfl ?_
                  exact K1 _ (by first | exact (bI_t (by omega)).symm | exact (bI_f (by omega)).symm)
                · refine wg_s rfl rfl ?_
                  refine wg_s rfl rfl ?_
                  exact K1 _ (by first | exact (bI_t (by omega)).symm | exact (bI_f (by omega)).symm)
            · refine wg_s rfl rfl ?_
              refine wg_iinc rfl rfl rfl (by omega) (by omega) rfl ?_
              refine wg_s rfl rfl ?_
              exact ih (p + 1) _ (some (x0, y0, t)) (by omega) (by omega) (by show _ = _ + (nb _ p + _); rw [hf, if_neg (by rw [pr_ru_f (fun q _ _ _ => h58 (m_ok_t.mp q).2)]; exact Bool.false_ne_true), Int.add_zero])
def t_o (e : Option (Int × Int × Option (Int × Int × Int))) : ab_L := match e with
  | none => []
  | some (x, y, e2) => [(3, ab_i x), (4, ab_i y)] ++ t_r e2
theorem lp_ruout {d : Nat} {μ : ab_M} {LH : Nat → Nat} {n : Nat} {A : Nat → Int} (hS : SB μ LH n A) : ∀ (N i : Nat) (f : Int) (e : Option (Int × Int × Option (Int × Int × Int))), n - i < N → i ≤ n → f = pr_r (ag_I μ 10 0 6).toNat n (m_ok μ LH) (m_lk μ LH) (m_ld μ LH) A i → Wg (d + 1) 122 μ 4 ([(0, ab_r 10 (some 0)), (1, ab_i f), (2, ab_i (i : Int))] ++ t_o e) [] (fun v μ' => v = some (ab_i (pr_r (ag_I μ 10 0 6).toNat n (m_ok μ LH) (m_lk μ LH) (m_ld μ LH) A n)) ∧ μ' = μ) := by
  intro N
  induction N with
  | zero => intro i f e hn; omega
  | succ N ih =>
    intro i f e hn hi2 hf
    obtain ⟨hW, hn6, h38, hA, hlk⟩ := id hS
    obtain ⟨hM, h1, h6, h26, h0, h14⟩ := id hW
    by_cases hin : i < n
    · have hi3 := hA i hin
      have K0 : ∀ e2 q, q = pr_r (ag_I μ 10 0 6).toNat n (m_ok μ LH) (m_lk μ LH) (m_ld μ LH) A i + nb (pr_ru n (m_ok μ LH) (m_lk μ LH) (m_ld μ LH) A i) (ag_I μ 10 0 6).toNat → Wg (d + 1) 122 μ 227 ([(0, ab_r 10 (some 0)), (1, ab_i q), (2, ab_i (i : Int)), (3, ab_i (LH i : Int)), (4, ab_i ((ag_I μ 10 0 6).toNat : Int))] ++ t_r e2) [] (fun v μ' => v = some (ab_i (pr_r (ag_I μ 10 0 6).toNat n (m_ok μ LH) (m_lk μ LH) (m_ld μ LH) A n)) ∧ μ' = μ) := by
        intro e2 q hq
        rcases e2 with _ | ⟨x, y, t⟩
        · refine wg_iinc rfl rfl rfl (by omega) (by omega) rfl ?_
          refine wg_s rfl rfl ?_
          exact ih (i + 1) q (some (_, _, none)) (by omega) (by omega) hq
        · refine wg_iinc rfl rfl rfl (by omega) (by omega) rfl ?_
          refine wg_s rfl rfl ?_
          exact ih (i + 1) q (some (_, _, some (x, y, t))) (by omega) (by omega) hq
      rcases e with _ | ⟨x1, y1, _ | ⟨x, y, t⟩⟩
      · refine wg_s rfl rfl ?_
        refine wg_s rfl rfl ?_
        refine wg_gi rfl rfl (show _ = (n : Int) from h38) ?_
        refine wg_if rfl rfl (fun h9 => ?_) (fun h9 => ?_)
        · refine wg_s rfl rfl ?_
          exfalso; omega
        · refine wg_s rfl rfl ?_
          refine wg_gm rfl rfl hM ?_
          refine wg_s rfl rfl ?_
          refine wg_iav rfl hM rfl (by omega) (by omega) (show _ = (LH i : Int) from hi3.1) ?_
          refine wg_s rfl rfl ?_
          refine wg_s rfl rfl ?_
          refine wg_s rfl rfl ?_
          exact lp_ruin (d := d) hS i hin (fun e2 q hq => K0 e2 q hq) (10) 0 f none (by omega) (by omega) (by rw [hf]; exact (Int.add_zero _).symm)
      · refine wg_s rfl rfl ?_
        refine wg_s rfl rfl ?_
        refine wg_gi rfl rfl (show _ = (n : Int) from h38) ?_
        refine wg_if rfl rfl (fun h9 => ?_) (fun h9 => ?_)
        · refine wg_s rfl rfl ?_
          exfalso; omega
        · refine wg_s rfl rfl ?_
          refine wg_gm rfl rfl hM ?_
          refine wg_s rfl rfl ?_
          refine wg_iav rfl hM rfl (by omega) (by omega) (show _ = (LH i : Int) from hi3.1) ?_
          refine wg_s rfl rfl ?_
          refine wg_s rfl rfl ?_
          refine wg_s rfl rfl ?_
          exact lp_ruin (d := d) hS i hin (fun e2 q hq => K0 e2 q hq) (10) 0 f none (by omega) (by omega) (by rw [hf]; exact (Int.add_zero _).symm)
      · refine wg_s rfl rfl ?_
        refine wg_s rfl rfl ?_
        refine wg_gi rfl rfl (show _ = (n : Int) from h38) ?_
        refine wg_if rfl rfl (fun h9 => ?_) (fun h9 => ?_)
        · refine wg_s rfl rfl ?_
          exfalso; omega
        · refine wg_s rfl rfl ?_
          refine wg_gm rfl rfl hM ?_
          refine wg_s rfl rfl ?_
          refine wg_iav rfl hM rfl (by omega) (by omega) (show _ = (LH i : Int) from hi3.1) ?_
          refine wg_s rfl rfl ?_
          refine wg_s rfl rfl ?_
          refine wg_s rfl rfl ?_
          exact lp_ruin (d := d) hS i hin (fun e2 q hq => K0 e2 q hq) (10) 0 f (some (x, y, t)) (by omega) (by omega) (by rw [hf]; exact (Int.add_zero _).symm)
    · have e1 : i = n := by omega
      rcases e with _ | ⟨x1, y1, _ | ⟨x, y, t⟩⟩
      · refine wg_s rfl rfl ?_
        refine wg_s rfl rfl ?_
        refine wg_gi rfl rfl (show _ = (n : Int) from h38) ?_
        refine wg_if rfl rfl (fun h9 => ?_) (fun h9 => ?_)
        · refine wg_s rfl rfl ?_
          exact wg_ret rfl rfl trivial ⟨by rw [hf, e1], rfl⟩
        · exfalso; omega
      · refine wg_s rfl rfl ?_
        refine wg_s rfl rfl ?_
        refine wg_gi rfl rfl (show _ = (n : Int) from h38) ?_
        refine wg_if rfl rfl (fun h9 => ?_) (fun h9 => ?_)
        · refine wg_s rfl rfl ?_
          exact wg_ret rfl rfl trivial ⟨by rw [hf, e1], rfl⟩
        · exfalso; omega
      · refine wg_s rfl rfl ?_
        refine wg_s rfl rfl ?_
        refine wg_gi rfl rfl (show _ = (n : Int) from h38) ?_
        refine wg_if rfl rfl (fun h9 => ?_) (fun h9 => ?_)
        · refine wg_s rfl rfl ?_
          exact wg_ret rfl rfl trivial ⟨by rw [hf, e1], rfl⟩
        · exfalso; omega
theorem sp_mrunaways (d : Nat) (μ : ab_M) (LH : Nat → Nat) (n : Nat) (A : Nat → Int) (hS : SB μ LH n A) : Wp (d + 2) 122 [ab_r 10 (some 0)] μ (fun v μ' => v = some (ab_i (pr_r (ag_I μ 10 0 6).toNat n (m_ok μ LH) (m_lk μ LH) (m_ld μ LH) A n)) ∧ μ' = μ) := by
  refine wp_of ?_
  refine wg_s rfl rfl ?_
  refine wg_s rfl rfl ?_
  refine wg_s rfl rfl ?_
  refine wg_s rfl rfl ?_
  exact lp_ruout (d := d) hS (n + 1) 0 0 none (by omega) (by omega) rfl
theorem pr_l_rng {lk ld : Nat → Nat → Int} {A : Nat → Int} : ∀ {i : Nat}, (∀ k, k < i → 0 ≤ A k → (0 ≤ lk k (A k).toNat ∧ lk k (A k).toNat ≤ 99) ∧ (0 ≤ ld k (A k).toNat ∧ ld k (A k).toNat ≤ 99)) → 0 ≤ pr_l lk ld A i ∧ pr_l lk ld A i ≤ 198 * i
  | 0, _ => by simp [pr_l]
  | i + 1, h => by
    have ih := pr_l_rng (i := i) (fun k hk => h k (by omega))
    have h1 := h i (by omega)
    unfold pr_l
    by_cases q : A i < 0
    · rw [if_pos q]; omega
    · rw [if_neg q]; have := h1 (by omega); omega
theorem SB_l {μ : ab_M} {LH : Nat → Nat} {n : Nat} {A : Nat → Int} (hS : SB μ LH n A) : ∀ k, k < n → 0 ≤ A k → (0 ≤ m_lk μ LH k (A k).toNat ∧ m_lk μ LH k (A k).toNat ≤ 99) ∧ (0 ≤ m_ld μ LH k (A k).toNat ∧ m_ld μ LH k (A k).toNat ≤ 99) := by
  intro k hk h0
  obtain ⟨hW, hn6, h38, hA, hlk⟩ := hS
  obtain ⟨hM, h1, h6, h26, h00, h14⟩ := hW
  have := hA k hk
  exact hlk (8 * LH k + (A k).toNat) (by omega)
def t_3 (e : Bool) (x : Int) : ab_L := bif e then [(3, ab_i x)] else []
theorem lp_tog {d : Nat} {μ : ab_M} {LH : Nat → Nat} {n : Nat} {A : Nat → Int} (hS : SB μ LH n A) : ∀ (N i : Nat) (f : Int) (e : Bool) {x : Int}, n - i < N → i ≤ n → f = pr_l (m_lk μ LH) (m_ld μ LH) A i → Wg d 123 μ 4 ([(0, ab_r 10 (some 0)), (1, ab_i f), (2, ab_i (i : Int))] ++ t_3 e x) [] (fun v μ' => v = some (ab_i (pr_l (m_lk μ LH) (m_ld μ LH) A n)) ∧ μ' = μ) := by
  intro N
  induction N with
  | zero => intro i f e x hn; omega
  | succ N ih =>
    intro i f e x hn hi2 hf
    obtain ⟨hW, hn6, h38, hA, hlk⟩ := id hS
    obtain ⟨hM, h1, h6, h26, h0, h14⟩ := id hW
    have rl := pr_l_rng (i := i) (fun k hk h0 => SB_l hS k (by omega) h0)
    cases e with
    | false =>
      refine wg_s rfl rfl ?_
      refine wg_s rfl rfl ?_
      refine wg_gi rfl rfl (show _ = (n : Int) from h38) ?_
      refine wg_if rfl rfl (fun h9 => ?_) (fun h9 => ?_)
      · refine wg_s rfl rfl ?_
        have e1 : i = n := by omega
        subst e1
        exact wg_ret rfl rfl trivial ⟨by rw [hf], rfl⟩
      · refine wg_s rfl rfl ?_
        refine wg_gm rfl rfl hM ?_
        refine wg_s rfl rfl ?_
        refine wg_iav rfl hM rfl (by omega) (by omega) (show _ = (LH i : Int) from (hA i (by omega)).1) ?_
        refine wg_s rfl rfl ?_
        refine wg_s rfl rfl ?_
        refine wg_s rfl rfl ?_
        refine wg_gm rfl rfl hM ?_
        refine wg_s rfl rfl ?_
        have hi3 := hA i (by omega)
        refine wg_iav rfl hM rfl (by omega) (by omega) (show _ = A i from hi3.2.2.1) ?_
        refine wg_if rfl rfl (fun h26 => ?_) (fun h26 => ?_)
        · refine wg_s rfl rfl ?_
          refine wg_gm rfl rfl hM ?_
          refine wg_s rfl rfl ?_
          refine wg_s rfl rfl ?_
          refine wg_imul rfl (by omega) (by omega) ?_
          refine wg_s rfl rfl ?_
          refine wg_gm rfl rfl hM ?_
          refine wg_s rfl rfl ?_
          refine wg_iav rfl hM rfl (by omega) (by omega) (show _ = A i from hi3.2.2.1) ?_
          refine wg_iadd rfl (by omega) (by omega) ?_
          have k1 := SB_l hS i (by omega) (by omega)
          refine wg_iav rfl hM rfl (by omega) (by omega) (show _ = m_lk μ LH i (A i).toNat from congrArg (ag_I μ 11 28) (by omega)) ?_
          refine wg_s rfl rfl ?_
          refine wg_gm rfl rfl hM ?_
          refine wg_s rfl rfl ?_
          refine wg_s rfl rfl ?_
          refine wg_imul rfl (by omega) (by omega) ?_
          refine wg_s rfl rfl ?_
          refine wg_gm rfl rfl hM ?_
          refine wg_s rfl rfl ?_
          refine wg_iav rfl hM rfl (by omega) (by omega) (show _ = A i from hi3.2.2.1) ?_
          refine wg_iadd rfl (by omega) (by omega) ?_
          refine wg_iav rfl hM rfl (by omega) (by omega) (show _ = m_ld μ LH i (A i).toNat from congrArg (ag_I μ 11 29) (by omega)) ?_
          refine wg_iadd rfl (by omega) (by omega) ?_
          refine wg_iadd rfl (by omega) (by omega) ?_
          refine wg_s rfl rfl ?_
          refine wg_iinc rfl rfl rfl (by omega) (by omega) rfl ?_
          refine wg_s rfl rfl ?_
          exact ih (i + 1) _ true (by omega) (by omega) (by show _ = _ + _; first | (rw [if_pos (by omega), hf]) | (rw [if_neg (by omega), hf]))
        · refine wg_s rfl rfl ?_
          refine wg_s rfl rfl ?_
          refine wg_iadd rfl (by omega) (by omega) ?_
          refine wg_s rfl rfl ?_
          refine wg_iinc rfl rfl rfl (by omega) (by omega) rfl ?_
          refine wg_s rfl rfl ?_
          exact ih (i + 1) _ true (by omega) (by omega) (by show _ = _ + _; first | (rw [if_pos (by omega), hf]) | (rw [if_neg (by omega), hf]))
    | true =>
      refine wg_s rfl rfl ?_
      refine wg_s rfl rfl ?_
      refine wg_gi rfl rfl (show _ = (n : Int) from h38) ?_
      refine wg_if rfl rfl (fun h9 => ?_) (fun h9 => ?_)
      · refine wg_s rfl rfl ?_
        have e1 : i = n := by omega
        subst e1
        exact wg_ret rfl rfl trivial ⟨by rw [hf], rfl⟩
      · refine wg_s rfl rfl ?_
        refine wg_gm rfl rfl hM ?_
        refine wg_s rfl rfl ?_
        refine wg_iav rfl hM rfl (by omega) (by omega) (show _ = (LH i : Int) from (hA i (by omega)).1) ?_
        refine wg_s rfl rfl ?_
        refine wg_s rfl rfl ?_
        refine wg_s rfl rfl ?_
        refine wg_gm rfl rfl hM ?_
        refine wg_s rfl rfl ?_
        have hi3 := hA i (by omega)
        refine wg_iav rfl hM rfl (by omega) (by omega) (show _ = A i from hi3.2.2.1) ?_
        refine wg_if rfl rfl (fun h26 => ?_) (fun h26 => ?_)
        · refine wg_s rfl rfl ?_
          refine wg_gm rfl rfl hM ?_
          refine wg_s rfl rfl ?_
          refine wg_s rfl rfl ?_
          refine wg_imul rfl (by omega) (by omega) ?_
          refine wg_s rfl rfl ?_
          refine wg_gm rfl rfl hM ?_
          refine wg_s rfl rfl ?_
          refine wg_iav rfl hM rfl (by omega) (by omega) (show _ = A i from hi3.2.2.1) ?_
          refine wg_iadd rfl (by omega) (by omega) ?_
          have k1 := SB_l hS i (by omega) (by omega)
          refine wg_iav rfl hM rfl (by omega) (by omega) (show _ = m_lk μ LH i (A i).toNat from congrArg (ag_I μ 11 28) (by omega)) ?_
          refine wg_s rfl rfl ?_
          refine wg_gm rfl rfl hM ?_
          refine wg_s rfl rfl ?_
          refine wg_s rfl rfl ?_
          refine wg_imul rfl (by omega) (by omega) ?_
          refine wg_s rfl rfl ?_
          refine wg_gm rfl rfl hM ?_
          refine wg_s rfl rfl ?_
          refine wg_iav rfl hM rfl (by omega) (by omega) (show _ = A i from hi3.2.2.1) ?_
          refine wg_iadd rfl (by omega) (by omega) ?_
          refine wg_iav rfl hM rfl (by omega) (by omega) (show _ = m_ld μ LH i (A i).toNat from congrArg (ag_I μ 11 29) (by omega)) ?_
          refine wg_iadd rfl (by omega) (by omega) ?_
          refine wg_iadd rfl (by omega) (by omega) ?_
          refine wg_s rfl rfl ?_
          refine wg_iinc rfl rfl rfl (by omega) (by omega) rfl ?_
          refine wg_s rfl rfl ?_
          exact ih (i + 1) _ true (by omega) (by omega) (by show _ = _ + _; first | (rw [if_pos (by omega), hf]) | (rw [if_neg (by omega), hf]))
        · refine wg_s rfl rfl ?_
          refine wg_s rfl rfl ?_
          refine wg_iadd rfl (by omega) (by omega) ?_
          refine wg_s rfl rfl ?_
          refine wg_iinc rfl rfl rfl (by omega) (by omega) rfl ?_
          refine wg_s rfl rfl ?_
          exact ih (i + 1) _ true (by omega) (by omega) (by show _ = _ + _; first | (rw [if_pos (by omega), hf]) | (rw [if_neg (by omega), hf]))
theorem sp_mtogether (d : Nat) (μ : ab_M) (LH : Nat → Nat) (n : Nat) (A : Nat → Int) (hS : SB μ LH n A) : Wp (d + 1) 123 [ab_r 10 (some 0)] μ (fun v μ' => v = some (ab_i (pr_l (m_lk μ LH) (m_ld μ LH) A n)) ∧ μ' = μ) := by
  refine wp_of ?_
  refine wg_s rfl rfl ?_
  refine wg_s rfl rfl ?_
  refine wg_s rfl rfl ?_
  refine wg_s rfl rfl ?_
  exact lp_tog (d := d) hS (n + 1) 0 0 false (x := 0) (by omega) (by omega) rfl
