/-! ===== the reference: who is free ===== -/
def cn (f : Nat → Bool) : Nat → Nat
  | 0 => 0
  | n + 1 => cn f n + if f n = true then 1 else 0
/-- the i-th of those among the first n -/
def ith (f : Nat → Bool) : Nat → Nat → Nat
  | 0, _ => 0
  | n + 1, i => if f n = true ∧ i = cn f n then n else ith f n i
theorem cn_le (f : Nat → Bool) : ∀ n, cn f n ≤ n
  | 0 => Nat.le_refl 0
  | n + 1 => by
    have := cn_le f n
    unfold cn
    split <;> omega
theorem cn_mono (f : Nat → Bool) {a b : Nat} (h : a ≤ b) : cn f a ≤ cn f b := by
  induction h with
  | refl => exact Nat.le_refl _
  | step h ih => exact Nat.le_trans ih (Nat.le_add_right _ _)
theorem ith_p (f : Nat → Bool) : ∀ (n i : Nat), i < cn f n → ith f n i < n ∧ f (ith f n i) = true ∧ cn f (ith f n i) = i
  | 0, i, h => by simp [cn] at h
  | n + 1, i, h => by
    unfold ith
    by_cases q : f n = true ∧ i = cn f n
    · rw [if_pos q]; exact ⟨by omega, q.1, q.2.symm⟩
    · rw [if_neg q]
      unfold cn at h
      have : i < cn f n := by
        by_cases w : f n = true
        · rw [if_pos w] at h
          rcases Nat.lt_or_ge i (cn f n) with l | l
          · exact l
          · exact absurd ⟨w, by omega⟩ q
        · rw [if_neg w] at h; omega
      have := ith_p f n i this
      exact ⟨by omega, this.2⟩
theorem ith_c (f : Nat → Bool) : ∀ (n h : Nat), h < n → f h = true → ith f n (cn f h) = h
  | 0, h, hh, _ => by omega
  | n + 1, h, hh, hf => by
    unfold ith
    by_cases q : h = n
    · subst q; rw [if_pos ⟨hf, rfl⟩]
    · rw [if_neg, ith_c f n h (by omega) hf]
      intro w
      have h1 : cn f (h + 1) ≤ cn f n := cn_mono f (by omega)
      have h2 : cn f (h + 1) = cn f h + 1 := by show cn f h + _ = _; rw [if_pos hf]
      omega
theorem ith_inj (f : Nat → Bool) (n : Nat) (i j : Nat) (hi : i < cn f n) (hj : j < cn f n) (h : ith f n i = ith f n j) : i = j := by
  have h1 := (ith_p f n i hi).2.2
  have h2 := (ith_p f n j hj).2.2
  rw [← h1, ← h2, h]
def f_h (μ : ab_M) (h : Nat) : Bool := decide (m_lf μ h (ag_I μ 10 0 26).toNat < 0)
def f_p (μ : ab_M) (p : Nat) : Bool := m_fr μ p (ag_I μ 10 0 26).toNat
abbrev n_h (μ : ab_M) : Nat := cn (f_h μ) (ag_I μ 10 0 1).toNat
abbrev n_p (μ : ab_M) : Nat := cn (f_p μ) (ag_I μ 10 0 6).toNat
abbrev l_h (μ : ab_M) : Nat → Nat := ith (f_h μ) (ag_I μ 10 0 1).toNat
abbrev l_p (μ : ab_M) : Nat → Nat := ith (f_p μ) (ag_I μ 10 0 6).toNat
/-- likes are 0 to 99 -/
def WK (μ : ab_M) : Prop := ∀ k, k < 64 → (0 ≤ ag_I μ 11 28 k ∧ ag_I μ 11 28 k ≤ 99) ∧ (0 ≤ ag_I μ 11 29 k ∧ ag_I μ 11 29 k ≤ 99)
theorem SK_refl (μ : ab_M) : SK μ μ := ⟨rfl, fun _ _ _ _ => rfl⟩
theorem wg_cf2 {d k : Nat} {μ : ab_M} {pc : Nat} {l : ab_L} {st : List ab_V} {Q : Option ab_V → ab_M → Prop} {i : Instr} {nx a b : Nat} {as r : List ab_V} {v v2 : ab_V} (hi : ab_ins k pc = some (i, nx, a, b)) (hs : ab_call i a b st = some (as, r)) (hw : Wp d a as μ (fun w μ' => w = some v ∧ μ' = μ)) (hv : v = v2) (K : Wg d k μ nx l (v2 :: r) Q) : Wg d k μ pc l st Q := by
  subst hv
  exact wg_cf hi hs hw K
theorem lp_sk1 {d : Nat} {μ : ab_M} {Q : Option ab_V → ab_M → Prop} (hW : WM μ) (K : ∀ ν, SK μ ν → ag_I ν 10 0 38 = (n_h μ : Int) → (∀ j, j < n_h μ → ag_I ν 11 43 j = (l_h μ j : Int)) → Wg (d + 1) 125 ν 51 [(0, ab_r 10 (some 0)), (1, ab_i 0), (2, ab_i ((ag_I μ 10 0 1).toNat : Int))] [] Q) : ∀ (N h : Nat) (ν : ab_M), ag_I μ 10 0 1 - h < N → (h : Int) ≤ ag_I μ 10 0 1 → SK μ ν → ag_I ν 10 0 38 = (cn (f_h μ) h : Int) → (∀ j, j < cn (f_h μ) h → ag_I ν 11 43 j = (ith (f_h μ) h j : Int)) → Wg (d + 1) 125 ν 9 [(0, ab_r 10 (some 0)), (1, ab_i 0), (2, ab_i (h : Int))] [] Q := by
  intro N
  induction N with
  | zero => intro h ν hn; omega
  | succ N ih =>
    intro h ν hn hh2 hK hc hl
    have hW2 := SK_W hK hW
    obtain ⟨hM, h1, h6, h26, h0, h14⟩ := id hW2
    have e0 : ag_I ν 10 0 1 = ag_I μ 10 0 1 := SK_i hK 10 0 1 (by unfold scr; omega)
    have e26 : ag_I ν 10 0 26 = ag_I μ 10 0 26 := SK_i hK 10 0 26 (by unfold scr; omega)
    have e6 : ag_I ν 10 0 6 = ag_I μ 10 0 6 := SK_i hK 10 0 6 (by unfold scr; omega)
    have hcl := cn_le (f_h μ) h
    refine wg_s rfl rfl ?_
    refine wg_s rfl rfl ?_
    refine wg_gi rfl rfl (show _ = ag_I μ 10 0 1 from e0) ?_
    refine wg_if rfl rfl (fun h14 => ?_) (fun h14 => ?_)
    · have e1 : h = (ag_I μ 10 0 1).toNat := by omega
      subst e1
      exact K ν hK hc hl
    · refine wg_s rfl rfl ?_
      refine wg_s rfl rfl ?_
      refine wg_cf2 rfl rfl (sp_lifeOf _ _ ν hW2) (show ab_i _ = ab_i (m_lf μ h (ag_I μ 10 0 26).toNat) by rw [SK_lf hK, e26]) ?_
      refine wg_if rfl rfl (fun h22 => ?_) (fun h22 => ?_)
      · refine wg_iinc rfl rfl rfl (by omega) (by omega) rfl ?_
        refine wg_s rfl rfl ?_
        refine ih (h + 1) ν (by omega) (by omega) hK ?_ ?_
        · show _ = (((cn (f_h μ) h + if f_h μ h = true then 1 else 0 : Nat)) : Int)
          rw [if_neg (by unfold f_h; simp only [decide_eq_true_eq]; omega)]; exact hc
        · intro j hj
          have e2 : cn (f_h μ) (h + 1) = cn (f_h μ) h := by show cn _ h + _ = _; rw [if_neg (by unfold f_h; simp only [decide_eq_true_eq]; omega)]; rfl
          rw [e2] at hj
          show _ = (((if f_h μ h = true ∧ j = cn (f_h μ) h then h else ith (f_h μ) h j : Nat)) : Int)
          rw [if_neg (by omega)]; exact hl j hj
      · refine wg_s rfl rfl ?_
        refine wg_gm rfl rfl hM ?_
        refine wg_s rfl rfl ?_
        refine wg_gi rfl rfl (show _ = (cn (f_h μ) h : Int) from hc) ?_
        refine wg_s rfl rfl ?_
        refine wg_ias rfl hM rfl (by omega) (by omega) ?_
        refine wg_s rfl rfl ?_
        refine wg_s rfl rfl ?_
        refine wg_gi rfl rfl (show _ = (cn (f_h μ) h : Int) from hc) ?_
        refine wg_s rfl rfl ?_
        refine wg_iadd rfl (by omega) (by omega) ?_
        refine wg_s rfl rfl ?_
        refine wg_iinc rfl rfl rfl (by omega) (by omega) rfl ?_
        refine wg_s rfl rfl ?_
        have ft : f_h μ h = true := by unfold f_h; simp only [decide_eq_true_eq]; omega
        have e2 : cn (f_h μ) (h + 1) = cn (f_h μ) h + 1 := by show cn _ h + _ = _; rw [if_pos ft]
        refine ih (h + 1) _ (by omega) (by omega) (SK_set (SK_set hK (Or.inr ⟨rfl, Or.inl rfl⟩)) (Or.inl ⟨rfl, rfl, Or.inl rfl⟩)) ?_ ?_
        · rw [e2]; rfl
        · intro j hj
          rw [e2] at hj
          show (if (11 : Nat) = 11 ∧ (43 : Nat) = 43 ∧ j = ((cn (f_h μ) h : Nat) : Int).toNat then (h : Int) else ag_I ν 11 43 j) = (((if f_h μ h = true ∧ j = cn (f_h μ) h then h else ith (f_h μ) h j : Nat)) : Int)
          by_cases q : j = cn (f_h μ) h
          · rw [if_pos ⟨rfl, rfl, q⟩, if_pos ⟨ft, q⟩]
          · rw [if_neg (fun w => q w.2.2), if_neg (fun w => q w.2)]; exact hl j (by omega)
theorem lp_sk2 {d : Nat} {μ ν : ab_M} {Q : Option ab_V → ab_M → Prop} (hW : WM μ) (hK : SK μ ν) (K : Wg (d + 1) 125 ν 83 [(0, ab_r 10 (some 0)), (1, ab_i (n_p μ : Int)), (2, ab_i ((ag_I μ 10 0 6).toNat : Int))] [] Q) : ∀ (N p : Nat) (f : Int), ag_I μ 10 0 6 - p < N → (p : Int) ≤ ag_I μ 10 0 6 → f = (cn (f_p μ) p : Int) → Wg (d + 1) 125 ν 53 [(0, ab_r 10 (some 0)), (1, ab_i f), (2, ab_i (p : Int))] [] Q := by
  intro N
  induction N with
  | zero => intro p f hn; omega
  | succ N ih =>
    intro p f hn hp2 hf
    have hW2 := SK_W hK hW
    obtain ⟨hM, h1, h6, h26, h0, h14⟩ := id hW2
    have e0 : ag_I ν 10 0 1 = ag_I μ 10 0 1 := SK_i hK 10 0 1 (by unfold scr; omega)
    have e26 : ag_I ν 10 0 26 = ag_I μ 10 0 26 := SK_i hK 10 0 26 (by unfold scr; omega)
    have e6 : ag_I ν 10 0 6 = ag_I μ 10 0 6 := SK_i hK 10 0 6 (by unfold scr; omega)
    have hcl := cn_le (f_p μ) p
    refine wg_s rfl rfl ?_
    refine wg_s rfl rfl ?_
    refine wg_gi rfl rfl (show _ = ag_I μ 10 0 6 from e6) ?_
    refine wg_if rfl rfl (fun h58 => ?_) (fun h58 => ?_)
    · have e1 : p = (ag_I μ 10 0 6).toNat := by omega
      subst e1
      rw [hf]
      exact K
    · refine wg_s rfl rfl ?_
      refine wg_s rfl rfl ?_
      refine wg_s rfl rfl ?_
      refine wg_cf2 rfl rfl (sp_isFree _ _ ν hW2) (show ab_i _ = ab_i (bI (f_p μ p = true)) by rw [SK_fr hK, e26]; rfl) ?_
      refine wg_eqb rfl (fun h67 => ?_) (fun h67 => ?_)
      · refine wg_s rfl rfl ?_
        refine wg_iadd rfl (by omega) (by omega) ?_
        refine wg_s rfl rfl ?_
        refine wg_iinc rfl rfl rfl (by omega) (by omega) rfl ?_
        refine wg_s rfl rfl ?_
        exact ih (p + 1) _ (by omega) (by omega) (by show _ = (((cn (f_p μ) p + if f_p μ p = true then 1 else 0 : Nat)) : Int); first | (rw [if_neg h67, hf]; omega) | (rw [if_pos h67, hf]; omega))
      · refine wg_s rfl rfl ?_
        refine wg_s rfl rfl ?_
        refine wg_iadd rfl (by omega) (by omega) ?_
        refine wg_s rfl rfl ?_
        refine wg_iinc rfl rfl rfl (by omega) (by omega) rfl ?_
        refine wg_s rfl rfl ?_
        exact ih (p + 1) _ (by omega) (by omega) (by show _ = (((cn (f_p μ) p + if f_p μ p = true then 1 else 0 : Nat)) : Int); first | (rw [if_neg h67, hf]; omega) | (rw [if_pos h67, hf]; omega))
theorem lp_sk3 {d : Nat} {μ : ab_M} {n : Nat} {LH : Nat → Nat} {Q : Option ab_V → ab_M → Prop} (fr : Int) (hW : WM μ) (K : ∀ ν, SK μ ν → ag_I ν 10 0 38 = (n : Int) → (∀ j, j < n → ag_I ν 11 43 j = (LH j : Int)) → ag_I ν 10 0 42 = -1 → (∀ j, j < 8 → ag_I ν 11 44 j = -1) → Wg (d + 1) 125 ν 133 [(0, ab_r 10 (some 0)), (1, ab_i fr), (2, ab_i 8)] [] Q) : ∀ (N z : Nat) (ν : ab_M), 8 - z < N → z ≤ 8 → SK μ ν → ag_I ν 10 0 38 = (n : Int) → (∀ j, j < n → ag_I ν 11 43 j = (LH j : Int)) → ag_I ν 10 0 42 = -1 → (∀ j, j < z → ag_I ν 11 44 j = -1) → Wg (d + 1) 125 ν 107 [(0, ab_r 10 (some 0)), (1, ab_i fr), (2, ab_i (z : Int))] [] Q := by
  intro N
  induction N with
  | zero => intro z ν hn; omega
  | succ N ih =>
    intro z ν hn hz2 hK h38 h43 h42 hz
    have hW2 := SK_W hK hW
    obtain ⟨hM, h1, h6, h26, h0, h14⟩ := id hW2
    have e0 : ag_I ν 10 0 1 = ag_I μ 10 0 1 := SK_i hK 10 0 1 (by unfold scr; omega)
    have e26 : ag_I ν 10 0 26 = ag_I μ 10 0 26 := SK_i hK 10 0 26 (by unfold scr; omega)
    have e6 : ag_I ν 10 0 6 = ag_I μ 10 0 6 := SK_i hK 10 0 6 (by unfold scr; omega)
    refine wg_s rfl rfl ?_
    refine wg_s rfl rfl ?_
    refine wg_if rfl rfl (fun h110 => ?_) (fun h110 => ?_)
    · have e1 : z = 8 := by omega
      subst e1
      exact K ν hK h38 h43 h42 hz
    · refine wg_s rfl rfl ?_
      refine wg_gm rfl rfl hM ?_
      refine wg_s rfl rfl ?_
      refine wg_s rfl rfl ?_
      refine wg_ias rfl hM rfl (by omega) (by omega) ?_
      refine wg_s rfl rfl ?_
      refine wg_gm rfl rfl hM ?_
      refine wg_s rfl rfl ?_
      refine wg_s rfl rfl ?_
      refine wg_ias rfl hM rfl (by omega) (by omega) ?_
      refine wg_iinc rfl rfl rfl (by omega) (by omega) rfl ?_
      refine wg_s rfl rfl ?_
      refine ih (z + 1) _ (by omega) (by omega) (SK_set (SK_set hK (Or.inr ⟨rfl, Or.inr (Or.inl rfl)⟩)) (Or.inr ⟨rfl, Or.inr (Or.inr rfl)⟩)) h38 h43 h42 (fun j hj => ?_)
      show (if (11 : Nat) = 11 ∧ (44 : Nat) = 45 ∧ j = (z : Int).toNat then (-1 : Int) else if (11 : Nat) = 11 ∧ (44 : Nat) = 44 ∧ j = (z : Int).toNat then (-1 : Int) else ag_I ν 11 44 j) = -1
      by_cases q : j = z
      · rw [if_neg (by omega), if_pos ⟨rfl, rfl, q⟩]
      · rw [if_neg (by omega), if_neg (fun w => q w.2.2)]; exact hz j (by omega)
theorem sp_mseeks (d : Nat) (μ : ab_M) (hW : WM μ) (hl9 : WK μ) : Wp (d + 6) 125 [ab_r 10 (some 0)] μ (fun v μ' => SK μ μ' ∧ ((n_h μ ≤ 6 ∧ n_p μ ≤ 6) → v = some (ab_i 1) ∧ ∃ l0 F0, SE μ μ' (l_h μ) (n_h μ) (fun _ => -1) (pf (ag_I μ 10 0 6).toNat (m_ok μ (l_h μ)) (pr_h (fun A => pr_r (ag_I μ 10 0 6).toNat (n_h μ) (m_ok μ (l_h μ)) (m_lk μ (l_h μ)) (m_ld μ (l_h μ)) A (n_h μ)) (fun A => pr_l (m_lk μ (l_h μ)) (m_ld μ (l_h μ)) A (n_h μ))) (n_h μ) 0 (fun _ => -1) (-1, l0, F0))) ∧ (¬ (n_h μ ≤ 6 ∧ n_p μ ≤ 6) → v = some (ab_i 0))) := by
  refine wp_of ?_
  obtain ⟨hM, h1, h6, h26, h0, h14⟩ := id hW
  refine wg_s rfl rfl ?_
  refine wg_s rfl rfl ?_
  refine wg_s rfl rfl ?_
  refine wg_s rfl rfl ?_
  refine wg_s rfl rfl ?_
  refine wg_s rfl rfl ?_
  refine wg_s rfl rfl ?_
  refine lp_sk1 (d := d + 4) hW (fun ν2 hK2 hc hl => ?_) 9 0 _ (by omega) (by omega) (SK_set (SK_refl μ) (Or.inl ⟨rfl, rfl, Or.inl rfl⟩)) rfl (fun j hj => absurd hj (Nat.not_lt_zero j))
  refine wg_s rfl rfl ?_
  refine wg_s rfl rfl ?_
  refine lp_sk2 (d := d + 4) hW hK2 ?_ 9 0 0 (by omega) (by omega) rfl
  refine wg_s rfl rfl ?_
  refine wg_gi rfl rfl (show _ = (n_h μ : Int) from hc) ?_
  refine wg_s rfl rfl ?_
  refine wg_if rfl rfl (fun h89 => ?_) (fun h89 => ?_)
  · refine wg_s rfl rfl ?_
    exact wg_ret rfl rfl (Or.inl rfl) ⟨hK2, fun q => absurd q (by omega), fun _ => rfl⟩
  · refine wg_s rfl rfl ?_
    refine wg_s rfl rfl ?_
    refine wg_if rfl rfl (fun h95 => ?_) (fun h95 => ?_)
    · refine wg_s rfl rfl ?_
      refine wg_s rfl rfl ?_
      refine wg_s rfl rfl ?_
      refine wg_s rfl rfl ?_
      refine wg_s rfl rfl ?_
      refine lp_sk3 (d := d + 4) (n := n_h μ) (LH := l_h μ) _ hW (fun ν3 hK3 c38 c43 c42 cz => ?_) 9 0 _ (by omega) (by omega) (SK_set hK2 (Or.inl ⟨rfl, rfl, Or.inr (Or.inl rfl)⟩)) hc hl rfl (fun j hj => by omega)
      refine wg_s rfl rfl ?_
      refine wg_s rfl rfl ?_
      refine wg_s rfl rfl ?_
      refine wg_s rfl rfl ?_
      have hlt : ∀ i, i < n_h μ → l_h μ i < 8 := fun i hi => by have := (ith_p _ _ i hi).1; show ith _ _ _ < 8; omega
      have hS3 : SB ν3 (l_h μ) (n_h μ) (fun _ => -1) := ⟨SK_W hK3 hW, by omega, c38, fun i hi => ⟨c43 i hi, hlt i hi, cz _ (hlt i hi), Int.le_refl _, by show (-1 : Int) < _; rw [SK_i hK3 10 0 6 (by unfold scr; omega)]; omega⟩, fun k hk => by rw [SK_i hK3 11 28 k (by unfold scr; omega), SK_i hK3 11 29 k (by unfold scr; omega)]; exact hl9 k hk⟩
      refine lp_dn (d := d + 1) (LH := l_h μ) (n := n_h μ) _ (fun i j => ith_inj _ _ i j) (n_h μ) 0 (fun _ => -1) (-1, ag_I ν3 10 0 43, fun i => ag_I ν3 11 45 (l_h μ i)) ν3 none (by omega) ⟨hK3, hS3, c42, rfl, fun _ _ => rfl⟩ (fun _ _ _ => rfl) (fun ν4 e hE4 => ?_)
      have qq : Wg (d + 5) 125 ν4 238 ([(0, ab_r 10 (some 0)), (1, ab_i (n_p μ : Int)), (2, ab_i (((0 : Nat) : Int) - 1)), (3, ab_i 0)] ++ t_e e) [] (fun v μ' => SK μ μ' ∧ ((n_h μ ≤ 6 ∧ n_p μ ≤ 6) → v = some (ab_i 1) ∧ ∃ l0 F0, SE μ μ' (l_h μ) (n_h μ) (fun _ => -1) (pf (ag_I μ 10 0 6).toNat (m_ok μ (l_h μ)) (pr_h (fun A => pr_r (ag_I μ 10 0 6).toNat (n_h μ) (m_ok μ (l_h μ)) (m_lk μ (l_h μ)) (m_ld μ (l_h μ)) A (n_h μ)) (fun A => pr_l (m_lk μ (l_h μ)) (m_ld μ (l_h μ)) A (n_h μ))) (n_h μ) 0 (fun _ => -1) (-1, l0, F0))) ∧ (¬ (n_h μ ≤ 6 ∧ n_p μ ≤ 6) → v = some (ab_i 0))) := by
        refine wg_s rfl rfl ?_
        exact wg_ret rfl rfl (Or.inr rfl) ⟨hE4.1, fun _ => ⟨rfl, _, _, hE4⟩, fun q => absurd ⟨by omega, by omega⟩ q⟩
      rcases e with _ | ⟨x2, _ | y2⟩
      · refine wg_s rfl rfl ?_
        exact wg_s rfl rfl qq
      · refine wg_s rfl rfl ?_
        exact wg_s rfl rfl qq
      · refine wg_s rfl rfl ?_
        exact wg_s rfl rfl qq
    · refine wg_s rfl rfl ?_
      exact wg_ret rfl rfl (Or.inl rfl) ⟨hK2, fun q => absurd q (by omega), fun _ => rfl⟩
