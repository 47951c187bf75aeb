/-! ===== the reference: the best pairing ===== -/
/-- the first z of what was found are what stands now -/
def m_hc (μ : ab_M) (z : Nat) : ab_M := ((fun t' n' k' => if t' = 11 ∧ n' = 45 ∧ k' < z then μ.1 11 44 k' else μ.1 t' n' k'), μ.2)
theorem m_hc_0 (μ : ab_M) : m_hc μ 0 = μ := by
  unfold m_hc
  have : (fun t' n' k' => if t' = 11 ∧ n' = 45 ∧ k' < 0 then μ.1 11 44 k' else μ.1 t' n' k') = μ.1 := by
    funext t' n' k'; rw [if_neg (by omega)]
  rw [this]
theorem m_hc_s (μ : ab_M) (z : Nat) : as_I (m_hc μ z) 11 45 z (ag_I μ 11 44 z) = m_hc μ (z + 1) := by
  unfold as_I m_hc ag_I ab_u3
  have : (fun t' n' k' => if t' = 11 ∧ n' = 45 ∧ k' = z then μ.1 11 44 z else if t' = 11 ∧ n' = 45 ∧ k' < z then μ.1 11 44 k' else μ.1 t' n' k') = (fun t' n' k' => if t' = 11 ∧ n' = 45 ∧ k' < z + 1 then μ.1 11 44 k' else μ.1 t' n' k') := by
    funext t' n' k'
    by_cases h : t' = 11 ∧ n' = 45 ∧ k' = z
    · rw [if_pos h, if_pos (by omega), h.2.2]
    · rw [if_neg h]
      by_cases h2 : t' = 11 ∧ n' = 45 ∧ k' < z
      · rw [if_pos h2, if_pos (by omega)]
      · rw [if_neg h2, if_neg (by omega)]
  rw [← this]
theorem hc_44 (μ : ab_M) (z k : Nat) : ag_I (m_hc μ z) 11 44 k = ag_I μ 11 44 k := by
  show (if (11 : Nat) = 11 ∧ (44 : Nat) = 45 ∧ k < z then μ.1 11 44 k else μ.1 11 44 k) = _
  rw [if_neg (by omega)]; rfl
theorem lp_copy {d : Nat} {μ : ab_M} {Q : Option ab_V → ab_M → Prop} (hM : FM μ.2.2.1 μ.2.2.2.1) (r l : Int) (hQ : Q none (m_hc μ 8)) : ∀ (N z : Nat), 8 - z < N → z ≤ 8 → Wg d 126 (m_hc μ z) 53 [(0, ab_r 10 (some 0)), (1, ab_i r), (2, ab_i l), (3, ab_i (z : Int))] [] Q := by
  intro N
  induction N with
  | zero => intro z hn; omega
  | succ N ih =>
    intro z hn hz2
    refine wg_s rfl rfl ?_
    refine wg_s rfl rfl ?_
    refine wg_if rfl rfl (fun h56 => ?_) (fun h56 => ?_)
    · have e : z = 8 := by omega
      subst e
      exact wg_ret rfl rfl trivial hQ
    · refine wg_s rfl rfl ?_
      refine wg_gm rfl rfl hM ?_
      refine wg_s rfl rfl ?_
      refine wg_s rfl rfl ?_
      refine wg_gm rfl rfl hM ?_
      refine wg_s rfl rfl ?_
      refine wg_iav rfl hM rfl (by omega) (by omega) (show _ = ag_I μ 11 44 z from hc_44 μ z _) ?_
      refine wg_ias rfl hM rfl (by omega) (by omega) ?_
      refine wg_iinc rfl rfl rfl (by omega) (by omega) rfl ?_
      refine wg_s rfl rfl ?_
      have := ih (z + 1) (by omega) (by omega)
      rw [← m_hc_s] at this
      exact this
theorem sp_mholds (d : Nat) (μ : ab_M) (LH : Nat → Nat) (n : Nat) (A : Nat → Int) (hS : SB μ LH n A) : Wp (d + 3) 126 [ab_r 10 (some 0)] μ (fun v μ' => v = none ∧ μ' = if (ag_I μ 10 0 42 < 0 ∨ (pr_r (ag_I μ 10 0 6).toNat n (m_ok μ LH) (m_lk μ LH) (m_ld μ LH) A n) < ag_I μ 10 0 42 ∨ ((pr_r (ag_I μ 10 0 6).toNat n (m_ok μ LH) (m_lk μ LH) (m_ld μ LH) A n) = ag_I μ 10 0 42 ∧ ag_I μ 10 0 43 < (pr_l (m_lk μ LH) (m_ld μ LH) A n))) then m_hc (as_I (as_I μ 10 0 42 (pr_r (ag_I μ 10 0 6).toNat n (m_ok μ LH) (m_lk μ LH) (m_ld μ LH) A n)) 10 0 43 (pr_l (m_lk μ LH) (m_ld μ LH) A n)) 8 else μ) := by
  refine wp_of ?_
  obtain ⟨hW, hn6, h38, hA, hlk⟩ := id hS
  obtain ⟨hM, h1, h6, h26, h0, h14⟩ := id hW
  refine wg_s rfl rfl ?_
  refine wg_cf rfl rfl (sp_mrunaways _ _ _ _ _ hS) ?_
  refine wg_s rfl rfl ?_
  refine wg_s rfl rfl ?_
  refine wg_cf rfl rfl (sp_mtogether _ _ _ _ _ hS) ?_
  refine wg_s rfl rfl ?_
  refine wg_s rfl rfl ?_
  refine wg_gi rfl rfl (show _ = ag_I μ 10 0 42 from rfl) ?_
  refine wg_if rfl rfl (fun h14 => ?_) (fun h14 => ?_)
  · refine wg_s rfl rfl ?_
    refine wg_s rfl rfl ?_
    refine wg_s rfl rfl ?_
    refine wg_s rfl rfl ?_
    refine wg_s rfl rfl ?_
    refine wg_s rfl rfl ?_
    refine wg_s rfl rfl ?_
    refine wg_s rfl rfl ?_
    have := lp_copy (d := d + 2) (μ := as_I (as_I μ 10 0 42 (pr_r (ag_I μ 10 0 6).toNat n (m_ok μ LH) (m_lk μ LH) (m_ld μ LH) A n)) 10 0 43 (pr_l (m_lk μ LH) (m_ld μ LH) A n)) (Q := (fun v μ' => v = none ∧ μ' = if (ag_I μ 10 0 42 < 0 ∨ (pr_r (ag_I μ 10 0 6).toNat n (m_ok μ LH) (m_lk μ LH) (m_ld μ LH) A n) < ag_I μ 10 0 42 ∨ ((pr_r (ag_I μ 10 0 6).toNat n (m_ok μ LH) (m_lk μ LH) (m_ld μ LH) A n) = ag_I μ 10 0 42 ∧ ag_I μ 10 0 43 < (pr_l (m_lk μ LH) (m_ld μ LH) A n))) then m_hc (as_I (as_I μ 10 0 42 (pr_r (ag_I μ 10 0 6).toNat n (m_ok μ LH) (m_lk μ LH) (m_ld μ LH) A n)) 10 0 43 (pr_l (m_lk μ LH) (m_ld μ LH) A n)) 8 else μ)) hM (pr_r (ag_I μ 10 0 6).toNat n (m_ok μ LH) (m_lk μ LH) (m_ld μ LH) A n) (pr_l (m_lk μ LH) (m_ld μ LH) A n) ⟨rfl, (if_pos (by omega)).symm⟩ 9 0 (by omega) (by omega)
    rw [m_hc_0] at this
    exact this
  · refine wg_s rfl rfl ?_
    refine wg_s rfl rfl ?_
    refine wg_gi rfl rfl (show _ = ag_I μ 10 0 42 from rfl) ?_
    refine wg_if rfl rfl (fun h22 => ?_) (fun h22 => ?_)
    · refine wg_s rfl rfl ?_
      refine wg_s rfl rfl ?_
      refine wg_s rfl rfl ?_
      refine wg_s rfl rfl ?_
      refine wg_s rfl rfl ?_
      refine wg_s rfl rfl ?_
      refine wg_s rfl rfl ?_
      refine wg_s rfl rfl ?_
      have := lp_copy (d := d + 2) (μ := as_I (as_I μ 10 0 42 (pr_r (ag_I μ 10 0 6).toNat n (m_ok μ LH) (m_lk μ LH) (m_ld μ LH) A n)) 10 0 43 (pr_l (m_lk μ LH) (m_ld μ LH) A n)) (Q := (fun v μ' => v = none ∧ μ' = if (ag_I μ 10 0 42 < 0 ∨ (pr_r (ag_I μ 10 0 6).toNat n (m_ok μ LH) (m_lk μ LH) (m_ld μ LH) A n) < ag_I μ 10 0 42 ∨ ((pr_r (ag_I μ 10 0 6).toNat n (m_ok μ LH) (m_lk μ LH) (m_ld μ LH) A n) = ag_I μ 10 0 42 ∧ ag_I μ 10 0 43 < (pr_l (m_lk μ LH) (m_ld μ LH) A n))) then m_hc (as_I (as_I μ 10 0 42 (pr_r (ag_I μ 10 0 6).toNat n (m_ok μ LH) (m_lk μ LH) (m_ld μ LH) A n)) 10 0 43 (pr_l (m_lk μ LH) (m_ld μ LH) A n)) 8 else μ)) hM (pr_r (ag_I μ 10 0 6).toNat n (m_ok μ LH) (m_lk μ LH) (m_ld μ LH) A n) (pr_l (m_lk μ LH) (m_ld μ LH) A n) ⟨rfl, (if_pos (by omega)).symm⟩ 9 0 (by omega) (by omega)
      rw [m_hc_0] at this
      exact this
    · refine wg_s rfl rfl ?_
      refine wg_s rfl rfl ?_
      refine wg_gi rfl rfl (show _ = ag_I μ 10 0 42 from rfl) ?_
      refine wg_if rfl rfl (fun h30 => ?_) (fun h30 => ?_)
      · exact wg_ret rfl rfl trivial ⟨rfl, (if_neg (by omega)).symm⟩
      · refine wg_s rfl rfl ?_
        refine wg_s rfl rfl ?_
        refine wg_gi rfl rfl (show _ = ag_I μ 10 0 43 from rfl) ?_
        refine wg_if rfl rfl (fun h38 => ?_) (fun h38 => ?_)
        · exact wg_ret rfl rfl trivial ⟨rfl, (if_neg (by omega)).symm⟩
        · refine wg_s rfl rfl ?_
          refine wg_s rfl rfl ?_
          refine wg_s rfl rfl ?_
          refine wg_s rfl rfl ?_
          refine wg_s rfl rfl ?_
          refine wg_s rfl rfl ?_
          refine wg_s rfl rfl ?_
          refine wg_s rfl rfl ?_
          have := lp_copy (d := d + 2) (μ := as_I (as_I μ 10 0 42 (pr_r (ag_I μ 10 0 6).toNat n (m_ok μ LH) (m_lk μ LH) (m_ld μ LH) A n)) 10 0 43 (pr_l (m_lk μ LH) (m_ld μ LH) A n)) (Q := (fun v μ' => v = none ∧ μ' = if (ag_I μ 10 0 42 < 0 ∨ (pr_r (ag_I μ 10 0 6).toNat n (m_ok μ LH) (m_lk μ LH) (m_ld μ LH) A n) < ag_I μ 10 0 42 ∨ ((pr_r (ag_I μ 10 0 6).toNat n (m_ok μ LH) (m_lk μ LH) (m_ld μ LH) A n) = ag_I μ 10 0 42 ∧ ag_I μ 10 0 43 < (pr_l (m_lk μ LH) (m_ld μ LH) A n))) then m_hc (as_I (as_I μ 10 0 42 (pr_r (ag_I μ 10 0 6).toNat n (m_ok μ LH) (m_lk μ LH) (m_ld μ LH) A n)) 10 0 43 (pr_l (m_lk μ LH) (m_ld μ LH) A n)) 8 else μ)) hM (pr_r (ag_I μ 10 0 6).toNat n (m_ok μ LH) (m_lk μ LH) (m_ld μ LH) A n) (pr_l (m_lk μ LH) (m_ld μ LH) A n) ⟨rfl, (if_pos (by omega)).symm⟩ 9 0 (by omega) (by omega)
          rw [m_hc_0] at this
          exact this
/-- where the search scribbles -/
def scr (t n k : Nat) : Prop := (t = 10 ∧ n = 0 ∧ (k = 38 ∨ k = 42 ∨ k = 43)) ∨ (t = 11 ∧ (n = 43 ∨ n = 44 ∨ n = 45))
def SK (μ ν : ab_M) : Prop := ν.2 = μ.2 ∧ ∀ t n k, ¬ scr t n k → ν.1 t n k = μ.1 t n k
theorem SK_i {μ ν : ab_M} (h : SK μ ν) (t n k : Nat) (hs : ¬ scr t n k) : ag_I ν t n k = ag_I μ t n k := h.2 t n k hs
theorem SK_fr {μ ν : ab_M} (h : SK μ ν) (p : Int) : ∀ n, m_fr ν p n = m_fr μ p n
  | 0 => rfl
  | n + 1 => by
    rw [m_fr_s, m_fr_s, SK_fr h p n, SK_i h 11 33 n (by unfold scr; omega), SK_i h 11 40 n (by unfold scr; omega)]
theorem SK_lf {μ ν : ab_M} (h : SK μ ν) (p : Int) : ∀ n, m_lf ν p n = m_lf μ p n
  | 0 => rfl
  | n + 1 => by
    unfold m_lf
    rw [SK_lf h p n, SK_i h 11 32 n (by unfold scr; omega), SK_i h 11 40 n (by unfold scr; omega)]
theorem SK_why {μ ν : ab_M} (h : SK μ ν) (a b : Nat) : m_why ν a b = m_why μ a b := by
  unfold m_why
  rw [SK_i h 11 22 a (by unfold scr; omega), SK_i h 11 24 b (by unfold scr; omega), SK_i h 11 25 b (by unfold scr; omega), SK_i h 11 21 a (by unfold scr; omega), SK_i h 11 26 b (by unfold scr; omega), SK_i h 11 23 a (by unfold scr; omega), SK_i h 11 27 b (by unfold scr; omega), SK_i h 10 0 0 (by unfold scr; omega)]
theorem SK_ok {μ ν : ab_M} (h : SK μ ν) (LH : Nat → Nat) : m_ok ν LH = m_ok μ LH := by
  funext i p
  unfold m_ok
  rw [SK_fr h, SK_why h, SK_i h 10 0 26 (by unfold scr; omega)]
theorem SK_lk {μ ν : ab_M} (h : SK μ ν) (LH : Nat → Nat) : m_lk ν LH = m_lk μ LH := by
  funext i p; exact SK_i h 11 28 _ (by unfold scr; omega)
theorem SK_ld {μ ν : ab_M} (h : SK μ ν) (LH : Nat → Nat) : m_ld ν LH = m_ld μ LH := by
  funext i p; exact SK_i h 11 29 _ (by unfold scr; omega)
theorem SK_W {μ ν : ab_M} (h : SK μ ν) (hW : WM μ) : WM ν := by
  obtain ⟨hM, h1, h6, h26, h0, h14⟩ := hW
  refine ⟨by rw [h.1]; exact hM, ?_⟩
  rw [SK_i h 10 0 1 (by unfold scr; omega), SK_i h 10 0 6 (by unfold scr; omega), SK_i h 10 0 26 (by unfold scr; omega), SK_i h 10 0 0 (by unfold scr; omega), SK_i h 10 0 14 (by unfold scr; omega)]
  exact ⟨h1, h6, h26, h0, h14⟩
theorem SK_set {μ ν : ab_M} {t n k : Nat} {x : Int} (h : SK μ ν) (hs : scr t n k) : SK μ (as_I ν t n k x) := by
  refine ⟨h.1, fun t' n' k' q => ?_⟩
  show (if t' = t ∧ n' = n ∧ k' = k then x else ν.1 t' n' k') = _
  rw [if_neg (by intro e; obtain ⟨rfl, rfl, rfl⟩ := e; exact q hs)]
  exact h.2 t' n' k' q
/-- what is held of a pairing -/
def pr_h (R L : (Nat → Int) → Int) (A : Nat → Int) (s : Int × Int × (Nat → Int)) : Int × Int × (Nat → Int) := if s.1 < 0 ∨ R A < s.1 ∨ (R A = s.1 ∧ s.2.1 < L A) then (R A, L A, A) else s
def se (A : Nat → Int) (i : Nat) (x : Int) : Nat → Int := fun k => if k = i then x else A k
/-- a step for each of c helpers -/
def it {S : Type} (f : Nat → S → S) : Nat → Nat → S → S
  | 0, _, s => s
  | c + 1, j, s => it f c (j + 1) (f j s)
/-- all pairings of r more homes, in order -/
def pf {S : Type} (K : Nat) (ok : Nat → Nat → Bool) (h : (Nat → Int) → S → S) : Nat → Nat → (Nat → Int) → S → S
  | 0, _, A, s => h A s
  | r + 1, i, A, s => pf K ok h r (i + 1) (se A i (-1)) (it (fun j s => if (ok i j && un A j i) = true then pf K ok h r (i + 1) (se A i (j : Int)) s else s) K 0 s)
theorem it_nx {S : Type} (f : Nat → Bool) (g : Nat → S → S) : ∀ (c j : Nat) (s : S), it (fun j s => if f j = true then g j s else s) c j s = (if nx f c j = -1 then s else it (fun j s => if f j = true then g j s else s) (j + c - 1 - (nx f c j).toNat) ((nx f c j).toNat + 1) (g (nx f c j).toNat s))
  | 0, _, _ => rfl
  | c + 1, j, s => by
    show it _ c (j + 1) (if f j = true then g j s else s) = _
    unfold nx
    by_cases h : f j = true
    · rw [if_pos h, if_pos h, if_neg (by omega)]
      have e1 : ((j : Int)).toNat = j := rfl
      rw [e1, show j + (c + 1) - 1 - j = c by omega]
    · rw [if_neg h, if_neg h, it_nx f g c (j + 1) s]
      rw [show j + 1 + c - 1 = j + (c + 1) - 1 by omega]
/-- the reference's memory in its search -/
def SE (μ ν : ab_M) (LH : Nat → Nat) (n : Nat) (A : Nat → Int) (s : Int × Int × (Nat → Int)) : Prop := SK μ ν ∧ SB ν LH n A ∧ ag_I ν 10 0 42 = s.1 ∧ ag_I ν 10 0 43 = s.2.1 ∧ ∀ i, i < n → ag_I ν 11 45 (LH i) = s.2.2 i
theorem SE_set {μ ν : ab_M} {LH : Nat → Nat} {n : Nat} {A : Nat → Int} {s : Int × Int × (Nat → Int)} (hinj : ∀ i j, i < n → j < n → LH i = LH j → i = j) (h : SE μ ν LH n A s) {i : Nat} (hi : i < n) {x : Int} (hx : -1 ≤ x ∧ x < ag_I μ 10 0 6) : SE μ (as_I ν 11 44 (LH i) x) LH n (se A i x) s := by
  obtain ⟨h1, ⟨h2, h3, h4, h5, h6⟩, h7, h8, h9⟩ := h
  have hs := SK_set (t := 11) (n := 44) (k := LH i) (x := x) h1 (Or.inr ⟨rfl, Or.inr (Or.inl rfl)⟩)
  have e6 : ag_I ν 10 0 6 = ag_I μ 10 0 6 := SK_i h1 10 0 6 (by unfold scr; omega)
  refine ⟨hs, ⟨⟨h2.1, h2.2.1, h2.2.2.1, h2.2.2.2.1, h2.2.2.2.2.1, h2.2.2.2.2.2⟩, h3, h4, fun j hj => ?_, h6⟩, h7, h8, h9⟩
  obtain ⟨a, b, c, d, e⟩ := h5 j hj
  refine ⟨a, b, ?_⟩
  unfold se
  by_cases q : j = i
  · subst q
    rw [if_pos rfl]
    refine ⟨if_pos ⟨rfl, rfl, rfl⟩, hx.1, ?_⟩
    show x < ag_I ν 10 0 6
    omega
  · rw [if_neg q]
    refine ⟨(if_neg (fun w => q (hinj _ _ hj hi w.2.2))).trans c, d, e⟩
theorem un_se (A : Nat → Int) (i : Nat) (x : Int) (p : Nat) : ∀ k, k ≤ i → un (se A i x) p k = un A p k
  | 0, _ => rfl
  | k + 1, h => by
    rw [un_s, un_s, un_se A i x p k (by omega)]
    unfold se
    rw [if_neg (by omega)]
theorem se_se (A : Nat → Int) (i : Nat) (x y : Int) : se (se A i x) i y = se A i y := by
  funext k; unfold se; by_cases h : k = i <;> simp [h]
theorem se_id {A : Nat → Int} {i : Nat} {x : Int} (h : A i = x) : se A i x = A := by
  funext k; unfold se; by_cases q : k = i
  · rw [if_pos q, q, h]
  · rw [if_neg q]
theorem SE_hold {μ ν : ab_M} {LH : Nat → Nat} {n : Nat} {A : Nat → Int} {s : Int × Int × (Nat → Int)} (h : SE μ ν LH n A s) : SE μ (if (ag_I ν 10 0 42 < 0 ∨ (pr_r (ag_I ν 10 0 6).toNat n (m_ok ν LH) (m_lk ν LH) (m_ld ν LH) A n) < ag_I ν 10 0 42 ∨ ((pr_r (ag_I ν 10 0 6).toNat n (m_ok ν LH) (m_lk ν LH) (m_ld ν LH) A n) = ag_I ν 10 0 42 ∧ ag_I ν 10 0 43 < (pr_l (m_lk ν LH) (m_ld ν LH) A n))) then m_hc (as_I (as_I ν 10 0 42 (pr_r (ag_I ν 10 0 6).toNat n (m_ok ν LH) (m_lk ν LH) (m_ld ν LH) A n)) 10 0 43 (pr_l (m_lk ν LH) (m_ld ν LH) A n)) 8 else ν) LH n A (pr_h (fun A => pr_r (ag_I μ 10 0 6).toNat n (m_ok μ LH) (m_lk μ LH) (m_ld μ LH) A n) (fun A => pr_l (m_lk μ LH) (m_ld μ LH) A n) A s) := by
  obtain ⟨h1, h2, h7, h8, h9⟩ := id h
  have e6 : ag_I ν 10 0 6 = ag_I μ 10 0 6 := SK_i h1 10 0 6 (by unfold scr; omega)
  rw [SK_ok h1, SK_lk h1, SK_ld h1, e6, h7, h8]
  unfold pr_h
  by_cases q : s.1 < 0 ∨ pr_r (ag_I μ 10 0 6).toNat n (m_ok μ LH) (m_lk μ LH) (m_ld μ LH) A n < s.1 ∨ (pr_r (ag_I μ 10 0 6).toNat n (m_ok μ LH) (m_lk μ LH) (m_ld μ LH) A n = s.1 ∧ s.2.1 < pr_l (m_lk μ LH) (m_ld μ LH) A n)
  · rw [if_pos q, if_pos q]
    obtain ⟨a2, a3, a4, a5, a6⟩ := id h2
    refine ⟨⟨h1.1, fun t' n' k' w => ?_⟩, ⟨⟨a2.1, a2.2.1, a2.2.2.1, a2.2.2.2.1, a2.2.2.2.2.1, a2.2.2.2.2.2⟩, a3, a4, a5, a6⟩, rfl, rfl, fun i hi => ?_⟩
    · have w1 : ¬ (t' = 11 ∧ n' = 45 ∧ k' < 8) := fun e => w (Or.inr ⟨e.1, Or.inr (Or.inr e.2.1)⟩)
      have w2 : ¬ (t' = 10 ∧ n' = 0 ∧ k' = 43) := fun e => w (Or.inl ⟨e.1, e.2.1, Or.inr (Or.inr e.2.2)⟩)
      have w3 : ¬ (t' = 10 ∧ n' = 0 ∧ k' = 42) := fun e => w (Or.inl ⟨e.1, e.2.1, Or.inr (Or.inl e.2.2)⟩)
      exact (if_neg w1).trans ((if_neg w2).trans ((if_neg w3).trans (h1.2 t' n' k' w)))
    · have b := a5 i hi
      exact (if_pos ⟨rfl, rfl, b.2.1⟩).trans b.2.2.1
  · rw [if_neg q, if_neg q]
    exact h
def t_5 (e : Option Int) : ab_L := match e with
  | none => []
  | some y => [(5, ab_i y)]
def t_e (e : Option (Int × Option Int)) : ab_L := match e with
  | none => []
  | some (x, e) => [(4, ab_i x)] ++ t_5 e
theorem lp_go {d : Nat} {μ : ab_M} {LH : Nat → Nat} {n : Nat} {Q : Option ab_V → ab_M → Prop} (fr : Int) (hinj : ∀ i j, i < n → j < n → LH i = LH j → i = j) (r i : Nat) (hin : i < n) (hir : i + (r + 1) = n)
    (DN : ∀ (i : Nat) (A : Nat → Int) (s : Int × Int × (Nat → Int)) (ν : ab_M) (e : Option (Int × Option Int)), i + r = n → SE μ ν LH n A s → (∀ k, i ≤ k → k < n → A k = -1) → (∀ ν2 e, SE μ ν2 LH n A (pf (ag_I μ 10 0 6).toNat (m_ok μ LH) (pr_h (fun A => pr_r (ag_I μ 10 0 6).toNat n (m_ok μ LH) (m_lk μ LH) (m_ld μ LH) A n) (fun A => pr_l (m_lk μ LH) (m_ld μ LH) A n)) r i A s) → Wg (d + 4) 125 ν2 137 ([(0, ab_r 10 (some 0)), (1, ab_i fr), (2, ab_i ((i : Int) - 1)), (3, ab_i 0)] ++ t_e e) [] Q) → Wg (d + 4) 125 ν 137 ([(0, ab_r 10 (some 0)), (1, ab_i fr), (2, ab_i (i : Int)), (3, ab_i 1)] ++ t_e e) [] Q)
    (A : Nat → Int) (hAi : A i = -1) (hAd : ∀ k, i ≤ k → k < n → A k = -1) : ∀ (N f : Nat) (x0 : Int) (s1 : Int × Int × (Nat → Int)) (ν : ab_M) (e : Option Int) (x1 : Int), ag_I μ 10 0 6 - f < N → (f : Int) ≤ ag_I μ 10 0 6 → True → SE μ ν LH n (se A i x0) s1 →
    (∀ ν2 e, SE μ ν2 LH n A (pf (ag_I μ 10 0 6).toNat (m_ok μ LH) (pr_h (fun A => pr_r (ag_I μ 10 0 6).toNat n (m_ok μ LH) (m_lk μ LH) (m_ld μ LH) A n) (fun A => pr_l (m_lk μ LH) (m_ld μ LH) A n)) r (i + 1) (se A i (-1)) (it (fun (j : Nat) (s : Int × Int × (Nat → Int)) => if (m_ok μ LH i j && un A j i) = true then pf (ag_I μ 10 0 6).toNat (m_ok μ LH) (pr_h (fun A => pr_r (ag_I μ 10 0 6).toNat n (m_ok μ LH) (m_lk μ LH) (m_ld μ LH) A n) (fun A => pr_l (m_lk μ LH) (m_ld μ LH) A n)) r (i + 1) (se A i (j : Int)) s else s) ((ag_I μ 10 0 6).toNat - f) f s1)) → Wg (d + 4) 125 ν2 137 ([(0, ab_r 10 (some 0)), (1, ab_i fr), (2, ab_i ((i : Int) - 1)), (3, ab_i 0)] ++ t_e e) [] Q) →
    Wg (d + 4) 125 ν 206 ([(0, ab_r 10 (some 0)), (1, ab_i fr), (2, ab_i (i : Int)), (3, ab_i x1), (4, ab_i (LH i : Int))] ++ t_5 e) [ab_i (f : Int)] Q := by
  intro N
  induction N with
  | zero => intro f x0 s1 ν e x1 hn; omega
  | succ N ih =>
    intro f x0 s1 ν e x1 hn hf2 _ hE K
    obtain ⟨hK, hS, h42, h43, hF⟩ := id hE
    obtain ⟨hW, hn6, h38, hA, hlk⟩ := id hS
    obtain ⟨hM, h1, h6, h26, h0, h14⟩ := id hW
    have e6 : ag_I ν 10 0 6 = ag_I μ 10 0 6 := SK_i hK 10 0 6 (by unfold scr; omega)
    have hi3 := hA i hin
    obtain ⟨y, hny⟩ : ∃ y, nx (fun p => m_ok μ LH i p && un A p i) ((ag_I μ 10 0 6).toNat - f) f = y := ⟨_, rfl⟩
    have hyr := nx_rng (fun p => m_ok μ LH i p && un A p i) ((ag_I μ 10 0 6).toNat - f) f
    rw [hny] at hyr
    have hnx : nx (fun p => m_ok (as_I ν 11 44 (LH i) (-1)) LH i p && un (se A i (-1)) p i) (ag_I (as_I ν 11 44 (LH i) (-1)) 10 0 6 - f).toNat f = y := by
      rw [← hny]
      have a1 : (fun p => m_ok (as_I ν 11 44 (LH i) (-1)) LH i p && un (se A i (-1)) p i) = (fun p => m_ok μ LH i p && un A p i) := by
        funext p
        rw [un_se A i (-1) p i (Nat.le_refl i), SK_ok (SK_set hK (Or.inr ⟨rfl, Or.inr (Or.inl rfl)⟩))]
      rw [a1, show (ag_I (as_I ν 11 44 (LH i) (-1)) 10 0 6 - f).toNat = (ag_I μ 10 0 6).toNat - f by show (ag_I ν 10 0 6 - f).toNat = _; omega]
    have hyr2 : -1 ≤ y ∧ y < ag_I μ 10 0 6 := by omega
    cases e with
    | none =>
      refine wg_s rfl rfl ?_
      refine wg_s rfl rfl ?_
      refine wg_gm rfl rfl hM ?_
      refine wg_s rfl rfl ?_
      refine wg_s rfl rfl ?_
      refine wg_ias rfl hM rfl (by omega) (by omega) ?_
      have hE1 := SE_set hinj hE hin (x := -1) (by omega)
      rw [se_se] at hE1
      refine wg_s rfl rfl ?_
      refine wg_gm rfl rfl hM ?_
      refine wg_s rfl rfl ?_
      refine wg_s rfl rfl ?_
      refine wg_s rfl rfl ?_
      refine wg_s rfl rfl ?_
      refine wg_cf rfl rfl (sp_mnextFor _ _ LH n _ hE1.2.1 i f hin (show (f : Int) ≤ ag_I ν 10 0 6 by omega)) ?_
      rw [hnx]
      refine wg_ias rfl hM rfl (by omega) (by omega) ?_
      have hE2 := SE_set hinj hE1 hin (x := y) (by omega)
      rw [se_se] at hE2
      refine wg_iinc rfl rfl rfl (by omega) (by omega) rfl ?_
      refine wg_s rfl rfl ?_
      refine wg_s rfl rfl ?_
      refine wg_s rfl rfl ?_
      have dn := DN (i + 1) (se A i y) s1 _ (some ((LH i : Int), some (f : Int))) (by omega) hE2 (fun k h1 h2 => by unfold se; rw [if_neg (by omega)]; exact hAd k (by omega) h2)
      rw [show ((i + 1 : Nat) : Int) = (i : Int) + 1 by omega] at dn
      refine dn (fun ν2 e hE3 => ?_)
      obtain ⟨uK, uS, u42, u43, uF⟩ := id hE3
      obtain ⟨uW, un6, u38, uA, ulk⟩ := id uS
      obtain ⟨uM, u1, u6, u26, u0, u14⟩ := id uW
      have ui := uA i hin
      rw [show se A i y i = y from if_pos rfl] at ui
      rw [show (i : Int) + 1 - 1 = (i : Int) by omega]
      rcases e with _ | ⟨x2, _ | y2⟩
      · refine wg_s rfl rfl ?_
        refine wg_s rfl rfl ?_
        refine wg_s rfl rfl ?_
        refine wg_s rfl rfl ?_
        refine wg_gi rfl rfl (show _ = (n : Int) from u38) ?_
        refine wg_if rfl rfl (fun h146 => ?_) (fun h146 => ?_)
        · refine wg_s rfl rfl ?_
          refine wg_gm rfl rfl uM ?_
          refine wg_s rfl rfl ?_
          refine wg_iav rfl uM rfl (by omega) (by omega) (show _ = (LH i : Int) from ui.1) ?_
          refine wg_s rfl rfl ?_
          refine wg_s rfl rfl ?_
          refine wg_s rfl rfl ?_
          refine wg_s rfl rfl ?_
          refine wg_gm rfl rfl uM ?_
          refine wg_s rfl rfl ?_
          refine wg_iav rfl uM rfl (by omega) (by omega) (show _ = y from ui.2.2.1) ?_
          refine wg_if rfl rfl (fun h180 => ?_) (fun h180 => ?_)
          · refine wg_s rfl rfl ?_
            refine wg_s rfl rfl ?_
            refine wg_s rfl rfl ?_
            refine wg_gm rfl rfl uM ?_
            refine wg_s rfl rfl ?_
            refine wg_iav rfl uM rfl (by omega) (by omega) (show _ = y from ui.2.2.1) ?_
            refine wg_s rfl rfl ?_
            refine wg_iadd rfl (by omega) (by omega) ?_
            have hyy : y ≠ -1 := by omega
            have hgo := ih (y.toNat + 1) y _ ν2 none 0 (by omega) (by omega) (by omega) hE3 (fun ν3 e h3 => K ν3 e (by rw [it_nx, hny, if_neg hyy, tnc (show 0 ≤ y by omega), show f + ((ag_I μ 10 0 6).toNat - f) - 1 - y.toNat = (ag_I μ 10 0 6).toNat - (y.toNat + 1) by omega]; exact h3))
            rw [show ((y.toNat + 1 : Nat) : Int) = y + 1 by omega] at hgo
            exact hgo
          · refine wg_iinc rfl rfl rfl (by omega) (by omega) rfl ?_
            refine wg_s rfl rfl ?_
            have ey : y = -1 := by omega
            refine K ν2 (some (_, none)) ?_
            rw [it_nx, hny, if_pos ey]
            rw [ey, se_id hAi] at hE3
            rw [se_id hAi]
            exact hE3
        · exfalso; omega
      · refine wg_s rfl rfl ?_
        refine wg_s rfl rfl ?_
        refine wg_s rfl rfl ?_
        refine wg_s rfl rfl ?_
        refine wg_gi rfl rfl (show _ = (n : Int) from u38) ?_
        refine wg_if rfl rfl (fun h146 => ?_) (fun h146 => ?_)
        · refine wg_s rfl rfl ?_
          refine wg_gm rfl rfl uM ?_
          refine wg_s rfl rfl ?_
          refine wg_iav rfl uM rfl (by omega) (by omega) (show _ = (LH i : Int) from ui.1) ?_
          refine wg_s rfl rfl ?_
          refine wg_s rfl rfl ?_
          refine wg_s rfl rfl ?_
          refine wg_s rfl rfl ?_
          refine wg_gm rfl rfl uM ?_
          refine wg_s rfl rfl ?_
          refine wg_iav rfl uM rfl (by omega) (by omega) (show _ = y from ui.2.2.1) ?_
          refine wg_if rfl rfl (fun h180 => ?_) (fun h180 => ?_)
          · refine wg_s rfl rfl ?_
            refine wg_s rfl rfl ?_
            refine wg_s rfl rfl ?_
            refine wg_gm rfl rfl uM ?_
            refine wg_s rfl rfl ?_
            refine wg_iav rfl uM rfl (by omega) (by omega) (show _ = y from ui.2.2.1) ?_
            refine wg_s rfl rfl ?_
            refine wg_iadd rfl (by omega) (by omega) ?_
            have hyy : y ≠ -1 := by omega
            have hgo := ih (y.toNat + 1) y _ ν2 none 0 (by omega) (by omega) (by omega) hE3 (fun ν3 e h3 => K ν3 e (by rw [it_nx, hny, if_neg hyy, tnc (show 0 ≤ y by omega), show f + ((ag_I μ 10 0 6).toNat - f) - 1 - y.toNat = (ag_I μ 10 0 6).toNat - (y.toNat + 1) by omega]; exact h3))
            rw [show ((y.toNat + 1 : Nat) : Int) = y + 1 by omega] at hgo
            exact hgo
          · refine wg_iinc rfl rfl rfl (by omega) (by omega) rfl ?_
            refine wg_s rfl rfl ?_
            have ey : y = -1 := by omega
            refine K ν2 (some (_, none)) ?_
            rw [it_nx, hny, if_pos ey]
            rw [ey, se_id hAi] at hE3
            rw [se_id hAi]
            exact hE3
        · exfalso; omega
      · refine wg_s rfl rfl ?_
        refine wg_s rfl rfl ?_
        refine wg_s rfl rfl ?_
        refine wg_s rfl rfl ?_
        refine wg_gi rfl rfl (show _ = (n : Int) from u38) ?_
        refine wg_if rfl rfl (fun h146 => ?_) (fun h146 => ?_)
        · refine wg_s rfl rfl ?_
          refine wg_gm rfl rfl uM ?_
          refine wg_s rfl rfl ?_
          refine wg_iav rfl uM rfl (by omega) (by omega) (show _ = (LH i : Int) from ui.1) ?_
          refine wg_s rfl rfl ?_
          refine wg_s rfl rfl ?_
          refine wg_s rfl rfl ?_
          refine wg_s rfl rfl ?_
          refine wg_gm rfl rfl uM ?_
          refine wg_s rfl rfl ?_
          refine wg_iav rfl uM rfl (by omega) (by omega) (show _ = y from ui.2.2.1) ?_
          refine wg_if rfl rfl (fun h180 => ?_) (fun h180 => ?_)
          · refine wg_s rfl rfl ?_
            refine wg_s rfl rfl ?_
            refine wg_s rfl rfl ?_
            refine wg_gm rfl rfl uM ?_
            refine wg_s rfl rfl ?_
            refine wg_iav rfl uM rfl (by omega) (by omega) (show _ = y from ui.2.2.1) ?_
            refine wg_s rfl rfl ?_
            refine wg_iadd rfl (by omega) (by omega) ?_
            have hyy : y ≠ -1 := by omega
            have hgo := ih (y.toNat + 1) y _ ν2 (some y2) 0 (by omega) (by omega) (by omega) hE3 (fun ν3 e h3 => K ν3 e (by rw [it_nx, hny, if_neg hyy, tnc (show 0 ≤ y by omega), show f + ((ag_I μ 10 0 6).toNat - f) - 1 - y.toNat = (ag_I μ 10 0 6).toNat - (y.toNat + 1) by omega]; exact h3))
            rw [show ((y.toNat + 1 : Nat) : Int) = y + 1 by omega] at hgo
            exact hgo
          · refine wg_iinc rfl rfl rfl (by omega) (by omega) rfl ?_
            refine wg_s rfl rfl ?_
            have ey : y = -1 := by omega
            refine K ν2 (some (_, some _)) ?_
            rw [it_nx, hny, if_pos ey]
            rw [ey, se_id hAi] at hE3
            rw [se_id hAi]
            exact hE3
        · exfalso; omega
    | some y1 =>
      refine wg_s rfl rfl ?_
      refine wg_s rfl rfl ?_
      refine wg_gm rfl rfl hM ?_
      refine wg_s rfl rfl ?_
      refine wg_s rfl rfl ?_
      refine wg_ias rfl hM rfl (by omega) (by omega) ?_
      have hE1 := SE_set hinj hE hin (x := -1) (by omega)
      rw [se_se] at hE1
      refine wg_s rfl rfl ?_
      refine wg_gm rfl rfl hM ?_
      refine wg_s rfl rfl ?_
      refine wg_s rfl rfl ?_
      refine wg_s rfl rfl ?_
      refine wg_s rfl rfl ?_
      refine wg_cf rfl rfl (sp_mnextFor _ _ LH n _ hE1.2.1 i f hin (show (f : Int) ≤ ag_I ν 10 0 6 by omega)) ?_
      rw [hnx]
      refine wg_ias rfl hM rfl (by omega) (by omega) ?_
      have hE2 := SE_set hinj hE1 hin (x := y) (by omega)
      rw [se_se] at hE2
      refine wg_iinc rfl rfl rfl (by omega) (by omega) rfl ?_
      refine wg_s rfl rfl ?_
      refine wg_s rfl rfl ?_
      refine wg_s rfl rfl ?_
      have dn := DN (i + 1) (se A i y) s1 _ (some ((LH i : Int), some (f : Int))) (by omega) hE2 (fun k h1 h2 => by unfold se; rw [if_neg (by omega)]; exact hAd k (by omega) h2)
      rw [show ((i + 1 : Nat) : Int) = (i : Int) + 1 by omega] at dn
      refine dn (fun ν2 e hE3 => ?_)
      obtain ⟨uK, uS, u42, u43, uF⟩ := id hE3
      obtain ⟨uW, un6, u38, uA, ulk⟩ := id uS
      obtain ⟨uM, u1, u6, u26, u0, u14⟩ := id uW
      have ui := uA i hin
      rw [show se A i y i = y from if_pos rfl] at ui
      rw [show (i : Int) + 1 - 1 = (i : Int) by omega]
      rcases e with _ | ⟨x2, _ | y2⟩
      · refine wg_s rfl rfl ?_
        refine wg_s rfl rfl ?_
        refine wg_s rfl rfl ?_
        refine wg_s rfl rfl ?_
        refine wg_gi rfl rfl (show _ = (n : Int) from u38) ?_
        refine wg_if rfl rfl (fun h146 => ?_) (fun h146 => ?_)
        · refine wg_s rfl rfl ?_
          refine wg_gm rfl rfl uM ?_
          refine wg_s rfl rfl ?_
          refine wg_iav rfl uM rfl (by omega) (by omega) (show _ = (LH i : Int) from ui.1) ?_
          refine wg_s rfl rfl ?_
          refine wg_s rfl rfl ?_
          refine wg_s rfl rfl ?_
          refine wg_s rfl rfl ?_
          refine wg_gm rfl rfl uM ?_
          refine wg_s rfl rfl ?_
          refine wg_iav rfl uM rfl (by omega) (by omega) (show _ = y from ui.2.2.1) ?_
          refine wg_if rfl rfl (fun h180 => ?_) (fun h180 => ?_)
          · refine wg_s rfl rfl ?_
            refine wg_s rfl rfl ?_
            refine wg_s rfl rfl ?_
            refine wg_gm rfl rfl uM ?_
            refine wg_s rfl rfl ?_
            refine wg_iav rfl uM rfl (by omega) (by omega) (show _ = y from ui.2.2.1) ?_
            refine wg_s rfl rfl ?_
            refine wg_iadd rfl (by omega) (by omega) ?_
            have hyy : y ≠ -1 := by omega
            have hgo := ih (y.toNat + 1) y _ ν2 none 0 (by omega) (by omega) (by omega) hE3 (fun ν3 e h3 => K ν3 e (by rw [it_nx, hny, if_neg hyy, tnc (show 0 ≤ y by omega), show f + ((ag_I μ 10 0 6).toNat - f) - 1 - y.toNat = (ag_I μ 10 0 6).toNat - (y.toNat + 1) by omega]; exact h3))
            rw [show ((y.toNat + 1 : Nat) : Int) = y + 1 by omega] at hgo
            exact hgo
          · refine wg_iinc rfl rfl rfl (by omega) (by omega) rfl ?_
            refine wg_s rfl rfl ?_
            have ey : y = -1 := by omega
            refine K ν2 (some (_, none)) ?_
            rw [it_nx, hny, if_pos ey]
            rw [ey, se_id hAi] at hE3
            rw [se_id hAi]
            exact hE3
        · exfalso; omega
      · refine wg_s rfl rfl ?_
        refine wg_s rfl rfl ?_
        refine wg_s rfl rfl ?_
        refine wg_s rfl rfl ?_
        refine wg_gi rfl rfl (show _ = (n : Int) from u38) ?_
        refine wg_if rfl rfl (fun h146 => ?_) (fun h146 => ?_)
        · refine wg_s rfl rfl ?_
          refine wg_gm rfl rfl uM ?_
          refine wg_s rfl rfl ?_
          refine wg_iav rfl uM rfl (by omega) (by omega) (show _ = (LH i : Int) from ui.1) ?_
          refine wg_s rfl rfl ?_
          refine wg_s rfl rfl ?_
          refine wg_s rfl rfl ?_
          refine wg_s rfl rfl ?_
          refine wg_gm rfl rfl uM ?_
          refine wg_s rfl rfl ?_
          refine wg_iav rfl uM rfl (by omega) (by omega) (show _ = y from ui.2.2.1) ?_
          refine wg_if rfl rfl (fun h180 => ?_) (fun h180 => ?_)
          · refine wg_s rfl rfl ?_
            refine wg_s rfl rfl ?_
            refine wg_s rfl rfl ?_
            refine wg_gm rfl rfl uM ?_
            refine wg_s rfl rfl ?_
            refine wg_iav rfl uM rfl (by omega) (by omega) (show _ = y from ui.2.2.1) ?_
            refine wg_s rfl rfl ?_
            refine wg_iadd rfl (by omega) (by omega) ?_
            have hyy : y ≠ -1 := by omega
            have hgo := ih (y.toNat + 1) y _ ν2 none 0 (by omega) (by omega) (by omega) hE3 (fun ν3 e h3 => K ν3 e (by rw [it_nx, hny, if_neg hyy, tnc (show 0 ≤ y by omega), show f + ((ag_I μ 10 0 6).toNat - f) - 1 - y.toNat = (ag_I μ 10 0 6).toNat - (y.toNat + 1) by omega]; exact h3))
            rw [show ((y.toNat + 1 : Nat) : Int) = y + 1 by omega] at hgo
            exact hgo
          · refine wg_iinc rfl rfl rfl (by omega) (by omega) rfl ?_
            refine wg_s rfl rfl ?_
            have ey : y = -1 := by omega
            refine K ν2 (some (_, none)) ?_
            rw [it_nx, hny, if_pos ey]
            rw [ey, se_id hAi] at hE3
            rw [se_id hAi]
            exact hE3
        · exfalso; omega
      · refine wg_s rfl rfl ?_
        refine wg_s rfl rfl ?_
        refine wg_s rfl rfl ?_
        refine wg_s rfl rfl ?_
        refine wg_gi rfl rfl (show _ = (n : Int) from u38) ?_
        refine wg_if rfl rfl (fun h146 => ?_) (fun h146 => ?_)
        · refine wg_s rfl rfl ?_
          refine wg_gm rfl rfl uM ?_
          refine wg_s rfl rfl ?_
          refine wg_iav rfl uM rfl (by omega) (by omega) (show _ = (LH i : Int) from ui.1) ?_
          refine wg_s rfl rfl ?_
          refine wg_s rfl rfl ?_
          refine wg_s rfl rfl ?_
          refine wg_s rfl rfl ?_
          refine wg_gm rfl rfl uM ?_
          refine wg_s rfl rfl ?_
          refine wg_iav rfl uM rfl (by omega) (by omega) (show _ = y from ui.2.2.1) ?_
          refine wg_if rfl rfl (fun h180 => ?_) (fun h180 => ?_)
          · refine wg_s rfl rfl ?_
            refine wg_s rfl rfl ?_
            refine wg_s rfl rfl ?_
            refine wg_gm rfl rfl uM ?_
            refine wg_s rfl rfl ?_
            refine wg_iav rfl uM rfl (by omega) (by omega) (show _ = y from ui.2.2.1) ?_
            refine wg_s rfl rfl ?_
            refine wg_iadd rfl (by omega) (by omega) ?_
            have hyy : y ≠ -1 := by omega
            have hgo := ih (y.toNat + 1) y _ ν2 (some y2) 0 (by omega) (by omega) (by omega) hE3 (fun ν3 e h3 => K ν3 e (by rw [it_nx, hny, if_neg hyy, tnc (show 0 ≤ y by omega), show f + ((ag_I μ 10 0 6).toNat - f) - 1 - y.toNat = (ag_I μ 10 0 6).toNat - (y.toNat + 1) by omega]; exact h3))
            rw [show ((y.toNat + 1 : Nat) : Int) = y + 1 by omega] at hgo
            exact hgo
          · refine wg_iinc rfl rfl rfl (by omega) (by omega) rfl ?_
            refine wg_s rfl rfl ?_
            have ey : y = -1 := by omega
            refine K ν2 (some (_, some _)) ?_
            rw [it_nx, hny, if_pos ey]
            rw [ey, se_id hAi] at hE3
            rw [se_id hAi]
            exact hE3
        · exfalso; omega
theorem lp_dn {d : Nat} {μ : ab_M} {LH : Nat → Nat} {n : Nat} {Q : Option ab_V → ab_M → Prop} (fr : Int) (hinj : ∀ i j, i < n → j < n → LH i = LH j → i = j) : ∀ (r i : Nat) (A : Nat → Int) (s : Int × Int × (Nat → Int)) (ν : ab_M) (e : Option (Int × Option Int)), i + r = n → SE μ ν LH n A s → (∀ k, i ≤ k → k < n → A k = -1) → (∀ ν2 e, SE μ ν2 LH n A (pf (ag_I μ 10 0 6).toNat (m_ok μ LH) (pr_h (fun A => pr_r (ag_I μ 10 0 6).toNat n (m_ok μ LH) (m_lk μ LH) (m_ld μ LH) A n) (fun A => pr_l (m_lk μ LH) (m_ld μ LH) A n)) r i A s) → Wg (d + 4) 125 ν2 137 ([(0, ab_r 10 (some 0)), (1, ab_i fr), (2, ab_i ((i : Int) - 1)), (3, ab_i 0)] ++ t_e e) [] Q) → Wg (d + 4) 125 ν 137 ([(0, ab_r 10 (some 0)), (1, ab_i fr), (2, ab_i (i : Int)), (3, ab_i 1)] ++ t_e e) [] Q := by
  intro r
  induction r with
  | zero =>
    intro i A s ν e hir hE hAd K
    obtain ⟨hK, hS, h42, h43, hF⟩ := id hE
    obtain ⟨hW, hn6, h38, hA, hlk⟩ := id hS
    obtain ⟨hM, h1, h6, h26, h0, h14⟩ := id hW
    have e6 : ag_I ν 10 0 6 = ag_I μ 10 0 6 := SK_i hK 10 0 6 (by unfold scr; omega)
    rcases e with _ | ⟨x2, _ | y2⟩
    · refine wg_s rfl rfl ?_
      refine wg_s rfl rfl ?_
      refine wg_s rfl rfl ?_
      refine wg_s rfl rfl ?_
      refine wg_gi rfl rfl (show _ = (n : Int) from h38) ?_
      refine wg_if rfl rfl (fun h146 => ?_) (fun h146 => ?_)
      · exfalso; omega
      · refine wg_s rfl rfl ?_
        refine wg_cv rfl rfl (sp_mholds _ _ _ _ _ hS) ?_
        refine wg_iinc rfl rfl rfl (by omega) (by omega) rfl ?_
        refine wg_s rfl rfl ?_
        refine wg_s rfl rfl ?_
        refine wg_s rfl rfl ?_
        exact K _ none (SE_hold hE)
    · refine wg_s rfl rfl ?_
      refine wg_s rfl rfl ?_
      refine wg_s rfl rfl ?_
      refine wg_s rfl rfl ?_
      refine wg_gi rfl rfl (show _ = (n : Int) from h38) ?_
      refine wg_if rfl rfl (fun h146 => ?_) (fun h146 => ?_)
      · exfalso; omega
      · refine wg_s rfl rfl ?_
        refine wg_cv rfl rfl (sp_mholds _ _ _ _ _ hS) ?_
        refine wg_iinc rfl rfl rfl (by omega) (by omega) rfl ?_
        refine wg_s rfl rfl ?_
        refine wg_s rfl rfl ?_
        refine wg_s rfl rfl ?_
        exact K _ (some (_, none)) (SE_hold hE)
    · refine wg_s rfl rfl ?_
      refine wg_s rfl rfl ?_
      refine wg_s rfl rfl ?_
      refine wg_s rfl rfl ?_
      refine wg_gi rfl rfl (show _ = (n : Int) from h38) ?_
      refine wg_if rfl rfl (fun h146 => ?_) (fun h146 => ?_)
      · exfalso; omega
      · refine wg_s rfl rfl ?_
        refine wg_cv rfl rfl (sp_mholds _ _ _ _ _ hS) ?_
        refine wg_iinc rfl rfl rfl (by omega) (by omega) rfl ?_
        refine wg_s rfl rfl ?_
        refine wg_s rfl rfl ?_
        refine wg_s rfl rfl ?_
        exact K _ (some (_, some _)) (SE_hold hE)
  | succ r ih =>
    intro i A s ν e hir hE hAd K
    obtain ⟨hK, hS, h42, h43, hF⟩ := id hE
    obtain ⟨hW, hn6, h38, hA, hlk⟩ := id hS
    obtain ⟨hM, h1, h6, h26, h0, h14⟩ := id hW
    have e6 : ag_I ν 10 0 6 = ag_I μ 10 0 6 := SK_i hK 10 0 6 (by unfold scr; omega)
    rcases e with _ | ⟨x2, _ | y2⟩
    · refine wg_s rfl rfl ?_
      refine wg_s rfl rfl ?_
      refine wg_s rfl rfl ?_
      refine wg_s rfl rfl ?_
      refine wg_gi rfl rfl (show _ = (n : Int) from h38) ?_
      refine wg_if rfl rfl (fun h146 => ?_) (fun h146 => ?_)
      · refine wg_s rfl rfl ?_
        refine wg_gm rfl rfl hM ?_
        refine wg_s rfl rfl ?_
        refine wg_iav rfl hM rfl (by omega) (by omega) (show _ = (LH i : Int) from (hA i (by omega)).1) ?_
        refine wg_s rfl rfl ?_
        refine wg_s rfl rfl ?_
        refine wg_s rfl rfl ?_
        refine wg_s rfl rfl ?_
        refine wg_s rfl rfl ?_
        refine wg_s rfl rfl ?_
        refine wg_s rfl rfl ?_
        refine lp_go fr hinj r i (by omega) (by omega) (fun i A s ν e h1 h2 h3 h4 => ih i A s ν e h1 h2 h3 h4) A (hAd i (Nat.le_refl i) (by omega)) hAd 9 0 (-1) s ν none 1 (by omega) (by omega) trivial (by rw [se_id (hAd i (Nat.le_refl i) (by omega))]; exact hE) (fun ν2 e h3 => K ν2 e ?_)
        exact h3
      · exfalso; omega
    · refine wg_s rfl rfl ?_
      refine wg_s rfl rfl ?_
      refine wg_s rfl rfl ?_
      refine wg_s rfl rfl ?_
      refine wg_gi rfl rfl (show _ = (n : Int) from h38) ?_
      refine wg_if rfl rfl (fun h146 => ?_) (fun h146 => ?_)
      · refine wg_s rfl rfl ?_
        refine wg_gm rfl rfl hM ?_
        refine wg_s rfl rfl ?_
        refine wg_iav rfl hM rfl (by omega) (by omega) (show _ = (LH i : Int) from (hA i (by omega)).1) ?_
        refine wg_s rfl rfl ?_
        refine wg_s rfl rfl ?_
        refine wg_s rfl rfl ?_
        refine wg_s rfl rfl ?_
        refine wg_s rfl rfl ?_
        refine wg_s rfl rfl ?_
        refine wg_s rfl rfl ?_
        refine lp_go fr hinj r i (by omega) (by omega) (fun i A s ν e h1 h2 h3 h4 => ih i A s ν e h1 h2 h3 h4) A (hAd i (Nat.le_refl i) (by omega)) hAd 9 0 (-1) s ν none 1 (by omega) (by omega) trivial (by rw [se_id (hAd i (Nat.le_refl i) (by omega))]; exact hE) (fun ν2 e h3 => K ν2 e ?_)
        exact h3
      · exfalso; omega
    · refine wg_s rfl rfl ?_
      refine wg_s rfl rfl ?_
      refine wg_s rfl rfl ?_
      refine wg_s rfl rfl ?_
      refine wg_gi rfl rfl (show _ = (n : Int) from h38) ?_
      refine wg_if rfl rfl (fun h146 => ?_) (fun h146 => ?_)
      · refine wg_s rfl rfl ?_
        refine wg_gm rfl rfl hM ?_
        refine wg_s rfl rfl ?_
        refine wg_iav rfl hM rfl (by omega) (by omega) (show _ = (LH i : Int) from (hA i (by omega)).1) ?_
        refine wg_s rfl rfl ?_
        refine wg_s rfl rfl ?_
        refine wg_s rfl rfl ?_
        refine wg_s rfl rfl ?_
        refine wg_s rfl rfl ?_
        refine wg_s rfl rfl ?_
        refine wg_s rfl rfl ?_
        refine lp_go fr hinj r i (by omega) (by omega) (fun i A s ν e h1 h2 h3 h4 => ih i A s ν e h1 h2 h3 h4) A (hAd i (Nat.le_refl i) (by omega)) hAd 9 0 (-1) s ν (some y2) 1 (by omega) (by omega) trivial (by rw [se_id (hAd i (Nat.le_refl i) (by omega))]; exact hE) (fun ν2 e h3 => K ν2 e ?_)
        exact h3
      · exfalso; omega
