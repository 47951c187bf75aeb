/-! ===== the class: judged, about, lasting ===== -/
theorem nb_s (p : Nat → Bool) (n : Nat) : nb p (n + 1) = nb p n + if p n = true then 1 else 0 := rfl
theorem nb_flip {p q : Nat → Bool} {i : Nat} : ∀ {n : Nat}, i < n → p i = false → q i = true → (∀ j, j < n → j ≠ i → p j = q j) → nb q n = nb p n + 1
  | 0, h, _, _, _ => by omega
  | n + 1, h, h1, h2, h3 => by
    rw [nb_s, nb_s]
    by_cases e : i = n
    · subst e
      rw [nb_cong (fun j hj => (h3 j (by omega) (by omega)).symm), h1, h2]
      simp
    · rw [nb_flip (n := n) (by omega) h1 h2 (fun j hj hn => h3 j (by omega) hn), h3 n (by omega) (by omega)]
      omega
theorem nb_ith (f g : Nat → Bool) : ∀ n : Nat, nb (fun i => g (ith f n i)) (cn f n) = nb (fun j => f j && g j) n
  | 0 => rfl
  | n + 1 => by
    rw [nb_s, ← nb_ith f g n]
    by_cases h : f n = true
    · have e : cn f (n + 1) = cn f n + 1 := by show cn f n + _ = _; rw [if_pos h]
      rw [e, nb_s]
      have e2 : ith f (n + 1) (cn f n) = n := if_pos ⟨h, rfl⟩
      have e3 : nb (fun i => g (ith f (n + 1) i)) (cn f n) = nb (fun i => g (ith f n i)) (cn f n) := by
        refine nb_cong (fun j hj => ?_)
        have : ith f (n + 1) j = ith f n j := if_neg (by omega)
        rw [this]
      rw [e3, e2, h]
      simp
    · have e : cn f (n + 1) = cn f n := by show cn f n + _ = _; rw [if_neg h]; rfl
      rw [e]
      have e3 : nb (fun i => g (ith f (n + 1) i)) (cn f n) = nb (fun i => g (ith f n i)) (cn f n) := by
        refine nb_cong (fun j hj => ?_)
        have : ith f (n + 1) j = ith f n j := if_neg (by omega)
        rw [this]
      have h0 : f n = false := by cases q : f n <;> simp_all
      rw [e3, h0]
      simp
/-- homes and helpers of lives are made; of those that go on no two share one -/
def WU (ν : ab_M) : Prop := (∀ j : Nat, (j : Int) < ag_I ν 10 0 26 → ag_I ν 11 32 j < ag_I ν 10 0 1 ∧ ag_I ν 11 33 j < ag_I ν 10 0 6) ∧ (∀ i j : Nat, i < j → (j : Int) < ag_I ν 10 0 26 → ag_I ν 11 40 i < 0 → ag_I ν 11 40 j < 0 → ag_I ν 11 32 i ≠ ag_I ν 11 32 j ∧ ag_I ν 11 33 i ≠ ag_I ν 11 33 j) ∧ (∀ h : Nat, (h : Int) < ag_I ν 10 0 1 → 0 ≤ ag_I ν 11 20 h ∧ ag_I ν 11 20 h ≤ 3)
theorem m_lf_o {ν : ab_M} {h : Int} : ∀ {n : Nat}, 0 ≤ m_lf ν h n → ag_I ν 11 32 (m_lf ν h n).toNat = h ∧ ag_I ν 11 40 (m_lf ν h n).toNat < 0
  | 0, q => by simp [m_lf] at q
  | n + 1, q => by
    unfold m_lf at q ⊢
    by_cases e : ag_I ν 11 32 n = h ∧ ag_I ν 11 40 n < 0
    · rw [if_pos e]; exact e
    · rw [if_neg e] at q ⊢; exact m_lf_o q
theorem m_pf_o {ν : ab_M} {h : Int} : ∀ {n : Nat}, 0 ≤ m_pf ν h n → ag_I ν 11 33 (m_pf ν h n).toNat = h ∧ ag_I ν 11 40 (m_pf ν h n).toNat < 0
  | 0, q => by simp [m_pf] at q
  | n + 1, q => by
    unfold m_pf at q ⊢
    by_cases e : ag_I ν 11 33 n = h ∧ ag_I ν 11 40 n < 0
    · rw [if_pos e]; exact e
    · rw [if_neg e] at q ⊢; exact m_pf_o q
theorem cnt_h {ν : ab_M} (hZ : WR ν) (hL : WL ν) (hU : WU ν) : ∀ n : Nat, (n : Int) ≤ ag_I ν 10 0 26 → nb (fun h => decide (0 ≤ m_lf ν h n)) (ag_I ν 10 0 1).toNat = m_al ν n
  | 0, _ => by
    have : ∀ m, nb (fun h => decide (0 ≤ m_lf ν (h : Nat) 0)) m = 0 := by
      intro m
      induction m with
      | zero => rfl
      | succ m ih => rw [nb_s, ih]; simp [m_lf]
    exact this _
  | n + 1, hn => by
    have ih := cnt_h hZ hL hU n (by omega)
    have hLn := hL n (by omega)
    have hUn := hU.1 n (by omega)
    show _ = m_al ν n + _
    rw [← ih]
    by_cases o : ag_I ν 11 40 n < 0
    · rw [if_pos o]
      refine nb_flip (i := (ag_I ν 11 32 n).toNat) (by omega) ?_ ?_ ?_
      · refine decide_eq_false (fun q => ?_)
        have h1 := m_lf_o q
        have h2 := m_lf_rng ν (((ag_I ν 11 32 n).toNat : Nat) : Int) n
        have h3 := (hU.2.1 _ n (show (m_lf ν (((ag_I ν 11 32 n).toNat : Nat) : Int) n).toNat < n by omega) (by omega) h1.2 o).1
        omega
      · refine decide_eq_true ?_
        unfold m_lf
        rw [if_pos ⟨by omega, o⟩]; omega
      · intro j hj hne
        have : m_lf ν (j : Int) (n + 1) = m_lf ν (j : Int) n := if_neg (by omega)
        rw [this]
    · rw [if_neg o, Int.add_zero]
      refine nb_cong (fun j hj => ?_)
      have : m_lf ν (j : Int) (n + 1) = m_lf ν (j : Int) n := if_neg (by omega)
      rw [this]
theorem cnt_p {ν : ab_M} (hZ : WR ν) (hL : WL ν) (hU : WU ν) : ∀ n : Nat, (n : Int) ≤ ag_I ν 10 0 26 → nb (fun p => decide (0 ≤ m_pf ν p n ∧ ag_I ν 11 27 p < ag_I ν 10 0 0)) (ag_I ν 10 0 6).toNat = m_ao ν n
  | 0, _ => by
    have : ∀ m, nb (fun p => decide (0 ≤ m_pf ν (p : Nat) 0 ∧ ag_I ν 11 27 p < ag_I ν 10 0 0)) m = 0 := by
      intro m
      induction m with
      | zero => rfl
      | succ m ih => rw [nb_s, ih]; simp [m_pf]
    exact this _
  | n + 1, hn => by
    have ih := cnt_p hZ hL hU n (by omega)
    have hLn := hL n (by omega)
    have hUn := hU.1 n (by omega)
    show _ = m_ao ν n + _
    rw [← ih]
    by_cases o : ag_I ν 11 40 n < 0 ∧ ag_I ν 11 27 (ag_I ν 11 33 n).toNat < ag_I ν 10 0 0
    · rw [if_pos o]
      refine nb_flip (i := (ag_I ν 11 33 n).toNat) (by omega) ?_ ?_ ?_
      · refine decide_eq_false (fun q => ?_)
        have h1 := m_pf_o q.1
        have h2 := m_pf_rng ν (((ag_I ν 11 33 n).toNat : Nat) : Int) n
        have h3 := (hU.2.1 _ n (show (m_pf ν (((ag_I ν 11 33 n).toNat : Nat) : Int) n).toNat < n by omega) (by omega) h1.2 o.1).2
        omega
      · refine decide_eq_true ⟨?_, o.2⟩
        unfold m_pf
        rw [if_pos ⟨by omega, o.1⟩]; omega
      · intro j hj hne
        have : m_pf ν (j : Int) (n + 1) = m_pf ν (j : Int) n := if_neg (by omega)
        rw [this]
    · rw [if_neg o, Int.add_zero]
      refine nb_cong (fun j hj => ?_)
      by_cases e : ag_I ν 11 33 n = (j : Int) ∧ ag_I ν 11 40 n < 0
      · have e1 : (ag_I ν 11 33 n).toNat = j := by omega
        rw [e1] at o
        rw [decide_eq_false (fun q => o ⟨e.2, q.2⟩), decide_eq_false (fun q => o ⟨e.2, q.2⟩)]
      · have : m_pf ν (j : Int) (n + 1) = m_pf ν (j : Int) n := if_neg e
        rw [this]
