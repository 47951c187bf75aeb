/-! ===== the class: judged, about, lasting ===== -/
theorem nb_s (p : Nat → Bool) (n : Nat) : nb p (n + 1) = nb p n + if p n = true then 1 else 0 := rfl
theorem nb_flip {p q : Nat → Bool} {i : Nat} : ∀ {n : Nat}, i < n → p i = false → q i = true → (∀ j, j < n → j ≠ i → p j = q j) → nb q n = nb p n + 1
  | 0, h, _, _, _ => by omega
  | n + 1, h, h1, h2, h3 => by
    rw [nb_s, nb_s]
    by_cases e : i = n
    · subst e
      rw [nb_cong (fun j hj => (h3 j (by omega) (by omega)).symm), h1, h2]
      simp
    · rw [nb_flip (n := n) (by omega) h1 h2 (fun j hj hn => h3 j (by omega) hn), h3 n (by omega) (by omega)]
      omega
theorem nb_ith (f g : Nat → Bool) : ∀ n : Nat, nb (fun i => g (ith f n i)) (cn f n) = nb (fun j => f j && g j) n
  | 0 => rfl
  | n + 1 => by
    rw [nb_s, ← nb_ith f g n]
    by_cases h : f n = true
    · have e : cn f (n + 1) = cn f n + 1 := by show cn f n + _ = _; rw [if_pos h]
      rw [e, nb_s]
      have e2 : ith f (n + 1) (cn f n) = n := if_pos ⟨h, rfl⟩
      have e3 : nb (fun i => g (ith f (n + 1) i)) (cn f n) = nb (fun i => g (ith f n i)) (cn f n) := by
        refine nb_cong (fun j hj => ?_)
        have : ith f (n + 1) j = ith f n j := if_neg (by omega)
        rw [this]
      rw [e3, e2, h]
      simp
    · have e : cn f (n + 1) = cn f n := by show cn f n + _ = _; rw [if_neg h]; rfl
      rw [e]
      have e3 : nb (fun i => g (ith f (n + 1) i)) (cn f n) = nb (fun i => g (ith f n i)) (cn f n) := by
        refine nb_cong (fun j hj => ?_)
        have : ith f (n + 1) j = ith f n j := if_neg (by omega)
        rw [this]
      have h0 : f n = false := by cases q : f n <;> simp_all
      rw [e3, h0]
      simp
/-- homes and helpers of lives are made; of those that go on no two share one -/
def WU (ν : ab_M) : Prop := (∀ j : Nat, (j : Int) < ag_I ν 10 0 26 → ag_I ν 11 32 j < ag_I ν 10 0 1 ∧ ag_I ν 11 33 j < ag_I ν 10 0 6) ∧ (∀ i j : Nat, i < j → (j : Int) < ag_I ν 10 0 26 → ag_I ν 11 40 i < 0 → ag_I ν 11 40 j < 0 → ag_I ν 11 32 i ≠ ag_I ν 11 32 j ∧ ag_I ν 11 33 i ≠ ag_I ν 11 33 j) ∧ (∀ h : Nat, (h : Int) < ag_I ν 10 0 1 → 0 ≤ ag_I ν 11 20 h ∧ ag_I ν 11 20 h ≤ 3)
theorem m_lf_o {ν : ab_M} {h : Int} : ∀ {n : Nat}, 0 ≤ m_lf ν h n → ag_I ν 11 32 (m_lf ν h n).toNat = h ∧ ag_I ν 11 40 (m_lf ν h n).toNat < 0
  | 0, q => by simp [m_lf] at q
  | n + 1, q => by
    unfold m_lf at q ⊢
    by_cases e : ag_I ν 11 32 n = h ∧ ag_I ν 11 40 n < 0
    · rw [if_pos e]; exact e
    · rw [if_neg e] at q ⊢; exact m_lf_o q
theorem m_pf_o {ν : ab_M} {h : Int} : ∀ {n : Nat}, 0 ≤ m_pf ν h n → ag_I ν 11 33 (m_pf ν h n).toNat = h ∧ ag_I ν 11 40 (m_pf ν h n).toNat < 0
  | 0, q => by simp [m_pf] at q
  | n + 1, q => by
    unfold m_pf at q ⊢
    by_cases e : ag_I ν 11 33 n = h ∧ ag_I ν 11 40 n < 0
    · rw [if_pos e]; exact e
    · rw [if_neg e] at q ⊢; exact m_pf_o q
theorem cnt_h {ν : ab_M} (hZ : WR ν) (hL : WL ν) (hU : WU ν) : ∀ n : Nat, (n : Int) ≤ ag_I ν 10 0 26 → nb (fun h => decide (0 ≤ m_lf ν h n)) (ag_I ν 10 0 1).toNat = m_al ν n
  | 0, _ => by
    have : ∀ m, nb (fun h => decide (0 ≤ m_lf ν (h : Nat) 0)) m = 0 := by
      intro m
      induction m with
      | zero => rfl
      | succ m ih => rw [nb_s, ih]; simp [m_lf]
    exact this _
  | n + 1, hn => by
    have ih := cnt_h hZ hL hU n (by omega)
    have hLn := hL n (by omega)
    have hUn := hU.1 n (by omega)
    show _ = m_al ν n + _
    rw [← ih]
    by_cases o : ag_I ν 11 40 n < 0
    · rw [if_pos o]
      refine nb_flip (i := (ag_I ν 11 32 n).toNat) (by omega) ?_ ?_ ?_
      · refine decide_eq_false (fun q => ?_)
        have h1 := m_lf_o q
        have h2 := m_lf_rng ν (((ag_I ν 11 32 n).toNat : Nat) : Int) n
        have h3 := (hU.2.1 _ n (show (m_lf ν (((ag_I ν 11 32 n).toNat : Nat) : Int) n).toNat < n by omega) (by omega) h1.2 o).1
        omega
      · refine decide_eq_true ?_
        unfold m_lf
        rw [if_pos ⟨by omega, o⟩]; omega
      · intro j hj hne
        have : m_lf ν (j : Int) (n + 1) = m_lf ν (j : Int) n := if_neg (by omega)
        rw [this]
    · rw [if_neg o, Int.add_zero]
      refine nb_cong (fun j hj => ?_)
      have : m_lf ν (j : Int) (n + 1) = m_lf ν (j : Int) n := if_neg (by omega)
      rw [this]
theorem cnt_p {ν : ab_M} (hZ : WR ν) (hL : WL ν) (hU : WU ν) : ∀ n : Nat, (n : Int) ≤ ag_I ν 10 0 26 → nb (fun p => decide (0 ≤ m_pf ν p n ∧ ag_I ν 11 27 p < ag_I ν 10 0 0)) (ag_I ν 10 0 6).toNat = m_ao ν n
  | 0, _ => by
    have : ∀ m, nb (fun p => decide (0 ≤ m_pf ν (p : Nat) 0 ∧ ag_I ν 11 27 p < ag_I ν 10 0 0)) m = 0 := by
      intro m
      induction m with
      | zero => rfl
      | succ m ih => rw [nb_s, ih]; simp [m_pf]
    exact this _
  | n + 1, hn => by
    have ih := cnt_p hZ hL hU n (by omega)
    have hLn := hL n (by omega)
    have hUn := hU.1 n (by omega)
    show _ = m_ao ν n + _
    rw [← ih]
    by_cases o : ag_I ν 11 40 n < 0 ∧ ag_I ν 11 27 (ag_I ν 11 33 n).toNat < ag_I ν 10 0 0
    · rw [if_pos o]
      refine nb_flip (i := (ag_I ν 11 33 n).toNat) (by omega) ?_ ?_ ?_
      · refine decide_eq_false (fun q => ?_)
        have h1 := m_pf_o q.1
        have h2 := m_pf_rng ν (((ag_I ν 11 33 n).toNat : Nat) : Int) n
        have h3 := (hU.2.1 _ n (show (m_pf ν (((ag_I ν 11 33 n).toNat : Nat) : Int) n).toNat < n by omega) (by omega) h1.2 o.1).2
        omega
      · refine decide_eq_true ⟨?_, o.2⟩
        unfold m_pf
        rw [if_pos ⟨by omega, o.1⟩]; omega
      · intro j hj hne
        have : m_pf ν (j : Int) (n + 1) = m_pf ν (j : Int) n := if_neg (by omega)
        rw [this]
    · rw [if_neg o, Int.add_zero]
      refine nb_cong (fun j hj => ?_)
      by_cases e : ag_I ν 11 33 n = (j : Int) ∧ ag_I ν 11 40 n < 0
      · have e1 : (ag_I ν 11 33 n).toNat = j := by omega
        rw [e1] at o
        rw [decide_eq_false (fun q => o ⟨e.2, q.2⟩), decide_eq_false (fun q => o ⟨e.2, q.2⟩)]
      · have : m_pf ν (j : Int) (n + 1) = m_pf ν (j : Int) n := if_neg e
        rw [this]
theorem lp_xjudged {d : Nat} {ν μ : ab_M} {hl hw pl tm : Nat → Nat} {ow : Nat → Nat × Nat} {tc : Nat} (hI : IX ν μ hl hw pl tm ow tc) (hZ : WR ν) (hWL : WL ν) (n : Nat) (x : Int) (hh : (n : Int) < ag_I ν 10 0 1) (ho : 0 ≤ m_l ν n) : ∀ (N k : Nat) (f : Int), ag_I ν 10 0 0 + 1 - ag_I ν 11 34 (m_l ν n).toNat - k < N → (k : Int) ≤ ag_I ν 10 0 0 + 1 - ag_I ν 11 34 (m_l ν n).toNat → f = m_jn ν n (m_l ν n).toNat x (ag_I ν 11 34 (m_l ν n).toNat) k → Wg (d + 2) 86 μ 39 [(0, ab_r 9 (some 0)), (1, ab_i (n : Int)), (2, ab_i x), (3, ab_r 4 (some n)), (4, ab_i f), (5, ab_i (ag_I ν 11 34 (m_l ν n).toNat + (k : Int)))] [] (fun vv μ' => vv = some (ab_i (m_jn ν n (m_l ν n).toNat x (ag_I ν 11 34 (m_l ν n).toNat) (ag_I ν 10 0 0 + 1 - ag_I ν 11 34 (m_l ν n).toNat).toNat)) ∧ μ' = μ) := by
  intro N
  induction N with
  | zero => intro k f hn hk; omega
  | succ N ih =>
    intro k f hn hk2 hf
    obtain ⟨hX, hC, hH, hP, hL, hK, hT, hR, hS⟩ := id hI
    obtain ⟨z1, z6, z26, z0, z14⟩ := id hZ
    obtain ⟨c7, c8, c9, cC4, cC3, cC6, cC11⟩ := id hC
    obtain ⟨e15, ⟨e40, e41, e42, e43⟩, ⟨e44, e45, e46⟩, ⟨hL8, hL501⟩, hrng, how, hlk, hwk⟩ := hH n hh
    have ho2 : 0 ≤ m_lf ν n (ag_I ν 10 0 26).toNat := ho
    have hm := m_lf_rng ν n (ag_I ν 10 0 26).toNat
    have hj : (((m_l ν n).toNat : Nat) : Int) < ag_I ν 10 0 26 := by show ((m_lf ν n (ag_I ν 10 0 26).toNat).toNat : Int) < _; omega
    have hw8 := hWL _ hj
    have hr := m_jn_rng ν n (m_l ν n).toNat x (ag_I ν 11 34 (m_l ν n).toNat) k
    by_cases hk3 : (k : Int) < ag_I ν 10 0 0 + 1 - ag_I ν 11 34 (m_l ν n).toNat
    · have ew : ag_I μ 11 (hw n) (ag_I ν 11 34 (m_l ν n).toNat + (k : Int)).toNat = m_ju ν n (ag_I ν 11 34 (m_l ν n).toNat + (k : Int)) (m_l ν n).toNat := by
        rw [hwk ho _ (by omega), tnc (show 0 ≤ ag_I ν 11 34 (m_l ν n).toNat + (k : Int) by omega)]
      refine wg_s rfl rfl ?_
      refine wg_s rfl rfl ?_
      refine wg_gi rfl rfl (show _ = ag_I ν 10 0 0 from c9) ?_
      refine wg_if rfl rfl (fun h45 => ?_) (fun h45 => ?_)
      · refine wg_s rfl rfl ?_
        exfalso; omega
      · refine wg_s rfl rfl ?_
        refine wg_cf rfl rfl (sp_isWeek _ _ _) ?_
        refine wg_eqb rfl (fun h53 => ?_) (fun h53 => ?_)
        · refine wg_iinc rfl rfl rfl (by omega) (by omega) rfl ?_
          refine wg_s rfl rfl ?_
          exfalso; omega
        · refine wg_s rfl rfl ?_
          refine wg_gn rfl rfl (show _ = some (hw n) from e45) ?_
          refine wg_s rfl rfl ?_
          refine wg_ax rfl hL501 (by omega) (by omega) ew ?_
          refine wg_s rfl rfl ?_
          refine wg_if rfl rfl (fun h64 => ?_) (fun h64 => ?_)
          · refine wg_iinc rfl rfl rfl (by omega) (by omega) rfl ?_
            refine wg_s rfl rfl ?_
            have := ih (k + 1) f (by omega) (by omega) (by show _ = _ + _; rw [if_neg h64, hf, Int.add_zero])
            rw [show ag_I ν 11 34 (m_l ν n).toNat + ((k + 1 : Nat) : Int) = ag_I ν 11 34 (m_l ν n).toNat + (k : Int) + 1 by omega] at this
            exact this
          · refine wg_iinc rfl rfl rfl (by omega) (by omega) rfl ?_
            refine wg_iinc rfl rfl rfl (by omega) (by omega) rfl ?_
            refine wg_s rfl rfl ?_
            have := ih (k + 1) (f + 1) (by omega) (by omega) (by show _ = _ + _; rw [if_pos (by omega), hf])
            rw [show ag_I ν 11 34 (m_l ν n).toNat + ((k + 1 : Nat) : Int) = ag_I ν 11 34 (m_l ν n).toNat + (k : Int) + 1 by omega] at this
            exact this
    · have ew : True := trivial
      refine wg_s rfl rfl ?_
      refine wg_s rfl rfl ?_
      refine wg_gi rfl rfl (show _ = ag_I ν 10 0 0 from c9) ?_
      refine wg_if rfl rfl (fun h45 => ?_) (fun h45 => ?_)
      · refine wg_s rfl rfl ?_
        have e : k = (ag_I ν 10 0 0 + 1 - ag_I ν 11 34 (m_l ν n).toNat).toNat := by omega
        subst e
        exact wg_ret rfl rfl trivial ⟨by rw [hf], rfl⟩
      · exfalso; omega
theorem sp_xjudged (d : Nat) (h x : Int) {ν μ : ab_M} {hl hw pl tm : Nat → Nat} {ow : Nat → Nat × Nat} {tc : Nat} (hI : IX ν μ hl hw pl tm ow tc) (hZ : WR ν) (hWL : WL ν) : Wp (d + 4) 86 [ab_r 9 (some 0), ab_i h, ab_i x] μ (fun vv μ' => vv = some (ab_i (if (0 ≤ h ∧ h < ag_I ν 10 0 1) ∧ 0 ≤ m_l ν h ∧ (0 ≤ x ∧ x ≤ 2) then m_jn ν h (m_l ν h).toNat x (ag_I ν 11 34 (m_l ν h).toNat) (ag_I ν 10 0 0 + 1 - ag_I ν 11 34 (m_l ν h).toNat).toNat else -1)) ∧ μ' = μ) := by
  refine wp_of ?_
  obtain ⟨hX, hC, hH, hP, hL, hK, hT, hR, hS⟩ := id hI
  obtain ⟨z1, z6, z26, z0, z14⟩ := id hZ
  obtain ⟨c7, c8, c9, cC4, cC3, cC6, cC11⟩ := id hC
  by_cases hh : (0 ≤ h ∧ h < ag_I ν 10 0 1)
  · obtain ⟨n, rfl⟩ : ∃ n : Nat, h = n := ⟨h.toNat, by omega⟩
    obtain ⟨e15, ⟨e40, e41, e42, e43⟩, ⟨e44, e45, e46⟩, ⟨hL8, hL501⟩, hrng, how, hlk, hwk⟩ := hH n (by omega)
    by_cases ho : 0 ≤ m_l ν n
    · have ho2 : 0 ≤ m_lf ν n (ag_I ν 10 0 26).toNat := ho
      have hm := m_lf_rng ν n (ag_I ν 10 0 26).toNat
      have hj : (((m_l ν n).toNat : Nat) : Int) < ag_I ν 10 0 26 := by show ((m_lf ν n (ag_I ν 10 0 26).toNat).toNat : Int) < _; omega
      obtain ⟨⟨j0, j1, j3, j4⟩, ⟨j2, jt⟩, jr, j17⟩ := hL _ hj
      have hw8 := hWL _ hj
      refine wg_s rfl rfl ?_
      refine wg_s rfl rfl ?_
      refine wg_cf rfl rfl (sp_homeAt_t _ _ hI hZ hh) ?_
      refine wg_s rfl rfl ?_
      refine wg_s rfl rfl ?_
      refine wg_s rfl rfl ?_
      refine wg_s rfl rfl ?_
      refine wg_gn rfl rfl (show _ = some (m_l ν n).toNat from e46.trans (opS ho)) ?_
      refine wg_s rfl rfl ?_
      refine wg_s rfl rfl ?_
      refine wg_s rfl rfl ?_
      refine wg_cf rfl rfl (sp_within _ _ _ _) ?_
      refine wg_neb rfl (fun h22 => ?_) (fun h22 => ?_)
      · refine wg_s rfl rfl ?_
        refine wg_s rfl rfl ?_
        refine wg_s rfl rfl ?_
        refine wg_gn rfl rfl (show _ = some (m_l ν n).toNat from e46.trans (opS ho)) ?_
        refine wg_gi rfl rfl (show _ = ag_I ν 11 34 (m_l ν n).toNat from j1) ?_
        refine wg_s rfl rfl ?_
        rw [if_pos ⟨hh, ho, by omega⟩]
        have := lp_xjudged (d := d + 1) hI hZ hWL n x (by omega) ho 502 0 0 (by omega) (by omega) rfl
        rw [show ag_I ν 11 34 (m_l ν n).toNat + ((0 : Nat) : Int) = ag_I ν 11 34 (m_l ν n).toNat by omega] at this
        exact this
      · refine wg_s rfl rfl ?_
        refine wg_ret rfl rfl trivial ⟨?_, rfl⟩
        rw [if_neg (fun q => by omega)]
    · refine wg_s rfl rfl ?_
      refine wg_s rfl rfl ?_
      refine wg_cf rfl rfl (sp_homeAt_t _ _ hI hZ hh) ?_
      refine wg_s rfl rfl ?_
      refine wg_s rfl rfl ?_
      refine wg_s rfl rfl ?_
      refine wg_s rfl rfl ?_
      refine wg_gn rfl rfl (show _ = none from e46.trans (opN (by omega))) ?_
      refine wg_s rfl rfl ?_
      refine wg_s rfl rfl ?_
      refine wg_ret rfl rfl trivial ⟨?_, rfl⟩
      rw [if_neg (fun q => ho q.2.1)]
  · refine wg_s rfl rfl ?_
    refine wg_s rfl rfl ?_
    refine wg_cf rfl rfl (sp_homeAt_f _ _ hI hZ hh) ?_
    refine wg_s rfl rfl ?_
    refine wg_s rfl rfl ?_
    refine wg_s rfl rfl ?_
    refine wg_s rfl rfl ?_
    refine wg_ret rfl rfl trivial ⟨?_, rfl⟩
    rw [if_neg (fun q => hh q.1)]
def t_3r (e : Bool) (t x : Nat) : ab_L := bif e then [(3, ab_r t (some x))] else []
theorem lp_living {d : Nat} {ν μ : ab_M} {hl hw pl tm : Nat → Nat} {ow : Nat → Nat × Nat} {tc : Nat} (hI : IX ν μ hl hw pl tm ow tc) (hZ : WR ν) : ∀ (N n : Nat) (f : Int) (e : Bool) {x : Nat}, ag_I ν 10 0 1 - n < N → (n : Int) ≤ ag_I ν 10 0 1 → f = nb (fun h => decide (0 ≤ m_lf ν (h : Nat) (ag_I ν 10 0 26).toNat)) n → Wg (d + 1) 104 μ 4 ([(0, ab_r 9 (some 0)), (1, ab_i f), (2, ab_i (n : Int))] ++ t_3r e 4 x) [] (fun vv μ' => vv = some (ab_i (nb (fun h => decide (0 ≤ m_lf ν (h : Nat) (ag_I ν 10 0 26).toNat)) (ag_I ν 10 0 1).toNat)) ∧ μ' = μ) := by
  intro N
  induction N with
  | zero => intro n f e x hn hk; omega
  | succ N ih =>
    intro n f e x hn hk2 hf
    obtain ⟨hX, hC, hH, hP, hL, hK, hT, hR, hS⟩ := id hI
    obtain ⟨z1, z6, z26, z0, z14⟩ := id hZ
    obtain ⟨c7, c8, c9, cC4, cC3, cC6, cC11⟩ := id hC
    have hr := nb_rng (fun h => decide (0 ≤ m_lf ν (h : Nat) (ag_I ν 10 0 26).toNat)) n
    cases e with
    | false =>
      by_cases hlt : (n : Int) < ag_I ν 10 0 1
      · obtain ⟨e15, ⟨e40, e41, e42, e43⟩, ⟨e44, e45, e46⟩, ⟨hL8, hL501⟩, hrng, how, hlk, hwk⟩ := hH n (by omega)
        by_cases ho : 0 ≤ m_l ν n
        · refine wg_s rfl rfl ?_
          refine wg_s rfl rfl ?_
          refine wg_gi rfl rfl (show _ = ag_I ν 10 0 1 from c7) ?_
          refine wg_if rfl rfl (fun h9 => ?_) (fun h9 => ?_)
          · refine wg_s rfl rfl ?_
            exfalso; omega
          · refine wg_s rfl rfl ?_
            refine wg_s rfl rfl ?_
            refine wg_cf rfl rfl (sp_homeAt_t _ _ hI hZ ⟨by omega, by omega⟩) ?_
            refine wg_s rfl rfl ?_
            refine wg_s rfl rfl ?_
            refine wg_s rfl rfl ?_
            refine wg_s rfl rfl ?_
            refine wg_gn rfl rfl (show _ = some (m_l ν n).toNat from e46.trans (opS ho)) ?_
            refine wg_s rfl rfl ?_
            refine wg_iinc rfl rfl rfl (by omega) (by omega) rfl ?_
            refine wg_iinc rfl rfl rfl (by omega) (by omega) rfl ?_
            refine wg_s rfl rfl ?_
            exact ih (n + 1) _ true (x := n) (by omega) (by omega) (by rw [nb_s, if_pos (decide_eq_true ho), hf])
        · refine wg_s rfl rfl ?_
          refine wg_s rfl rfl ?_
          refine wg_gi rfl rfl (show _ = ag_I ν 10 0 1 from c7) ?_
          refine wg_if rfl rfl (fun h9 => ?_) (fun h9 => ?_)
          · refine wg_s rfl rfl ?_
            exfalso; omega
          · refine wg_s rfl rfl ?_
            refine wg_s rfl rfl ?_
            refine wg_cf rfl rfl (sp_homeAt_t _ _ hI hZ ⟨by omega, by omega⟩) ?_
            refine wg_s rfl rfl ?_
            refine wg_s rfl rfl ?_
            refine wg_s rfl rfl ?_
            refine wg_s rfl rfl ?_
            refine wg_gn rfl rfl (show _ = none from e46.trans (opN (by omega))) ?_
            refine wg_s rfl rfl ?_
            refine wg_iinc rfl rfl rfl (by omega) (by omega) rfl ?_
            refine wg_s rfl rfl ?_
            exact ih (n + 1) _ true (x := n) (by omega) (by omega) (by rw [nb_s, if_neg (fun q => ho (of_decide_eq_true q)), hf, Int.add_zero])
      · refine wg_s rfl rfl ?_
        refine wg_s rfl rfl ?_
        refine wg_gi rfl rfl (show _ = ag_I ν 10 0 1 from c7) ?_
        refine wg_if rfl rfl (fun h9 => ?_) (fun h9 => ?_)
        · refine wg_s rfl rfl ?_
          have e1 : n = (ag_I ν 10 0 1).toNat := by omega
          subst e1
          exact wg_ret rfl rfl trivial ⟨by rw [hf], rfl⟩
        · exfalso; omega
    | true =>
      by_cases hlt : (n : Int) < ag_I ν 10 0 1
      · obtain ⟨e15, ⟨e40, e41, e42, e43⟩, ⟨e44, e45, e46⟩, ⟨hL8, hL501⟩, hrng, how, hlk, hwk⟩ := hH n (by omega)
        by_cases ho : 0 ≤ m_l ν n
        · refine wg_s rfl rfl ?_
          refine wg_s rfl rfl ?_
          refine wg_gi rfl rfl (show _ = ag_I ν 10 0 1 from c7) ?_
          refine wg_if rfl rfl (fun h9 => ?_) (fun h9 => ?_)
          · refine wg_s rfl rfl ?_
            exfalso; omega
          · refine wg_s rfl rfl ?_
            refine wg_s rfl rfl ?_
            refine wg_cf rfl rfl (sp_homeAt_t _ _ hI hZ ⟨by omega, by omega⟩) ?_
            refine wg_s rfl rfl ?_
            refine wg_s rfl rfl ?_
            refine wg_s rfl rfl ?_
            refine wg_s rfl rfl ?_
            refine wg_gn rfl rfl (show _ = some (m_l ν n).toNat from e46.trans (opS ho)) ?_
            refine wg_s rfl rfl ?_
            refine wg_iinc rfl rfl rfl (by omega) (by omega) rfl ?_
            refine wg_iinc rfl rfl rfl (by omega) (by omega) rfl ?_
            refine wg_s rfl rfl ?_
            exact ih (n + 1) _ true (x := n) (by omega) (by omega) (by rw [nb_s, if_pos (decide_eq_true ho), hf])
        · refine wg_s rfl rfl ?_
          refine wg_s rfl rfl ?_
          refine wg_gi rfl rfl (show _ = ag_I ν 10 0 1 from c7) ?_
          refine wg_if rfl rfl (fun h9 => ?_) (fun h9 => ?_)
          · refine wg_s rfl rfl ?_
            exfalso; omega
          · refine wg_s rfl rfl ?_
            refine wg_s rfl rfl ?_
            refine wg_cf rfl rfl (sp_homeAt_t _ _ hI hZ ⟨by omega, by omega⟩) ?_
            refine wg_s rfl rfl ?_
            refine wg_s rfl rfl ?_
            refine wg_s rfl rfl ?_
            refine wg_s rfl rfl ?_
            refine wg_gn rfl rfl (show _ = none from e46.trans (opN (by omega))) ?_
            refine wg_s rfl rfl ?_
            refine wg_iinc rfl rfl rfl (by omega) (by omega) rfl ?_
            refine wg_s rfl rfl ?_
            exact ih (n + 1) _ true (x := n) (by omega) (by omega) (by rw [nb_s, if_neg (fun q => ho (of_decide_eq_true q)), hf, Int.add_zero])
      · refine wg_s rfl rfl ?_
        refine wg_s rfl rfl ?_
        refine wg_gi rfl rfl (show _ = ag_I ν 10 0 1 from c7) ?_
        refine wg_if rfl rfl (fun h9 => ?_) (fun h9 => ?_)
        · refine wg_s rfl rfl ?_
          have e1 : n = (ag_I ν 10 0 1).toNat := by omega
          subst e1
          exact wg_ret rfl rfl trivial ⟨by rw [hf], rfl⟩
        · exfalso; omega
theorem sp_living (d : Nat) {ν μ : ab_M} {hl hw pl tm : Nat → Nat} {ow : Nat → Nat × Nat} {tc : Nat} (hI : IX ν μ hl hw pl tm ow tc) (hZ : WR ν) : Wp (d + 2) 104 [ab_r 9 (some 0)] μ (fun vv μ' => vv = some (ab_i (nb (fun h => decide (0 ≤ m_lf ν (h : Nat) (ag_I ν 10 0 26).toNat)) (ag_I ν 10 0 1).toNat)) ∧ μ' = μ) := by
  refine wp_of ?_
  obtain ⟨hX, hC, hH, hP, hL, hK, hT, hR, hS⟩ := id hI
  obtain ⟨z1, z6, z26, z0, z14⟩ := id hZ
  obtain ⟨c7, c8, c9, cC4, cC3, cC6, cC11⟩ := id hC
  refine wg_s rfl rfl ?_
  refine wg_s rfl rfl ?_
  refine wg_s rfl rfl ?_
  refine wg_s rfl rfl ?_
  exact lp_living hI hZ 9 0 0 false (x := 0) (by omega) (by omega) rfl
theorem lp_lapsed {d : Nat} {ν μ : ab_M} {hl hw pl tm : Nat → Nat} {ow : Nat → Nat × Nat} {tc : Nat} (hI : IX ν μ hl hw pl tm ow tc) (hZ : WR ν) : ∀ (N n : Nat) (f : Int) (e : Bool) {x : Nat}, ag_I ν 10 0 6 - n < N → (n : Int) ≤ ag_I ν 10 0 6 → f = nb (fun p => decide (0 ≤ m_pf ν (p : Nat) (ag_I ν 10 0 26).toNat ∧ ag_I ν 11 27 p < ag_I ν 10 0 0)) n → Wg (d + 1) 105 μ 4 ([(0, ab_r 9 (some 0)), (1, ab_i f), (2, ab_i (n : Int))] ++ t_3r e 3 x) [] (fun vv μ' => vv = some (ab_i (nb (fun p => decide (0 ≤ m_pf ν (p : Nat) (ag_I ν 10 0 26).toNat ∧ ag_I ν 11 27 p < ag_I ν 10 0 0)) (ag_I ν 10 0 6).toNat)) ∧ μ' = μ) := by
  intro N
  induction N with
  | zero => intro n f e x hn hk; omega
  | succ N ih =>
    intro n f e x hn hk2 hf
    obtain ⟨hX, hC, hH, hP, hL, hK, hT, hR, hS⟩ := id hI
    obtain ⟨z1, z6, z26, z0, z14⟩ := id hZ
    obtain ⟨c7, c8, c9, cC4, cC3, cC6, cC11⟩ := id hC
    have hr := nb_rng (fun p => decide (0 ≤ m_pf ν (p : Nat) (ag_I ν 10 0 26).toNat ∧ ag_I ν 11 27 p < ag_I ν 10 0 0)) n
    cases e with
    | false =>
      by_cases hlt : (n : Int) < ag_I ν 10 0 6
      · obtain ⟨p14, ⟨p30, p31, p32, p34⟩, ⟨p33, p35⟩, pL8, prng, pow, plk⟩ := hP n (by omega)
        by_cases ho : 0 ≤ m_pf ν n (ag_I ν 10 0 26).toNat
        · refine wg_s rfl rfl ?_
          refine wg_s rfl rfl ?_
          refine wg_gi rfl rfl (show _ = ag_I ν 10 0 6 from c8) ?_
          refine wg_if rfl rfl (fun h9 => ?_) (fun h9 => ?_)
          · refine wg_s rfl rfl ?_
            exfalso; omega
          · refine wg_s rfl rfl ?_
            refine wg_s rfl rfl ?_
            refine wg_cf rfl rfl (sp_helperAt_t _ _ hI hZ ⟨by omega, by omega⟩) ?_
            refine wg_s rfl rfl ?_
            refine wg_s rfl rfl ?_
            refine wg_s rfl rfl ?_
            refine wg_s rfl rfl ?_
            refine wg_gn rfl rfl (show _ = some (m_pf ν n (ag_I ν 10 0 26).toNat).toNat from p35.trans (opS ho)) ?_
            refine wg_s rfl rfl ?_
            refine wg_s rfl rfl ?_
            refine wg_s rfl rfl ?_
            refine wg_cf rfl rfl (sp_xholds _ n hI hZ (by omega)) ?_
            refine wg_neb rfl (fun h34 => ?_) (fun h34 => ?_)
            · refine wg_iinc rfl rfl rfl (by omega) (by omega) rfl ?_
              refine wg_s rfl rfl ?_
              exact ih (n + 1) _ true (x := n) (by omega) (by omega) (by rw [nb_s]; first | (rw [if_pos (decide_eq_true ⟨ho, by omega⟩), hf]) | (rw [if_neg (fun q => by have := (of_decide_eq_true q).2; omega), hf, Int.add_zero]))
            · refine wg_iinc rfl rfl rfl (by omega) (by omega) rfl ?_
              refine wg_iinc rfl rfl rfl (by omega) (by omega) rfl ?_
              refine wg_s rfl rfl ?_
              exact ih (n + 1) _ true (x := n) (by omega) (by omega) (by rw [nb_s]; first | (rw [if_pos (decide_eq_true ⟨ho, by omega⟩), hf]) | (rw [if_neg (fun q => by have := (of_decide_eq_true q).2; omega), hf, Int.add_zero]))
        · refine wg_s rfl rfl ?_
          refine wg_s rfl rfl ?_
          refine wg_gi rfl rfl (show _ = ag_I ν 10 0 6 from c8) ?_
          refine wg_if rfl rfl (fun h9 => ?_) (fun h9 => ?_)
          · refine wg_s rfl rfl ?_
            exfalso; omega
          · refine wg_s rfl rfl ?_
            refine wg_s rfl rfl ?_
            refine wg_cf rfl rfl (sp_helperAt_t _ _ hI hZ ⟨by omega, by omega⟩) ?_
            refine wg_s rfl rfl ?_
            refine wg_s rfl rfl ?_
            refine wg_s rfl rfl ?_
            refine wg_s rfl rfl ?_
            refine wg_gn rfl rfl (show _ = none from p35.trans (opN (by omega))) ?_
            refine wg_s rfl rfl ?_
            refine wg_iinc rfl rfl rfl (by omega) (by omega) rfl ?_
            refine wg_s rfl rfl ?_
            exact ih (n + 1) _ true (x := n) (by omega) (by omega) (by rw [nb_s, if_neg (fun q => ho (of_decide_eq_true q).1), hf, Int.add_zero])
      · refine wg_s rfl rfl ?_
        refine wg_s rfl rfl ?_
        refine wg_gi rfl rfl (show _ = ag_I ν 10 0 6 from c8) ?_
        refine wg_if rfl rfl (fun h9 => ?_) (fun h9 => ?_)
        · refine wg_s rfl rfl ?_
          have e1 : n = (ag_I ν 10 0 6).toNat := by omega
          subst e1
          exact wg_ret rfl rfl trivial ⟨by rw [hf], rfl⟩
        · exfalso; omega
    | true =>
      by_cases hlt : (n : Int) < ag_I ν 10 0 6
      · obtain ⟨p14, ⟨p30, p31, p32, p34⟩, ⟨p33, p35⟩, pL8, prng, pow, plk⟩ := hP n (by omega)
        by_cases ho : 0 ≤ m_pf ν n (ag_I ν 10 0 26).toNat
        · refine wg_s rfl rfl ?_
          refine wg_s rfl rfl ?_
          refine wg_gi rfl rfl (show _ = ag_I ν 10 0 6 from c8) ?_
          refine wg_if rfl rfl (fun h9 => ?_) (fun h9 => ?_)
          · refine wg_s rfl rfl ?_
            exfalso; omega
          · refine wg_s rfl rfl ?_
            refine wg_s rfl rfl ?_
            refine wg_cf rfl rfl (sp_helperAt_t _ _ hI hZ ⟨by omega, by omega⟩) ?_
            refine wg_s rfl rfl ?_
            refine wg_s rfl rfl ?_
            refine wg_s rfl rfl ?_
            refine wg_s rfl rfl ?_
            refine wg_gn rfl rfl (show _ = some (m_pf ν n (ag_I ν 10 0 26).toNat).toNat from p35.trans (opS ho)) ?_
            refine wg_s rfl rfl ?_
            refine wg_s rfl rfl ?_
            refine wg_s rfl rfl ?_
            refine wg_cf rfl rfl (sp_xholds _ n hI hZ (by omega)) ?_
            refine wg_neb rfl (fun h34 => ?_) (fun h34 => ?_)
            · refine wg_iinc rfl rfl rfl (by omega) (by omega) rfl ?_
              refine wg_s rfl rfl ?_
              exact ih (n + 1) _ true (x := n) (by omega) (by omega) (by rw [nb_s]; first | (rw [if_pos (decide_eq_true ⟨ho, by omega⟩), hf]) | (rw [if_neg (fun q => by have := (of_decide_eq_true q).2; omega), hf, Int.add_zero]))
            · refine wg_iinc rfl rfl rfl (by omega) (by omega) rfl ?_
              refine wg_iinc rfl rfl rfl (by omega) (by omega) rfl ?_
              refine wg_s rfl rfl ?_
              exact ih (n + 1) _ true (x := n) (by omega) (by omega) (by rw [nb_s]; first | (rw [if_pos (decide_eq_true ⟨ho, by omega⟩), hf]) | (rw [if_neg (fun q => by have := (of_decide_eq_true q).2; omega), hf, Int.add_zero]))
        · refine wg_s rfl rfl ?_
          refine wg_s rfl rfl ?_
          refine wg_gi rfl rfl (show _ = ag_I ν 10 0 6 from c8) ?_
          refine wg_if rfl rfl (fun h9 => ?_) (fun h9 => ?_)
          · refine wg_s rfl rfl ?_
            exfalso; omega
          · refine wg_s rfl rfl ?_
            refine wg_s rfl rfl ?_
            refine wg_cf rfl rfl (sp_helperAt_t _ _ hI hZ ⟨by omega, by omega⟩) ?_
            refine wg_s rfl rfl ?_
            refine wg_s rfl rfl ?_
            refine wg_s rfl rfl ?_
            refine wg_s rfl rfl ?_
            refine wg_gn rfl rfl (show _ = none from p35.trans (opN (by omega))) ?_
            refine wg_s rfl rfl ?_
            refine wg_iinc rfl rfl rfl (by omega) (by omega) rfl ?_
            refine wg_s rfl rfl ?_
            exact ih (n + 1) _ true (x := n) (by omega) (by omega) (by rw [nb_s, if_neg (fun q => ho (of_decide_eq_true q).1), hf, Int.add_zero])
      · refine wg_s rfl rfl ?_
        refine wg_s rfl rfl ?_
        refine wg_gi rfl rfl (show _ = ag_I ν 10 0 6 from c8) ?_
        refine wg_if rfl rfl (fun h9 => ?_) (fun h9 => ?_)
        · refine wg_s rfl rfl ?_
          have e1 : n = (ag_I ν 10 0 6).toNat := by omega
          subst e1
          exact wg_ret rfl rfl trivial ⟨by rw [hf], rfl⟩
        · exfalso; omega
theorem sp_lapsed (d : Nat) {ν μ : ab_M} {hl hw pl tm : Nat → Nat} {ow : Nat → Nat × Nat} {tc : Nat} (hI : IX ν μ hl hw pl tm ow tc) (hZ : WR ν) : Wp (d + 2) 105 [ab_r 9 (some 0)] μ (fun vv μ' => vv = some (ab_i (nb (fun p => decide (0 ≤ m_pf ν (p : Nat) (ag_I ν 10 0 26).toNat ∧ ag_I ν 11 27 p < ag_I ν 10 0 0)) (ag_I ν 10 0 6).toNat)) ∧ μ' = μ) := by
  refine wp_of ?_
  obtain ⟨hX, hC, hH, hP, hL, hK, hT, hR, hS⟩ := id hI
  obtain ⟨z1, z6, z26, z0, z14⟩ := id hZ
  obtain ⟨c7, c8, c9, cC4, cC3, cC6, cC11⟩ := id hC
  refine wg_s rfl rfl ?_
  refine wg_s rfl rfl ?_
  refine wg_s rfl rfl ?_
  refine wg_s rfl rfl ?_
  exact lp_lapsed hI hZ 9 0 0 false (x := 0) (by omega) (by omega) rfl
theorem sp_xabout (d : Nat) (x : Int) {ν μ : ab_M} {hl hw pl tm : Nat → Nat} {ow : Nat → Nat × Nat} {tc : Nat} (hI : IX ν μ hl hw pl tm ow tc) (hZ : WR ν) (hWL : WL ν) (hU : WU ν) : Wp (d + 3) 92 [ab_r 9 (some 0), ab_i x] μ (fun vv μ' => vv = some (ab_i (m_ab ν x)) ∧ μ' = μ) := by
  refine wp_of ?_
  obtain ⟨hX, hC, hH, hP, hL, hK, hT, hR, hS⟩ := id hI
  obtain ⟨z1, z6, z26, z0, z14⟩ := id hZ
  obtain ⟨c7, c8, c9, cC4, cC3, cC6, cC11⟩ := id hC
  have k1 := cnt_h hZ hWL hU (ag_I ν 10 0 26).toNat (by omega)
  have k2 := cnt_p hZ hWL hU (ag_I ν 10 0 26).toNat (by omega)
  refine wg_s rfl rfl ?_
  refine wg_s rfl rfl ?_
  by_cases hs0 : x = 0
  · subst hs0
    refine wg_at (pc2 := 72) (by decide) ?_
    refine wg_s rfl rfl ?_
    refine wg_gi rfl rfl (show _ = ag_I ν 10 0 0 from c9) ?_
    refine wg_ret rfl rfl trivial ⟨?_, rfl⟩
    first | rfl | (congr 2; unfold m_ab; repeat (first | rw [if_pos (by omega)] | rw [if_neg (by omega)]))
  by_cases hs1 : x = 1
  · subst hs1
    refine wg_at (pc2 := 77) (by decide) ?_
    refine wg_s rfl rfl ?_
    refine wg_gi rfl rfl (show _ = ag_I ν 10 0 1 from c7) ?_
    refine wg_ret rfl rfl trivial ⟨?_, rfl⟩
    first | rfl | (congr 2; unfold m_ab; repeat (first | rw [if_pos (by omega)] | rw [if_neg (by omega)]))
  by_cases hs2 : x = 2
  · subst hs2
    refine wg_at (pc2 := 82) (by decide) ?_
    refine wg_s rfl rfl ?_
    refine wg_gi rfl rfl (show _ = ag_I ν 10 0 6 from c8) ?_
    refine wg_ret rfl rfl trivial ⟨?_, rfl⟩
    first | rfl | (congr 2; unfold m_ab; repeat (first | rw [if_pos (by omega)] | rw [if_neg (by omega)]))
  by_cases hs3 : x = 3
  · subst hs3
    refine wg_at (pc2 := 87) (by decide) ?_
    refine wg_s rfl rfl ?_
    refine wg_cf rfl rfl (sp_living _ hI hZ) ?_
    rw [k1]
    refine wg_ret rfl rfl trivial ⟨?_, rfl⟩
    first | rfl | (congr 2; unfold m_ab; repeat (first | rw [if_pos (by omega)] | rw [if_neg (by omega)]))
  by_cases hs4 : x = 4
  · subst hs4
    refine wg_at (pc2 := 92) (by decide) ?_
    refine wg_s rfl rfl ?_
    refine wg_cf rfl rfl (sp_lapsed _ hI hZ) ?_
    rw [k2]
    refine wg_ret rfl rfl trivial ⟨?_, rfl⟩
    first | rfl | (congr 2; unfold m_ab; repeat (first | rw [if_pos (by omega)] | rw [if_neg (by omega)]))
  by_cases hs5 : x = 5
  · subst hs5
    refine wg_at (pc2 := 97) (by decide) ?_
    refine wg_s rfl rfl ?_
    refine wg_gx rfl rfl hX ?_
    refine wg_cf rfl rfl (sp_length _ hI hZ) ?_
    refine wg_ret rfl rfl trivial ⟨?_, rfl⟩
    first | rfl | (congr 2; unfold m_ab; repeat (first | rw [if_pos (by omega)] | rw [if_neg (by omega)]))
  by_cases hs6 : x = 6
  · subst hs6
    refine wg_at (pc2 := 137) (by decide) ?_
    refine wg_s rfl rfl ?_
    refine wg_ret rfl rfl trivial ⟨?_, rfl⟩
    first | rfl | (congr 2; unfold m_ab; repeat (first | rw [if_pos (by omega)] | rw [if_neg (by omega)]))
  by_cases hs7 : x = 7
  · subst hs7
    refine wg_at (pc2 := 137) (by decide) ?_
    refine wg_s rfl rfl ?_
    refine wg_ret rfl rfl trivial ⟨?_, rfl⟩
    first | rfl | (congr 2; unfold m_ab; repeat (first | rw [if_pos (by omega)] | rw [if_neg (by omega)]))
  by_cases hs8 : x = 8
  · subst hs8
    refine wg_at (pc2 := 137) (by decide) ?_
    refine wg_s rfl rfl ?_
    refine wg_ret rfl rfl trivial ⟨?_, rfl⟩
    first | rfl | (congr 2; unfold m_ab; repeat (first | rw [if_pos (by omega)] | rw [if_neg (by omega)]))
  by_cases hs9 : x = 9
  · subst hs9
    refine wg_at (pc2 := 137) (by decide) ?_
    refine wg_s rfl rfl ?_
    refine wg_ret rfl rfl trivial ⟨?_, rfl⟩
    first | rfl | (congr 2; unfold m_ab; repeat (first | rw [if_pos (by omega)] | rw [if_neg (by omega)]))
  by_cases hs10 : x = 10
  · subst hs10
    refine wg_at (pc2 := 105) (by decide) ?_
    refine wg_s rfl rfl ?_
    refine wg_gr rfl rfl (hR.2.1.1) ?_
    refine wg_gi rfl rfl (show _ = ag_I ν 11 31 0 from hR.2.2 0 (by omega)) ?_
    refine wg_ret rfl rfl trivial ⟨?_, rfl⟩
    first | rfl | (congr 2; unfold m_ab; repeat (first | rw [if_pos (by omega)] | rw [if_neg (by omega)]))
  by_cases hs11 : x = 11
  · subst hs11
    refine wg_at (pc2 := 113) (by decide) ?_
    refine wg_s rfl rfl ?_
    refine wg_gr rfl rfl (hR.2.1.1) ?_
    refine wg_gi rfl rfl (show _ = ag_I ν 11 31 1 from hR.2.2 1 (by omega)) ?_
    refine wg_ret rfl rfl trivial ⟨?_, rfl⟩
    first | rfl | (congr 2; unfold m_ab; repeat (first | rw [if_pos (by omega)] | rw [if_neg (by omega)]))
  by_cases hs12 : x = 12
  · subst hs12
    refine wg_at (pc2 := 121) (by decide) ?_
    refine wg_s rfl rfl ?_
    refine wg_gr rfl rfl (hR.2.1.1) ?_
    refine wg_gi rfl rfl (show _ = ag_I ν 11 31 2 from hR.2.2 2 (by omega)) ?_
    refine wg_ret rfl rfl trivial ⟨?_, rfl⟩
    first | rfl | (congr 2; unfold m_ab; repeat (first | rw [if_pos (by omega)] | rw [if_neg (by omega)]))
  by_cases hs13 : x = 13
  · subst hs13
    refine wg_at (pc2 := 129) (by decide) ?_
    refine wg_s rfl rfl ?_
    refine wg_gr rfl rfl (hR.2.1.1) ?_
    refine wg_gi rfl rfl (show _ = ag_I ν 11 31 3 from hR.2.2 3 (by omega)) ?_
    refine wg_ret rfl rfl trivial ⟨?_, rfl⟩
    first | rfl | (congr 2; unfold m_ab; repeat (first | rw [if_pos (by omega)] | rw [if_neg (by omega)]))
  refine wg_at (pc2 := 137) (show ab_sw _ _ _ _ _ _ = 137 from if_pos (by omega)) ?_
  refine wg_s rfl rfl ?_
  refine wg_ret rfl rfl trivial ⟨?_, rfl⟩
  first | rfl | (congr 2; unfold m_ab; repeat (first | rw [if_pos (by omega)] | rw [if_neg (by omega)]))
