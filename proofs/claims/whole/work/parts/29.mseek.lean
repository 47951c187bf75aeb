/-! ===== the reference: its search ===== -/
/-- no earlier home has the helper -/
def un (A : Nat → Int) (p : Nat) : Nat → Bool
  | 0 => true
  | k + 1 => un A p k && decide (A k ≠ (p : Int))
/-- the next helper for a home, among c from p on -/
def nx (f : Nat → Bool) : Nat → Nat → Int
  | 0, _ => -1
  | c + 1, p => if f p = true then (p : Int) else nx f c (p + 1)
theorem nx_rng (f : Nat → Bool) : ∀ (c p : Nat), nx f c p = -1 ∨ ((p : Int) ≤ nx f c p ∧ nx f c p < p + c ∧ f (nx f c p).toNat = true)
  | 0, _ => Or.inl rfl
  | c + 1, p => by
    unfold nx
    by_cases h : f p = true
    · rw [if_pos h]; right; exact ⟨by omega, by omega, h⟩
    · rw [if_neg h]
      rcases nx_rng f c (p + 1) with h1 | ⟨h1, h2, h3⟩
      · exact Or.inl h1
      · right; exact ⟨by omega, by omega, h3⟩
theorem un_s (A : Nat → Int) (p k : Nat) : un A p (k + 1) = (un A p k && decide (A k ≠ (p : Int))) := rfl
theorem lp_may {d : Nat} {μ : ab_M} {LH : Nat → Nat} {n : Nat} {A : Nat → Int} (hS : SB μ LH n A) {Q : Option ab_V → ab_M → Prop} (i p : Nat) (fr : Int) (hin : i < n) (b : Bool) (hQ : Wg d 124 μ 82 [(0, ab_r 10 (some 0)), (1, ab_i (i : Int)), (2, ab_i fr), (3, ab_i (p : Int)), (4, ab_i (bI ((b && un A p i) = true))), (5, ab_i (i : Int))] [] Q) : ∀ (N k : Nat) (f : Int), i - k < N → k ≤ i → f = bI ((b && un A p k) = true) → Wg d 124 μ 42 [(0, ab_r 10 (some 0)), (1, ab_i (i : Int)), (2, ab_i fr), (3, ab_i (p : Int)), (4, ab_i f), (5, ab_i (k : Int))] [] Q := by
  intro N
  induction N with
  | zero => intro k f hn; omega
  | succ N ih =>
    intro k f hn hk2 hf
    obtain ⟨hW, hn6, h38, hA, hlk⟩ := id hS
    obtain ⟨hM, h1, h6, h26, h0, h14⟩ := id hW
    refine wg_s rfl rfl ?_
    refine wg_s rfl rfl ?_
    refine wg_if rfl rfl (fun h45 => ?_) (fun h45 => ?_)
    · have e1 : k = i := by omega
      subst e1
      rw [hf]
      exact hQ
    · refine wg_s rfl rfl ?_
      refine wg_if rfl rfl (fun h50 => ?_) (fun h50 => ?_)
      · refine wg_s rfl rfl ?_
        refine wg_s rfl rfl ?_
        refine wg_iinc rfl rfl rfl (by omega) (by omega) rfl ?_
        refine wg_s rfl rfl ?_
        exact ih (k + 1) _ (by omega) (by omega) (by rw [un_s]; refine (bI_f (fun q => ?_)).symm; rw [hf] at h50; exact bI_0.mp h50 (by simp only [Bool.and_eq_true] at q ⊢; exact ⟨q.1, q.2.1⟩))
      · refine wg_s rfl rfl ?_
        refine wg_gm rfl rfl hM ?_
        refine wg_s rfl rfl ?_
        refine wg_gm rfl rfl hM ?_
        refine wg_s rfl rfl ?_
        have hk3 := hA k (by omega)
        refine wg_iav rfl hM rfl (by omega) (by omega) (show _ = (LH k : Int) from hk3.1) ?_
        refine wg_iav rfl hM rfl (by omega) (by omega) (show _ = A k from hk3.2.2.1) ?_
        refine wg_s rfl rfl ?_
        refine wg_if rfl rfl (fun h66 => ?_) (fun h66 => ?_)
        · refine wg_s rfl rfl ?_
          refine wg_s rfl rfl ?_
          refine wg_iinc rfl rfl rfl (by omega) (by omega) rfl ?_
          refine wg_s rfl rfl ?_
          exact ih (k + 1) _ (by omega) (by omega) (by rw [un_s]; refine (bI_f (fun q => ?_)).symm; simp only [Bool.and_eq_true, decide_eq_true_eq] at q; exact q.2.2 h66)
        · refine wg_s rfl rfl ?_
          refine wg_s rfl rfl ?_
          refine wg_s rfl rfl ?_
          refine wg_iinc rfl rfl rfl (by omega) (by omega) rfl ?_
          refine wg_s rfl rfl ?_
          exact ih (k + 1) _ (by omega) (by omega) (by rw [un_s]; refine (bI_t ?_).symm; rw [hf] at h50; have h9 := Decidable.not_not.mp (fun q => h50 (bI_0.mpr q)); simp only [Bool.and_eq_true, decide_eq_true_eq] at h9 ⊢; exact ⟨h9.1, h9.2, h66⟩)
def t_45 (e : Bool) (x y : Int) : ab_L := bif e then [(4, ab_i x), (5, ab_i y)] else []
theorem lp_nf {d : Nat} {μ : ab_M} {LH : Nat → Nat} {n : Nat} {A : Nat → Int} (hS : SB μ LH n A) (i : Nat) (fr : Int) (hin : i < n) : ∀ (N p : Nat) (e : Bool) {x y : Int}, ag_I μ 10 0 6 - p < N → (p : Int) ≤ ag_I μ 10 0 6 → Wg (d + 1) 124 μ 2 ([(0, ab_r 10 (some 0)), (1, ab_i (i : Int)), (2, ab_i fr), (3, ab_i (p : Int))] ++ t_45 e x y) [] (fun v μ' => v = some (ab_i (nx (fun p => m_ok μ LH i p && un A p i) (ag_I μ 10 0 6 - p).toNat p)) ∧ μ' = μ) := by
  intro N
  induction N with
  | zero => intro p e x y hn; omega
  | succ N ih =>
    intro p e x y hn hp2
    obtain ⟨hW, hn6, h38, hA, hlk⟩ := id hS
    obtain ⟨hM, h1, h6, h26, h0, h14⟩ := id hW
    have hi3 := hA i hin
    obtain ⟨c, hcc⟩ : ∃ c, c = (ag_I μ 10 0 6 - (p : Int)).toNat - 1 := ⟨_, rfl⟩
    cases e with
    | false =>
      refine wg_s rfl rfl ?_
      refine wg_s rfl rfl ?_
      refine wg_gi rfl rfl (show _ = ag_I μ 10 0 6 from rfl) ?_
      refine wg_if rfl rfl (fun h7 => ?_) (fun h7 => ?_)
      · refine wg_s rfl rfl ?_
        refine wg_ret rfl rfl trivial ⟨?_, rfl⟩
        rw [show (ag_I μ 10 0 6 - (p : Int)).toNat = 0 by omega]; rfl
      · have hc : (ag_I μ 10 0 6 - (p : Int)).toNat = c + 1 := by omega
        refine wg_s rfl rfl ?_
        refine wg_s rfl rfl ?_
        refine wg_cf rfl rfl (sp_isFree _ _ _ hW) ?_
        refine wg_eqb rfl (fun h15 => ?_) (fun h15 => ?_)
        · refine wg_s rfl rfl ?_
          refine wg_s rfl rfl ?_
          refine wg_s rfl rfl ?_
          refine wg_s rfl rfl ?_
          refine lp_may (d := d + 1) hS i p fr hin (m_ok μ LH i p) ?_ (i + 1) 0 _ (by omega) (by omega) (by refine (bI_f (fun q => ?_)).symm; simp only [Bool.and_eq_true] at q; exact h15 (m_ok_t.mp q.1).1)
          generalize hg : (m_ok μ LH i p && un A p i) = g
          refine wg_s rfl rfl ?_
          refine wg_eqb rfl (fun h84 => ?_) (fun h84 => ?_)
          · refine wg_iinc rfl rfl rfl (by omega) (by omega) rfl ?_
            refine wg_s rfl rfl ?_
            have := ih (p + 1) true (x := bI (g = true)) (y := (i : Int)) (by omega) (by omega)
            rw [show (ag_I μ 10 0 6 - ((p + 1 : Nat) : Int)).toNat = c by omega] at this
            rw [hc]; unfold nx; rw [if_neg (show ¬ ((m_ok μ LH i p && un A p i) = true) by rw [hg]; exact h84)]
            exact this
          · refine wg_s rfl rfl ?_
            refine wg_ret rfl rfl trivial ⟨?_, rfl⟩
            rw [hc]; unfold nx; rw [if_pos (show (m_ok μ LH i p && un A p i) = true by rw [hg]; exact h84)]
        · refine wg_s rfl rfl ?_
          refine wg_s rfl rfl ?_
          refine wg_gm rfl rfl hM ?_
          refine wg_s rfl rfl ?_
          refine wg_iav rfl hM rfl (by omega) (by omega) (show _ = (LH i : Int) from hi3.1) ?_
          refine wg_s rfl rfl ?_
          refine wg_cf rfl rfl (show Wp _ 118 _ _ (fun w μ' => w = some (ab_i (m_why μ (LH i) p)) ∧ μ' = μ) from sp_mwhyNot _ _ _ _ hM ⟨by omega, by omega⟩ ⟨by omega, by omega⟩) ?_
          refine wg_if rfl rfl (fun h29 => ?_) (fun h29 => ?_)
          · refine wg_s rfl rfl ?_
            refine wg_s rfl rfl ?_
            refine wg_s rfl rfl ?_
            refine wg_s rfl rfl ?_
            refine lp_may (d := d + 1) hS i p fr hin (m_ok μ LH i p) ?_ (i + 1) 0 _ (by omega) (by omega) (by refine (bI_f (fun q => ?_)).symm; simp only [Bool.and_eq_true] at q; exact h29 (m_ok_t.mp q.1).2)
            generalize hg : (m_ok μ LH i p && un A p i) = g
            refine wg_s rfl rfl ?_
            refine wg_eqb rfl (fun h84 => ?_) (fun h84 => ?_)
            · refine wg_iinc rfl rfl rfl (by omega) (by omega) rfl ?_
              refine wg_s rfl rfl ?_
              have := ih (p + 1) true (x := bI (g = true)) (y := (i : Int)) (by omega) (by omega)
              rw [show (ag_I μ 10 0 6 - ((p + 1 : Nat) : Int)).toNat = c by omega] at this
              rw [hc]; unfold nx; rw [if_neg (show ¬ ((m_ok μ LH i p && un A p i) = true) by rw [hg]; exact h84)]
              exact this
            · refine wg_s rfl rfl ?_
              refine wg_ret rfl rfl trivial ⟨?_, rfl⟩
              rw [hc]; unfold nx; rw [if_pos (show (m_ok μ LH i p && un A p i) = true by rw [hg]; exact h84)]
          · refine wg_s rfl rfl ?_
            refine wg_s rfl rfl ?_
            refine wg_s rfl rfl ?_
            refine wg_s rfl rfl ?_
            refine wg_s rfl rfl ?_
            refine lp_may (d := d + 1) hS i p fr hin (m_ok μ LH i p) ?_ (i + 1) 0 _ (by omega) (by omega) (by refine (bI_t ?_).symm; rw [Bool.and_eq_true]; exact ⟨m_ok_t.mpr ⟨h15, Decidable.not_not.mp h29⟩, rfl⟩)
            generalize hg : (m_ok μ LH i p && un A p i) = g
            refine wg_s rfl rfl ?_
            refine wg_eqb rfl (fun h84 => ?_) (fun h84 => ?_)
            · refine wg_iinc rfl rfl rfl (by omega) (by omega) rfl ?_
              refine wg_s rfl rfl ?_
              have := ih (p + 1) true (x := bI (g = true)) (y := (i : Int)) (by omega) (by omega)
              rw [show (ag_I μ 10 0 6 - ((p + 1 : Nat) : Int)).toNat = c by omega] at this
              rw [hc]; unfold nx; rw [if_neg (show ¬ ((m_ok μ LH i p && un A p i) = true) by rw [hg]; exact h84)]
              exact this
            · refine wg_s rfl rfl ?_
              refine wg_ret rfl rfl trivial ⟨?_, rfl⟩
              rw [hc]; unfold nx; rw [if_pos (show (m_ok μ LH i p && un A p i) = true by rw [hg]; exact h84)]
    | true =>
      refine wg_s rfl rfl ?_
      refine wg_s rfl rfl ?_
      refine wg_gi rfl rfl (show _ = ag_I μ 10 0 6 from rfl) ?_
      refine wg_if rfl rfl (fun h7 => ?_) (fun h7 => ?_)
      · refine wg_s rfl rfl ?_
        refine wg_ret rfl rfl trivial ⟨?_, rfl⟩
        rw [show (ag_I μ 10 0 6 - (p : Int)).toNat = 0 by omega]; rfl
      · have hc : (ag_I μ 10 0 6 - (p : Int)).toNat = c + 1 := by omega
        refine wg_s rfl rfl ?_
        refine wg_s rfl rfl ?_
        refine wg_cf rfl rfl (sp_isFree _ _ _ hW) ?_
        refine wg_eqb rfl (fun h15 => ?_) (fun h15 => ?_)
        · refine wg_s rfl rfl ?_
          refine wg_s rfl rfl ?_
          refine wg_s rfl rfl ?_
          refine wg_s rfl rfl ?_
          refine lp_may (d := d + 1) hS i p fr hin (m_ok μ LH i p) ?_ (i + 1) 0 _ (by omega) (by omega) (by refine (bI_f (fun q => ?_)).symm; simp only [Bool.and_eq_true] at q; exact h15 (m_ok_t.mp q.1).1)
          generalize hg : (m_ok μ LH i p && un A p i) = g
          refine wg_s rfl rfl ?_
          refine wg_eqb rfl (fun h84 => ?_) (fun h84 => ?_)
          · refine wg_iinc rfl rfl rfl (by omega) (by omega) rfl ?_
            refine wg_s rfl rfl ?_
            have := ih (p + 1) true (x := bI (g = true)) (y := (i : Int)) (by omega) (by omega)
            rw [show (ag_I μ 10 0 6 - ((p + 1 : Nat) : Int)).toNat = c by omega] at this
            rw [hc]; unfold nx; rw [if_neg (show ¬ ((m_ok μ LH i p && un A p i) = true) by rw [hg]; exact h84)]
            exact this
          · refine wg_s rfl rfl ?_
            refine wg_ret rfl rfl trivial ⟨?_, rfl⟩
            rw [hc]; unfold nx; rw [if_pos (show (m_ok μ LH i p && un A p i) = true by rw [hg]; exact h84)]
        · refine wg_s rfl rfl ?_
          refine wg_s rfl rfl ?_
          refine wg_gm rfl rfl hM ?_
          refine wg_s rfl rfl ?_
          refine wg_iav rfl hM rfl (by omega) (by omega) (show _ = (LH i : Int) from hi3.1) ?_
          refine wg_s rfl rfl ?_
          refine wg_cf rfl rfl (show Wp _ 118 _ _ (fun w μ' => w = some (ab_i (m_why μ (LH i) p)) ∧ μ' = μ) from sp_mwhyNot _ _ _ _ hM ⟨by omega, by omega⟩ ⟨by omega, by omega⟩) ?_
          refine wg_if rfl rfl (fun h29 => ?_) (fun h29 => ?_)
          · refine wg_s rfl rfl ?_
            refine wg_s rfl rfl ?_
            refine wg_s rfl rfl ?_
            refine wg_s rfl rfl ?_
            refine lp_may (d := d + 1) hS i p fr hin (m_ok μ LH i p) ?_ (i + 1) 0 _ (by omega) (by omega) (by refine (bI_f (fun q => ?_)).symm; simp only [Bool.and_eq_true] at q; exact h29 (m_ok_t.mp q.1).2)
            generalize hg : (m_ok μ LH i p && un A p i) = g
            refine wg_s rfl rfl ?_
            refine wg_eqb rfl (fun h84 => ?_) (fun h84 => ?_)
            · refine wg_iinc rfl rfl rfl (by omega) (by omega) rfl ?_
              refine wg_s rfl rfl ?_
              have := ih (p + 1) true (x := bI (g = true)) (y := (i : Int)) (by omega) (by omega)
              rw [show (ag_I μ 10 0 6 - ((p + 1 : Nat) : Int)).toNat = c by omega] at this
              rw [hc]; unfold nx; rw [if_neg (show ¬ ((m_ok μ LH i p && un A p i) = true) by rw [hg]; exact h84)]
              exact this
            · refine wg_s rfl rfl ?_
              refine wg_ret rfl rfl trivial ⟨?_, rfl⟩
              rw [hc]; unfold nx; rw [if_pos (show (m_ok μ LH i p && un A p i) = true by rw [hg]; exact h84)]
          · refine wg_s rfl rfl ?_
            refine wg_s rfl rfl ?_
            refine wg_s rfl rfl ?_
            refine wg_s rfl rfl ?_
            refine wg_s rfl rfl ?_
            refine lp_may (d := d + 1) hS i p fr hin (m_ok μ LH i p) ?_ (i + 1) 0 _ (by omega) (by omega) (by refine (bI_t ?_).symm; rw [Bool.and_eq_true]; exact ⟨m_ok_t.mpr ⟨h15, Decidable.not_not.mp h29⟩, rfl⟩)
            generalize hg : (m_ok μ LH i p && un A p i) = g
            refine wg_s rfl rfl ?_
            refine wg_eqb rfl (fun h84 => ?_) (fun h84 => ?_)
            · refine wg_iinc rfl rfl rfl (by omega) (by omega) rfl ?_
              refine wg_s rfl rfl ?_
              have := ih (p + 1) true (x := bI (g = true)) (y := (i : Int)) (by omega) (by omega)
              rw [show (ag_I μ 10 0 6 - ((p + 1 : Nat) : Int)).toNat = c by omega] at this
              rw [hc]; unfold nx; rw [if_neg (show ¬ ((m_ok μ LH i p && un A p i) = true) by rw [hg]; exact h84)]
              exact this
            · refine wg_s rfl rfl ?_
              refine wg_ret rfl rfl trivial ⟨?_, rfl⟩
              rw [hc]; unfold nx; rw [if_pos (show (m_ok μ LH i p && un A p i) = true by rw [hg]; exact h84)]
theorem sp_mnextFor (d : Nat) (μ : ab_M) (LH : Nat → Nat) (n : Nat) (A : Nat → Int) (hS : SB μ LH n A) (i p : Nat) (hin : i < n) (hp : (p : Int) ≤ ag_I μ 10 0 6) : Wp (d + 2) 124 [ab_r 10 (some 0), ab_i (i : Int), ab_i (p : Int)] μ (fun v μ' => v = some (ab_i (nx (fun p => m_ok μ LH i p && un A p i) (ag_I μ 10 0 6 - p).toNat p)) ∧ μ' = μ) := by
  refine wp_of ?_
  obtain ⟨hW, hn6, h38, hA, hlk⟩ := id hS
  obtain ⟨hM, h1, h6, h26, h0, h14⟩ := id hW
  refine wg_s rfl rfl ?_
  refine wg_s rfl rfl ?_
  exact lp_nf hS i p hin 9 p false (x := 0) (y := 0) (by omega) hp
