/-! ===== the reference: shares, share, until ===== -/
theorem wg_gj {d k : Nat} {μ : ab_M} {pc : Nat} {l : ab_L} {st : List ab_V} {Q : Option ab_V → ab_M → Prop} {nx a b : Nat} {x n : Nat} {z : Int} (hi : ab_ins k pc = some (.getfield x, nx, a, b)) (hf : ab_ft a b = (2, 0)) (hI : ag_J μ a n b = z) (K : Wg d k μ nx l (ab_l z :: st) Q) : Wg d k μ pc l (ab_r a (some n) :: st) Q := by
  refine wg_s hi (μ1 := μ) (pc1 := nx) (l1 := l) (st1 := ab_l z :: st) ?_ K
  dsimp only [ab_step]
  rw [show Nat.beq a a = true from Nat.beq_refl a]
  simp only [cond_true, hf, ab_gv, hI]
/-- the share stands in the reference's two longs -/
def ShJ (μ : ab_M) (Jf : Nat → Nat → Nat → Int) (q : Nat × Nat) : Prop := Jf 10 0 44 = (q.1 : Int) ∧ Jf 10 0 45 = (q.2 : Int) ∧ ∀ t n b, t ≠ 10 → Jf t n b = μ.2.1 t n b
def sh_l (e : Option (Int × Int × (Int ⊕ Int))) : ab_L := match e with
  | none => []
  | some (x, y, .inl z) => [(4, ab_i x), (5, ab_i y), (6, ab_i z)]
  | some (x, y, .inr z) => [(4, ab_i x), (5, ab_i y), (6, ab_l z)]
theorem ab_u3_eq {α : Type} (f : Nat → Nat → Nat → α) (t n k : Nat) (x : α) : ab_u3 f t n k x t n k = x := by
  unfold ab_u3; simp
theorem ab_u3_k {α : Type} (f : Nat → Nat → Nat → α) {t n k t' n' k' : Nat} (x : α) (h : k' ≠ k) : ab_u3 f t n k x t' n' k' = f t' n' k' := by
  unfold ab_u3; simp [h]
theorem ab_u3_t {α : Type} (f : Nat → Nat → Nat → α) {t n k t' n' k' : Nat} (x : α) (h : t' ≠ t) : ab_u3 f t n k x t' n' k' = f t' n' k' := by
  unfold ab_u3; simp [h]
theorem ab_u3_n {α : Type} (f : Nat → Nat → Nat → α) {t n k t' n' k' : Nat} (x : α) (h : n' ≠ n) : ab_u3 f t n k x t' n' k' = f t' n' k' := by
  unfold ab_u3; simp [h]
theorem sh_st_0 (q : Nat × Nat) (n : Nat) : sh_st q 0 n = q := rfl
theorem sh_mul {l n : Nat} (h1 : 1 ≤ n) (h : l * fac n ≤ fac 16) : l * n ≤ 20922789888000 := by
  have := Nat.mul_le_mul_left l (fac_ge h1)
  rw [← fac_16]; omega
theorem lp_shout {d : Nat} {μ : ab_M} (hW : WM μ) (hL : WL μ) (k w : Int) (h16 : m_ct μ k (ag_I μ 10 0 26).toNat ≤ 16) (hw : 0 ≤ w ∧ w ≤ 500) : ∀ (n : Nat) (t : Int) (Jf : Nat → Nat → Nat → Int) (e : Option (Int × Int × (Int ⊕ Int))), w + 1 - t < n → 0 ≤ t → t ≤ w + 1 → ShJ μ Jf (m_sh μ k t.toNat) → Wg (d + 1) 151 (μ.1, Jf, μ.2.2) 12 ([(0, ab_r 10 (some 0)), (1, ab_i k), (2, ab_i w), (3, ab_i t)] ++ sh_l e) [] (fun v μ' => v = none ∧ ∃ Jf, μ' = (μ.1, Jf, μ.2.2) ∧ ShJ μ Jf (m_sh μ k (w + 1).toNat)) := by
  intro n
  induction n with
  | zero => intro t Jf e hn; omega
  | succ n ih =>
    intro t Jf e hn ht ht2 hJ
    obtain ⟨hM, h1, h6, h26, h0, h14⟩ := id hW
    have r1 := m_sd_rng μ k t (ag_I μ 10 0 26).toNat
    have r2 := m_sn_rng μ k t (ag_I μ 10 0 26).toNat
    have r3 := m_sdn μ k t ht (ag_I μ 10 0 26).toNat
    have r4 := m_sn_rng μ k (t + 1) (ag_I μ 10 0 26).toNat
    have hi := m_sh_inv h16 t.toNat
    have et : ((t.toNat : Nat) : Int) = t := by omega
    have es : m_sh μ k (t.toNat + 1) = sh_st (m_sh μ k t.toNat) (m_sd μ k t (ag_I μ 10 0 26).toNat).toNat (m_sn μ k t (ag_I μ 10 0 26).toNat).toNat := by
      show sh_st _ _ _ = _; rw [et]
    rw [et] at hi
    generalize hD : m_sd μ k t (ag_I μ 10 0 26).toNat = D at r1 r3 es
    generalize hN : m_sn μ k t (ag_I μ 10 0 26).toNat = N at r2 r3 hi es
    generalize hq : m_sh μ k t.toNat = q at hi es hJ
    obtain ⟨u, v⟩ := q
    dsimp only at hi
    by_cases hlast : w < t
    · have e1 : t = w + 1 := by omega
      subst e1
      rw [hq]
      have K0 : True := trivial
      rcases e with _ | ⟨x, y, z | z⟩
      · refine wg_s rfl rfl ?_
        refine wg_s rfl rfl ?_
        refine wg_if rfl rfl (fun h14 => ?_) (fun h14 => ?_)
        · exact wg_ret rfl rfl trivial ⟨rfl, Jf, rfl, hJ⟩
        · refine wg_s rfl rfl ?_
          refine wg_s rfl rfl ?_
          refine wg_s rfl rfl ?_
          refine wg_s rfl rfl ?_
          refine wg_s rfl rfl ?_
          refine wg_s rfl rfl ?_
          exfalso; omega
      · refine wg_s rfl rfl ?_
        refine wg_s rfl rfl ?_
        refine wg_if rfl rfl (fun h14 => ?_) (fun h14 => ?_)
        · exact wg_ret rfl rfl trivial ⟨rfl, Jf, rfl, hJ⟩
        · refine wg_s rfl rfl ?_
          refine wg_s rfl rfl ?_
          refine wg_s rfl rfl ?_
          refine wg_s rfl rfl ?_
          refine wg_s rfl rfl ?_
          refine wg_s rfl rfl ?_
          exfalso; omega
      · refine wg_s rfl rfl ?_
        refine wg_s rfl rfl ?_
        refine wg_if rfl rfl (fun h14 => ?_) (fun h14 => ?_)
        · exact wg_ret rfl rfl trivial ⟨rfl, Jf, rfl, hJ⟩
        · refine wg_s rfl rfl ?_
          refine wg_s rfl rfl ?_
          refine wg_s rfl rfl ?_
          refine wg_s rfl rfl ?_
          refine wg_s rfl rfl ?_
          refine wg_s rfl rfl ?_
          exfalso; omega
    · have K0 : Wg (d + 1) 151 (μ.1, Jf, μ.2.2) 98 [(0, ab_r 10 (some 0)), (1, ab_i k), (2, ab_i w), (3, ab_i t), (4, ab_i (m_sd μ k t (ag_I μ 10 0 26).toNat)), (5, ab_i (m_sn μ k t (ag_I μ 10 0 26).toNat)), (6, ab_i (ag_I μ 10 0 26))] [] (fun v μ' => v = none ∧ ∃ Jf, μ' = (μ.1, Jf, μ.2.2) ∧ ShJ μ Jf (m_sh μ k (w + 1).toNat)) := by
        rw [hD, hN]
        refine wg_s rfl rfl ?_
        refine wg_if rfl rfl (fun h100 => ?_) (fun h100 => ?_)
        · refine wg_iinc rfl rfl rfl (by omega) (by omega) rfl ?_
          refine wg_s rfl rfl ?_
          exact ih _ _ (some (_, _, .inl _)) (by omega) (by omega) (by omega) (by rw [tn1 ht, es, show D.toNat = 0 by omega, sh_st_0]; exact hJ)
        · have n1 : 1 ≤ N.toNat := by omega
          have m1 : v * N.toNat ≤ 20922789888000 := sh_mul n1 hi.2.2
          have m2 : u * (N.toNat - D.toNat) ≤ v * N.toNat := Nat.mul_le_mul hi.2.1 (by omega)
          have m3 : 1 ≤ v * N.toNat := Nat.mul_pos hi.1 n1
          generalize hU : u * (N.toNat - D.toNat) = U at m2
          generalize hV : v * N.toNat = V at m1 m2 m3
          have eU : (u : Int) * (N - D) = (U : Int) := by rw [← hU, Int.natCast_mul]; congr 1; omega
          have eV : (v : Int) * N = (V : Int) := by rw [← hV, Int.natCast_mul]; congr 1; omega
          have g1 : 0 < Nat.gcd U V := Nat.gcd_pos_of_pos_right _ (by omega)
          have hs : m_sh μ k (t + 1).toNat = (U / Nat.gcd U V, V / Nat.gcd U V) := by rw [tn1 ht, es]; unfold sh_st; rw [if_neg (by omega), hU, hV]
          refine wg_s rfl rfl ?_
          refine wg_s rfl rfl ?_
          refine wg_gj rfl rfl (show _ = (u : Int) from hJ.1) ?_
          refine wg_s rfl rfl ?_
          refine wg_s rfl rfl ?_
          refine wg_isub rfl (by omega) (by omega) ?_
          refine wg_s rfl rfl ?_
          refine wg_lbin (z := (u : Int) * (N - D)) rfl rfl (by omega) (by omega) ?_
          refine wg_s rfl rfl ?_
          refine wg_s rfl rfl ?_
          refine wg_s rfl rfl ?_
          refine wg_gj rfl rfl (show _ = (v : Int) from hJ.2.1) ?_
          refine wg_s rfl rfl ?_
          refine wg_s rfl rfl ?_
          refine wg_lbin (z := (v : Int) * N) rfl rfl (by omega) (by omega) ?_
          refine wg_s rfl rfl ?_
          refine wg_s rfl rfl ?_
          refine wg_gj rfl rfl (show _ = ((U : Nat) : Int) from eU) ?_
          refine wg_s rfl rfl ?_
          refine wg_gj rfl rfl (show _ = ((V : Nat) : Int) from eV) ?_
          refine wg_cf rfl rfl (sp_common _ U V _ (by omega) (by omega)) ?_
          refine wg_s rfl rfl ?_
          refine wg_s rfl rfl ?_
          refine wg_s rfl rfl ?_
          refine wg_gj rfl rfl (show _ = ((U : Nat) : Int) from eU) ?_
          refine wg_s rfl rfl ?_
          refine wg_c rfl rfl ⟨by omega, by omega⟩ ?_
          refine wg_s rfl rfl ?_
          refine wg_s rfl rfl ?_
          refine wg_s rfl rfl ?_
          refine wg_gj rfl rfl (show _ = ((V : Nat) : Int) from eV) ?_
          refine wg_s rfl rfl ?_
          refine wg_c rfl rfl ⟨by omega, by omega⟩ ?_
          refine wg_s rfl rfl ?_
          refine wg_iinc rfl rfl rfl (by omega) (by omega) rfl ?_
          refine wg_s rfl rfl ?_
          exact ih _ _ (some (_, _, .inr _)) (by omega) (by omega) (by omega) ⟨by rw [hs]; rfl, by rw [hs]; rfl, fun t n b ht => (ab_u3_t _ _ ht).trans ((ab_u3_t _ _ ht).trans ((ab_u3_t _ _ ht).trans ((ab_u3_t _ _ ht).trans (hJ.2.2 t n b ht))))⟩
      rcases e with _ | ⟨x, y, z | z⟩
      · refine wg_s rfl rfl ?_
        refine wg_s rfl rfl ?_
        refine wg_if rfl rfl (fun h14 => ?_) (fun h14 => ?_)
        · exfalso; omega
        · refine wg_s rfl rfl ?_
          refine wg_s rfl rfl ?_
          refine wg_s rfl rfl ?_
          refine wg_s rfl rfl ?_
          refine wg_s rfl rfl ?_
          refine wg_s rfl rfl ?_
          exact lp_shin hW hL k w t ⟨by omega, by omega⟩ K0 66 0 0 0 (by omega) (by omega) (by omega) rfl rfl
      · refine wg_s rfl rfl ?_
        refine wg_s rfl rfl ?_
        refine wg_if rfl rfl (fun h14 => ?_) (fun h14 => ?_)
        · exfalso; omega
        · refine wg_s rfl rfl ?_
          refine wg_s rfl rfl ?_
          refine wg_s rfl rfl ?_
          refine wg_s rfl rfl ?_
          refine wg_s rfl rfl ?_
          refine wg_s rfl rfl ?_
          exact lp_shin hW hL k w t ⟨by omega, by omega⟩ K0 66 0 0 0 (by omega) (by omega) (by omega) rfl rfl
      · refine wg_s rfl rfl ?_
        refine wg_s rfl rfl ?_
        refine wg_if rfl rfl (fun h14 => ?_) (fun h14 => ?_)
        · exfalso; omega
        · refine wg_s rfl rfl ?_
          refine wg_s rfl rfl ?_
          refine wg_s rfl rfl ?_
          refine wg_s rfl rfl ?_
          refine wg_s rfl rfl ?_
          refine wg_s rfl rfl ?_
          exact lp_shin hW hL k w t ⟨by omega, by omega⟩ K0 66 0 0 0 (by omega) (by omega) (by omega) rfl rfl
theorem sp_shares (d : Nat) (k w : Int) (μ : ab_M) (hW : WM μ) (hL : WL μ) (h16 : m_ct μ k (ag_I μ 10 0 26).toNat ≤ 16) (hw : 0 ≤ w ∧ w ≤ 500) : Wp (d + 2) 151 [ab_r 10 (some 0), ab_i k, ab_i w] μ (fun v μ' => v = none ∧ ∃ Jf, μ' = (μ.1, Jf, μ.2.2) ∧ ShJ μ Jf (m_sh μ k (w + 1).toNat)) := by
  refine wp_of ?_
  refine wg_s rfl rfl ?_
  refine wg_s rfl rfl ?_
  refine wg_s rfl rfl ?_
  refine wg_s rfl rfl ?_
  refine wg_s rfl rfl ?_
  refine wg_s rfl rfl ?_
  refine wg_s rfl rfl ?_
  refine wg_s rfl rfl ?_
  exact lp_shout hW hL k w h16 hw 502 0 _ none (by omega) (by omega) (by omega) ⟨rfl, rfl, fun t n b ht => (ab_u3_t _ _ ht).trans (ab_u3_t _ _ ht)⟩
theorem sp_mshare (d : Nat) (k w b : Int) (μ : ab_M) (hW : WM μ) (hL : WL μ) (h16 : m_ct μ k (ag_I μ 10 0 26).toNat ≤ 16) : Wp (d + 3) 152 [ab_r 10 (some 0), ab_i k, ab_i w, ab_i b] μ (fun v μ' => v = some (ab_l (if (0 ≤ k ∧ k ≤ 3) ∧ (0 ≤ w ∧ w ≤ 500) then (if b = 0 then ((m_sh μ k (w + 1).toNat).1 : Int) else ((m_sh μ k (w + 1).toNat).2 : Int)) else -1)) ∧ ∃ Jf, μ' = (μ.1, Jf, μ.2.2) ∧ ∀ t n b, t ≠ 10 → Jf t n b = μ.2.1 t n b) := by
  refine wp_of ?_
  refine wg_s rfl rfl ?_
  refine wg_s rfl rfl ?_
  refine wg_s rfl rfl ?_
  refine wg_s rfl rfl ?_
  refine wg_cf rfl rfl (sp_in _ _ _ _ _) ?_
  refine wg_eqb rfl (fun h9 => ?_) (fun h9 => ?_)
  · refine wg_s rfl rfl ?_
    refine wg_ret rfl rfl trivial ⟨?_, μ.2.1, rfl, fun _ _ _ _ => rfl⟩
    rw [if_neg (by omega)]; rfl
  · refine wg_s rfl rfl ?_
    refine wg_s rfl rfl ?_
    refine wg_s rfl rfl ?_
    refine wg_s rfl rfl ?_
    refine wg_cf rfl rfl (sp_in _ _ _ _ _) ?_
    refine wg_neb rfl (fun h21 => ?_) (fun h21 => ?_)
    · refine wg_s rfl rfl ?_
      refine wg_s rfl rfl ?_
      refine wg_s rfl rfl ?_
      refine wg_call rfl rfl (sp_shares _ _ _ _ hW hL h16 (by omega)) (fun v μ' h => ?_)
      obtain ⟨rfl, Jf, rfl, hJ⟩ := h
      refine wg_s rfl rfl ?_
      refine wg_if rfl rfl (fun h35 => ?_) (fun h35 => ?_)
      · refine wg_s rfl rfl ?_
        refine wg_gj rfl rfl (show _ = ((m_sh μ k (w + 1).toNat).1 : Int) from hJ.1) ?_
        refine wg_ret rfl rfl trivial ⟨?_, Jf, rfl, hJ.2.2⟩
        rw [if_pos (by omega)]
        first | rw [if_pos h35] | rw [if_neg h35]
      · refine wg_s rfl rfl ?_
        refine wg_gj rfl rfl (show _ = ((m_sh μ k (w + 1).toNat).2 : Int) from hJ.2.1) ?_
        refine wg_s rfl rfl ?_
        refine wg_ret rfl rfl trivial ⟨?_, Jf, rfl, hJ.2.2⟩
        rw [if_pos (by omega)]
        first | rw [if_pos h35] | rw [if_neg h35]
    · refine wg_s rfl rfl ?_
      refine wg_ret rfl rfl trivial ⟨?_, μ.2.1, rfl, fun _ _ _ _ => rfl⟩
      rw [if_neg (by omega)]; rfl
theorem m_ctJ (μ : ab_M) (Jf : Nat → Nat → Nat → Int) (k : Int) : ∀ n, m_ct (μ.1, Jf, μ.2.2) k n = m_ct μ k n
  | 0 => rfl
  | n + 1 => by unfold m_ct; rw [m_ctJ μ Jf k n]; rfl
theorem m_shJ (μ : ab_M) (Jf : Nat → Nat → Nat → Int) (k : Int) : ∀ t, m_sh (μ.1, Jf, μ.2.2) k t = m_sh μ k t
  | 0 => rfl
  | t + 1 => by unfold m_sh; rw [m_shJ μ Jf k t]; rfl
/-- the first week whose share is too small -/
def m_un (μ : ab_M) (k p : Int) : Nat → Nat → Int
  | 0, _ => -1
  | n + 1, w => if 100 * ((m_sh μ k (w + 1)).1 : Int) < p * ((m_sh μ k (w + 1)).2 : Int) then w else m_un μ k p n (w + 1)
theorem lp_until {d : Nat} {μ : ab_M} (hW : WM μ) (hL : WL μ) (k p : Int) (h16 : m_ct μ k (ag_I μ 10 0 26).toNat ≤ 16) (hp : 1 ≤ p ∧ p ≤ 100) : ∀ (n : Nat) (z : Int) (Jf : Nat → Nat → Nat → Int), z + n = 501 → 0 ≤ z → (∀ t n b, t ≠ 10 → Jf t n b = μ.2.1 t n b) → Wg (d + 2) 153 (μ.1, Jf, μ.2.2) 28 [(0, ab_r 10 (some 0)), (1, ab_i k), (2, ab_i p), (3, ab_i z)] [] (fun v μ' => v = some (ab_i (m_un μ k p n z.toNat)) ∧ ∃ Jf, μ' = (μ.1, Jf, μ.2.2) ∧ ∀ t n b, t ≠ 10 → Jf t n b = μ.2.1 t n b) := by
  intro n
  induction n with
  | zero =>
    intro z Jf hn hz hJf

    refine wg_s rfl rfl ?_
    refine wg_s rfl rfl ?_
    refine wg_if rfl rfl (fun h32 => ?_) (fun h32 => ?_)
    · refine wg_s rfl rfl ?_
      exact wg_ret rfl rfl trivial ⟨rfl, Jf, rfl, hJf⟩
    · exfalso; omega
  | succ n ih =>
    intro z Jf hn hz hJf
    refine wg_s rfl rfl ?_
    refine wg_s rfl rfl ?_
    refine wg_if rfl rfl (fun h32 => ?_) (fun h32 => ?_)
    · refine wg_s rfl rfl ?_
      exfalso; omega
    · refine wg_s rfl rfl ?_
      refine wg_s rfl rfl ?_
      refine wg_s rfl rfl ?_
      refine wg_call rfl rfl (sp_shares d k z (μ.1, Jf, μ.2.2) hW hL (by rw [m_ctJ]; exact h16) (by omega)) (fun v μ' h => ?_)
      obtain ⟨rfl, Jf2, rfl, hJ2⟩ := h
      rw [m_shJ, show (z + 1).toNat = z.toNat + 1 by omega] at hJ2
      have hF : ∀ t n b, t ≠ 10 → Jf2 t n b = μ.2.1 t n b := fun t n b ht => (hJ2.2.2 t n b ht).trans (hJf t n b ht)
      have hi := m_sh_inv h16 (z.toNat + 1)
      have hf := fac_pos (m_sn μ k ((z.toNat + 1 : Nat) : Int) (ag_I μ 10 0 26).toNat).toNat
      generalize hq : m_sh μ k (z.toNat + 1) = q at hJ2 hi
      have hl : q.2 ≤ 20922789888000 := by rw [← fac_16]; exact Nat.le_trans (Nat.le_mul_of_pos_right _ hf) hi.2.2
      have p1 : p * (q.2 : Int) ≤ 100 * (q.2 : Int) := Int.mul_le_mul_of_nonneg_right (by omega) (by omega)
      have p2 : 0 ≤ p * (q.2 : Int) := Int.mul_nonneg (by omega) (by omega)
      refine wg_s rfl rfl ?_
      refine wg_s rfl rfl ?_
      refine wg_gj rfl rfl (show _ = (q.1 : Int) from hJ2.1) ?_
      refine wg_lbin (z := 100 * (q.1 : Int)) rfl rfl (by omega) (by omega) ?_
      refine wg_s rfl rfl ?_
      refine wg_s rfl rfl ?_
      refine wg_s rfl rfl ?_
      refine wg_gj rfl rfl (show _ = (q.2 : Int) from hJ2.2.1) ?_
      refine wg_lbin (z := p * (q.2 : Int)) rfl rfl (by omega) (by omega) ?_
      refine wg_lc_ge rfl rfl (fun h56 => ?_) (fun h56 => ?_)
      · refine wg_iinc rfl rfl rfl (by omega) (by omega) rfl ?_
        refine wg_s rfl rfl ?_
        have := ih (z + 1) Jf2 (by omega) (by omega) hF
        rw [show (z + 1).toNat = z.toNat + 1 by omega] at this
        unfold m_un
        rw [hq, if_neg (by omega)]
        exact this
      · refine wg_s rfl rfl ?_
        refine wg_ret rfl rfl trivial ⟨?_, Jf2, rfl, hF⟩
        unfold m_un
        rw [hq, if_pos (by omega)]; congr 2; omega
theorem sp_muntil (d : Nat) (k p : Int) (μ : ab_M) (hW : WM μ) (hL : WL μ) (h16 : m_ct μ k (ag_I μ 10 0 26).toNat ≤ 16) : Wp (d + 3) 153 [ab_r 10 (some 0), ab_i k, ab_i p] μ (fun v μ' => v = some (ab_i (if (0 ≤ k ∧ k ≤ 3) ∧ (1 ≤ p ∧ p ≤ 100) then m_un μ k p 501 0 else -1)) ∧ ∃ Jf, μ' = (μ.1, Jf, μ.2.2) ∧ ∀ t n b, t ≠ 10 → Jf t n b = μ.2.1 t n b) := by
  refine wp_of ?_
  refine wg_s rfl rfl ?_
  refine wg_s rfl rfl ?_
  refine wg_s rfl rfl ?_
  refine wg_s rfl rfl ?_
  refine wg_cf rfl rfl (sp_in _ _ _ _ _) ?_
  refine wg_eqb rfl (fun h9 => ?_) (fun h9 => ?_)
  · refine wg_s rfl rfl ?_
    refine wg_ret rfl rfl trivial ⟨?_, μ.2.1, rfl, fun _ _ _ _ => rfl⟩
    rw [if_neg (by omega)]
  · refine wg_s rfl rfl ?_
    refine wg_s rfl rfl ?_
    refine wg_s rfl rfl ?_
    refine wg_s rfl rfl ?_
    refine wg_cf rfl rfl (sp_in _ _ _ _ _) ?_
    refine wg_neb rfl (fun h21 => ?_) (fun h21 => ?_)
    · refine wg_s rfl rfl ?_
      refine wg_s rfl rfl ?_
      rw [if_pos (by omega)]
      exact lp_until hW hL k p h16 (by omega) 501 0 _ (by omega) (by omega) (fun _ _ _ _ => rfl)
    · refine wg_s rfl rfl ?_
      refine wg_ret rfl rfl trivial ⟨?_, μ.2.1, rfl, fun _ _ _ _ => rfl⟩
      rw [if_neg (by omega)]
