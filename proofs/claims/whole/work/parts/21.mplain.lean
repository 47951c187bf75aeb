/-! ===== the reference: plain methods ===== -/
/-- the reference's numbers are in their ranges -/
def WM (μ : ab_M) : Prop := FM μ.2.2.1 μ.2.2.2.1 ∧ (0 ≤ ag_I μ 10 0 1 ∧ ag_I μ 10 0 1 ≤ 8) ∧ (0 ≤ ag_I μ 10 0 6 ∧ ag_I μ 10 0 6 ≤ 8) ∧ (0 ≤ ag_I μ 10 0 26 ∧ ag_I μ 10 0 26 ≤ 64) ∧ (0 ≤ ag_I μ 10 0 0 ∧ ag_I μ 10 0 0 ≤ 500) ∧ (0 ≤ ag_I μ 10 0 14 ∧ ag_I μ 10 0 14 ≤ 200)
theorem sp_in (d : Nat) (v lw hi : Int) (μ : ab_M) : Wp (d + 1) 110 [ab_l v, ab_l lw, ab_l hi] μ (fun w μ' => w = some (ab_i (bI (lw ≤ v ∧ v ≤ hi))) ∧ μ' = μ) := by
  refine wp_of ?_
  refine wg_s rfl rfl ?_
  refine wg_s rfl rfl ?_
  refine wg_lc_lt rfl rfl (fun h2 => ?_) (fun h2 => ?_)
  · refine wg_s rfl rfl ?_
    refine wg_ret rfl rfl (by first | exact Or.inl rfl | exact Or.inr rfl | exact bI_01 | trivial) ⟨?_, rfl⟩
    unfold bI
    first | rw [if_pos (by omega)] | rw [if_neg (by omega)]
  · refine wg_s rfl rfl ?_
    refine wg_s rfl rfl ?_
    refine wg_lc_gt rfl rfl (fun h9 => ?_) (fun h9 => ?_)
    · refine wg_s rfl rfl ?_
      refine wg_ret rfl rfl (by first | exact Or.inl rfl | exact Or.inr rfl | exact bI_01 | trivial) ⟨?_, rfl⟩
      unfold bI
      first | rw [if_pos (by omega)] | rw [if_neg (by omega)]
    · refine wg_s rfl rfl ?_
      refine wg_s rfl rfl ?_
      refine wg_ret rfl rfl (by first | exact Or.inl rfl | exact Or.inr rfl | exact bI_01 | trivial) ⟨?_, rfl⟩
      unfold bI
      first | rw [if_pos (by omega)] | rw [if_neg (by omega)]
theorem sp_isHome (d : Nat) (h : Int) (μ : ab_M) (hW : WM μ) : Wp (d + 2) 111 [ab_r 10 (some 0), ab_i h] μ (fun w μ' => w = some (ab_i (bI (0 ≤ h ∧ h < ag_I μ 10 0 1))) ∧ μ' = μ) := by
  refine wp_of ?_
  obtain ⟨hM, h1, h6, h26, h0, h14⟩ := hW
  refine wg_s rfl rfl ?_
  refine wg_s rfl rfl ?_
  refine wg_s rfl rfl ?_
  refine wg_s rfl rfl ?_
  refine wg_s rfl rfl ?_
  refine wg_s rfl rfl ?_
  refine wg_isub rfl (by omega) (by omega) ?_
  refine wg_s rfl rfl ?_
  refine wg_cf rfl rfl (sp_in _ _ _ _ _) ?_
  refine wg_ret rfl rfl bI_01 ⟨?_, rfl⟩
  congr 2
  unfold bI
  congr 1
  apply propext
  constructor <;> intro h <;> omega
theorem sp_isHelper (d : Nat) (h : Int) (μ : ab_M) (hW : WM μ) : Wp (d + 2) 112 [ab_r 10 (some 0), ab_i h] μ (fun w μ' => w = some (ab_i (bI (0 ≤ h ∧ h < ag_I μ 10 0 6))) ∧ μ' = μ) := by
  refine wp_of ?_
  obtain ⟨hM, h1, h6, h26, h0, h14⟩ := hW
  refine wg_s rfl rfl ?_
  refine wg_s rfl rfl ?_
  refine wg_s rfl rfl ?_
  refine wg_s rfl rfl ?_
  refine wg_s rfl rfl ?_
  refine wg_s rfl rfl ?_
  refine wg_isub rfl (by omega) (by omega) ?_
  refine wg_s rfl rfl ?_
  refine wg_cf rfl rfl (sp_in _ _ _ _ _) ?_
  refine wg_ret rfl rfl bI_01 ⟨?_, rfl⟩
  congr 2
  unfold bI
  congr 1
  apply propext
  constructor <;> intro h <;> omega
theorem sp_isSet (d : Nat) (h : Int) (μ : ab_M) : Wp (d + 2) 113 [ab_i h] μ (fun w μ' => w = some (ab_i (bI (0 ≤ h ∧ h ≤ 4095))) ∧ μ' = μ) := by
  refine wp_of ?_
  refine wg_s rfl rfl ?_
  refine wg_s rfl rfl ?_
  refine wg_s rfl rfl ?_
  refine wg_s rfl rfl ?_
  refine wg_cf rfl rfl (sp_in _ _ _ _ _) ?_
  exact wg_ret rfl rfl bI_01 ⟨rfl, rfl⟩
theorem sp_mhome (d : Nat) (p q r u : Int) (μ : ab_M) (hW : WM μ) : Wp (d + 3) 114 [ab_r 10 (some 0), ab_i p, ab_i q, ab_i r, ab_i u] μ (fun w μ' => ((0 ≤ p ∧ p ≤ 3) ∧ (0 ≤ q ∧ q ≤ 4095) ∧ (0 ≤ r ∧ r ≤ 4095) ∧ (0 ≤ u ∧ u ≤ 40) ∧ ag_I μ 10 0 1 < 8 → w = some (ab_i (ag_I μ 10 0 1)) ∧ μ' = (as_I (as_I (as_I (as_I (as_I μ 11 20 (ag_I μ 10 0 1).toNat p) 11 21 (ag_I μ 10 0 1).toNat q) 11 22 (ag_I μ 10 0 1).toNat r) 11 23 (ag_I μ 10 0 1).toNat u) 10 0 1 (ag_I μ 10 0 1 + 1))) ∧ (¬ ((0 ≤ p ∧ p ≤ 3) ∧ (0 ≤ q ∧ q ≤ 4095) ∧ (0 ≤ r ∧ r ≤ 4095) ∧ (0 ≤ u ∧ u ≤ 40) ∧ ag_I μ 10 0 1 < 8) → w = some (ab_i (-1)) ∧ μ' = μ)) := by
  refine wp_of ?_
  obtain ⟨hM, h1, h6, h26, h0, h14⟩ := hW
  refine wg_s rfl rfl ?_
  refine wg_s rfl rfl ?_
  refine wg_s rfl rfl ?_
  refine wg_s rfl rfl ?_
  refine wg_cf rfl rfl (sp_in _ _ _ _ _) ?_
  refine wg_eqb rfl (fun h9 => ?_) (fun h9 => ?_)
  · refine wg_s rfl rfl ?_
    exact wg_ret rfl rfl trivial ⟨fun h => absurd h (by omega), fun _ => ⟨rfl, rfl⟩⟩
  · refine wg_s rfl rfl ?_
    refine wg_cf rfl rfl (sp_isSet _ _ _) ?_
    refine wg_eqb rfl (fun h16 => ?_) (fun h16 => ?_)
    · refine wg_s rfl rfl ?_
      exact wg_ret rfl rfl trivial ⟨fun h => absurd h (by omega), fun _ => ⟨rfl, rfl⟩⟩
    · refine wg_s rfl rfl ?_
      refine wg_cf rfl rfl (sp_isSet _ _ _) ?_
      refine wg_eqb rfl (fun h23 => ?_) (fun h23 => ?_)
      · refine wg_s rfl rfl ?_
        exact wg_ret rfl rfl trivial ⟨fun h => absurd h (by omega), fun _ => ⟨rfl, rfl⟩⟩
      · refine wg_s rfl rfl ?_
        refine wg_s rfl rfl ?_
        refine wg_s rfl rfl ?_
        refine wg_s rfl rfl ?_
        refine wg_cf rfl rfl (sp_in _ _ _ _ _) ?_
        refine wg_eqb rfl (fun h36 => ?_) (fun h36 => ?_)
        · refine wg_s rfl rfl ?_
          exact wg_ret rfl rfl trivial ⟨fun h => absurd h (by omega), fun _ => ⟨rfl, rfl⟩⟩
        · refine wg_s rfl rfl ?_
          refine wg_gi rfl rfl (show _ = ag_I μ 10 0 1 from rfl) ?_
          refine wg_s rfl rfl ?_
          refine wg_if rfl rfl (fun h45 => ?_) (fun h45 => ?_)
          · refine wg_s rfl rfl ?_
            refine wg_gm rfl rfl hM ?_
            refine wg_s rfl rfl ?_
            refine wg_gi rfl rfl (show _ = ag_I μ 10 0 1 from rfl) ?_
            refine wg_s rfl rfl ?_
            refine wg_ias rfl hM rfl (by omega) (by omega) ?_
            refine wg_s rfl rfl ?_
            refine wg_gm rfl rfl hM ?_
            refine wg_s rfl rfl ?_
            refine wg_gi rfl rfl (show _ = ag_I μ 10 0 1 from rfl) ?_
            refine wg_s rfl rfl ?_
            refine wg_ias rfl hM rfl (by omega) (by omega) ?_
            refine wg_s rfl rfl ?_
            refine wg_gm rfl rfl hM ?_
            refine wg_s rfl rfl ?_
            refine wg_gi rfl rfl (show _ = ag_I μ 10 0 1 from rfl) ?_
            refine wg_s rfl rfl ?_
            refine wg_ias rfl hM rfl (by omega) (by omega) ?_
            refine wg_s rfl rfl ?_
            refine wg_gm rfl rfl hM ?_
            refine wg_s rfl rfl ?_
            refine wg_gi rfl rfl (show _ = ag_I μ 10 0 1 from rfl) ?_
            refine wg_s rfl rfl ?_
            refine wg_ias rfl hM rfl (by omega) (by omega) ?_
            refine wg_s rfl rfl ?_
            refine wg_s rfl rfl ?_
            refine wg_gi rfl rfl (show _ = ag_I μ 10 0 1 from rfl) ?_
            refine wg_s rfl rfl ?_
            refine wg_iadd rfl (by omega) (by omega) ?_
            refine wg_s rfl rfl ?_
            refine wg_s rfl rfl ?_
            refine wg_gi rfl rfl (show _ = ag_I μ 10 0 1 + 1 from rfl) ?_
            refine wg_s rfl rfl ?_
            refine wg_isub rfl (by omega) (by omega) ?_
            refine wg_ret rfl rfl trivial ⟨fun _ => ⟨?_, rfl⟩, fun h => absurd ?_ h⟩
            · congr 2; omega
            · omega
          · refine wg_s rfl rfl ?_
            exact wg_ret rfl rfl trivial ⟨fun h => absurd h (by omega), fun _ => ⟨rfl, rfl⟩⟩
theorem sp_mhelper (d : Nat) (p q r u : Int) (μ : ab_M) (hW : WM μ) : Wp (d + 3) 115 [ab_r 10 (some 0), ab_i p, ab_i q, ab_i r, ab_i u] μ (fun w μ' => ((0 ≤ p ∧ p ≤ 4095) ∧ (0 ≤ q ∧ q ≤ 4095) ∧ (0 ≤ r ∧ r ≤ 40) ∧ (0 ≤ u ∧ u ≤ 500) ∧ ag_I μ 10 0 6 < 8 → w = some (ab_i (ag_I μ 10 0 6)) ∧ μ' = (as_I (as_I (as_I (as_I (as_I μ 11 24 (ag_I μ 10 0 6).toNat p) 11 25 (ag_I μ 10 0 6).toNat q) 11 26 (ag_I μ 10 0 6).toNat r) 11 27 (ag_I μ 10 0 6).toNat u) 10 0 6 (ag_I μ 10 0 6 + 1))) ∧ (¬ ((0 ≤ p ∧ p ≤ 4095) ∧ (0 ≤ q ∧ q ≤ 4095) ∧ (0 ≤ r ∧ r ≤ 40) ∧ (0 ≤ u ∧ u ≤ 500) ∧ ag_I μ 10 0 6 < 8) → w = some (ab_i (-1)) ∧ μ' = μ)) := by
  refine wp_of ?_
  obtain ⟨hM, h1, h6, h26, h0, h14⟩ := hW
  refine wg_s rfl rfl ?_
  refine wg_cf rfl rfl (sp_isSet _ _ _) ?_
  refine wg_eqb rfl (fun h4 => ?_) (fun h4 => ?_)
  · refine wg_s rfl rfl ?_
    exact wg_ret rfl rfl trivial ⟨fun h => absurd h (by omega), fun _ => ⟨rfl, rfl⟩⟩
  · refine wg_s rfl rfl ?_
    refine wg_cf rfl rfl (sp_isSet _ _ _) ?_
    refine wg_eqb rfl (fun h11 => ?_) (fun h11 => ?_)
    · refine wg_s rfl rfl ?_
      exact wg_ret rfl rfl trivial ⟨fun h => absurd h (by omega), fun _ => ⟨rfl, rfl⟩⟩
    · refine wg_s rfl rfl ?_
      refine wg_s rfl rfl ?_
      refine wg_s rfl rfl ?_
      refine wg_s rfl rfl ?_
      refine wg_cf rfl rfl (sp_in _ _ _ _ _) ?_
      refine wg_eqb rfl (fun h23 => ?_) (fun h23 => ?_)
      · refine wg_s rfl rfl ?_
        exact wg_ret rfl rfl trivial ⟨fun h => absurd h (by omega), fun _ => ⟨rfl, rfl⟩⟩
      · refine wg_s rfl rfl ?_
        refine wg_s rfl rfl ?_
        refine wg_s rfl rfl ?_
        refine wg_s rfl rfl ?_
        refine wg_cf rfl rfl (sp_in _ _ _ _ _) ?_
        refine wg_eqb rfl (fun h36 => ?_) (fun h36 => ?_)
        · refine wg_s rfl rfl ?_
          exact wg_ret rfl rfl trivial ⟨fun h => absurd h (by omega), fun _ => ⟨rfl, rfl⟩⟩
        · refine wg_s rfl rfl ?_
          refine wg_gi rfl rfl (show _ = ag_I μ 10 0 6 from rfl) ?_
          refine wg_s rfl rfl ?_
          refine wg_if rfl rfl (fun h45 => ?_) (fun h45 => ?_)
          · refine wg_s rfl rfl ?_
            refine wg_gm rfl rfl hM ?_
            refine wg_s rfl rfl ?_
            refine wg_gi rfl rfl (show _ = ag_I μ 10 0 6 from rfl) ?_
            refine wg_s rfl rfl ?_
            refine wg_ias rfl hM rfl (by omega) (by omega) ?_
            refine wg_s rfl rfl ?_
            refine wg_gm rfl rfl hM ?_
            refine wg_s rfl rfl ?_
            refine wg_gi rfl rfl (show _ = ag_I μ 10 0 6 from rfl) ?_
            refine wg_s rfl rfl ?_
            refine wg_ias rfl hM rfl (by omega) (by omega) ?_
            refine wg_s rfl rfl ?_
            refine wg_gm rfl rfl hM ?_
            refine wg_s rfl rfl ?_
            refine wg_gi rfl rfl (show _ = ag_I μ 10 0 6 from rfl) ?_
            refine wg_s rfl rfl ?_
            refine wg_ias rfl hM rfl (by omega) (by omega) ?_
            refine wg_s rfl rfl ?_
            refine wg_gm rfl rfl hM ?_
            refine wg_s rfl rfl ?_
            refine wg_gi rfl rfl (show _ = ag_I μ 10 0 6 from rfl) ?_
            refine wg_s rfl rfl ?_
            refine wg_ias rfl hM rfl (by omega) (by omega) ?_
            refine wg_s rfl rfl ?_
            refine wg_s rfl rfl ?_
            refine wg_gi rfl rfl (show _ = ag_I μ 10 0 6 from rfl) ?_
            refine wg_s rfl rfl ?_
            refine wg_iadd rfl (by omega) (by omega) ?_
            refine wg_s rfl rfl ?_
            refine wg_s rfl rfl ?_
            refine wg_gi rfl rfl (show _ = ag_I μ 10 0 6 + 1 from rfl) ?_
            refine wg_s rfl rfl ?_
            refine wg_isub rfl (by omega) (by omega) ?_
            refine wg_ret rfl rfl trivial ⟨fun _ => ⟨?_, rfl⟩, fun h => absurd ?_ h⟩
            · congr 2; omega
            · omega
          · refine wg_s rfl rfl ?_
            exact wg_ret rfl rfl trivial ⟨fun h => absurd h (by omega), fun _ => ⟨rfl, rfl⟩⟩
theorem sp_mcheck (d : Nat) (p q : Int) (μ : ab_M) (hW : WM μ) : Wp (d + 3) 116 [ab_r 10 (some 0), ab_i p, ab_i q] μ (fun w μ' => ((0 ≤ p ∧ p < ag_I μ 10 0 6) ∧ (0 ≤ q ∧ q ≤ 500) → w = some (ab_i 1) ∧ μ' = as_I μ 11 27 p.toNat q) ∧ (¬ ((0 ≤ p ∧ p < ag_I μ 10 0 6) ∧ (0 ≤ q ∧ q ≤ 500)) → w = some (ab_i 0) ∧ μ' = μ)) := by
  refine wp_of ?_
  obtain ⟨hM, h1, h6, h26, h0, h14⟩ := id hW
  refine wg_s rfl rfl ?_
  refine wg_s rfl rfl ?_
  refine wg_cf rfl rfl (sp_isHelper _ _ _ hW) ?_
  refine wg_eqb rfl (fun h5 => ?_) (fun h5 => ?_)
  · refine wg_s rfl rfl ?_
    exact wg_ret rfl rfl (Or.inl rfl) ⟨fun h => absurd h (by omega), fun _ => ⟨rfl, rfl⟩⟩
  · refine wg_s rfl rfl ?_
    refine wg_s rfl rfl ?_
    refine wg_s rfl rfl ?_
    refine wg_s rfl rfl ?_
    refine wg_cf rfl rfl (sp_in _ _ _ _ _) ?_
    refine wg_neb rfl (fun h17 => ?_) (fun h17 => ?_)
    · refine wg_s rfl rfl ?_
      refine wg_gm rfl rfl hM ?_
      refine wg_s rfl rfl ?_
      refine wg_s rfl rfl ?_
      refine wg_ias rfl hM rfl (by omega) (by omega) ?_
      refine wg_s rfl rfl ?_
      exact wg_ret rfl rfl (Or.inr rfl) ⟨fun _ => ⟨rfl, rfl⟩, fun h => absurd (by omega) h⟩
    · refine wg_s rfl rfl ?_
      exact wg_ret rfl rfl (Or.inl rfl) ⟨fun h => absurd h (by omega), fun _ => ⟨rfl, rfl⟩⟩
theorem sp_mlike (d : Nat) (p q u v : Int) (μ : ab_M) (hW : WM μ) : Wp (d + 3) 117 [ab_r 10 (some 0), ab_i p, ab_i q, ab_i u, ab_i v] μ (fun w μ' => ((0 ≤ p ∧ p < ag_I μ 10 0 1) ∧ (0 ≤ q ∧ q < ag_I μ 10 0 6) ∧ (0 ≤ v ∧ v ≤ 99) → w = some (ab_i 1) ∧ μ' = if u = 0 then as_I μ 11 28 (8 * p + q).toNat v else as_I μ 11 29 (8 * p + q).toNat v) ∧ (¬ ((0 ≤ p ∧ p < ag_I μ 10 0 1) ∧ (0 ≤ q ∧ q < ag_I μ 10 0 6) ∧ (0 ≤ v ∧ v ≤ 99)) → w = some (ab_i 0) ∧ μ' = μ)) := by
  refine wp_of ?_
  obtain ⟨hM, h1, h6, h26, h0, h14⟩ := id hW
  refine wg_s rfl rfl ?_
  refine wg_s rfl rfl ?_
  refine wg_cf rfl rfl (sp_isHome _ _ _ hW) ?_
  refine wg_eqb rfl (fun h5 => ?_) (fun h5 => ?_)
  · refine wg_s rfl rfl ?_
    exact wg_ret rfl rfl (Or.inl rfl) ⟨fun h => absurd h (by omega), fun _ => ⟨rfl, rfl⟩⟩
  · refine wg_s rfl rfl ?_
    refine wg_s rfl rfl ?_
    refine wg_cf rfl rfl (sp_isHelper _ _ _ hW) ?_
    refine wg_eqb rfl (fun h13 => ?_) (fun h13 => ?_)
    · refine wg_s rfl rfl ?_
      exact wg_ret rfl rfl (Or.inl rfl) ⟨fun h => absurd h (by omega), fun _ => ⟨rfl, rfl⟩⟩
    · refine wg_s rfl rfl ?_
      refine wg_s rfl rfl ?_
      refine wg_s rfl rfl ?_
      refine wg_s rfl rfl ?_
      refine wg_cf rfl rfl (sp_in _ _ _ _ _) ?_
      refine wg_neb rfl (fun h26 => ?_) (fun h26 => ?_)
      · refine wg_s rfl rfl ?_
        refine wg_if rfl rfl (fun h32 => ?_) (fun h32 => ?_)
        · refine wg_s rfl rfl ?_
          refine wg_gm rfl rfl hM ?_
          refine wg_s rfl rfl ?_
          refine wg_s rfl rfl ?_
          refine wg_imul rfl (by omega) (by omega) ?_
          refine wg_s rfl rfl ?_
          refine wg_iadd rfl (by omega) (by omega) ?_
          refine wg_s rfl rfl ?_
          refine wg_ias rfl hM rfl (by omega) (by omega) ?_
          refine wg_s rfl rfl ?_
          exact wg_ret rfl rfl (Or.inr rfl) ⟨fun _ => ⟨rfl, by first | rw [if_pos h32] | rw [if_neg h32]⟩, fun h => absurd (by omega) h⟩
        · refine wg_s rfl rfl ?_
          refine wg_gm rfl rfl hM ?_
          refine wg_s rfl rfl ?_
          refine wg_s rfl rfl ?_
          refine wg_imul rfl (by omega) (by omega) ?_
          refine wg_s rfl rfl ?_
          refine wg_iadd rfl (by omega) (by omega) ?_
          refine wg_s rfl rfl ?_
          refine wg_ias rfl hM rfl (by omega) (by omega) ?_
          refine wg_s rfl rfl ?_
          refine wg_s rfl rfl ?_
          exact wg_ret rfl rfl (Or.inr rfl) ⟨fun _ => ⟨rfl, by first | rw [if_pos h32] | rw [if_neg h32]⟩, fun h => absurd (by omega) h⟩
      · refine wg_s rfl rfl ?_
        exact wg_ret rfl rfl (Or.inl rfl) ⟨fun h => absurd h (by omega), fun _ => ⟨rfl, rfl⟩⟩
/-- why a home and a helper can't, by the reference's memory -/
def m_why (μ : ab_M) (h p : Nat) : Int := if ab_and (ag_I μ 11 22 h) (ag_I μ 11 24 p) ≠ 0 then 1 else if ab_and (ag_I μ 11 25 p) (ag_I μ 11 21 h) ≠ 0 then 2 else if ag_I μ 11 26 p < ag_I μ 11 23 h then 3 else if ag_I μ 11 27 p < ag_I μ 10 0 0 then 4 else 0
theorem sp_mwhyNot (d : Nat) (h p : Int) (μ : ab_M) (hM : FM μ.2.2.1 μ.2.2.2.1) (hh : 0 ≤ h ∧ h < 8) (hp : 0 ≤ p ∧ p < 8) : Wp (d + 1) 118 [ab_r 10 (some 0), ab_i h, ab_i p] μ (fun w μ' => w = some (ab_i (m_why μ h.toNat p.toNat)) ∧ μ' = μ) := by
  refine wp_of ?_
  refine wg_s rfl rfl ?_
  refine wg_gm rfl rfl hM ?_
  refine wg_s rfl rfl ?_
  refine wg_ia rfl hM rfl (by omega) (by omega) ?_
  refine wg_s rfl rfl ?_
  refine wg_gm rfl rfl hM ?_
  refine wg_s rfl rfl ?_
  refine wg_ia rfl hM rfl (by omega) (by omega) ?_
  refine wg_s rfl rfl ?_
  refine wg_if rfl rfl (fun h13 => ?_) (fun h13 => ?_)
  · refine wg_s rfl rfl ?_
    refine wg_gm rfl rfl hM ?_
    refine wg_s rfl rfl ?_
    refine wg_ia rfl hM rfl (by omega) (by omega) ?_
    refine wg_s rfl rfl ?_
    refine wg_gm rfl rfl hM ?_
    refine wg_s rfl rfl ?_
    refine wg_ia rfl hM rfl (by omega) (by omega) ?_
    refine wg_s rfl rfl ?_
    refine wg_if rfl rfl (fun h33 => ?_) (fun h33 => ?_)
    · refine wg_s rfl rfl ?_
      refine wg_gm rfl rfl hM ?_
      refine wg_s rfl rfl ?_
      refine wg_ia rfl hM rfl (by omega) (by omega) ?_
      refine wg_s rfl rfl ?_
      refine wg_gm rfl rfl hM ?_
      refine wg_s rfl rfl ?_
      refine wg_ia rfl hM rfl (by omega) (by omega) ?_
      refine wg_if rfl rfl (fun h52 => ?_) (fun h52 => ?_)
      · refine wg_s rfl rfl ?_
        refine wg_gm rfl rfl hM ?_
        refine wg_s rfl rfl ?_
        refine wg_ia rfl hM rfl (by omega) (by omega) ?_
        refine wg_s rfl rfl ?_
        refine wg_s rfl rfl ?_
        refine wg_if rfl rfl (fun h69 => ?_) (fun h69 => ?_)
        · refine wg_s rfl rfl ?_
          refine wg_ret rfl rfl trivial ⟨?_, rfl⟩
          unfold m_why
          congr 2
          repeat (first | rw [if_pos (by omega)] | rw [if_neg (by omega)])
        · refine wg_s rfl rfl ?_
          refine wg_s rfl rfl ?_
          refine wg_ret rfl rfl trivial ⟨?_, rfl⟩
          unfold m_why
          congr 2
          repeat (first | rw [if_pos (by omega)] | rw [if_neg (by omega)])
      · refine wg_s rfl rfl ?_
        refine wg_s rfl rfl ?_
        refine wg_ret rfl rfl trivial ⟨?_, rfl⟩
        unfold m_why
        congr 2
        repeat (first | rw [if_pos (by omega)] | rw [if_neg (by omega)])
    · refine wg_s rfl rfl ?_
      refine wg_s rfl rfl ?_
      refine wg_ret rfl rfl trivial ⟨?_, rfl⟩
      unfold m_why
      congr 2
      repeat (first | rw [if_pos (by omega)] | rw [if_neg (by omega)])
  · refine wg_s rfl rfl ?_
    refine wg_s rfl rfl ?_
    refine wg_ret rfl rfl trivial ⟨?_, rfl⟩
    unfold m_why
    congr 2
    repeat (first | rw [if_pos (by omega)] | rw [if_neg (by omega)])
theorem sp_mwhy (d : Nat) (h p : Int) (μ : ab_M) (hW : WM μ) : Wp (d + 3) 119 [ab_r 10 (some 0), ab_i h, ab_i p] μ (fun w μ' => w = some (ab_i (if (0 ≤ h ∧ h < ag_I μ 10 0 1) ∧ (0 ≤ p ∧ p < ag_I μ 10 0 6) then m_why μ h.toNat p.toNat else -1)) ∧ μ' = μ) := by
  refine wp_of ?_
  obtain ⟨hM, h1, h6, h26, h0, h14⟩ := id hW
  refine wg_s rfl rfl ?_
  refine wg_s rfl rfl ?_
  refine wg_cf rfl rfl (sp_isHome _ _ _ hW) ?_
  refine wg_eqb rfl (fun h5 => ?_) (fun h5 => ?_)
  · refine wg_s rfl rfl ?_
    refine wg_s rfl rfl ?_
    refine wg_ret rfl rfl trivial ⟨?_, rfl⟩
    first | rw [if_pos (by omega)] | rw [if_neg (by omega)]
  · refine wg_s rfl rfl ?_
    refine wg_s rfl rfl ?_
    refine wg_cf rfl rfl (sp_isHelper _ _ _ hW) ?_
    refine wg_neb rfl (fun h13 => ?_) (fun h13 => ?_)
    · refine wg_s rfl rfl ?_
      refine wg_s rfl rfl ?_
      refine wg_s rfl rfl ?_
      refine wg_cf rfl rfl (sp_mwhyNot _ _ _ _ hM (by omega) (by omega)) ?_
      refine wg_ret rfl rfl trivial ⟨?_, rfl⟩
      first | rw [if_pos (by omega)] | rw [if_neg (by omega)]
    · refine wg_s rfl rfl ?_
      refine wg_s rfl rfl ?_
      refine wg_ret rfl rfl trivial ⟨?_, rfl⟩
      first | rw [if_pos (by omega)] | rw [if_neg (by omega)]
