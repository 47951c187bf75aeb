/-! ===== the class: a clause ===== -/
def x_rf (μ : ab_M) (f p : Int) : ab_M := as_I (as_I μ 0 0 3 f) 0 0 4 p
def sw4 (a b c d : Bool) : Int := (bif a then 1 else 0) + (bif b then 2 else 0) + (bif c then 4 else 0) + (bif d then 8 else 0)
def sw (S : Nat → Bool) : Int := sw4 (S 0) (S 1) (S 2) (S 3)
theorem sw_a : ∀ a b c d : Bool, ((ab_and (sw4 a b c d) (ab_shl 1 0) = 0) ↔ a = false) ∧ ((ab_and (sw4 a b c d) (ab_shl 1 1) = 0) ↔ b = false) ∧ ((ab_and (sw4 a b c d) (ab_shl 1 2) = 0) ↔ c = false) ∧ ((ab_and (sw4 a b c d) (ab_shl 1 3) = 0) ↔ d = false) := by decide +kernel
theorem sw_o : ∀ a b c d : Bool, ab_or (sw4 a b c d) (ab_shl 1 0) = sw4 true b c d ∧ ab_or (sw4 a b c d) (ab_shl 1 1) = sw4 a true c d ∧ ab_or (sw4 a b c d) (ab_shl 1 2) = sw4 a b true d ∧ ab_or (sw4 a b c d) (ab_shl 1 3) = sw4 a b c true := by decide +kernel
theorem sw_and (S : Nat → Bool) {w : Int} (h0 : 0 ≤ w) (h3 : w ≤ 3) : ab_and (sw S) (ab_shl 1 w) = 0 ↔ S w.toNat = false := by
  have := sw_a (S 0) (S 1) (S 2) (S 3)
  rcases (show w = 0 ∨ w = 1 ∨ w = 2 ∨ w = 3 by omega) with rfl | rfl | rfl | rfl
  · exact this.1
  · exact this.2.1
  · exact this.2.2.1
  · exact this.2.2.2
theorem sw_or (S : Nat → Bool) {w : Int} (h0 : 0 ≤ w) (h3 : w ≤ 3) : ab_or (sw S) (ab_shl 1 w) = sw (sb S w.toNat) := by
  have := sw_o (S 0) (S 1) (S 2) (S 3)
  rcases (show w = 0 ∨ w = 1 ∨ w = 2 ∨ w = 3 by omega) with rfl | rfl | rfl | rfl
  · exact this.1
  · exact this.2.1
  · exact this.2.2.1
  · exact this.2.2.2
theorem sp_refuse (d : Nat) (f p : Int) {μ : ab_M} (h6 : ag_I μ 0 0 6 = p) : Wp (d + 1) 13 [ab_r 0 (some 0), ab_i f] μ (fun vv μ' => vv = some (ab_i 0) ∧ μ' = x_rf μ f p) := by
  refine wp_of ?_
  refine wg_s rfl rfl ?_
  refine wg_s rfl rfl ?_
  refine wg_s rfl rfl ?_
  refine wg_s rfl rfl ?_
  refine wg_s rfl rfl ?_
  refine wg_gi rfl rfl (show _ = p from h6) ?_
  refine wg_s rfl rfl ?_
  refine wg_s rfl rfl ?_
  exact wg_ret rfl rfl (Or.inl rfl) ⟨rfl, rfl⟩
theorem xw_m1 {U : Nat → Int} {s e : Nat} (h : ¬ 0 ≤ x_w U s e) : x_w U s e = -1 := by have := xw_rng U s e; omega
theorem sp_rw1 (d : Nat) {μ : ab_M} {l : Nat} {U : Nat → Int} (hR : RS μ l U) (s e : Nat) (h6 : ag_I μ 0 0 6 = (s : Int)) (h7 : ag_I μ 0 0 7 = (e : Int)) (hse : s ≤ e) (hel : e ≤ l) (S : Nat → Bool) (h1 : ag_I μ 0 0 1 = sw S) (k : Int) (h5 : ag_I μ 0 0 5 = k) (hb : ¬ (k = 1 ∧ 0 ≤ x_w U s e)) : Wp (d + 7) 11 [ab_r 0 (some 0), ab_r 7 (some 0)] μ (fun vv μ' => vv = some (ab_i (-1)) ∧ μ' = x_rf μ 1 (s : Int)) := by
  refine wp_of ?_
  refine wg_s rfl rfl ?_
  refine wg_gi rfl rfl (show _ = k from h5) ?_
  refine wg_s rfl rfl ?_
  refine wg_if rfl rfl (fun h5_ => ?_) (fun h5_ => ?_)
  · refine wg_s rfl rfl ?_
    refine wg_s rfl rfl ?_
    refine wg_s rfl rfl ?_
    refine wg_s rfl rfl ?_
    refine wg_s rfl rfl ?_
    refine wg_at (pc2 := 23) (by decide) ?_
    refine wg_s rfl rfl ?_
    refine wg_s rfl rfl ?_
    refine wg_cf rfl rfl (sp_refuse _ _ _ h6) ?_
    refine wg_s rfl rfl ?_
    refine wg_s rfl rfl ?_
    exact wg_ret rfl rfl trivial ⟨rfl, rfl⟩
  · refine wg_s rfl rfl ?_
    refine wg_s rfl rfl ?_
    refine wg_cf rfl rfl (sp_word _ hR s e h6 h7 hse hel) ?_
    refine wg_s rfl rfl ?_
    refine wg_s rfl rfl ?_
    refine wg_s rfl rfl ?_
    refine wg_s rfl rfl ?_
    refine wg_if rfl rfl (fun h20 => absurd (xw_m1 (fun q => hb ⟨by omega, q⟩)) h20) (fun h20 => ?_)
    refine wg_s rfl rfl ?_
    refine wg_s rfl rfl ?_
    refine wg_cf rfl rfl (sp_refuse _ _ _ h6) ?_
    refine wg_s rfl rfl ?_
    refine wg_s rfl rfl ?_
    exact wg_ret rfl rfl trivial ⟨rfl, rfl⟩
theorem sp_rw2 (d : Nat) {μ : ab_M} {l : Nat} {U : Nat → Int} (hR : RS μ l U) (s e : Nat) (h6 : ag_I μ 0 0 6 = (s : Int)) (h7 : ag_I μ 0 0 7 = (e : Int)) (hse : s ≤ e) (hel : e ≤ l) (S : Nat → Bool) (h1 : ag_I μ 0 0 1 = sw S) (k : Int) (h5 : ag_I μ 0 0 5 = k) (hk : k = 1) (hw : 0 ≤ x_w U s e) (hs : S (x_w U s e).toNat = true) : Wp (d + 7) 11 [ab_r 0 (some 0), ab_r 7 (some 0)] μ (fun vv μ' => vv = some (ab_i (-1)) ∧ μ' = x_rf μ 2 (s : Int)) := by
  refine wp_of ?_
  have hxr := xw_rng U s e
  refine wg_s rfl rfl ?_
  refine wg_gi rfl rfl (show _ = k from h5) ?_
  refine wg_s rfl rfl ?_
  refine wg_if rfl rfl (fun h5_ => absurd hk h5_) (fun h5_ => ?_)
  refine wg_s rfl rfl ?_
  refine wg_s rfl rfl ?_
  refine wg_cf rfl rfl (sp_word _ hR s e h6 h7 hse hel) ?_
  refine wg_s rfl rfl ?_
  refine wg_s rfl rfl ?_
  refine wg_s rfl rfl ?_
  refine wg_s rfl rfl ?_
  refine wg_if rfl rfl (fun h20 => ?_) (fun h20 => absurd h20 (by omega))
  refine wg_s rfl rfl ?_
  refine wg_gi rfl rfl (show _ = sw S from h1) ?_
  refine wg_s rfl rfl ?_
  refine wg_s rfl rfl ?_
  refine wg_s rfl rfl ?_
  refine wg_s rfl rfl ?_
  refine wg_if rfl rfl (fun h39 => absurd ((sw_and S hw hxr.2).mp h39) (by rw [hs]; decide)) (fun h39 => ?_)
  refine wg_s rfl rfl ?_
  refine wg_s rfl rfl ?_
  refine wg_cf rfl rfl (sp_refuse _ _ _ h6) ?_
  refine wg_s rfl rfl ?_
  refine wg_s rfl rfl ?_
  exact wg_ret rfl rfl trivial ⟨rfl, rfl⟩
theorem sp_rw3 (d : Nat) {μ : ab_M} {l : Nat} {U : Nat → Int} (hR : RS μ l U) (s e : Nat) (h6 : ag_I μ 0 0 6 = (s : Int)) (h7 : ag_I μ 0 0 7 = (e : Int)) (hse : s ≤ e) (hel : e ≤ l) (S : Nat → Bool) (h1 : ag_I μ 0 0 1 = sw S) (k : Int) (h5 : ag_I μ 0 0 5 = k) (hk : k = 1) (hw : 0 ≤ x_w U s e) (hs : S (x_w U s e).toNat = false) : Wp (d + 7) 11 [ab_r 0 (some 0), ab_r 7 (some 0)] μ (fun vv μ' => vv = some (ab_i (x_w U s e)) ∧ μ' = as_I μ 0 0 1 (sw (sb S (x_w U s e).toNat))) := by
  refine wp_of ?_
  have hxr := xw_rng U s e
  refine wg_s rfl rfl ?_
  refine wg_gi rfl rfl (show _ = k from h5) ?_
  refine wg_s rfl rfl ?_
  refine wg_if rfl rfl (fun h5_ => absurd hk h5_) (fun h5_ => ?_)
  refine wg_s rfl rfl ?_
  refine wg_s rfl rfl ?_
  refine wg_cf rfl rfl (sp_word _ hR s e h6 h7 hse hel) ?_
  refine wg_s rfl rfl ?_
  refine wg_s rfl rfl ?_
  refine wg_s rfl rfl ?_
  refine wg_s rfl rfl ?_
  refine wg_if rfl rfl (fun h20 => ?_) (fun h20 => absurd h20 (by omega))
  refine wg_s rfl rfl ?_
  refine wg_gi rfl rfl (show _ = sw S from h1) ?_
  refine wg_s rfl rfl ?_
  refine wg_s rfl rfl ?_
  refine wg_s rfl rfl ?_
  refine wg_s rfl rfl ?_
  refine wg_if rfl rfl (fun h39 => ?_) (fun h39 => absurd ((sw_and S hw hxr.2).mpr hs) h39)
  refine wg_s rfl rfl ?_
  refine wg_s rfl rfl ?_
  refine wg_gi rfl rfl (show _ = sw S from h1) ?_
  refine wg_s rfl rfl ?_
  refine wg_s rfl rfl ?_
  refine wg_s rfl rfl ?_
  refine wg_s rfl rfl ?_
  refine wg_s rfl rfl ?_
  refine wg_s rfl rfl ?_
  refine wg_ret rfl rfl trivial ⟨rfl, ?_⟩
  rw [← sw_or S hw hxr.2]
theorem sp_most (d : Nat) (w : Int) {μ : ab_M} (hX : XF μ) (hS : XS μ) (hw : 0 ≤ w ∧ w ≤ 3) : Wp (d + 1) 2 [ab_i w] μ (fun vv μ' => vv = some (ab_i (mo w.toNat)) ∧ μ' = μ) := by
  refine wp_of ?_
  refine wg_s rfl rfl ?_
  refine wg_if rfl rfl (fun h1 => absurd h1 (by omega)) (fun h1 => ?_)
  refine wg_s rfl rfl ?_
  refine wg_s rfl rfl ?_
  refine wg_len rfl rfl (xf_l hX rfl) ?_
  refine wg_if rfl rfl (fun h9 => absurd h9 (by omega)) (fun h9 => ?_)
  refine wg_s rfl rfl ?_
  refine wg_s rfl rfl ?_
  refine wg_ar rfl (xf_l hX rfl) (by omega) (by omega) (show _ = mo w.toNat from (hS.1 w.toNat (by omega)).2) ?_
  refine wg_s rfl rfl ?_
  exact wg_ret rfl rfl trivial ⟨rfl, rfl⟩
theorem sp_rn1 (d : Nat) {μ : ab_M} {l : Nat} {U : Nat → Int} (hR : RS μ l U) (s e : Nat) (h6 : ag_I μ 0 0 6 = (s : Int)) (h7 : ag_I μ 0 0 7 = (e : Int)) (hse : s ≤ e) (hel : e ≤ l) (k : Int) (h5 : ag_I μ 0 0 5 = k) (w : Int) (hw : 0 ≤ w ∧ w ≤ 3) (hk : k ≠ 2) : Wp (d + 3) 12 [ab_r 0 (some 0), ab_r 7 (some 0), ab_i w] μ (fun vv μ' => vv = some (ab_i 0) ∧ μ' = x_rf μ 1 (s : Int)) := by
  refine wp_of ?_
  obtain ⟨hX, hS, hl, hl2, hU⟩ := id hR
  refine wg_s rfl rfl ?_
  refine wg_gi rfl rfl (show _ = k from h5) ?_
  refine wg_s rfl rfl ?_
  refine wg_if rfl rfl (fun h5_ => absurd h5_ hk) (fun h5_ => ?_)
  refine wg_s rfl rfl ?_
  refine wg_s rfl rfl ?_
  refine wg_cf rfl rfl (sp_refuse _ _ _ h6) ?_
  exact wg_ret rfl rfl (by first | exact Or.inl rfl | exact Or.inr rfl) ⟨rfl, rfl⟩
theorem sp_rn2 (d : Nat) {μ : ab_M} {l : Nat} {U : Nat → Int} (hR : RS μ l U) (s e : Nat) (h6 : ag_I μ 0 0 6 = (s : Int)) (h7 : ag_I μ 0 0 7 = (e : Int)) (hse : s ≤ e) (hel : e ≤ l) (k : Int) (h5 : ag_I μ 0 0 5 = k) (w : Int) (hw : 0 ≤ w ∧ w ≤ 3) (hk : k = 2) (hd : ∀ i, s ≤ i → i < e → dg (U i) = true) (hv : mo w.toNat < x_nu U s (e - s)) : Wp (d + 3) 12 [ab_r 0 (some 0), ab_r 7 (some 0), ab_i w] μ (fun vv μ' => vv = some (ab_i 0) ∧ μ' = x_rf μ 3 (s : Int)) := by
  refine wp_of ?_
  obtain ⟨hX, hS, hl, hl2, hU⟩ := id hR
  refine wg_s rfl rfl ?_
  refine wg_gi rfl rfl (show _ = k from h5) ?_
  refine wg_s rfl rfl ?_
  refine wg_if rfl rfl (fun h5_ => ?_) (fun h5_ => absurd hk h5_)
  refine wg_s rfl rfl ?_
  refine wg_s rfl rfl ?_
  refine wg_cf rfl rfl (sp_value _ hR s e h6 h7 hse hel hd) ?_
  refine wg_s rfl rfl ?_
  refine wg_s rfl rfl ?_
  refine wg_s rfl rfl ?_
  refine wg_cf rfl rfl (sp_most _ _ hX hS hw) ?_
  refine wg_if rfl rfl (fun h25 => absurd h25 (by omega)) (fun h25 => ?_)
  refine wg_s rfl rfl ?_
  refine wg_s rfl rfl ?_
  refine wg_cf rfl rfl (sp_refuse _ _ _ h6) ?_
  exact wg_ret rfl rfl (by first | exact Or.inl rfl | exact Or.inr rfl) ⟨rfl, rfl⟩
theorem sp_rn3 (d : Nat) {μ : ab_M} {l : Nat} {U : Nat → Int} (hR : RS μ l U) (s e : Nat) (h6 : ag_I μ 0 0 6 = (s : Int)) (h7 : ag_I μ 0 0 7 = (e : Int)) (hse : s ≤ e) (hel : e ≤ l) (k : Int) (h5 : ag_I μ 0 0 5 = k) (w : Int) (hw : 0 ≤ w ∧ w ≤ 3) (hk : k = 2) (hd : ∀ i, s ≤ i → i < e → dg (U i) = true) (hv : x_nu U s (e - s) ≤ mo w.toNat) : Wp (d + 3) 12 [ab_r 0 (some 0), ab_r 7 (some 0), ab_i w] μ (fun vv μ' => vv = some (ab_i 1) ∧ μ' = as_I μ 11 1 w.toNat (x_nu U s (e - s))) := by
  refine wp_of ?_
  obtain ⟨hX, hS, hl, hl2, hU⟩ := id hR
  refine wg_s rfl rfl ?_
  refine wg_gi rfl rfl (show _ = k from h5) ?_
  refine wg_s rfl rfl ?_
  refine wg_if rfl rfl (fun h5_ => ?_) (fun h5_ => absurd hk h5_)
  refine wg_s rfl rfl ?_
  refine wg_s rfl rfl ?_
  refine wg_cf rfl rfl (sp_value _ hR s e h6 h7 hse hel hd) ?_
  refine wg_s rfl rfl ?_
  refine wg_s rfl rfl ?_
  refine wg_s rfl rfl ?_
  refine wg_cf rfl rfl (sp_most _ _ hX hS hw) ?_
  refine wg_if rfl rfl (fun h25 => ?_) (fun h25 => absurd hv h25)
  refine wg_s rfl rfl ?_
  refine wg_if rfl rfl (fun h35 => absurd h35 (by omega)) (fun h35 => ?_)
  refine wg_s rfl rfl ?_
  refine wg_s rfl rfl ?_
  refine wg_gx rfl rfl hX ?_
  refine wg_len rfl rfl (xf_l hX rfl) ?_
  refine wg_if rfl rfl (fun h44 => absurd h44 (by omega)) (fun h44 => ?_)
  refine wg_s rfl rfl ?_
  refine wg_gx rfl rfl hX ?_
  refine wg_s rfl rfl ?_
  refine wg_s rfl rfl ?_
  refine wg_axs rfl (xf_l hX rfl) (by omega) (by omega) ?_
  refine wg_s rfl rfl ?_
  exact wg_ret rfl rfl (by first | exact Or.inl rfl | exact Or.inr rfl) ⟨rfl, rfl⟩
