/-! ===== the class: texts, the tape's bytes, one token ===== -/
def RS (μ : ab_M) (l : Nat) (U : Nat → Int) : Prop := XF μ ∧ XS μ ∧ ag_I μ 7 0 1 = (l : Int) ∧ l ≤ 200 ∧ ∀ i, i < l → ag_I μ 11 0 i = U i ∧ 0 ≤ U i ∧ U i ≤ 255
theorem RS_0 {μ : ab_M} {l : Nat} {U : Nat → Int} (h : RS μ l U) (k : Nat) (x : Int) : RS (as_I μ 0 0 k x) l U := ⟨h.1, XS_B (fun _ _ _ _ => ag_I_n (by omega)) h.2.1, (ag_I_n (by omega)).trans h.2.2.1, h.2.2.2.1, fun i hi => ⟨(ag_I_n (by omega)).trans (h.2.2.2.2 i hi).1, (h.2.2.2.2 i hi).2⟩⟩
theorem RS_1 {μ : ab_M} {l : Nat} {U : Nat → Int} (h : RS μ l U) (k : Nat) (x : Int) : RS (as_I μ 11 1 k x) l U := ⟨h.1, XS_B (fun _ _ _ _ => ag_I_n (by omega)) h.2.1, (ag_I_n (by omega)).trans h.2.2.1, h.2.2.2.1, fun i hi => ⟨(ag_I_n (by omega)).trans (h.2.2.2.2 i hi).1, (h.2.2.2.2 i hi).2⟩⟩
theorem as_I_2 (μ : ab_M) (t n k : Nat) (x y : Int) : as_I (as_I μ t n k x) t n k y = as_I μ t n k y := by
  refine Prod.ext ?_ rfl
  funext t' n' k'
  show (if t' = t ∧ n' = n ∧ k' = k then y else (if t' = t ∧ n' = n ∧ k' = k then x else μ.1 t' n' k')) = (if t' = t ∧ n' = n ∧ k' = k then y else μ.1 t' n' k')
  by_cases c : t' = t ∧ n' = n ∧ k' = k
  · rw [if_pos c, if_pos c]
  · rw [if_neg c, if_neg c, if_neg c]
theorem as_I_s {μ : ab_M} {t n k : Nat} {x : Int} (h : ag_I μ t n k = x) : as_I μ t n k x = μ := by
  refine Prod.ext ?_ rfl
  funext t' n' k'
  show (if t' = t ∧ n' = n ∧ k' = k then x else μ.1 t' n' k') = μ.1 t' n' k'
  by_cases c : t' = t ∧ n' = n ∧ k' = k
  · obtain ⟨rfl, rfl, rfl⟩ := c
    rw [if_pos ⟨rfl, rfl, rfl⟩]; exact h.symm
  · rw [if_neg c]
theorem ck_b : ∀ b : Fin 128, ab_i2c (ab_and ((b.val : Nat) : Int) 255) = ((b.val : Nat) : Int) := by decide +kernel
theorem ck_c : ∀ b : Fin 128, ab_i2c ((b.val : Nat) : Int) = ((b.val : Nat) : Int) := by decide +kernel
theorem bt_r : ∀ w, w < 4 → ∀ k, k < ab_bl.getD w 0 → 0 ≤ (ab_bt.getD w []).getD k 0 ∧ (ab_bt.getD w []).getD k 0 < 128 := by decide
theorem bl_r : ∀ w, w < 4 → ab_shr ((ab_bl.getD w 0 : Nat) : Int) 0 = ((ab_bl.getD w 0 : Nat) : Int) ∧ 5 ≤ ab_bl.getD w 0 ∧ ab_bl.getD w 0 ≤ 6 := by decide +kernel
theorem xs_21 : ∀ w, w < 4 → xs_n 21 w 0 = some w ∧ xs_l 22 w = some (ab_bl.getD w 0) := by decide
theorem sp_chk3 (d : Nat) (i n : Int) (oo : Option Nat) (μ : ab_M) (hi : 0 ≤ i ∧ i < n) : Wp (d + 1) 163 [ab_i i, ab_i n, ab_r 23 oo] μ (fun vv μ' => vv = some (ab_i i) ∧ μ' = μ) := by
  refine wp_of ?_
  refine wg_s rfl rfl ?_
  refine wg_if rfl rfl (fun h1 => absurd h1 (by omega)) (fun h1 => ?_)
  refine wg_s rfl rfl ?_
  refine wg_s rfl rfl ?_
  refine wg_if rfl rfl (fun h6 => ?_) (fun h6 => absurd hi.2 h6)
  refine wg_s rfl rfl ?_
  exact wg_ret rfl rfl trivial ⟨rfl, rfl⟩
theorem sp_chk2 (d : Nat) (i n : Int) (μ : ab_M) (hi : 0 ≤ i ∧ i < n) : Wp (d + 2) 162 [ab_i i, ab_i n] μ (fun vv μ' => vv = none ∧ μ' = μ) := by
  refine wp_of ?_
  refine wg_s rfl rfl ?_
  refine wg_s rfl rfl ?_
  refine wg_s rfl rfl ?_
  refine wg_cf rfl rfl (sp_chk3 _ _ _ _ _ hi) ?_
  refine wg_s rfl rfl ?_
  exact wg_ret rfl rfl trivial ⟨rfl, rfl⟩
theorem sp_coder (d : Nat) {μ : ab_M} (hX : XF μ) (hS : XS μ) (w : Nat) (hw : w < 4) : Wp (d + 1) 158 [ab_r 21 (some w)] μ (fun vv μ' => vv = some (ab_i 0) ∧ μ' = μ) := by
  refine wp_of ?_
  have hr : ag_R μ 21 w 0 = some w := hX.1 21 w 0 w (xs_21 w hw).1
  have hl : ag_L μ 22 w = ab_bl.getD w 0 := hX.2.1 22 w _ (xs_21 w hw).2
  have hc : ag_I μ 21 w 1 = 0 := (hS.2 w (by omega)).1
  refine wg_s rfl rfl ?_
  refine wg_s rfl rfl ?_
  refine wg_at (pc2 := 6) (by decide) ?_
  refine wg_s rfl rfl ?_
  refine wg_gi rfl rfl (show _ = 0 from hc) ?_
  refine wg_s rfl rfl ?_
  exact wg_ret rfl rfl (show ab_i2b 0 = 0 by decide) ⟨rfl, rfl⟩
theorem sp_isLat (d : Nat) {μ : ab_M} (hX : XF μ) (hS : XS μ) (w : Nat) (hw : w < 4) : Wp (d + 1) 159 [ab_r 21 (some w)] μ (fun vv μ' => vv = some (ab_i 1) ∧ μ' = μ) := by
  refine wp_of ?_
  have hr : ag_R μ 21 w 0 = some w := hX.1 21 w 0 w (xs_21 w hw).1
  have hl : ag_L μ 22 w = ab_bl.getD w 0 := hX.2.1 22 w _ (xs_21 w hw).2
  have hc : ag_I μ 21 w 1 = 0 := (hS.2 w (by omega)).1
  refine wg_s rfl rfl ?_
  refine wg_s rfl rfl ?_
  refine wg_at (pc2 := 6) (by decide) ?_
  refine wg_s rfl rfl ?_
  refine wg_gi rfl rfl (show _ = 0 from hc) ?_
  refine wg_s rfl rfl ?_
  refine wg_at (pc2 := 13) (by decide) ?_
  refine wg_s rfl rfl ?_
  refine wg_s rfl rfl ?_
  exact wg_ret rfl rfl (Or.inr rfl) ⟨rfl, rfl⟩
theorem sp_slen (d : Nat) {μ : ab_M} (hX : XF μ) (hS : XS μ) (w : Nat) (hw : w < 4) : Wp (d + 2) 156 [ab_r 21 (some w)] μ (fun vv μ' => vv = some (ab_i ((ab_bl.getD w 0 : Nat) : Int)) ∧ μ' = μ) := by
  refine wp_of ?_
  have hr : ag_R μ 21 w 0 = some w := hX.1 21 w 0 w (xs_21 w hw).1
  have hl : ag_L μ 22 w = ab_bl.getD w 0 := hX.2.1 22 w _ (xs_21 w hw).2
  have hc : ag_I μ 21 w 1 = 0 := (hS.2 w (by omega)).1
  refine wg_s rfl rfl ?_
  refine wg_gr rfl rfl (hr) ?_
  refine wg_len rfl rfl hl ?_
  refine wg_s rfl rfl ?_
  refine wg_cf rfl rfl (sp_coder _ hX hS w hw) ?_
  refine wg_s rfl rfl ?_
  refine wg_ret rfl rfl trivial ⟨?_, rfl⟩
  rw [(bl_r w hw).1]
theorem ck_bt {b : Int} (h : 0 ≤ b ∧ b < 128) : ab_i2c (ab_and b 255) = b := by
  have := ck_b ⟨b.toNat, by omega⟩
  rw [show (((⟨b.toNat, by omega⟩ : Fin 128).val : Nat) : Int) = b from by show ((b.toNat : Nat) : Int) = b; omega] at this
  exact this
theorem ck_rc {b : Int} (h : 0 ≤ b ∧ b < 128) : ab_rc (some .char) b := by
  show ab_i2c b = b
  have := ck_c ⟨b.toNat, by omega⟩
  rw [show (((⟨b.toNat, by omega⟩ : Fin 128).val : Nat) : Int) = b from by show ((b.toNat : Nat) : Int) = b; omega] at this
  exact this
theorem wg_bs {d k : Nat} {μ : ab_M} {pc : Nat} {l : ab_L} {st : List ab_V} {Q : Option ab_V → ab_M → Prop} {nx a b : Nat} {s : Nat} {j x : Int} (hi : ab_ins k pc = some (.baload, nx, a, b)) (h1 : 0 ≤ j) (h2 : j < (ag_L μ 22 s : Int)) (hv : ag_I μ 22 s j.toNat = x) (K : Wg d k μ nx l (ab_i x :: st) Q) : Wg d k μ pc l (ab_i j :: ab_r 22 (some s) :: st) Q := by
  refine wg_c hi rfl ⟨h1, h2⟩ ?_
  rw [hv]; exact K
theorem sp_latAt (d : Nat) {μ : ab_M} (hX : XF μ) (hS : XS μ) (w : Nat) (hw : w < 4) (k : Nat) (hk : k < ab_bl.getD w 0) : Wp (d + 3) 160 [ab_r 22 (some w), ab_i (k : Int)] μ (fun vv μ' => vv = some (ab_i ((ab_bt.getD w []).getD k 0)) ∧ μ' = μ) := by
  refine wp_of ?_
  have hr : ag_R μ 21 w 0 = some w := hX.1 21 w 0 w (xs_21 w hw).1
  have hl : ag_L μ 22 w = ab_bl.getD w 0 := hX.2.1 22 w _ (xs_21 w hw).2
  have hc : ag_I μ 21 w 1 = 0 := (hS.2 w (by omega)).1
  have hb : ag_I μ 22 w k = (ab_bt.getD w []).getD k 0 := (hS.2 w (by omega)).2 k (by have := bl_r w hw; omega)
  have hbr := bt_r w hw k hk
  refine wg_s rfl rfl ?_
  refine wg_s rfl rfl ?_
  refine wg_len rfl rfl hl ?_
  refine wg_cv rfl rfl (sp_chk2 _ _ _ _ (by omega)) ?_
  refine wg_s rfl rfl ?_
  refine wg_s rfl rfl ?_
  refine wg_bs rfl (by omega) (by rw [hl]; omega) (show _ = (ab_bt.getD w []).getD k 0 from hb) ?_
  refine wg_s rfl rfl ?_
  refine wg_s rfl rfl ?_
  refine wg_s rfl rfl ?_
  refine wg_ret rfl rfl ?_ ⟨?_, rfl⟩
  · rw [ck_bt hbr]; exact ck_rc hbr
  · rw [ck_bt hbr]
theorem sp_charAt (d : Nat) {μ : ab_M} (hX : XF μ) (hS : XS μ) (w : Nat) (hw : w < 4) (k : Nat) (hk : k < ab_bl.getD w 0) : Wp (d + 4) 157 [ab_r 21 (some w), ab_i (k : Int)] μ (fun vv μ' => vv = some (ab_i ((ab_bt.getD w []).getD k 0)) ∧ μ' = μ) := by
  refine wp_of ?_
  have hr : ag_R μ 21 w 0 = some w := hX.1 21 w 0 w (xs_21 w hw).1
  have hl : ag_L μ 22 w = ab_bl.getD w 0 := hX.2.1 22 w _ (xs_21 w hw).2
  have hc : ag_I μ 21 w 1 = 0 := (hS.2 w (by omega)).1
  have hb : ag_I μ 22 w k = (ab_bt.getD w []).getD k 0 := (hS.2 w (by omega)).2 k (by have := bl_r w hw; omega)
  have hbr := bt_r w hw k hk
  refine wg_s rfl rfl ?_
  refine wg_cf rfl rfl (sp_isLat _ hX hS w hw) ?_
  refine wg_s rfl rfl ?_
  refine wg_at (pc2 := 7) (by decide) ?_
  refine wg_s rfl rfl ?_
  refine wg_gr rfl rfl (hr) ?_
  refine wg_s rfl rfl ?_
  refine wg_cf rfl rfl (sp_latAt _ hX hS w hw k hk) ?_
  exact wg_ret rfl rfl (ck_rc hbr) ⟨rfl, rfl⟩
theorem sp_byteAt (d : Nat) (i : Int) {μ : ab_M} {l : Nat} {U : Nat → Int} (hR : RS μ l U) : Wp (d + 1) 63 [ab_r 7 (some 0), ab_i i] μ (fun vv μ' => vv = some (ab_i (if 0 ≤ i ∧ i < (l : Int) then U i.toNat else -1)) ∧ μ' = μ) := by
  refine wp_of ?_
  obtain ⟨hX, hS, hl, hl2, hU⟩ := id hR
  refine wg_s rfl rfl ?_
  refine wg_if rfl rfl (fun h1 => ?_) (fun h1 => ?_)
  · refine wg_s rfl rfl ?_
    refine wg_ret rfl rfl trivial ⟨?_, rfl⟩
    first | rw [if_pos (by omega)] | rw [if_neg (by omega)]
  · refine wg_s rfl rfl ?_
    refine wg_s rfl rfl ?_
    refine wg_gi rfl rfl (show _ = (l : Int) from hl) ?_
    refine wg_if rfl rfl (fun h9 => ?_) (fun h9 => ?_)
    · refine wg_s rfl rfl ?_
      refine wg_ret rfl rfl trivial ⟨?_, rfl⟩
      first | rw [if_pos (by omega)] | rw [if_neg (by omega)]
    · refine wg_s rfl rfl ?_
      refine wg_s rfl rfl ?_
      refine wg_gx rfl rfl hX ?_
      refine wg_len rfl rfl (xf_l hX rfl) ?_
      refine wg_if rfl rfl (fun h18 => ?_) (fun h18 => ?_)
      · exfalso; omega
      · refine wg_s rfl rfl ?_
        refine wg_gx rfl rfl hX ?_
        refine wg_s rfl rfl ?_
        refine wg_ax rfl (xf_l hX rfl) (by omega) (by omega) (show _ = U i.toNat from (hU i.toNat (by omega)).1) ?_
        refine wg_s rfl rfl ?_
        refine wg_ret rfl rfl trivial ⟨?_, rfl⟩
        first | rw [if_pos (by omega)] | rw [if_neg (by omega)]
theorem sp_tokBeg (d : Nat) (y : Int) (μ : ab_M) : Wp (d + 1) 18 [ab_i y] μ (fun vv μ' => vv = some (ab_i (x_kk y)) ∧ μ' = μ) := by
  refine wp_of ?_
  refine wg_s rfl rfl ?_
  refine wg_s rfl rfl ?_
  refine wg_if rfl rfl (fun h2 => ?_) (fun h2 => ?_)
  · refine wg_s rfl rfl ?_
    refine wg_s rfl rfl ?_
    refine wg_if rfl rfl (fun h10 => ?_) (fun h10 => ?_)
    · refine wg_s rfl rfl ?_
      refine wg_s rfl rfl ?_
      refine wg_if rfl rfl (fun h22 => ?_) (fun h22 => ?_)
      · refine wg_s rfl rfl ?_
        refine wg_s rfl rfl ?_
        refine wg_if rfl rfl (fun h36 => ?_) (fun h36 => ?_)
        · refine wg_s rfl rfl ?_
          refine wg_s rfl rfl ?_
          refine wg_if rfl rfl (fun h50 => ?_) (fun h50 => ?_)
          · refine wg_s rfl rfl ?_
            refine wg_ret rfl rfl trivial ⟨?_, rfl⟩
            unfold x_kk
            simp only [lt_t, dg_t]
            congr 2
            repeat' split
            all_goals omega
          · refine wg_s rfl rfl ?_
            refine wg_s rfl rfl ?_
            refine wg_ret rfl rfl trivial ⟨?_, rfl⟩
            unfold x_kk
            simp only [lt_t, dg_t]
            congr 2
            repeat' split
            all_goals omega
        · refine wg_s rfl rfl ?_
          refine wg_s rfl rfl ?_
          refine wg_if rfl rfl (fun h42 => ?_) (fun h42 => ?_)
          · refine wg_s rfl rfl ?_
            refine wg_s rfl rfl ?_
            refine wg_if rfl rfl (fun h50 => ?_) (fun h50 => ?_)
            · refine wg_s rfl rfl ?_
              refine wg_ret rfl rfl trivial ⟨?_, rfl⟩
              unfold x_kk
              simp only [lt_t, dg_t]
              congr 2
              repeat' split
              all_goals omega
            · refine wg_s rfl rfl ?_
              refine wg_s rfl rfl ?_
              refine wg_ret rfl rfl trivial ⟨?_, rfl⟩
              unfold x_kk
              simp only [lt_t, dg_t]
              congr 2
              repeat' split
              all_goals omega
          · refine wg_s rfl rfl ?_
            refine wg_ret rfl rfl trivial ⟨?_, rfl⟩
            unfold x_kk
            simp only [lt_t, dg_t]
            congr 2
            repeat' split
            all_goals omega
      · refine wg_s rfl rfl ?_
        refine wg_s rfl rfl ?_
        refine wg_if rfl rfl (fun h28 => ?_) (fun h28 => ?_)
        · refine wg_s rfl rfl ?_
          refine wg_s rfl rfl ?_
          refine wg_if rfl rfl (fun h36 => ?_) (fun h36 => ?_)
          · refine wg_s rfl rfl ?_
            refine wg_s rfl rfl ?_
            refine wg_if rfl rfl (fun h50 => ?_) (fun h50 => ?_)
            · refine wg_s rfl rfl ?_
              refine wg_ret rfl rfl trivial ⟨?_, rfl⟩
              unfold x_kk
              simp only [lt_t, dg_t]
              congr 2
              repeat' split
              all_goals omega
            · refine wg_s rfl rfl ?_
              refine wg_s rfl rfl ?_
              refine wg_ret rfl rfl trivial ⟨?_, rfl⟩
              unfold x_kk
              simp only [lt_t, dg_t]
              congr 2
              repeat' split
              all_goals omega
          · refine wg_s rfl rfl ?_
            refine wg_s rfl rfl ?_
            refine wg_if rfl rfl (fun h42 => ?_) (fun h42 => ?_)
            · refine wg_s rfl rfl ?_
              refine wg_s rfl rfl ?_
              refine wg_if rfl rfl (fun h50 => ?_) (fun h50 => ?_)
              · refine wg_s rfl rfl ?_
                refine wg_ret rfl rfl trivial ⟨?_, rfl⟩
                unfold x_kk
                simp only [lt_t, dg_t]
                congr 2
                repeat' split
                all_goals omega
              · refine wg_s rfl rfl ?_
                refine wg_s rfl rfl ?_
                refine wg_ret rfl rfl trivial ⟨?_, rfl⟩
                unfold x_kk
                simp only [lt_t, dg_t]
                congr 2
                repeat' split
                all_goals omega
            · refine wg_s rfl rfl ?_
              refine wg_ret rfl rfl trivial ⟨?_, rfl⟩
              unfold x_kk
              simp only [lt_t, dg_t]
              congr 2
              repeat' split
              all_goals omega
        · refine wg_s rfl rfl ?_
          refine wg_ret rfl rfl trivial ⟨?_, rfl⟩
          unfold x_kk
          simp only [lt_t, dg_t]
          congr 2
          repeat' split
          all_goals omega
    · refine wg_s rfl rfl ?_
      refine wg_s rfl rfl ?_
      refine wg_if rfl rfl (fun h16 => ?_) (fun h16 => ?_)
      · refine wg_s rfl rfl ?_
        refine wg_ret rfl rfl trivial ⟨?_, rfl⟩
        unfold x_kk
        simp only [lt_t, dg_t]
        congr 2
        repeat' split
        all_goals omega
      · refine wg_s rfl rfl ?_
        refine wg_s rfl rfl ?_
        refine wg_if rfl rfl (fun h22 => ?_) (fun h22 => ?_)
        · refine wg_s rfl rfl ?_
          refine wg_s rfl rfl ?_
          refine wg_if rfl rfl (fun h36 => ?_) (fun h36 => ?_)
          · refine wg_s rfl rfl ?_
            refine wg_s rfl rfl ?_
            refine wg_if rfl rfl (fun h50 => ?_) (fun h50 => ?_)
            · refine wg_s rfl rfl ?_
              refine wg_ret rfl rfl trivial ⟨?_, rfl⟩
              unfold x_kk
              simp only [lt_t, dg_t]
              congr 2
              repeat' split
              all_goals omega
            · refine wg_s rfl rfl ?_
              refine wg_s rfl rfl ?_
              refine wg_ret rfl rfl trivial ⟨?_, rfl⟩
              unfold x_kk
              simp only [lt_t, dg_t]
              congr 2
              repeat' split
              all_goals omega
          · refine wg_s rfl rfl ?_
            refine wg_s rfl rfl ?_
            refine wg_if rfl rfl (fun h42 => ?_) (fun h42 => ?_)
            · refine wg_s rfl rfl ?_
              refine wg_s rfl rfl ?_
              refine wg_if rfl rfl (fun h50 => ?_) (fun h50 => ?_)
              · refine wg_s rfl rfl ?_
                refine wg_ret rfl rfl trivial ⟨?_, rfl⟩
                unfold x_kk
                simp only [lt_t, dg_t]
                congr 2
                repeat' split
                all_goals omega
              · refine wg_s rfl rfl ?_
                refine wg_s rfl rfl ?_
                refine wg_ret rfl rfl trivial ⟨?_, rfl⟩
                unfold x_kk
                simp only [lt_t, dg_t]
                congr 2
                repeat' split
                all_goals omega
            · refine wg_s rfl rfl ?_
              refine wg_ret rfl rfl trivial ⟨?_, rfl⟩
              unfold x_kk
              simp only [lt_t, dg_t]
              congr 2
              repeat' split
              all_goals omega
        · refine wg_s rfl rfl ?_
          refine wg_s rfl rfl ?_
          refine wg_if rfl rfl (fun h28 => ?_) (fun h28 => ?_)
          · refine wg_s rfl rfl ?_
            refine wg_s rfl rfl ?_
            refine wg_if rfl rfl (fun h36 => ?_) (fun h36 => ?_)
            · refine wg_s rfl rfl ?_
              refine wg_s rfl rfl ?_
              refine wg_if rfl rfl (fun h50 => ?_) (fun h50 => ?_)
              · refine wg_s rfl rfl ?_
                refine wg_ret rfl rfl trivial ⟨?_, rfl⟩
                unfold x_kk
                simp only [lt_t, dg_t]
                congr 2
                repeat' split
                all_goals omega
              · refine wg_s rfl rfl ?_
                refine wg_s rfl rfl ?_
                refine wg_ret rfl rfl trivial ⟨?_, rfl⟩
                unfold x_kk
                simp only [lt_t, dg_t]
                congr 2
                repeat' split
                all_goals omega
            · refine wg_s rfl rfl ?_
              refine wg_s rfl rfl ?_
              refine wg_if rfl rfl (fun h42 => ?_) (fun h42 => ?_)
              · refine wg_s rfl rfl ?_
                refine wg_s rfl rfl ?_
                refine wg_if rfl rfl (fun h50 => ?_) (fun h50 => ?_)
                · refine wg_s rfl rfl ?_
                  refine wg_ret rfl rfl trivial ⟨?_, rfl⟩
                  unfold x_kk
                  simp only [lt_t, dg_t]
                  congr 2
                  repeat' split
                  all_goals omega
                · refine wg_s rfl rfl ?_
                  refine wg_s rfl rfl ?_
                  refine wg_ret rfl rfl trivial ⟨?_, rfl⟩
                  unfold x_kk
                  simp only [lt_t, dg_t]
                  congr 2
                  repeat' split
                  all_goals omega
              · refine wg_s rfl rfl ?_
                refine wg_ret rfl rfl trivial ⟨?_, rfl⟩
                unfold x_kk
                simp only [lt_t, dg_t]
                congr 2
                repeat' split
                all_goals omega
          · refine wg_s rfl rfl ?_
            refine wg_ret rfl rfl trivial ⟨?_, rfl⟩
            unfold x_kk
            simp only [lt_t, dg_t]
            congr 2
            repeat' split
            all_goals omega
  · refine wg_s rfl rfl ?_
    refine wg_ret rfl rfl trivial ⟨?_, rfl⟩
    unfold x_kk
    simp only [lt_t, dg_t]
    congr 2
    repeat' split
    all_goals omega
