/-! ===== the class: best, paired, likes ===== -/
def GA (ν μ0 μ : ab_M) : Prop := PB μ0 μ ∧ (ag_I μ 1 0 2 = (n_h ν : Int) ∧ ag_I μ 1 0 3 = (n_p ν : Int)) ∧ (∀ i, i < n_h ν → ag_I μ 11 2 i = (l_h ν i : Int)) ∧ ∀ j, j < n_p ν → ag_I μ 11 3 j = (l_p ν j : Int)
def RW (ν μ : ab_M) (i j : Nat) : Prop := ∀ a b, a < n_h ν → b < n_p ν → ag_I μ 11 (4 + a) b = (if (a < i ∨ (a = i ∧ b < j)) ∧ x_ok ν a b = true then x_lk ν a b else -1) ∧ ag_I μ 11 (10 + a) b = (if (a < i ∨ (a = i ∧ b < j)) ∧ x_ok ν a b = true then x_ld ν a b else -1)
theorem GA_set {ν μ0 μ : ab_M} (h : GA ν μ0 μ) {n k : Nat} {x : Int} (hn : 4 ≤ n ∧ n ≤ 19) : GA ν μ0 (as_I μ 11 n k x) := ⟨PB_set h.1 (by omega), ⟨(ag_I_n (by omega)).trans h.2.1.1, (ag_I_n (by omega)).trans h.2.1.2⟩, fun i hi => (ag_I_n (by omega)).trans (h.2.2.1 i hi), fun j hj => (ag_I_n (by omega)).trans (h.2.2.2 j hj)⟩
theorem GA_S {ν μ0 μ μ' : ab_M} (h : GA ν μ0 μ) (q : SB2 μ μ') : GA ν μ0 μ' := ⟨PB_trans h.1 (PB_S2 q), ⟨(q.2 1 0 2 (by omega)).trans h.2.1.1, (q.2 1 0 3 (by omega)).trans h.2.1.2⟩, fun i hi => (q.2 11 2 i (by omega)).trans (h.2.2.1 i hi), fun j hj => (q.2 11 3 j (by omega)).trans (h.2.2.2 j hj)⟩
theorem RW_s {ν μ : ab_M} {i j : Nat} (hi : i < 6) (hn : n_h ν ≤ 6) (h : RW ν μ i j) : RW ν (if x_ok ν i j = true then as_I (as_I μ 11 (4 + i) j (x_lk ν i j)) 11 (10 + i) j (x_ld ν i j) else μ) i (j + 1) := by
  intro a b ha hb
  by_cases c : x_ok ν i j = true
  · rw [if_pos c]
    by_cases e : a = i ∧ b = j
    · obtain ⟨rfl, rfl⟩ := e
      rw [ag_I_n (by omega), ag_I_y, ag_I_y, if_pos ⟨by omega, c⟩, if_pos ⟨by omega, c⟩]; exact ⟨rfl, rfl⟩
    · rw [ag_I_n (by omega), ag_I_n (by omega), ag_I_n (by omega), ag_I_n (by omega), (h a b ha hb).1, (h a b ha hb).2]
      constructor <;> refine if_c ?_ rfl rfl <;> (constructor <;> (rintro ⟨q1, q2⟩; exact ⟨by omega, q2⟩))
  · rw [if_neg c, (h a b ha hb).1, (h a b ha hb).2]
    have key : ((a < i ∨ (a = i ∧ b < j)) ∧ x_ok ν a b = true) ↔ ((a < i ∨ (a = i ∧ b < j + 1)) ∧ x_ok ν a b = true) := by
      constructor
      · rintro ⟨q1, q2⟩; exact ⟨by omega, q2⟩
      · rintro ⟨q1, q2⟩
        refine ⟨?_, q2⟩
        by_cases e : a = i ∧ b = j
        · obtain ⟨rfl, rfl⟩ := e; exact absurd q2 c
        · omega
    exact ⟨if_c key rfl rfl, if_c key rfl rfl⟩
theorem RW_n {ν μ : ab_M} {i : Nat} (h : RW ν μ i (n_p ν)) : RW ν μ (i + 1) 0 := by
  intro a b ha hb
  rw [(h a b ha hb).1, (h a b ha hb).2]
  have key : ((a < i ∨ (a = i ∧ b < n_p ν)) ∧ x_ok ν a b = true) ↔ ((a < i + 1 ∨ (a = i + 1 ∧ b < 0)) ∧ x_ok ν a b = true) := by
    constructor <;> (rintro ⟨q1, q2⟩; exact ⟨by omega, q2⟩)
  exact ⟨if_c key rfl rfl, if_c key rfl rfl⟩
theorem RW_BP {ν μ0 μ : ab_M} (hX : XF μ) (hZ : WR ν) (hK : WK ν) (h6 : n_h ν ≤ 6 ∧ n_p ν ≤ 6) (hG : GA ν μ0 μ) (h : RW ν μ (n_h ν) 0) : BP μ (n_h ν) (n_p ν) (x_ok ν) (x_lk ν) (x_ld ν) := by
  refine ⟨hX, h6, hG.2.1, fun a b ha hb => ?_, x_bd hZ hK⟩
  rw [(h a b ha hb).1, (h a b ha hb).2]
  have key : ((a < n_h ν ∨ (a = n_h ν ∧ b < 0)) ∧ x_ok ν a b = true) ↔ (x_ok ν a b = true) := ⟨fun q => q.2, fun q => ⟨Or.inl ha, q⟩⟩
  exact ⟨if_c key rfl rfl, if_c key rfl rfl⟩
def FB (ν μ0 μ' : ab_M) : Prop := ∃ A : Nat → Int, val (n_p ν) (x_ok ν) A (n_h ν) ∧ (∀ i, i < n_h ν → ag_I μ' 11 19 i = A i) ∧ GA ν μ0 μ' ∧ ∀ l0 F0, ag_I μ' 1 0 11 = (m_bs ν l0 F0).1 ∧ ag_I μ' 1 0 10 = (m_bs ν l0 F0).2.1 ∧ (m_bs ν l0 F0).2.2 = ph (f_p ν) (ag_I ν 10 0 6).toNat A
theorem FB_of {ν μ0 μ' : ab_M} (hZ : WR ν) (hK : WK ν) (h6 : n_h ν ≤ 6 ∧ n_p ν ≤ 6) (t0 : Int × (Nat → Int)) (ht : t0.1 = -1) (hG : GA ν μ0 μ') (l1 : Int) (F1 : Nat → Int) (h11 : ag_I μ' 1 0 11 = (m_bs ν l1 F1).1) (h10 : ag_I μ' 1 0 10 = (x_T ν (m_bs ν l1 F1).1 t0).1) (h19 : ∀ i, i < n_h ν → ag_I μ' 11 19 i = (x_T ν (m_bs ν l1 F1).1 t0).2 i) : FB ν μ0 μ' := by
  obtain ⟨a1, a2, a3, a4⟩ := best_eq hZ hK h6 l1 F1 t0 ht
  refine ⟨(x_T ν (m_bs ν l1 F1).1 t0).2, ?_, h19, hG, fun l0 F0 => ?_⟩
  · rcases best_val (ν := ν) (m_bs ν l1 F1).1 t0 with q | q
    · have := a4.1; rw [q, ht] at this; omega
    · exact q
  · obtain ⟨b1, b2, b3, b4⟩ := best_eq hZ hK h6 l0 F0 t0 ht
    have e : (m_bs ν l0 F0).1 = (m_bs ν l1 F1).1 := by
      rcases Int.lt_trichotomy (m_bs ν l0 F0).1 (m_bs ν l1 F1).1 with q | q | q
      · have := a3 _ q; have w := b4.1; rw [this, ht] at w; omega
      · exact q
      · have := b3 _ q; have w := a4.1; rw [this, ht] at w; omega
    rw [e] at b4
    exact ⟨h11.trans e.symm, h10.trans b4.1, b4.2⟩
theorem lp_fi {d : Nat} {ν μ0 : ab_M} {hl hw pl tm : Nat → Nat} {ow : Nat → Nat × Nat} {tc : Nat} (hI0 : IX ν μ0 hl hw pl tm ow tc) (hZ : WR ν) (h6 : n_h ν ≤ 6 ∧ n_p ν ≤ 6) (i : Nat) (hi : i < n_h ν) {Q : Option ab_V → ab_M → Prop} (K : ∀ μ, GA ν μ0 μ → RW ν μ i (n_p ν) → Wg (d + 3) 106 μ 47 [(0, ab_r 9 (some 0)), (1, ab_i (i : Int)), (2, ab_i (n_p ν : Int))] [] Q) : ∀ (N j : Nat) (μ : ab_M), n_p ν - j < N → j ≤ n_p ν → GA ν μ0 μ → RW ν μ i j → Wg (d + 3) 106 μ 24 [(0, ab_r 9 (some 0)), (1, ab_i (i : Int)), (2, ab_i (j : Int))] [] Q
  | 0, _, _, h, _, _, _ => by omega
  | N + 1, j, μ, h1, h2, hG, hR => by
    have hX : XF μ := PB_XF hG.1 hI0.1
    refine wg_s rfl rfl ?_
    refine wg_s rfl rfl ?_
    refine wg_gx rfl rfl hX ?_
    refine wg_cf rfl rfl (sp_np _ _ hG.2.1.2) ?_
    refine wg_if rfl rfl (fun h32 => ?_) (fun h32 => ?_)
    · have ej : j = n_p ν := by omega
      subst ej
      exact K μ hG hR
    · refine wg_s rfl rfl ?_
      refine wg_s rfl rfl ?_
      refine wg_s rfl rfl ?_
      refine wg_cv rfl rfl (sp_letKnow _ hI0 hZ hG.1 h6 hG.2.1 hG.2.2.1 hG.2.2.2 i j hi (by omega)) ?_
      have hG2 : GA ν μ0 (if x_ok ν i j = true then as_I (as_I μ 11 (4 + i) j (x_lk ν i j)) 11 (10 + i) j (x_ld ν i j) else μ) := by
        by_cases c : x_ok ν i j = true
        · rw [if_pos c]; exact GA_set (GA_set hG (by omega)) (by omega)
        · rw [if_neg c]; exact hG
      refine wg_iinc rfl rfl rfl (by omega) (by omega) rfl ?_
      refine wg_s rfl rfl ?_
      have hrec := lp_fi hI0 hZ h6 i hi K N (j + 1) _ (by omega) (by omega) hG2 (RW_s (by omega) h6.1 hR)
      rw [show ((j + 1 : Nat) : Int) = (j : Int) + 1 by omega] at hrec
      exact hrec
def t_2i (e : Option Int) : ab_L := match e with
  | none => []
  | some x => [(2, ab_i x)]
theorem lp_fo {d : Nat} {ν μ0 : ab_M} {hl hw pl tm : Nat → Nat} {ow : Nat → Nat × Nat} {tc : Nat} (hI0 : IX ν μ0 hl hw pl tm ow tc) (hZ : WR ν) (hK : WK ν) (h6 : n_h ν ≤ 6 ∧ n_p ν ≤ 6) : ∀ (N i : Nat) (e : Option Int) (μ : ab_M), n_h ν - i < N → i ≤ n_h ν → GA ν μ0 μ → RW ν μ i 0 → Wg (d + 11) 106 μ 11 ([(0, ab_r 9 (some 0)), (1, ab_i (i : Int))] ++ t_2i e) [] (fun vv μ' => PB μ0 μ' ∧ (n_h ν ≤ 6 ∧ n_p ν ≤ 6 → vv = some (ab_i 1) ∧ FB ν μ0 μ') ∧ (¬ (n_h ν ≤ 6 ∧ n_p ν ≤ 6) → vv = some (ab_i 0)))
  | 0, _, _, _, h, _, _, _ => by omega
  | N + 1, i, e, μ, h1, h2, hG, hR => by
    cases e with
    | none =>
      have hX : XF μ := PB_XF hG.1 hI0.1
      refine wg_s rfl rfl ?_
      refine wg_s rfl rfl ?_
      refine wg_gx rfl rfl hX ?_
      refine wg_cf rfl rfl (sp_nh _ _ hG.2.1.1) ?_
      refine wg_if rfl rfl (fun h19 => ?_) (fun h19 => ?_)
      · have ei : i = n_h ν := by omega
        subst ei
        have hB := RW_BP hX hZ hK h6 hG hR
        obtain ⟨a1, a2, a3, a4⟩ := best_eq hZ hK h6 0 (fun _ => 0) (-1, fun k => ag_I μ 11 19 k) rfl
        have er : (((m_bs ν 0 (fun _ => 0)).1.toNat : Nat) : Int) = (m_bs ν 0 (fun _ => 0)).1 := by omega
        have hs := sp_search d hB (m_bs ν 0 (fun _ => 0)).1.toNat (-1, fun k => ag_I μ 11 19 k) (x_T ν (m_bs ν 0 (fun _ => 0)).1 (-1, fun k => ag_I μ 11 19 k)) rfl (by omega) (fun M hM => a3 (M : Int) (by omega)) (by rw [er]) (by rw [a4.1]; exact a2) (fun k _ => rfl)
        refine wg_s rfl rfl ?_
        refine wg_gx rfl rfl hX ?_
        refine wg_call rfl rfl hs (fun vv μ2 hq => ?_)
        obtain ⟨rfl, q1, q2, q3⟩ := hq
        rw [er] at q2
        have hF := FB_of hZ hK h6 (-1, fun k => ag_I μ 11 19 k) rfl (GA_S hG q1) 0 (fun _ => 0) q2.1 q2.2 q3
        refine wg_s rfl rfl ?_
        exact wg_ret rfl rfl (Or.inr rfl) ⟨(GA_S hG q1).1, fun _ => ⟨rfl, hF⟩, fun w => absurd h6 w⟩
      · refine wg_s rfl rfl ?_
        refine wg_s rfl rfl ?_
        refine lp_fi hI0 hZ h6 i (by omega) (fun μ2 hG2 hR2 => ?_) 7 0 μ (by omega) (by omega) hG hR
        refine wg_iinc rfl rfl rfl (by omega) (by omega) rfl ?_
        refine wg_s rfl rfl ?_
        have hrec := lp_fo (d := d) hI0 hZ hK h6 N (i + 1) (some (n_p ν : Int)) μ2 (by omega) (by omega) hG2 (RW_n hR2)
        rw [show ((i + 1 : Nat) : Int) = (i : Int) + 1 by omega] at hrec
        exact hrec
    | some e =>
      have hX : XF μ := PB_XF hG.1 hI0.1
      refine wg_s rfl rfl ?_
      refine wg_s rfl rfl ?_
      refine wg_gx rfl rfl hX ?_
      refine wg_cf rfl rfl (sp_nh _ _ hG.2.1.1) ?_
      refine wg_if rfl rfl (fun h19 => ?_) (fun h19 => ?_)
      · have ei : i = n_h ν := by omega
        subst ei
        have hB := RW_BP hX hZ hK h6 hG hR
        obtain ⟨a1, a2, a3, a4⟩ := best_eq hZ hK h6 0 (fun _ => 0) (-1, fun k => ag_I μ 11 19 k) rfl
        have er : (((m_bs ν 0 (fun _ => 0)).1.toNat : Nat) : Int) = (m_bs ν 0 (fun _ => 0)).1 := by omega
        have hs := sp_search d hB (m_bs ν 0 (fun _ => 0)).1.toNat (-1, fun k => ag_I μ 11 19 k) (x_T ν (m_bs ν 0 (fun _ => 0)).1 (-1, fun k => ag_I μ 11 19 k)) rfl (by omega) (fun M hM => a3 (M : Int) (by omega)) (by rw [er]) (by rw [a4.1]; exact a2) (fun k _ => rfl)
        refine wg_s rfl rfl ?_
        refine wg_gx rfl rfl hX ?_
        refine wg_call rfl rfl hs (fun vv μ2 hq => ?_)
        obtain ⟨rfl, q1, q2, q3⟩ := hq
        rw [er] at q2
        have hF := FB_of hZ hK h6 (-1, fun k => ag_I μ 11 19 k) rfl (GA_S hG q1) 0 (fun _ => 0) q2.1 q2.2 q3
        refine wg_s rfl rfl ?_
        exact wg_ret rfl rfl (Or.inr rfl) ⟨(GA_S hG q1).1, fun _ => ⟨rfl, hF⟩, fun w => absurd h6 w⟩
      · refine wg_s rfl rfl ?_
        refine wg_s rfl rfl ?_
        refine lp_fi hI0 hZ h6 i (by omega) (fun μ2 hG2 hR2 => ?_) 7 0 μ (by omega) (by omega) hG hR
        refine wg_iinc rfl rfl rfl (by omega) (by omega) rfl ?_
        refine wg_s rfl rfl ?_
        have hrec := lp_fo (d := d) hI0 hZ hK h6 N (i + 1) (some (n_p ν : Int)) μ2 (by omega) (by omega) hG2 (RW_n hR2)
        rw [show ((i + 1 : Nat) : Int) = (i : Int) + 1 by omega] at hrec
        exact hrec
theorem sp_findBest (d : Nat) {ν μ0 : ab_M} {hl hw pl tm : Nat → Nat} {ow : Nat → Nat × Nat} {tc : Nat} (hI0 : IX ν μ0 hl hw pl tm ow tc) (hZ : WR ν) (hK : WK ν) : Wp (d + 12) 106 [ab_r 9 (some 0)] μ0 (fun vv μ' => PB μ0 μ' ∧ (n_h ν ≤ 6 ∧ n_p ν ≤ 6 → vv = some (ab_i 1) ∧ FB ν μ0 μ') ∧ (¬ (n_h ν ≤ 6 ∧ n_p ν ≤ 6) → vv = some (ab_i 0))) := by
  refine wp_of ?_
  refine wg_s rfl rfl ?_
  refine wg_call rfl rfl (sp_gather (d + 8) hI0 hZ) (fun vv μ1 hq => ?_)
  by_cases h6 : n_h ν ≤ 6 ∧ n_p ν ≤ 6
  · obtain ⟨rfl, g1, g2, g3, g4⟩ := hq.2.1 h6
    refine wg_s rfl rfl ?_
    refine wg_at (pc2 := 9) (by decide) ?_
    refine wg_s rfl rfl ?_
    refine wg_s rfl rfl ?_
    refine lp_fo hI0 hZ hK h6 7 0 none μ1 (by omega) (by omega) ⟨hq.1, g1, g3, g4⟩ (fun a b ha hb => ?_)
    rw [if_neg (by omega), if_neg (by omega)]
    exact g2 a b (by omega) (by omega)
  · obtain rfl := hq.2.2 h6
    refine wg_s rfl rfl ?_
    refine wg_at (pc2 := 7) (by decide) ?_
    refine wg_s rfl rfl ?_
    exact wg_ret rfl rfl (Or.inl rfl) ⟨hq.1, fun w => absurd w h6, fun _ => rfl⟩
theorem sp_xbest (d : Nat) {ν μ0 : ab_M} {hl hw pl tm : Nat → Nat} {ow : Nat → Nat × Nat} {tc : Nat} (hI0 : IX ν μ0 hl hw pl tm ow tc) (hZ : WR ν) (hK : WK ν) : Wp (d + 13) 75 [ab_r 9 (some 0)] μ0 (fun vv μ' => PB μ0 μ' ∧ ∀ l0 F0, vv = some (ab_i (if n_h ν ≤ 6 ∧ n_p ν ≤ 6 then (m_bs ν l0 F0).1 else -1))) := by
  refine wp_of ?_
  obtain ⟨hX, hC, hH, hP1, hL1, hK1, hT, hR, hS⟩ := id hI0
  refine wg_s rfl rfl ?_
  refine wg_call rfl rfl (sp_findBest d hI0 hZ hK) (fun vv μ1 hq => ?_)
  have hX1 : XF μ1 := PB_XF hq.1 hX
  by_cases h6 : n_h ν ≤ 6 ∧ n_p ν ≤ 6
  · obtain ⟨rfl, A, hv, hA, hG, hB⟩ := hq.2.1 h6
    refine wg_s rfl rfl ?_
    refine wg_at (pc2 := 7) (by decide) ?_
    refine wg_s rfl rfl ?_
    refine wg_gx rfl rfl hX1 ?_
    refine wg_cf rfl rfl (sp_lim _ _ (hB 0 (fun _ => 0)).1) ?_
    refine wg_s rfl rfl ?_
    refine wg_ret rfl rfl trivial ⟨hq.1, fun l0 F0 => ?_⟩
    rw [if_pos h6]
    congr 2
    exact (hB 0 (fun _ => 0)).1.symm.trans (hB l0 F0).1
  · obtain rfl := hq.2.2 h6
    refine wg_s rfl rfl ?_
    refine wg_at (pc2 := 17) (by decide) ?_
    refine wg_s rfl rfl ?_
    refine wg_ret rfl rfl trivial ⟨hq.1, fun l0 F0 => ?_⟩
    rw [if_neg h6]
theorem sp_xlikes (d : Nat) {ν μ0 : ab_M} {hl hw pl tm : Nat → Nat} {ow : Nat → Nat × Nat} {tc : Nat} (hI0 : IX ν μ0 hl hw pl tm ow tc) (hZ : WR ν) (hK : WK ν) : Wp (d + 13) 77 [ab_r 9 (some 0)] μ0 (fun vv μ' => PB μ0 μ' ∧ ∀ l0 F0, vv = some (ab_i (if n_h ν ≤ 6 ∧ n_p ν ≤ 6 then (m_bs ν l0 F0).2.1 else -1))) := by
  refine wp_of ?_
  obtain ⟨hX, hC, hH, hP1, hL1, hK1, hT, hR, hS⟩ := id hI0
  refine wg_s rfl rfl ?_
  refine wg_call rfl rfl (sp_findBest d hI0 hZ hK) (fun vv μ1 hq => ?_)
  have hX1 : XF μ1 := PB_XF hq.1 hX
  by_cases h6 : n_h ν ≤ 6 ∧ n_p ν ≤ 6
  · obtain ⟨rfl, A, hv, hA, hG, hB⟩ := hq.2.1 h6
    refine wg_s rfl rfl ?_
    refine wg_at (pc2 := 7) (by decide) ?_
    refine wg_s rfl rfl ?_
    refine wg_gx rfl rfl hX1 ?_
    refine wg_cf rfl rfl (sp_blk _ _ (hB 0 (fun _ => 0)).2.1) ?_
    refine wg_s rfl rfl ?_
    refine wg_ret rfl rfl trivial ⟨hq.1, fun l0 F0 => ?_⟩
    rw [if_pos h6]
    congr 2
    exact (hB 0 (fun _ => 0)).2.1.symm.trans (hB l0 F0).2.1
  · obtain rfl := hq.2.2 h6
    refine wg_s rfl rfl ?_
    refine wg_at (pc2 := 17) (by decide) ?_
    refine wg_s rfl rfl ?_
    refine wg_ret rfl rfl trivial ⟨hq.1, fun l0 F0 => ?_⟩
    rw [if_neg h6]
theorem lp_hf {d : Nat} {ν μ0 μ : ab_M} {A : Nat → Int} (hX0 : XF μ0) (h6 : n_h ν ≤ 6 ∧ n_p ν ≤ 6) (hv : val (n_p ν) (x_ok ν) A (n_h ν)) (hA : ∀ i, i < n_h ν → ag_I μ 11 19 i = A i) (hG : GA ν μ0 μ) (h : Nat) (hh : h < (ag_I ν 10 0 1).toNat) (hfh : f_h ν h = true) : ∀ (N i : Nat), cn (f_h ν) h - i < N → i ≤ cn (f_h ν) h → Wg (d + 1) 30 μ 2 [(0, ab_r 1 (some 0)), (1, ab_i (h : Int)), (2, ab_i (i : Int))] [] (fun vv μ' => vv = some (ab_i (ph (f_p ν) (ag_I ν 10 0 6).toNat A (cn (f_h ν) h))) ∧ μ' = μ)
  | 0, _, h, _ => by omega
  | N + 1, i, h1, h2 => by
    have hlt : cn (f_h ν) h < n_h ν := by have := cn_mono (f_h ν) (show h + 1 ≤ (ag_I ν 10 0 1).toNat by omega); rw [cn_s, if_pos hfh] at this; show _ < cn (f_h ν) (ag_I ν 10 0 1).toNat; omega
    have hX : XF μ := PB_XF hG.1 hX0
    refine wg_s rfl rfl ?_
    refine wg_s rfl rfl ?_
    refine wg_gi rfl rfl (show _ = (n_h ν : Int) from hG.2.1.1) ?_
    refine wg_if rfl rfl (fun h7 => absurd h7 (by omega)) (fun h7 => ?_)
    refine wg_s rfl rfl ?_
    refine wg_gx rfl rfl hX ?_
    refine wg_s rfl rfl ?_
    refine wg_ax rfl (xf_l hX rfl) (by omega) (by omega) (show _ = ((l_h ν i : Nat) : Int) from hG.2.2.1 i (by omega)) ?_
    refine wg_s rfl rfl ?_
    refine wg_if rfl rfl (fun h17 => ?_) (fun h17 => ?_)
    · have hne : i ≠ cn (f_h ν) h := fun e => h17 (by rw [e, show l_h ν (cn (f_h ν) h) = h from ith_c (f_h ν) _ h hh hfh])
      refine wg_iinc rfl rfl rfl (by omega) (by omega) rfl ?_
      refine wg_s rfl rfl ?_
      have hrec := lp_hf (d := d) hX0 h6 hv hA hG h hh hfh N (i + 1) (by omega) (by omega)
      rw [show ((i + 1 : Nat) : Int) = (i : Int) + 1 by omega] at hrec
      exact hrec
    · refine wg_s rfl rfl ?_
      refine wg_s rfl rfl ?_
      refine wg_gx rfl rfl hX ?_
      refine wg_s rfl rfl ?_
      refine wg_ax rfl (xf_l hX rfl) (by omega) (by omega) (show _ = A i from hA i (by omega)) ?_
      refine wg_cf rfl rfl (sp_helperIn _ (n_p ν) _ hX hG.2.1.2 h6.2) ?_
      refine wg_ret rfl rfl trivial ⟨?_, rfl⟩
      congr 2
      have ei : i = cn (f_h ν) h := by have w := (ith_p (f_h ν) (ag_I ν 10 0 1).toNat i (by show i < n_h ν; omega)).2.2; rw [← w]; congr 1; show ith (f_h ν) (ag_I ν 10 0 1).toNat i = h; have : ((l_h ν i : Nat) : Int) = (h : Int) := Decidable.not_not.mp h17; show l_h ν i = h; omega
      rw [← ei]
      unfold ph
      rcases val_A hv (show i < n_h ν by omega) with q | q
      · rw [if_neg (by omega), if_pos (by omega)]
      · rw [if_pos (by omega), if_neg (by omega)]; exact hG.2.2.2 _ (by omega)
theorem sp_helperFor (d : Nat) {ν μ0 μ : ab_M} {A : Nat → Int} (hX0 : XF μ0) (h6 : n_h ν ≤ 6 ∧ n_p ν ≤ 6) (hv : val (n_p ν) (x_ok ν) A (n_h ν)) (hA : ∀ i, i < n_h ν → ag_I μ 11 19 i = A i) (hG : GA ν μ0 μ) (h : Nat) (hh : h < (ag_I ν 10 0 1).toNat) (hfh : f_h ν h = true) : Wp (d + 2) 30 [ab_r 1 (some 0), ab_i (h : Int)] μ (fun vv μ' => vv = some (ab_i (ph (f_p ν) (ag_I ν 10 0 6).toNat A (cn (f_h ν) h))) ∧ μ' = μ) := by
  refine wp_of ?_
  refine wg_s rfl rfl ?_
  refine wg_s rfl rfl ?_
  exact lp_hf hX0 h6 hv hA hG h hh hfh (cn (f_h ν) h + 1) 0 (by omega) (by omega)
theorem sp_xpaired (d : Nat) (h : Int) {ν μ0 : ab_M} {hl hw pl tm : Nat → Nat} {ow : Nat → Nat × Nat} {tc : Nat} (hI0 : IX ν μ0 hl hw pl tm ow tc) (hZ : WR ν) (hK : WK ν) : Wp (d + 13) 76 [ab_r 9 (some 0), ab_i h] μ0 (fun vv μ' => PB μ0 μ' ∧ ∀ l0 F0, vv = some (ab_i (if ((0 ≤ h ∧ h < ag_I ν 10 0 1) ∧ m_lf ν h (ag_I ν 10 0 26).toNat < 0 ∧ (n_h ν ≤ 6 ∧ n_p ν ≤ 6)) then (m_bs ν l0 F0).2.2 (cn (f_h ν) h.toNat) else -1))) := by
  refine wp_of ?_
  obtain ⟨hX, hC, hH, hP1, hL1, hK1, hT, hR, hS⟩ := id hI0
  by_cases hh : 0 ≤ h ∧ h < ag_I ν 10 0 1
  · obtain ⟨e15, e4, ⟨e44, e45, e46⟩, h8, hrng, how, hlk, hwk⟩ := hH h.toNat (by omega)
    rw [tnc hh.1] at e46
    by_cases hf : m_lf ν h (ag_I ν 10 0 26).toNat < 0
    · refine wg_s rfl rfl ?_
      refine wg_s rfl rfl ?_
      refine wg_cf rfl rfl (sp_homeAt_t _ _ hI0 hZ hh) ?_
      refine wg_s rfl rfl ?_
      refine wg_s rfl rfl ?_
      refine wg_s rfl rfl ?_
      refine wg_s rfl rfl ?_
      refine wg_gn rfl rfl (show _ = none from e46.trans (opN hf)) ?_
      refine wg_s rfl rfl ?_
      refine wg_s rfl rfl ?_
      refine wg_call rfl rfl (sp_findBest d hI0 hZ hK) (fun vv μ1 hq => ?_)
      have hX1 : XF μ1 := PB_XF hq.1 hX
      by_cases h6 : n_h ν ≤ 6 ∧ n_p ν ≤ 6
      · obtain ⟨rfl, A, hv, hA, hG, hB⟩ := hq.2.1 h6
        refine wg_s rfl rfl ?_
        refine wg_at (pc2 := 26) (by decide) ?_
        have hfh : f_h ν h.toNat = true := decide_eq_true (by rw [tnc hh.1]; exact hf)
        have e : ((h.toNat : Nat) : Int) = h := tnc hh.1
        refine wg_s rfl rfl ?_
        refine wg_gx rfl rfl hX1 ?_
        refine wg_s rfl rfl ?_
        have hf30 := sp_helperFor (d + 10) hX h6 hv hA hG h.toNat (by omega) hfh
        rw [e] at hf30
        refine wg_cf rfl rfl hf30 ?_
        refine wg_ret rfl rfl trivial ⟨hq.1, fun l0 F0 => ?_⟩
        rw [if_pos ⟨hh, hf, h6⟩, (hB l0 F0).2.2]
      · obtain rfl := hq.2.2 h6
        refine wg_s rfl rfl ?_
        refine wg_at (pc2 := 24) (by decide) ?_
        refine wg_s rfl rfl ?_
        exact wg_ret rfl rfl trivial ⟨hq.1, fun l0 F0 => by rw [if_neg (fun w => h6 w.2.2)]⟩
    · refine wg_s rfl rfl ?_
      refine wg_s rfl rfl ?_
      refine wg_cf rfl rfl (sp_homeAt_t _ _ hI0 hZ hh) ?_
      refine wg_s rfl rfl ?_
      refine wg_s rfl rfl ?_
      refine wg_s rfl rfl ?_
      refine wg_s rfl rfl ?_
      refine wg_gn rfl rfl (show _ = some (m_l ν h).toNat from e46.trans (opS (by show 0 ≤ m_lf ν h (ag_I ν 10 0 26).toNat; omega))) ?_
      refine wg_s rfl rfl ?_
      refine wg_s rfl rfl ?_
      exact wg_ret rfl rfl trivial ⟨PB_refl _, fun l0 F0 => by rw [if_neg (fun w => hf w.2.1)]⟩
  · refine wg_s rfl rfl ?_
    refine wg_s rfl rfl ?_
    refine wg_cf rfl rfl (sp_homeAt_f _ _ hI0 hZ hh) ?_
    refine wg_s rfl rfl ?_
    refine wg_s rfl rfl ?_
    refine wg_s rfl rfl ?_
    refine wg_s rfl rfl ?_
    exact wg_ret rfl rfl trivial ⟨PB_refl _, fun l0 F0 => by rw [if_neg (fun w => hh w.1)]⟩
