/-! ===== the class: its search, runaways counted ===== -/
theorem rq_i {ok : Nat → Nat → Bool} {lk ld : Nat → Nat → Int} {A : Nat → Int} {q h p : Nat} : rq ok lk ld A q h p = true ↔ (pr_ru q ok lk ld A h p = true ∧ 0 ≤ gi A p q) := by
  show (_ && decide _) = true ↔ _
  rw [Bool.and_eq_true, decide_eq_true_eq]
theorem nh_m1 {ok : Nat → Nat → Bool} {lk ld : Nat → Nat → Int} {A : Nat → Int} {q : Nat} {p : Int} (hp : p = -1) : ∀ {h : Nat}, nh ok lk ld A q p h = 0
  | 0 => rfl
  | h + 1 => by unfold nh; rw [nh_m1 hp, if_neg (by omega)]; rfl
theorem lp_nr2 {d : Nat} {μ : ab_M} {n m : Nat} {ok : Nat → Nat → Bool} {lk ld : Nat → Nat → Int} (hB : BP μ n m ok lk ld) (i : Nat) {A : Nat → Int} (hW : WA μ m ok A (i + 1)) (hqn : i + 1 ≤ n) : ∀ (N h : Nat) (c : Int), i - h < N → h ≤ i → c = nb (rq ok lk ld A (i + 1) i) m + nh ok lk ld A (i + 1) (A i) h → Wg (d + 2) 35 μ 50 [(0, ab_r 1 (some 0)), (1, ab_i (i : Int)), (2, ab_i c), (3, ab_i (A i)), (4, ab_i (h : Int))] [] (fun vv μ' => vv = some (ab_i (nr m ok lk ld A i)) ∧ μ' = μ)
  | 0, _, _, h, _, _ => by omega
  | N + 1, h, c, h1, h2, hc => by
    obtain ⟨hX, ⟨hn6, hm6⟩, ⟨hn, hm⟩, hlk, hbd⟩ := id hB
    have hvi := hW.2.2 i (by omega)
    have h1r := nb_rng (rq ok lk ld A (i + 1) i) m
    have h2r := nh_rng (ok := ok) (lk := lk) (ld := ld) (A := A) (q := i + 1) (p := A i) h
    refine wg_s rfl rfl ?_
    refine wg_s rfl rfl ?_
    refine wg_if rfl rfl (fun h53 => ?_) (fun h53 => ?_)
    · refine wg_s rfl rfl ?_
      refine wg_ret rfl rfl trivial ⟨?_, rfl⟩
      have eh : h = i := by omega
      subst eh
      rw [hc]; rfl
    · refine wg_s rfl rfl ?_
      refine wg_s rfl rfl ?_
      refine wg_if rfl rfl (fun h58 => ?_) (fun h58 => ?_)
      · refine wg_s rfl rfl ?_
        refine wg_ret rfl rfl trivial ⟨?_, rfl⟩
        rw [hc, nh_m1 h58, ← nh_m1 (h := i) h58]
        rfl
      · have hAr : 0 ≤ A i ∧ A i < (m : Int) := by rcases hvi with w | w; exact absurd w h58; exact w.1
        have hA2 : ((A i).toNat : Int) = A i := by omega
        refine wg_s rfl rfl ?_
        refine wg_s rfl rfl ?_
        refine wg_s rfl rfl ?_
        rw [← hA2]
        refine wg_cf rfl rfl (sp_isRun _ hB hW hqn h (A i).toNat (by omega) (by omega) (by omega)) ?_
        rw [hA2]
        refine wg_eqb rfl (fun h68 => ?_) (fun h68 => ?_)
        · refine wg_iinc rfl rfl rfl (by omega) (by omega) rfl ?_
          refine wg_s rfl rfl ?_
          have hrec := lp_nr2 (d := d) hB i hW hqn N (h + 1) (c) (by omega) (by omega) (by show _ = nb (rq ok lk ld A (i + 1) i) m + (nh ok lk ld A (i + 1) (A i) h + if _ then (1 : Int) else 0); rw [if_neg (fun w => h68 w.2)]; omega)
          rw [show ((h + 1 : Nat) : Int) = (h : Int) + 1 by omega] at hrec
          exact hrec
        · refine wg_iinc rfl rfl rfl (by omega) (by omega) rfl ?_
          refine wg_iinc rfl rfl rfl (by omega) (by omega) rfl ?_
          refine wg_s rfl rfl ?_
          have hrec := lp_nr2 (d := d) hB i hW hqn N (h + 1) (c + 1) (by omega) (by omega) (by show _ = nb (rq ok lk ld A (i + 1) i) m + (nh ok lk ld A (i + 1) (A i) h + if _ then (1 : Int) else 0); rw [if_pos ⟨hAr.1, h68⟩]; omega)
          rw [show ((h + 1 : Nat) : Int) = (h : Int) + 1 by omega] at hrec
          exact hrec
theorem lp_nr1 {d : Nat} {μ : ab_M} {n m : Nat} {ok : Nat → Nat → Bool} {lk ld : Nat → Nat → Int} (hB : BP μ n m ok lk ld) (i : Nat) {A : Nat → Int} (hW : WA μ m ok A (i + 1)) (hqn : i + 1 ≤ n) : ∀ (N j : Nat) (c : Int), m - j < N → j ≤ m → c = nb (rq ok lk ld A (i + 1) i) j → Wg (d + 2) 35 μ 4 [(0, ab_r 1 (some 0)), (1, ab_i (i : Int)), (2, ab_i c), (3, ab_i (j : Int))] [] (fun vv μ' => vv = some (ab_i (nr m ok lk ld A i)) ∧ μ' = μ)
  | 0, _, _, h, _, _ => by omega
  | N + 1, j, c, h1, h2, hc => by
    obtain ⟨hX, ⟨hn6, hm6⟩, ⟨hn, hm⟩, hlk, hbd⟩ := id hB
    have h1r := nb_rng (rq ok lk ld A (i + 1) i) j
    refine wg_s rfl rfl ?_
    refine wg_s rfl rfl ?_
    refine wg_gi rfl rfl (show _ = (m : Int) from hm) ?_
    refine wg_if rfl rfl (fun h9 => ?_) (fun h9 => ?_)
    · have ej : j = m := by omega
      subst ej
      refine wg_s rfl rfl ?_
      refine wg_gx rfl rfl hX ?_
      refine wg_s rfl rfl ?_
      refine wg_ax rfl (xf_l hX rfl) (by omega) (by omega) (show _ = A i from hW.1 i (by omega)) ?_
      refine wg_s rfl rfl ?_
      refine wg_s rfl rfl ?_
      refine wg_s rfl rfl ?_
      exact lp_nr2 hB i hW hqn 7 0 c (by omega) (by omega) (by rw [hc]; show _ = _ + (0 : Int); omega)
    · have hgr := gi_rng A j (i + 1)
      refine wg_s rfl rfl ?_
      refine wg_gx rfl rfl hX ?_
      refine wg_s rfl rfl ?_
      refine wg_ax rfl (xf_l hX rfl) (by omega) (by omega) (show _ = gi A j (i + 1) from hW.2.1 j (by omega)) ?_
      refine wg_s rfl rfl ?_
      refine wg_if rfl rfl (fun h19 => ?_) (fun h19 => ?_)
      · refine wg_iinc rfl rfl rfl (by omega) (by omega) rfl ?_
        refine wg_s rfl rfl ?_
        have hrec := lp_nr1 (d := d) hB i hW hqn N (j + 1) (c) (by omega) (by omega) (by show _ = nb (rq ok lk ld A (i + 1) i) j + (if _ then (1 : Int) else 0); rw [if_neg (fun w => by have := (rq_i.mp w).2; omega)]; omega)
        rw [show ((j + 1 : Nat) : Int) = (j : Int) + 1 by omega] at hrec
        exact hrec
      · refine wg_s rfl rfl ?_
        refine wg_s rfl rfl ?_
        refine wg_s rfl rfl ?_
        refine wg_cf rfl rfl (sp_isRun _ hB hW hqn i j (by omega) (by omega) (by omega)) ?_
        refine wg_eqb rfl (fun h28 => ?_) (fun h28 => ?_)
        · refine wg_iinc rfl rfl rfl (by omega) (by omega) rfl ?_
          refine wg_s rfl rfl ?_
          have hrec := lp_nr1 (d := d) hB i hW hqn N (j + 1) (c) (by omega) (by omega) (by show _ = nb (rq ok lk ld A (i + 1) i) j + (if _ then (1 : Int) else 0); rw [if_neg (fun w => h28 (rq_i.mp w).1)]; omega)
          rw [show ((j + 1 : Nat) : Int) = (j : Int) + 1 by omega] at hrec
          exact hrec
        · refine wg_iinc rfl rfl rfl (by omega) (by omega) rfl ?_
          refine wg_iinc rfl rfl rfl (by omega) (by omega) rfl ?_
          refine wg_s rfl rfl ?_
          have hrec := lp_nr1 (d := d) hB i hW hqn N (j + 1) (c + 1) (by omega) (by omega) (by show _ = nb (rq ok lk ld A (i + 1) i) j + (if _ then (1 : Int) else 0); rw [if_pos (rq_i.mpr ⟨h28, by omega⟩)]; omega)
          rw [show ((j + 1 : Nat) : Int) = (j : Int) + 1 by omega] at hrec
          exact hrec
theorem sp_newRun (d : Nat) {μ : ab_M} {n m : Nat} {ok : Nat → Nat → Bool} {lk ld : Nat → Nat → Int} (hB : BP μ n m ok lk ld) (i : Nat) {A : Nat → Int} (hW : WA μ m ok A (i + 1)) (hqn : i + 1 ≤ n) : Wp (d + 3) 35 [ab_r 1 (some 0), ab_i (i : Int)] μ (fun vv μ' => vv = some (ab_i (nr m ok lk ld A i)) ∧ μ' = μ) := by
  refine wp_of ?_
  obtain ⟨hX, ⟨hn6, hm6⟩, ⟨hn, hm⟩, hlk, hbd⟩ := id hB
  refine wg_s rfl rfl ?_
  refine wg_s rfl rfl ?_
  refine wg_s rfl rfl ?_
  refine wg_s rfl rfl ?_
  exact lp_nr1 hB i hW hqn 7 0 0 (by omega) (by omega) rfl
def upc (n : Nat) (ok : Nat → Nat → Bool) (lk ld : Nat → Nat → Int) (A : Nat → Int) (p : Nat) (c0 : Int) (h : Nat) : Int := if gi A p n = -1 then c0 + nb (fun h => pr_ru n ok lk ld A h p) h else c0
theorem upc_0 (n : Nat) (ok : Nat → Nat → Bool) (lk ld : Nat → Nat → Int) (A : Nat → Int) (p : Nat) (c0 : Int) : c0 = upc n ok lk ld A p c0 0 := by
  unfold upc
  by_cases e : gi A p n = -1
  · rw [if_pos e]; show c0 = c0 + (0 : Int); omega
  · rw [if_neg e]
theorem upc_n (n : Nat) (ok : Nat → Nat → Bool) (lk ld : Nat → Nat → Int) (A : Nat → Int) (p : Nat) (c0 : Int) : upc n ok lk ld A p c0 n = c0 + unp n ok lk ld A p := by
  unfold upc unp
  by_cases e : gi A p n = -1
  · rw [if_pos e, if_pos e]
  · rw [if_neg e, if_neg e, Int.add_zero]
theorem lp_uin {d : Nat} {μ : ab_M} {n m : Nat} {ok : Nat → Nat → Bool} {lk ld : Nat → Nat → Int} (hB : BP μ n m ok lk ld) {A : Nat → Int} (hW : WA μ m ok A n) (p : Nat) (hp : p < m) {Q : Option ab_V → ab_M → Prop} (c0 : Int) (hc0 : 0 ≤ c0 ∧ c0 ≤ 36) (K : ∀ (c : Int) (h : Nat), c = upc n ok lk ld A p c0 n → Wg (d + 2) 36 μ 50 [(0, ab_r 1 (some 0)), (1, ab_i c), (2, ab_i (p : Int)), (3, ab_i (h : Int))] [] Q) : ∀ (N h : Nat) (c : Int), n - h < N → h ≤ n → c = upc n ok lk ld A p c0 h → Wg (d + 2) 36 μ 14 [(0, ab_r 1 (some 0)), (1, ab_i c), (2, ab_i (p : Int)), (3, ab_i (h : Int))] [] Q
  | 0, _, _, h, _, _ => by omega
  | N + 1, h, c, h1, h2, hc => by
    have hcr : ∀ h, h ≤ n → 0 ≤ upc n ok lk ld A p c0 h ∧ upc n ok lk ld A p c0 h ≤ 36 + h := fun h hh => by
      have := nb_rng (fun h => pr_ru n ok lk ld A h p) h
      unfold upc; split <;> omega
    obtain ⟨hX, ⟨hn6, hm6⟩, ⟨hn, hm⟩, hlk, hbd⟩ := id hB
    have hnr := nb_rng (fun h => pr_ru n ok lk ld A h p) h
    have hgr := gi_rng A p n
    refine wg_s rfl rfl ?_
    refine wg_s rfl rfl ?_
    refine wg_gi rfl rfl (show _ = (n : Int) from hn) ?_
    refine wg_if rfl rfl (fun h19 => ?_) (fun h19 => ?_)
    · have eh : h = n := by omega
      subst eh
      exact K _ _ (by unfold upc; rw [hc]; rfl)
    · refine wg_s rfl rfl ?_
      refine wg_gx rfl rfl hX ?_
      refine wg_s rfl rfl ?_
      refine wg_ax rfl (xf_l hX rfl) (by omega) (by omega) (show _ = gi A p n from hW.2.1 p hp) ?_
      refine wg_s rfl rfl ?_
      refine wg_if rfl rfl (fun h29 => ?_) (fun h29 => ?_)
      · exact K _ _ (by unfold upc at hc ⊢; rw [if_neg h29] at hc ⊢; exact hc)
      
      · refine wg_s rfl rfl ?_
        refine wg_s rfl rfl ?_
        refine wg_s rfl rfl ?_
        refine wg_cf rfl rfl (sp_isRun _ hB hW (Nat.le_refl _) h p (by omega) (by omega) hp) ?_
        refine wg_eqb rfl (fun h38 => ?_) (fun h38 => ?_)
        · refine wg_iinc rfl rfl rfl (by omega) (by omega) rfl ?_
          refine wg_s rfl rfl ?_
          have hrec := lp_uin (d := d) hB hW p hp c0 hc0 K N (h + 1) c (by omega) (by omega) (by rw [hc]; unfold upc; rw [if_pos (Decidable.not_not.mp h29), if_pos (Decidable.not_not.mp h29)]; show _ = _ + (_ + if _ then (1 : Int) else 0); rw [if_neg h38]; omega)
          rw [show ((h + 1 : Nat) : Int) = (h : Int) + 1 by omega] at hrec
          exact hrec
        · refine wg_iinc rfl rfl rfl (by have := hcr h h2; omega) (by have := hcr h h2; omega) rfl ?_
          refine wg_iinc rfl rfl rfl (by omega) (by omega) rfl ?_
          refine wg_s rfl rfl ?_
          have hrec := lp_uin (d := d) hB hW p hp c0 hc0 K N (h + 1) (c + 1) (by omega) (by omega) (by rw [hc]; unfold upc; rw [if_pos (Decidable.not_not.mp h29), if_pos (Decidable.not_not.mp h29)]; show _ = _ + (_ + if _ then (1 : Int) else 0); rw [if_pos h38]; omega)
          rw [show ((h + 1 : Nat) : Int) = (h : Int) + 1 by omega] at hrec
          exact hrec
def t_uh (e : Option Nat) : ab_L := match e with
  | none => []
  | some h => [(3, ab_i (h : Int))]
theorem lp_uout {d : Nat} {μ : ab_M} {n m : Nat} {ok : Nat → Nat → Bool} {lk ld : Nat → Nat → Int} (hB : BP μ n m ok lk ld) {A : Nat → Int} (hW : WA μ m ok A n) : ∀ (N p : Nat) (c : Int) (e : Option Nat), m - p < N → p ≤ m → c = su (unp n ok lk ld A) p → Wg (d + 2) 36 μ 4 ([(0, ab_r 1 (some 0)), (1, ab_i c), (2, ab_i (p : Int))] ++ t_uh e) [] (fun vv μ' => vv = some (ab_i (su (unp n ok lk ld A) m)) ∧ μ' = μ)
  | 0, _, _, _, h, _, _ => by omega
  | N + 1, p, c, e, h1, h2, hc => by
    cases e with
    | none =>
      obtain ⟨hX, ⟨hn6, hm6⟩, ⟨hn, hm⟩, hlk, hbd⟩ := id hB
      have hsr := su_rng (f := unp n ok lk ld A) (b := 6) p (fun k _ => by have := unp_rng (ok := ok) (lk := lk) (ld := ld) n A k; omega)
      refine wg_s rfl rfl ?_
      refine wg_s rfl rfl ?_
      refine wg_gi rfl rfl (show _ = (m : Int) from hm) ?_
      refine wg_if rfl rfl (fun h9 => ?_) (fun h9 => ?_)
      · refine wg_s rfl rfl ?_
        refine wg_ret rfl rfl trivial ⟨?_, rfl⟩
        rw [hc, show p = m by omega]
      · refine wg_s rfl rfl ?_
        refine wg_s rfl rfl ?_
        refine lp_uin hB hW p (by omega) c (by omega) (fun c2 h hc2 => ?_) 7 0 c (by omega) (by omega) (upc_0 _ _ _ _ _ _ _)
        refine wg_iinc rfl rfl rfl (by omega) (by omega) rfl ?_
        refine wg_s rfl rfl ?_
        have hrec := lp_uout (d := d) hB hW N (p + 1) c2 (some h) (by omega) (by omega) (by rw [hc2, upc_n, hc]; rfl)
        rw [show ((p + 1 : Nat) : Int) = (p : Int) + 1 by omega] at hrec
        exact hrec
    | some h0 =>
      obtain ⟨hX, ⟨hn6, hm6⟩, ⟨hn, hm⟩, hlk, hbd⟩ := id hB
      have hsr := su_rng (f := unp n ok lk ld A) (b := 6) p (fun k _ => by have := unp_rng (ok := ok) (lk := lk) (ld := ld) n A k; omega)
      refine wg_s rfl rfl ?_
      refine wg_s rfl rfl ?_
      refine wg_gi rfl rfl (show _ = (m : Int) from hm) ?_
      refine wg_if rfl rfl (fun h9 => ?_) (fun h9 => ?_)
      · refine wg_s rfl rfl ?_
        refine wg_ret rfl rfl trivial ⟨?_, rfl⟩
        rw [hc, show p = m by omega]
      · refine wg_s rfl rfl ?_
        refine wg_s rfl rfl ?_
        refine lp_uin hB hW p (by omega) c (by omega) (fun c2 h hc2 => ?_) 7 0 c (by omega) (by omega) (upc_0 _ _ _ _ _ _ _)
        refine wg_iinc rfl rfl rfl (by omega) (by omega) rfl ?_
        refine wg_s rfl rfl ?_
        have hrec := lp_uout (d := d) hB hW N (p + 1) c2 (some h) (by omega) (by omega) (by rw [hc2, upc_n, hc]; rfl)
        rw [show ((p + 1 : Nat) : Int) = (p : Int) + 1 by omega] at hrec
        exact hrec
theorem sp_unpaired (d : Nat) {μ : ab_M} {n m : Nat} {ok : Nat → Nat → Bool} {lk ld : Nat → Nat → Int} (hB : BP μ n m ok lk ld) {A : Nat → Int} (hW : WA μ m ok A n) : Wp (d + 3) 36 [ab_r 1 (some 0)] μ (fun vv μ' => vv = some (ab_i (su (unp n ok lk ld A) m)) ∧ μ' = μ) := by
  refine wp_of ?_
  obtain ⟨hX, ⟨hn6, hm6⟩, ⟨hn, hm⟩, hlk, hbd⟩ := id hB
  refine wg_s rfl rfl ?_
  refine wg_s rfl rfl ?_
  refine wg_s rfl rfl ?_
  refine wg_s rfl rfl ?_
  exact lp_uout hB hW 7 0 0 none (by omega) (by omega) rfl
