/-! ===== the class: fractions ===== -/
def t_9 (e : Option Int) : ab_L := match e with
  | none => []
  | some t => [(9, ab_l t)]
theorem lp_gcd {d : Nat} {μ : ab_M} {g : Nat} {a b : Int} : ∀ (n i : Nat) (y x : Nat) (e : Option Int), i + n < 100 → x < 2 ^ 62 → y < 2 ^ 62 → y ≤ x → x * y < 2 ^ n → Nat.gcd x y = g → Wg d 45 μ 9 ([(0, ab_l a), (2, ab_l b), (4, ab_l (x : Int)), (6, ab_l (y : Int)), (8, ab_i (i : Int))] ++ t_9 e) [] (fun w μ' => w = some (ab_l (g : Int)) ∧ μ' = μ) := by
  intro n
  induction n with
  | zero =>
    intro i y x e hi hx hy hxy hp hg
    have hy0 : y = 0 := by
      rcases Nat.eq_zero_or_pos y with h | h
      · exact h
      · have : 1 * 1 ≤ x * y := Nat.mul_le_mul (by omega) h
        omega
    cases e with
    | none =>
      refine wg_s rfl rfl ?_
      refine wg_s rfl rfl ?_
      refine wg_if rfl rfl (fun h13 => ?_) (fun h13 => ?_)
      · refine wg_s rfl rfl ?_
        have e : y = 0 := hy0
        subst e
        rw [Nat.gcd_zero_right] at hg
        exact wg_ret rfl rfl trivial ⟨by rw [hg], rfl⟩
      · refine wg_s rfl rfl ?_
        refine wg_s rfl rfl ?_
        refine wg_lc_eq rfl rfl (fun h19 => ?_) (fun h19 => ?_)
        · refine wg_s rfl rfl ?_
          have e : y = 0 := hy0
          subst e
          rw [Nat.gcd_zero_right] at hg
          exact wg_ret rfl rfl trivial ⟨by rw [hg], rfl⟩
        · exfalso; omega
    | some t =>
      refine wg_s rfl rfl ?_
      refine wg_s rfl rfl ?_
      refine wg_if rfl rfl (fun h13 => ?_) (fun h13 => ?_)
      · refine wg_s rfl rfl ?_
        have e : y = 0 := hy0
        subst e
        rw [Nat.gcd_zero_right] at hg
        exact wg_ret rfl rfl trivial ⟨by rw [hg], rfl⟩
      · refine wg_s rfl rfl ?_
        refine wg_s rfl rfl ?_
        refine wg_lc_eq rfl rfl (fun h19 => ?_) (fun h19 => ?_)
        · refine wg_s rfl rfl ?_
          have e : y = 0 := hy0
          subst e
          rw [Nat.gcd_zero_right] at hg
          exact wg_ret rfl rfl trivial ⟨by rw [hg], rfl⟩
        · exfalso; omega
  | succ n ih =>
    intro i y x e hi hx hy hxy hp hg
    cases e with
    | none =>
      refine wg_s rfl rfl ?_
      refine wg_s rfl rfl ?_
      refine wg_if rfl rfl (fun h13 => ?_) (fun h13 => ?_)
      · refine wg_s rfl rfl ?_
        first | (exfalso; omega) | (have e : y = 0 := (by omega); subst e; rw [Nat.gcd_zero_right] at hg; exact wg_ret rfl rfl trivial ⟨by rw [hg], rfl⟩)
      · refine wg_s rfl rfl ?_
        refine wg_s rfl rfl ?_
        refine wg_lc_eq rfl rfl (fun h19 => ?_) (fun h19 => ?_)
        · refine wg_s rfl rfl ?_
          first | (exfalso; omega) | (have e : y = 0 := (by omega); subst e; rw [Nat.gcd_zero_right] at hg; exact wg_ret rfl rfl trivial ⟨by rw [hg], rfl⟩)
        · refine wg_s rfl rfl ?_
          refine wg_s rfl rfl ?_
          refine wg_c rfl rfl ⟨by omega, by omega⟩ ?_
          refine wg_s rfl rfl ?_
          refine wg_s rfl rfl ?_
          refine wg_s rfl rfl ?_
          refine wg_s rfl rfl ?_
          refine wg_s rfl rfl ?_
          refine wg_iinc rfl rfl rfl (by omega) (by omega) rfl ?_
          refine wg_s rfl rfl ?_
          have hy : 0 < y := by omega
          have hm := Nat.mod_lt x hy
          have hh : 2 * (x % y) ≤ x := by have := Nat.div_add_mod x y; have h1 : 1 ≤ x / y := Nat.div_pos hxy hy; have h2 : y * 1 ≤ y * (x / y) := Nat.mul_le_mul_left y h1; omega
          have hp2 : 2 * (y * (x % y)) ≤ x * y := by rw [← Nat.mul_assoc, Nat.mul_comm 2 y, Nat.mul_assoc, Nat.mul_comm x y]; exact Nat.mul_le_mul_left y hh
          rw [Nat.pow_succ] at hp
          have := ih (i + 1) (x % y) y (some ((x : Int) % (y : Int))) (by omega) (by omega) (by omega) (by omega) (by omega) (by rw [← gcd_step]; exact hg)
          exact wg_lo this rfl
    | some t =>
      refine wg_s rfl rfl ?_
      refine wg_s rfl rfl ?_
      refine wg_if rfl rfl (fun h13 => ?_) (fun h13 => ?_)
      · refine wg_s rfl rfl ?_
        first | (exfalso; omega) | (have e : y = 0 := (by omega); subst e; rw [Nat.gcd_zero_right] at hg; exact wg_ret rfl rfl trivial ⟨by rw [hg], rfl⟩)
      · refine wg_s rfl rfl ?_
        refine wg_s rfl rfl ?_
        refine wg_lc_eq rfl rfl (fun h19 => ?_) (fun h19 => ?_)
        · refine wg_s rfl rfl ?_
          first | (exfalso; omega) | (have e : y = 0 := (by omega); subst e; rw [Nat.gcd_zero_right] at hg; exact wg_ret rfl rfl trivial ⟨by rw [hg], rfl⟩)
        · refine wg_s rfl rfl ?_
          refine wg_s rfl rfl ?_
          refine wg_c rfl rfl ⟨by omega, by omega⟩ ?_
          refine wg_s rfl rfl ?_
          refine wg_s rfl rfl ?_
          refine wg_s rfl rfl ?_
          refine wg_s rfl rfl ?_
          refine wg_s rfl rfl ?_
          refine wg_iinc rfl rfl rfl (by omega) (by omega) rfl ?_
          refine wg_s rfl rfl ?_
          have hy : 0 < y := by omega
          have hm := Nat.mod_lt x hy
          have hh : 2 * (x % y) ≤ x := by have := Nat.div_add_mod x y; have h1 : 1 ≤ x / y := Nat.div_pos hxy hy; have h2 : y * 1 ≤ y * (x / y) := Nat.mul_le_mul_left y h1; omega
          have hp2 : 2 * (y * (x % y)) ≤ x * y := by rw [← Nat.mul_assoc, Nat.mul_comm 2 y, Nat.mul_assoc, Nat.mul_comm x y]; exact Nat.mul_le_mul_left y hh
          rw [Nat.pow_succ] at hp
          have := ih (i + 1) (x % y) y (some ((x : Int) % (y : Int))) (by omega) (by omega) (by omega) (by omega) (by omega) (by rw [← gcd_step]; exact hg)
          exact wg_lo this rfl
theorem sp_gcd (d : Nat) (x y : Nat) (μ : ab_M) (hx : x < 2 ^ 45) (hy : y < 2 ^ 45) : Wp (d + 1) 45 [ab_l (x : Int), ab_l (y : Int)] μ (fun w μ' => w = some (ab_l ((Nat.gcd x y : Nat) : Int)) ∧ μ' = μ) := by
  refine wp_of ?_
  refine wg_s rfl rfl ?_
  refine wg_s rfl rfl ?_
  refine wg_s rfl rfl ?_
  refine wg_s rfl rfl ?_
  refine wg_s rfl rfl ?_
  refine wg_s rfl rfl ?_
  refine wg_s rfl rfl ?_
  refine wg_s rfl rfl ?_
  refine wg_s rfl rfl ?_
  refine wg_s rfl rfl ?_
  refine wg_s rfl rfl ?_
  refine wg_lc_eq rfl rfl (fun h19 => ?_) (fun h19 => ?_)
  · refine wg_s rfl rfl ?_
    first | (exfalso; omega) | (have e : y = 0 := (by omega); subst e; exact wg_ret rfl rfl trivial ⟨by rw [Nat.gcd_zero_right], rfl⟩)
  · refine wg_s rfl rfl ?_
    refine wg_s rfl rfl ?_
    refine wg_c rfl rfl ⟨by omega, by omega⟩ ?_
    refine wg_s rfl rfl ?_
    refine wg_s rfl rfl ?_
    refine wg_s rfl rfl ?_
    refine wg_s rfl rfl ?_
    refine wg_s rfl rfl ?_
    refine wg_iinc rfl rfl rfl (by omega) (by omega) rfl ?_
    refine wg_s rfl rfl ?_
    have hm := Nat.mod_lt x (show 0 < y by omega)
    have hp : y * (x % y) < 2 ^ 90 := Nat.lt_of_le_of_lt (Nat.mul_le_mul_left y (show x % y ≤ y by omega)) (Nat.lt_of_le_of_lt (Nat.mul_le_mul (show y ≤ 2 ^ 45 - 1 by omega) (show y ≤ 2 ^ 45 - 1 by omega)) (by decide))
    have := lp_gcd (d := d) (μ := μ) (g := Nat.gcd x y) (a := (x : Int)) (b := (y : Int)) 90 1 (x % y) y (some ((x : Int) % (y : Int))) (by omega) (by omega) (by omega) (by omega) hp (by rw [← gcd_step])
    exact wg_lo this rfl
