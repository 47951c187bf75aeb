/-! ===== rows for the abstract machine ===== -/
section
variable {μ : ab_M} {t n k t' n' k' len sl N M : Nat} {x : Int} {o : Option Nat}
theorem ag_I_J : ag_I (as_J μ t n k x) t' n' k' = ag_I μ t' n' k' := rfl
theorem ag_I_R : ag_I (as_R μ t n k o) t' n' k' = ag_I μ t' n' k' := rfl
theorem ag_J_I : ag_J (as_I μ t n k x) t' n' k' = ag_J μ t' n' k' := rfl
theorem ag_J_R : ag_J (as_R μ t n k o) t' n' k' = ag_J μ t' n' k' := rfl
theorem ag_R_I : ag_R (as_I μ t n k x) t' n' k' = ag_R μ t' n' k' := rfl
theorem ag_R_J : ag_R (as_J μ t n k x) t' n' k' = ag_R μ t' n' k' := rfl
theorem ag_L_I : ag_L (as_I μ t n k x) t' n' = ag_L μ t' n' := rfl
theorem ag_L_J : ag_L (as_J μ t n k x) t' n' = ag_L μ t' n' := rfl
theorem ag_L_R : ag_L (as_R μ t n k o) t' n' = ag_L μ t' n' := rfl
theorem ag_C_I : ag_C (as_I μ t n k x) t' = ag_C μ t' := rfl
theorem ag_C_J : ag_C (as_J μ t n k x) t' = ag_C μ t' := rfl
theorem ag_C_R : ag_C (as_R μ t n k o) t' = ag_C μ t' := rfl
theorem ag_c_I : ag_c (as_I μ t n k x) = ag_c μ := rfl
theorem ag_c_J : ag_c (as_J μ t n k x) = ag_c μ := rfl
theorem ag_c_R : ag_c (as_R μ t n k o) = ag_c μ := rfl
theorem ag_s_I : ag_s (as_I μ t n k x) = ag_s μ := rfl
theorem ag_s_J : ag_s (as_J μ t n k x) = ag_s μ := rfl
theorem ag_s_R : ag_s (as_R μ t n k o) = ag_s μ := rfl
theorem ag_c_N : ag_c (as_N μ t len sl) = ag_c μ + 1 := rfl
theorem ag_s_N : ag_s (as_N μ t len sl) = ag_s μ + sl := rfl
theorem ag_c_W : ag_c (as_W μ N M) = ag_c μ + 1 + N := rfl
theorem ag_s_W : ag_s (as_W μ N M) = ag_s μ + N + N * M := rfl
end
/-- a truth as an int -/
def bI (c : Prop) [Decidable c] : Int := if c then 1 else 0
theorem bI_0 {c : Prop} [Decidable c] : bI c = 0 ↔ ¬ c := by unfold bI; by_cases h : c <;> simp [h]
theorem bI_t {c : Prop} [Decidable c] (h : c) : bI c = 1 := if_pos h
theorem bI_f {c : Prop} [Decidable c] (h : ¬ c) : bI c = 0 := if_neg h
theorem bI_01 {c : Prop} [Decidable c] : bI c = 0 ∨ bI c = 1 := by unfold bI; by_cases h : c <;> simp [h]
section
variable {d k : Nat} {μ μ1 : ab_M} {pc : Nat} {l : ab_L} {st : List ab_V} {Q : Option ab_V → ab_M → Prop} {i : Instr} {nx a b : Nat}
/-- a call whose answer and memory are known -/
theorem wg_cf {as r : List ab_V} {v : ab_V} (hi : ab_ins k pc = some (i, nx, a, b)) (hs : ab_call i a b st = some (as, r)) (hw : Wp d a as μ (fun w μ' => w = some v ∧ μ' = μ1)) (K : Wg d k μ1 nx l (v :: r) Q) : Wg d k μ pc l st Q := by
  refine wg_call hi hs hw (fun w μ' h => ?_)
  obtain ⟨rfl, rfl⟩ := h
  exact K
theorem wg_cv {as r : List ab_V} (hi : ab_ins k pc = some (i, nx, a, b)) (hs : ab_call i a b st = some (as, r)) (hw : Wp d a as μ (fun w μ' => w = none ∧ μ' = μ1)) (K : Wg d k μ1 nx l r Q) : Wg d k μ pc l st Q := by
  refine wg_call hi hs hw (fun w μ' h => ?_)
  obtain ⟨rfl, rfl⟩ := h
  exact K
/-- a test of a truth -/
theorem wg_eqb {c : Prop} [Decidable c] {o : Int} (hi : ab_ins k pc = some (.ifCond .eq o, nx, a, b)) (K1 : ¬ c → Wg d k μ a l st Q) (K2 : c → Wg d k μ nx l st Q) : Wg d k μ pc l (ab_i (bI c) :: st) Q :=
  wg_if (c := bI c = 0) hi rfl (fun h => K1 (bI_0.mp h)) (fun h => K2 (Decidable.not_not.mp (fun q => h (bI_0.mpr q))))
theorem wg_neb {c : Prop} [Decidable c] {o : Int} (hi : ab_ins k pc = some (.ifCond .ne o, nx, a, b)) (K1 : c → Wg d k μ a l st Q) (K2 : ¬ c → Wg d k μ nx l st Q) : Wg d k μ pc l (ab_i (bI c) :: st) Q :=
  wg_if (c := bI c ≠ 0) hi rfl (fun h => K1 (Decidable.not_not.mp (fun q => h (bI_0.mpr q)))) (fun h => K2 (fun q => h (fun q2 => (bI_0.mp q2) q)))
/-- sums that don't wrap around -/
theorem wg_iadd {x y : Int} (hi : ab_ins k pc = some (.iadd, nx, a, b)) (h1 : -2147483648 ≤ x + y) (h2 : x + y < 2147483648) (K : Wg d k μ nx l (ab_i (x + y) :: st) Q) : Wg d k μ pc l (ab_i y :: ab_i x :: st) Q := by
  refine wg_s hi rfl ?_
  show Wg d k μ nx l (ab_i (ab_wr (x + y)) :: st) Q
  rw [ab_wr_id h1 h2]
  exact K
theorem wg_isub {x y : Int} (hi : ab_ins k pc = some (.isub, nx, a, b)) (h1 : -2147483648 ≤ x - y) (h2 : x - y < 2147483648) (K : Wg d k μ nx l (ab_i (x - y) :: st) Q) : Wg d k μ pc l (ab_i y :: ab_i x :: st) Q := by
  refine wg_s hi rfl ?_
  show Wg d k μ nx l (ab_i (ab_wr (x - y)) :: st) Q
  rw [ab_wr_id h1 h2]
  exact K
theorem wg_imul {x y : Int} (hi : ab_ins k pc = some (.imul, nx, a, b)) (h1 : -2147483648 ≤ x * y) (h2 : x * y < 2147483648) (K : Wg d k μ nx l (ab_i (x * y) :: st) Q) : Wg d k μ pc l (ab_i y :: ab_i x :: st) Q := by
  refine wg_s hi rfl ?_
  show Wg d k μ nx l (ab_i (ab_wr (x * y)) :: st) Q
  rw [ab_wr_id h1 h2]
  exact K
theorem wg_iinc {j : Nat} {x z : Int} {l1 : ab_L} (hi : ab_ins k pc = some (.iinc j z, nx, a, b)) (hk : ab_lk l j = some (ab_i x)) (hn : ab_nc l j 1 = true) (h1 : -2147483648 ≤ x + z) (h2 : x + z < 2147483648) (hl : ab_up l j (ab_i (x + z)) = l1) (K : Wg d k μ nx l1 st Q) : Wg d k μ pc l st Q := by
  refine wg_s hi (μ1 := μ) (pc1 := nx) (l1 := ab_up l j (ab_i (ab_wr (x + z)))) (st1 := st) ?_ ?_
  · dsimp only [ab_step]
    rw [hk]
    simp only [hn, cond_true]
  · rw [ab_wr_id h1 h2, hl]
    exact K
/-- sums of longs that don't wrap around -/
theorem wg_lbin {x y z : Int} (hi : ab_ins k pc = some (i, nx, a, b)) (hs : ab_step i pc nx a b μ l (ab_l y :: ab_l x :: st) = some (True, μ, nx, l, ab_l (ab_wl z) :: st)) (h1 : -9223372036854775808 ≤ z) (h2 : z < 9223372036854775808) (K : Wg d k μ nx l (ab_l z :: st) Q) : Wg d k μ pc l (ab_l y :: ab_l x :: st) Q := by
  refine wg_s hi hs ?_
  rw [ab_wl_id h1 h2]
  exact K
/-- a reference out of a field -/
theorem wg_gr {x n tg j : Nat} (hi : ab_ins k pc = some (.getfield x, nx, a, b)) (hf : ab_ft a b = (3, tg)) (hR : ag_R μ a n b = some j) (K : Wg d k μ nx l (ab_r tg (some j) :: st) Q) : Wg d k μ pc l (ab_r a (some n) :: st) Q := by
  refine wg_s hi (μ1 := μ) (pc1 := nx) (l1 := l) (st1 := ab_r tg (some j) :: st) ?_ K
  dsimp only [ab_step]
  rw [show Nat.beq a a = true from Nat.beq_refl a]
  simp only [cond_true, hf, ab_gv, hR]
/-- an int out of a field: its value is known -/
theorem wg_gi {x n : Nat} {z : Int} (hi : ab_ins k pc = some (.getfield x, nx, a, b)) (hf : ab_ft a b = (0, 0)) (hI : ag_I μ a n b = z) (K : Wg d k μ nx l (ab_i z :: st) Q) : Wg d k μ pc l (ab_r a (some n) :: st) Q := by
  refine wg_s hi (μ1 := μ) (pc1 := nx) (l1 := l) (st1 := ab_i z :: st) ?_ K
  dsimp only [ab_step]
  rw [show Nat.beq a a = true from Nat.beq_refl a]
  simp only [cond_true, hf, ab_gv, hI]
end
section
variable {d k : Nat} {μ : ab_M} {pc : Nat} {l : ab_L} {st : List ab_V} {Q : Option ab_V → ab_M → Prop} {nx a b : Nat}
theorem wg_lc_eq {x y o : Int} {n1 a1 b1 : Nat} (hj : ab_ins k pc = some (.lcmp, n1, a1, b1)) (hi : ab_ins k n1 = some (.ifCond .eq o, nx, a, b)) (K1 : x = y → Wg d k μ a l st Q) (K2 : ¬ (x = y) → Wg d k μ nx l st Q) : Wg d k μ pc l (ab_l y :: ab_l x :: st) Q := by
  refine wg_s hj rfl ?_
  have h : ∀ z : Int, z = (if y < x then 1 else if x = y then 0 else -1) → ((z = 0) ↔ (x = y)) := by
    intro z hz
    by_cases h1 : y < x
    · rw [if_pos h1] at hz; omega
    · rw [if_neg h1] at hz
      by_cases h2 : x = y
      · rw [if_pos h2] at hz; omega
      · rw [if_neg h2] at hz; omega
  exact wg_if hi rfl (fun q => K1 ((h _ rfl).mp q)) (fun q => K2 (fun w => q ((h _ rfl).mpr w)))
theorem wg_lc_ne {x y o : Int} {n1 a1 b1 : Nat} (hj : ab_ins k pc = some (.lcmp, n1, a1, b1)) (hi : ab_ins k n1 = some (.ifCond .ne o, nx, a, b)) (K1 : x ≠ y → Wg d k μ a l st Q) (K2 : ¬ (x ≠ y) → Wg d k μ nx l st Q) : Wg d k μ pc l (ab_l y :: ab_l x :: st) Q := by
  refine wg_s hj rfl ?_
  have h : ∀ z : Int, z = (if y < x then 1 else if x = y then 0 else -1) → ((z ≠ 0) ↔ (x ≠ y)) := by
    intro z hz
    by_cases h1 : y < x
    · rw [if_pos h1] at hz; omega
    · rw [if_neg h1] at hz
      by_cases h2 : x = y
      · rw [if_pos h2] at hz; omega
      · rw [if_neg h2] at hz; omega
  exact wg_if hi rfl (fun q => K1 ((h _ rfl).mp q)) (fun q => K2 (fun w => q ((h _ rfl).mpr w)))
theorem wg_lc_lt {x y o : Int} {n1 a1 b1 : Nat} (hj : ab_ins k pc = some (.lcmp, n1, a1, b1)) (hi : ab_ins k n1 = some (.ifCond .lt o, nx, a, b)) (K1 : x < y → Wg d k μ a l st Q) (K2 : ¬ (x < y) → Wg d k μ nx l st Q) : Wg d k μ pc l (ab_l y :: ab_l x :: st) Q := by
  refine wg_s hj rfl ?_
  have h : ∀ z : Int, z = (if y < x then 1 else if x = y then 0 else -1) → ((z < 0) ↔ (x < y)) := by
    intro z hz
    by_cases h1 : y < x
    · rw [if_pos h1] at hz; omega
    · rw [if_neg h1] at hz
      by_cases h2 : x = y
      · rw [if_pos h2] at hz; omega
      · rw [if_neg h2] at hz; omega
  exact wg_if hi rfl (fun q => K1 ((h _ rfl).mp q)) (fun q => K2 (fun w => q ((h _ rfl).mpr w)))
theorem wg_lc_ge {x y o : Int} {n1 a1 b1 : Nat} (hj : ab_ins k pc = some (.lcmp, n1, a1, b1)) (hi : ab_ins k n1 = some (.ifCond .ge o, nx, a, b)) (K1 : y ≤ x → Wg d k μ a l st Q) (K2 : ¬ (y ≤ x) → Wg d k μ nx l st Q) : Wg d k μ pc l (ab_l y :: ab_l x :: st) Q := by
  refine wg_s hj rfl ?_
  have h : ∀ z : Int, z = (if y < x then 1 else if x = y then 0 else -1) → ((0 ≤ z) ↔ (y ≤ x)) := by
    intro z hz
    by_cases h1 : y < x
    · rw [if_pos h1] at hz; omega
    · rw [if_neg h1] at hz
      by_cases h2 : x = y
      · rw [if_pos h2] at hz; omega
      · rw [if_neg h2] at hz; omega
  exact wg_if hi rfl (fun q => K1 ((h _ rfl).mp q)) (fun q => K2 (fun w => q ((h _ rfl).mpr w)))
theorem wg_lc_gt {x y o : Int} {n1 a1 b1 : Nat} (hj : ab_ins k pc = some (.lcmp, n1, a1, b1)) (hi : ab_ins k n1 = some (.ifCond .gt o, nx, a, b)) (K1 : y < x → Wg d k μ a l st Q) (K2 : ¬ (y < x) → Wg d k μ nx l st Q) : Wg d k μ pc l (ab_l y :: ab_l x :: st) Q := by
  refine wg_s hj rfl ?_
  have h : ∀ z : Int, z = (if y < x then 1 else if x = y then 0 else -1) → ((0 < z) ↔ (y < x)) := by
    intro z hz
    by_cases h1 : y < x
    · rw [if_pos h1] at hz; omega
    · rw [if_neg h1] at hz
      by_cases h2 : x = y
      · rw [if_pos h2] at hz; omega
      · rw [if_neg h2] at hz; omega
  exact wg_if hi rfl (fun q => K1 ((h _ rfl).mp q)) (fun q => K2 (fun w => q ((h _ rfl).mpr w)))
theorem wg_lc_le {x y o : Int} {n1 a1 b1 : Nat} (hj : ab_ins k pc = some (.lcmp, n1, a1, b1)) (hi : ab_ins k n1 = some (.ifCond .le o, nx, a, b)) (K1 : x ≤ y → Wg d k μ a l st Q) (K2 : ¬ (x ≤ y) → Wg d k μ nx l st Q) : Wg d k μ pc l (ab_l y :: ab_l x :: st) Q := by
  refine wg_s hj rfl ?_
  have h : ∀ z : Int, z = (if y < x then 1 else if x = y then 0 else -1) → ((z ≤ 0) ↔ (x ≤ y)) := by
    intro z hz
    by_cases h1 : y < x
    · rw [if_pos h1] at hz; omega
    · rw [if_neg h1] at hz
      by_cases h2 : x = y
      · rw [if_pos h2] at hz; omega
      · rw [if_neg h2] at hz; omega
  exact wg_if hi rfl (fun q => K1 ((h _ rfl).mp q)) (fun q => K2 (fun w => q ((h _ rfl).mpr w)))
end
/-! the reference's fields: its arrays' numbers, their lengths -/
def ms_n (b : Nat) : Option Nat := bif Nat.blt b 27 then (bif Nat.blt b 10 then (bif Nat.blt b 5 then (bif Nat.blt b 3 then (bif Nat.beq b 2 then some 20 else none) else (bif Nat.blt b 4 then (bif Nat.beq b 3 then some 21 else none) else (bif Nat.beq b 4 then some 22 else none))) else (bif Nat.blt b 8 then (bif Nat.blt b 7 then (bif Nat.beq b 5 then some 23 else none) else (bif Nat.beq b 7 then some 24 else none)) else (bif Nat.blt b 9 then (bif Nat.beq b 8 then some 25 else none) else (bif Nat.beq b 9 then some 26 else none)))) else (bif Nat.blt b 13 then (bif Nat.blt b 11 then (bif Nat.beq b 10 then some 27 else none) else (bif Nat.blt b 12 then (bif Nat.beq b 11 then some 28 else none) else (bif Nat.beq b 12 then some 29 else none))) else (bif Nat.blt b 24 then (bif Nat.blt b 23 then (bif Nat.beq b 13 then some 0 else none) else (bif Nat.beq b 23 then some 0 else none)) else (bif Nat.blt b 25 then (bif Nat.beq b 24 then some 30 else none) else (bif Nat.beq b 25 then some 31 else none))))) else (bif Nat.blt b 34 then (bif Nat.blt b 30 then (bif Nat.blt b 28 then (bif Nat.beq b 27 then some 32 else none) else (bif Nat.blt b 29 then (bif Nat.beq b 28 then some 33 else none) else (bif Nat.beq b 29 then some 34 else none))) else (bif Nat.blt b 32 then (bif Nat.blt b 31 then (bif Nat.beq b 30 then some 35 else none) else (bif Nat.beq b 31 then some 36 else none)) else (bif Nat.blt b 33 then (bif Nat.beq b 32 then some 37 else none) else (bif Nat.beq b 33 then some 38 else none)))) else (bif Nat.blt b 37 then (bif Nat.blt b 35 then (bif Nat.beq b 34 then some 39 else none) else (bif Nat.blt b 36 then (bif Nat.beq b 35 then some 40 else none) else (bif Nat.beq b 36 then some 41 else none))) else (bif Nat.blt b 40 then (bif Nat.blt b 39 then (bif Nat.beq b 37 then some 42 else none) else (bif Nat.beq b 39 then some 43 else none)) else (bif Nat.blt b 41 then (bif Nat.beq b 40 then some 44 else none) else (bif Nat.beq b 41 then some 45 else none)))))
def ms_l (s : Nat) : Option Nat := bif Nat.blt s 33 then (bif Nat.blt s 26 then (bif Nat.blt s 23 then (bif Nat.blt s 21 then (bif Nat.beq s 20 then some 8 else none) else (bif Nat.blt s 22 then (bif Nat.beq s 21 then some 8 else none) else (bif Nat.beq s 22 then some 8 else none))) else (bif Nat.blt s 24 then (bif Nat.beq s 23 then some 8 else none) else (bif Nat.blt s 25 then (bif Nat.beq s 24 then some 8 else none) else (bif Nat.beq s 25 then some 8 else none)))) else (bif Nat.blt s 29 then (bif Nat.blt s 27 then (bif Nat.beq s 26 then some 8 else none) else (bif Nat.blt s 28 then (bif Nat.beq s 27 then some 8 else none) else (bif Nat.beq s 28 then some 64 else none))) else (bif Nat.blt s 31 then (bif Nat.blt s 30 then (bif Nat.beq s 29 then some 64 else none) else (bif Nat.beq s 30 then some 4 else none)) else (bif Nat.blt s 32 then (bif Nat.beq s 31 then some 4 else none) else (bif Nat.beq s 32 then some 64 else none))))) else (bif Nat.blt s 39 then (bif Nat.blt s 36 then (bif Nat.blt s 34 then (bif Nat.beq s 33 then some 64 else none) else (bif Nat.blt s 35 then (bif Nat.beq s 34 then some 64 else none) else (bif Nat.beq s 35 then some 64 else none))) else (bif Nat.blt s 37 then (bif Nat.beq s 36 then some 64 else none) else (bif Nat.blt s 38 then (bif Nat.beq s 37 then some 64 else none) else (bif Nat.beq s 38 then some 64 else none)))) else (bif Nat.blt s 42 then (bif Nat.blt s 40 then (bif Nat.beq s 39 then some 64 else none) else (bif Nat.blt s 41 then (bif Nat.beq s 40 then some 64 else none) else (bif Nat.beq s 41 then some 4008 else none))) else (bif Nat.blt s 44 then (bif Nat.blt s 43 then (bif Nat.beq s 42 then some 4008 else none) else (bif Nat.beq s 43 then some 8 else none)) else (bif Nat.blt s 45 then (bif Nat.beq s 44 then some 8 else none) else (bif Nat.beq s 45 then some 8 else none)))))
/-- the reference's references and lengths -/
def FM (r : Nat → Nat → Nat → Option Nat) (ln : Nat → Nat → Nat) : Prop := (∀ b s, ms_n b = some s → r 10 0 b = some s) ∧ (∀ s N, ms_l s = some N → ln 11 s = N) ∧ ln 12 0 = 200 ∧ ln 13 0 = 4
section
variable {d k : Nat} {μ : ab_M} {pc : Nat} {l : ab_L} {st : List ab_V} {Q : Option ab_V → ab_M → Prop} {i : Instr} {nx a b : Nat}
theorem wg_gm {x tg s : Nat} (hi : ab_ins k pc = some (.getfield x, nx, 10, b)) (hf : (ab_ft 10 b, ms_n b) = ((3, tg), some s)) (hM : FM μ.2.2.1 μ.2.2.2.1) (K : Wg d k μ nx l (ab_r tg (some s) :: st) Q) : Wg d k μ pc l (ab_r 10 (some 0) :: st) Q := by
  have h1 := congrArg Prod.fst hf
  have h2 := congrArg Prod.snd hf
  exact wg_gr hi h1 (hM.1 b s h2) K
/-- an int out of one of the reference's arrays -/
theorem wg_ia {s : Nat} {j : Int} (hi : ab_ins k pc = some (.iaload, nx, a, b)) (hM : FM μ.2.2.1 μ.2.2.2.1) {N : Nat} (hs : ms_l s = some N) (h1 : 0 ≤ j) (h2 : j < (N : Int)) (K : Wg d k μ nx l (ab_i (ag_I μ 11 s j.toNat) :: st) Q) : Wg d k μ pc l (ab_i j :: ab_r 11 (some s) :: st) Q := by
  refine wg_c hi rfl ⟨h1, ?_⟩ K
  show j < (μ.2.2.2.1 11 s : Nat)
  rw [hM.2.1 s N hs]
  exact h2
theorem wg_ias {s : Nat} {j x : Int} (hi : ab_ins k pc = some (.iastore, nx, a, b)) (hM : FM μ.2.2.1 μ.2.2.2.1) {N : Nat} (hs : ms_l s = some N) (h1 : 0 ≤ j) (h2 : j < (N : Int)) (K : Wg d k (as_I μ 11 s j.toNat x) nx l st Q) : Wg d k μ pc l (ab_i x :: ab_i j :: ab_r 11 (some s) :: st) Q := by
  refine wg_c hi rfl ⟨h1, ?_⟩ K
  show j < (μ.2.2.2.1 11 s : Nat)
  rw [hM.2.1 s N hs]
  exact h2
end
section
variable {d k : Nat} {μ : ab_M} {pc : Nat} {l : ab_L} {st : List ab_V} {Q : Option ab_V → ab_M → Prop} {i : Instr} {nx a b : Nat}
theorem wg_at {pc2 : Nat} (h : pc = pc2) (K : Wg d k μ pc2 l st Q) : Wg d k μ pc l st Q := h ▸ K
/-- the reference's tape, and what it was told -/
theorem wg_ba {j : Int} (hi : ab_ins k pc = some (.baload, nx, a, b)) (hM : FM μ.2.2.1 μ.2.2.2.1) (h1 : 0 ≤ j) (h2 : j < 200) (K : Wg d k μ nx l (ab_i (ag_I μ 12 0 j.toNat) :: st) Q) : Wg d k μ pc l (ab_i j :: ab_r 12 (some 0) :: st) Q := by
  refine wg_c hi rfl ⟨h1, ?_⟩ K
  show j < (μ.2.2.2.1 12 0 : Nat)
  rw [hM.2.2.1]
  exact h2
theorem wg_bas {j x : Int} (hi : ab_ins k pc = some (.bastore, nx, a, b)) (hM : FM μ.2.2.1 μ.2.2.2.1) (h1 : 0 ≤ j) (h2 : j < 200) (hx : ab_i2b x = x) (K : Wg d k (as_I μ 12 0 j.toNat x) nx l st Q) : Wg d k μ pc l (ab_i x :: ab_i j :: ab_r 12 (some 0) :: st) Q := by
  refine wg_c hi rfl ⟨⟨h1, ?_⟩, hx⟩ K
  show j < (μ.2.2.2.1 12 0 : Nat)
  rw [hM.2.2.1]
  exact h2
theorem wg_za {j : Int} (hi : ab_ins k pc = some (.baload, nx, a, b)) (hM : FM μ.2.2.1 μ.2.2.2.1) (h1 : 0 ≤ j) (h2 : j < 4) (K : Wg d k μ nx l (ab_i (ag_I μ 13 0 j.toNat) :: st) Q) : Wg d k μ pc l (ab_i j :: ab_r 13 (some 0) :: st) Q := by
  refine wg_c hi rfl ⟨h1, ?_⟩ K
  show j < (μ.2.2.2.1 13 0 : Nat)
  rw [hM.2.2.2]
  exact h2
theorem wg_zas {j x : Int} (hi : ab_ins k pc = some (.bastore, nx, a, b)) (hM : FM μ.2.2.1 μ.2.2.2.1) (h1 : 0 ≤ j) (h2 : j < 4) (hx : x = 0 ∨ x = 1) (K : Wg d k (as_I μ 13 0 j.toNat x) nx l st Q) : Wg d k μ pc l (ab_i x :: ab_i j :: ab_r 13 (some 0) :: st) Q := by
  refine wg_c hi rfl ⟨⟨h1, ?_⟩, hx⟩ K
  show j < (μ.2.2.2.1 13 0 : Nat)
  rw [hM.2.2.2]
  exact h2
theorem ab_i2b2 (x : Int) : ab_i2b (ab_i2b x) = ab_i2b x := by
  unfold ab_i2b
  rw [Int32.ofInt_toInt]
  congr 1
  apply Int32.toInt_inj.mp
  rw [Int8.toInt_toInt32, Int8.toInt_toInt32, Int8.toInt8_toInt32]
end
