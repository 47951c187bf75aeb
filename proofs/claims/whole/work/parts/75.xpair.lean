/-! ===== pairings: what the class may skip ===== -/
def su (f : Nat → Int) : Nat → Int
  | 0 => 0
  | n + 1 => su f n + f n
theorem su_cong {f g : Nat → Int} : ∀ {n : Nat}, (∀ j, j < n → f j = g j) → su f n = su g n
  | 0, _ => rfl
  | n + 1, h => by unfold su; rw [su_cong (fun j hj => h j (by omega)), h n (by omega)]
theorem su_add (f g : Nat → Int) : ∀ n, su (fun k => f k + g k) n = su f n + su g n
  | 0 => rfl
  | n + 1 => by unfold su; rw [su_add f g n]; omega
theorem su_zero : ∀ n, su (fun _ => 0) n = 0
  | 0 => rfl
  | n + 1 => by unfold su; rw [su_zero n]; omega
theorem su_swap (f : Nat → Nat → Int) (m : Nat) : ∀ n, su (fun h => su (fun p => f h p) m) n = su (fun p => su (fun h => f h p) n) m
  | 0 => by
    show 0 = su (fun p => 0) m
    rw [su_zero]
  | n + 1 => by
    show su (fun h => su (fun p => f h p) m) n + su (fun p => f n p) m = su (fun p => su (fun h => f h p) n + f n p) m
    rw [su_swap f m n, su_add]
theorem nb_su (p : Nat → Bool) : ∀ n, nb p n = su (fun k => bI (p k = true)) n
  | 0 => rfl
  | n + 1 => by unfold nb su; rw [nb_su p n]; rfl
def val (m : Nat) (ok : Nat → Nat → Bool) (A : Nat → Int) (i : Nat) : Prop := ∀ k, k < i → A k = -1 ∨ ((0 ≤ A k ∧ A k < (m : Int)) ∧ ok k (A k).toNat = true ∧ ∀ k', k' < k → A k' ≠ A k)
theorem val_m1 {m : Nat} {ok : Nat → Nat → Bool} {A : Nat → Int} {i : Nat} (h : val m ok A i) : val m ok (se A i (-1)) (i + 1) := by
  intro k hk
  unfold se
  by_cases e : k = i
  · rw [if_pos e]; exact Or.inl rfl
  · rw [if_neg e]
    refine (h k (by omega)).imp id (fun q => ⟨q.1, q.2.1, fun k' hk' => ?_⟩)
    rw [if_neg (by omega)]
    exact q.2.2 k' hk'
theorem un_i {A : Nat → Int} {p : Nat} : ∀ {i : Nat}, un A p i = true ↔ ∀ k, k < i → A k ≠ (p : Int)
  | 0 => ⟨fun _ k hk => by omega, fun _ => rfl⟩
  | i + 1 => by
    rw [un_s, Bool.and_eq_true, decide_eq_true_eq, un_i]
    constructor
    · intro q k hk
      by_cases e : k = i
      · rw [e]; exact q.2
      · exact q.1 k (by omega)
    · intro q
      exact ⟨fun k hk => q k (by omega), q i (by omega)⟩
theorem gi_un {A : Nat → Int} {p : Nat} : ∀ {i : Nat}, gi A p i = -1 ↔ ∀ k, k < i → A k ≠ (p : Int)
  | 0 => ⟨fun _ k hk => by omega, fun _ => rfl⟩
  | i + 1 => by
    unfold gi
    by_cases e : A i = (p : Int)
    · rw [if_pos e]
      constructor
      · intro q; omega
      · intro q; exact absurd e (q i (by omega))
    · rw [if_neg e, gi_un]
      constructor
      · intro q k hk
        by_cases c : k = i
        · rw [c]; exact e
        · exact q k (by omega)
      · intro q k hk; exact q k (by omega)
theorem gi_e {A A' : Nat → Int} {p : Nat} : ∀ {i : Nat}, (∀ k, k < i → A' k = A k) → gi A' p i = gi A p i
  | 0, _ => rfl
  | i + 1, h => by unfold gi; rw [h i (by omega), gi_e (fun k hk => h k (by omega))]
theorem val_j {m : Nat} {ok : Nat → Nat → Bool} {A : Nat → Int} {i j : Nat} (h : val m ok A i) (hj : j < m) (ho : ok i j = true) (hu : un A j i = true) : val m ok (se A i (j : Int)) (i + 1) := by
  intro k hk
  unfold se
  by_cases e : k = i
  · rw [if_pos e, e]
    refine Or.inr ⟨⟨by omega, by omega⟩, ho, fun k' hk' => ?_⟩
    rw [if_neg (by omega)]
    exact un_i.mp hu k' hk'
  · rw [if_neg e]
    refine (h k (by omega)).imp id (fun q => ⟨q.1, q.2.1, fun k' hk' => ?_⟩)
    rw [if_neg (by omega)]
    exact q.2.2 k' hk'
theorem val_e {m : Nat} {ok : Nat → Nat → Bool} {A A' : Nat → Int} {i : Nat} (he : ∀ k, k < i → A' k = A k) (h : val m ok A i) : val m ok A' i := by
  intro k hk
  rw [he k hk]
  refine (h k hk).imp id (fun q => ⟨q.1, q.2.1, fun k' hk' => ?_⟩)
  rw [he k' (by omega)]; exact q.2.2 k' hk'
theorem val_le {m : Nat} {ok : Nat → Nat → Bool} {A : Nat → Int} {i j : Nat} (h : val m ok A i) (hj : j ≤ i) : val m ok A j := fun k hk => h k (by omega)
theorem it_rel {S T : Type} (Rl : S → T → Prop) (f : Nat → S → S) (g : Nat → T → T) (m : Nat) (h : ∀ j s t, j < m → Rl s t → Rl (f j s) (g j t)) : ∀ c j s t, j + c ≤ m → Rl s t → Rl (it f c j s) (it g c j t)
  | 0, _, _, _, _, hR => hR
  | c + 1, j, s, t, hj, hR => it_rel Rl f g m h c (j + 1) (f j s) (g j t) (by omega) (h j s t (by omega) hR)
theorem pf_rel {S T : Type} {m : Nat} {ok : Nat → Nat → Bool} (h1 : (Nat → Int) → S → S) (h2 : (Nat → Int) → T → T) (Rl : S → T → Prop) : ∀ (r i : Nat) (A : Nat → Int), val m ok A i → (∀ A' s t, (∀ k, k < i → A' k = A k) → val m ok A' (i + r) → Rl s t → Rl (h1 A' s) (h2 A' t)) → ∀ s t, Rl s t → Rl (pf m ok h1 r i A s) (pf m ok h2 r i A t)
  | 0, i, A, hv, H, s, t, hR => H A s t (fun _ _ => rfl) hv hR
  | r + 1, i, A, hv, H, s, t, hR => by
    show Rl (pf m ok h1 r (i + 1) (se A i (-1)) _) (pf m ok h2 r (i + 1) (se A i (-1)) _)
    have hse : ∀ x k, k < i → se A i x k = A k := fun x k hk => by unfold se; rw [if_neg (by omega)]
    refine pf_rel h1 h2 Rl r (i + 1) (se A i (-1)) (val_m1 hv) (fun A' s t he hv' => H A' s t (fun k hk => (he k (by omega)).trans (hse _ k hk)) (by rw [show i + (r + 1) = i + 1 + r by omega]; exact hv')) _ _ ?_
    refine it_rel Rl _ _ m (fun j s t hj hR => ?_) m 0 s t (by omega) hR
    by_cases q : (ok i j && un A j i) = true
    · rw [if_pos q, if_pos q]
      rw [Bool.and_eq_true] at q
      exact pf_rel h1 h2 Rl r (i + 1) (se A i (j : Int)) (val_j hv hj q.1 q.2) (fun A' s t he hv' => H A' s t (fun k hk => (he k (by omega)).trans (hse _ k hk)) (by rw [show i + (r + 1) = i + 1 + r by omega]; exact hv')) s t hR
    · rw [if_neg q, if_neg q]; exact hR
theorem pf_skip {S : Type} {m : Nat} {ok : Nat → Nat → Bool} (h : (Nat → Int) → S → S) (r i : Nat) (A : Nat → Int) (s : S) (hv : val m ok A i) (H : ∀ A', (∀ k, k < i → A' k = A k) → val m ok A' (i + r) → h A' s = s) : pf m ok h r i A s = s :=
  pf_rel (T := Unit) h (fun _ t => t) (fun x _ => x = s) r i A hv (fun A' x t he hv' hx => by rw [hx]; exact H A' he hv') s () rfl
/-! runaways, home by home -/
section
variable (m : Nat) (ok : Nat → Nat → Bool) (lk ld : Nat → Nat → Int)
abbrev rq (A : Nat → Int) (q h p : Nat) : Bool := pr_ru q ok lk ld A h p && decide (0 ≤ gi A p q)
def rs2 (A : Nat → Int) (q : Nat) : Nat → Int
  | 0 => 0
  | h + 1 => rs2 A q h + nb (rq ok lk ld A q h) m
def nh (A : Nat → Int) (q : Nat) (p : Int) : Nat → Int
  | 0 => 0
  | h + 1 => nh A q p h + if 0 ≤ p ∧ pr_ru q ok lk ld A h p.toNat = true then 1 else 0
def nr (A : Nat → Int) (i : Nat) : Int := nb (rq ok lk ld A (i + 1) i) m + nh ok lk ld A (i + 1) (A i) i
end
section
variable {m : Nat} {ok : Nat → Nat → Bool} {lk ld : Nat → Nat → Int}
theorem pr_ru_g {q q' : Nat} {A A' : Nat → Int} {h p : Nat} (ha : A' h = A h) (hg : gi A' p q' = gi A p q) : pr_ru q' ok lk ld A' h p = pr_ru q ok lk ld A h p := by
  unfold pr_ru; rw [ha, hg]
theorem rq_s {A : Nat → Int} {i h : Nat} (hv : val m ok A (i + 1)) (hh : h < i) : nb (rq ok lk ld A (i + 1) h) m = nb (rq ok lk ld A i h) m + if 0 ≤ A i ∧ pr_ru (i + 1) ok lk ld A h (A i).toNat = true then 1 else 0 := by
  have hsame : ∀ p, A i ≠ ((p : Nat) : Int) → rq ok lk ld A (i + 1) h p = rq ok lk ld A i h p := by
    intro p hp
    have e : gi A p (i + 1) = gi A p i := by show (if A i = (p : Int) then _ else _) = _; rw [if_neg hp]
    show (pr_ru (i + 1) ok lk ld A h p && decide (0 ≤ gi A p (i + 1))) = _
    rw [pr_ru_g (A := A) rfl e, e]
  rcases hv i (by omega) with q | ⟨q1, q2, q3⟩
  · rw [if_neg (by omega), Int.add_zero]
    exact nb_cong (fun p _ => hsame p (by omega))
  · have hold : rq ok lk ld A i h (A i).toNat = false := by
      have e : gi A (A i).toNat i = -1 := gi_un.mpr (fun k hk w => q3 k hk (by omega))
      show (_ && decide (0 ≤ gi A (A i).toNat i)) = false
      rw [e]; simp
    have hnew : rq ok lk ld A (i + 1) h (A i).toNat = pr_ru (i + 1) ok lk ld A h (A i).toNat := by
      have e : gi A (A i).toNat (i + 1) = i := by show (if A i = _ then _ else _) = _; rw [if_pos (by omega)]
      show (_ && decide (0 ≤ gi A (A i).toNat (i + 1))) = _
      rw [e]; simp
    by_cases c : pr_ru (i + 1) ok lk ld A h (A i).toNat = true
    · rw [if_pos ⟨q1.1, c⟩]
      exact nb_flip (i := (A i).toNat) (by omega) hold (hnew.trans c) (fun p _ hp => (hsame p (by omega)).symm)
    · rw [if_neg (fun w => c w.2), Int.add_zero]
      refine nb_cong (fun p _ => ?_)
      by_cases e : p = (A i).toNat
      · rw [e, hold, hnew]; exact Bool.eq_false_iff.mpr c
      · exact hsame p (by omega)
theorem rs2_s {A : Nat → Int} {i : Nat} (hv : val m ok A (i + 1)) : ∀ h, h ≤ i → rs2 m ok lk ld A (i + 1) h = rs2 m ok lk ld A i h + nh ok lk ld A (i + 1) (A i) h
  | 0, _ => rfl
  | h + 1, hh => by
    unfold rs2 nh
    rw [rs2_s hv h (by omega), rq_s hv (by omega)]
    omega
theorem rs2_n {A : Nat → Int} {i : Nat} (hv : val m ok A (i + 1)) : rs2 m ok lk ld A (i + 1) (i + 1) = rs2 m ok lk ld A i i + nr m ok lk ld A i := by
  show rs2 m ok lk ld A (i + 1) i + nb _ m = _
  rw [rs2_s hv i (by omega)]
  unfold nr
  omega
theorem nh_rng {A : Nat → Int} {q : Nat} {p : Int} : ∀ h, 0 ≤ nh ok lk ld A q p h ∧ nh ok lk ld A q p h ≤ h
  | 0 => by simp [nh]
  | h + 1 => by
    have := nh_rng (A := A) (q := q) (p := p) h
    unfold nh; split <;> omega
theorem nr_rng {A : Nat → Int} {i : Nat} : 0 ≤ nr m ok lk ld A i ∧ nr m ok lk ld A i ≤ m + i := by
  have h1 := nb_rng (rq ok lk ld A (i + 1) i) m
  have h2 := nh_rng (ok := ok) (lk := lk) (ld := ld) (A := A) (q := i + 1) (p := A i) i
  unfold nr; omega
theorem rs2_e {A A' : Nat → Int} {q : Nat} (he : ∀ k, k < q → A' k = A k) : ∀ h, h ≤ q → rs2 m ok lk ld A' q h = rs2 m ok lk ld A q h
  | 0, _ => rfl
  | h + 1, hh => by
    unfold rs2
    rw [rs2_e he h (by omega)]
    congr 1
    refine nb_cong (fun p _ => ?_)
    show (pr_ru q ok lk ld A' h p && decide (0 ≤ gi A' p q)) = _
    rw [pr_ru_g (he h (by omega)) (gi_e he), gi_e he]
theorem rs2_mono {A : Nat → Int} {i : Nat} : ∀ c, val m ok A (i + c) → rs2 m ok lk ld A i i ≤ rs2 m ok lk ld A (i + c) (i + c)
  | 0, _ => Int.le_refl _
  | c + 1, hv => by
    have h1 := rs2_mono (i := i) c (val_le hv (by omega))
    have h2 := rs2_n (lk := lk) (ld := ld) (show val m ok A (i + c + 1) from hv)
    have h3 := nr_rng (m := m) (ok := ok) (lk := lk) (ld := ld) (A := A) (i := i + c)
    show _ ≤ rs2 m ok lk ld A (i + c + 1) (i + c + 1)
    omega
/-- to those without a home -/
def unp (n : Nat) (ok : Nat → Nat → Bool) (lk ld : Nat → Nat → Int) (A : Nat → Int) (p : Nat) : Int := if gi A p n = -1 then nb (fun h => pr_ru n ok lk ld A h p) n else 0
theorem pr_r_su (m n : Nat) (A : Nat → Int) : ∀ h, pr_r m n ok lk ld A h = su (fun h => su (fun p => bI (pr_ru n ok lk ld A h p = true)) m) h
  | 0 => rfl
  | h + 1 => by unfold pr_r su; rw [pr_r_su m n A h, nb_su]
theorem rs2_su (m : Nat) (A : Nat → Int) (q : Nat) : ∀ h, rs2 m ok lk ld A q h = su (fun h => su (fun p => bI (rq ok lk ld A q h p = true)) m) h
  | 0 => rfl
  | h + 1 => by unfold rs2 su; rw [rs2_su m A q h, nb_su]
theorem run_all_eq (n : Nat) (A : Nat → Int) : pr_r m n ok lk ld A n = rs2 m ok lk ld A n n + su (unp n ok lk ld A) m := by
  rw [pr_r_su, rs2_su]
  have e : su (unp n ok lk ld A) m = su (fun h => su (fun p => bI (pr_ru n ok lk ld A h p = true ∧ gi A p n = -1)) m) n := by
    rw [su_swap]
    refine su_cong (fun p _ => ?_)
    unfold unp
    by_cases c : gi A p n = -1
    · rw [if_pos c, nb_su]
      refine su_cong (fun h _ => ?_)
      by_cases w : pr_ru n ok lk ld A h p = true
      · rw [bI_t w, bI_t ⟨w, c⟩]
      · rw [bI_f w, bI_f (fun z => w z.1)]
    · rw [if_neg c]
      rw [su_cong (g := fun _ => 0) (fun h _ => bI_f (fun z => c z.2)), su_zero]
  rw [e, ← su_add]
  refine su_cong (fun h _ => ?_)
  rw [← su_add]
  refine su_cong (fun p _ => ?_)
  have hg := gi_rng A p n
  have hq : (rq ok lk ld A n h p = true) ↔ (pr_ru n ok lk ld A h p = true ∧ 0 ≤ gi A p n) := by
    show (_ && decide _) = true ↔ _
    rw [Bool.and_eq_true, decide_eq_true_eq]
  by_cases w : pr_ru n ok lk ld A h p = true
  · by_cases c : gi A p n = -1
    · rw [bI_t w, bI_f (show ¬ rq ok lk ld A n h p = true from fun z => by have := (hq.mp z).2; omega), bI_t (show pr_ru n ok lk ld A h p = true ∧ gi A p n = -1 from ⟨w, c⟩)]; rfl
    · rw [bI_t w, bI_t (show rq ok lk ld A n h p = true from hq.mpr ⟨w, by omega⟩), bI_f (show ¬ (pr_ru n ok lk ld A h p = true ∧ gi A p n = -1) from fun z => c z.2)]; rfl
  · rw [bI_f w, bI_f (show ¬ rq ok lk ld A n h p = true from fun z => w (hq.mp z).1), bI_f (show ¬ (pr_ru n ok lk ld A h p = true ∧ gi A p n = -1) from fun z => w z.1)]; rfl
theorem unp_rng (n : Nat) (A : Nat → Int) (p : Nat) : 0 ≤ unp n ok lk ld A p ∧ unp n ok lk ld A p ≤ n := by
  have := nb_rng (fun h => pr_ru n ok lk ld A h p) n
  unfold unp; split <;> omega
theorem su_rng {f : Nat → Int} {b : Int} : ∀ n : Nat, (∀ k, k < n → 0 ≤ f k ∧ f k ≤ b) → 0 ≤ su f n ∧ su f n ≤ n * b
  | 0, _ => by simp [su]
  | n + 1, h => by
    have h1 := su_rng n (fun k hk => h k (by omega))
    have h2 := h n (by omega)
    unfold su
    rw [Int.natCast_add, Int.add_mul]
    omega
/-- likes -/
def x_mx (m : Nat) (ok : Nat → Nat → Bool) (lk ld : Nat → Nat → Int) (i : Nat) : Nat → Int
  | 0 => 0
  | j + 1 => if ok i j = true then max (x_mx m ok lk ld i j) (lk i j + ld i j) else x_mx m ok lk ld i j
/-- of c homes from n - c on -/
def x_mf (m n : Nat) (ok : Nat → Nat → Bool) (lk ld : Nat → Nat → Int) : Nat → Int
  | 0 => 0
  | c + 1 => x_mf m n ok lk ld c + x_mx m ok lk ld (n - (c + 1)) m
theorem x_mx_0 {m : Nat} {ok : Nat → Nat → Bool} {lk ld : Nat → Nat → Int} {i : Nat} : ∀ j, 0 ≤ x_mx m ok lk ld i j
  | 0 => Int.le_refl _
  | j + 1 => by
    have := x_mx_0 (m := m) (ok := ok) (lk := lk) (ld := ld) (i := i) j
    unfold x_mx; split <;> omega
theorem x_mx_le {m : Nat} {ok : Nat → Nat → Bool} {lk ld : Nat → Nat → Int} {i p : Nat} (ho : ok i p = true) : ∀ j, p < j → lk i p + ld i p ≤ x_mx m ok lk ld i j
  | 0, h => by omega
  | j + 1, h => by
    unfold x_mx
    by_cases e : p = j
    · subst e; rw [if_pos ho]; omega
    · have := x_mx_le (m := m) (lk := lk) (ld := ld) ho j (by omega)
      split <;> omega
theorem x_mx_b {i : Nat} {B : Int} (hB : ∀ j, j < m → ok i j = true → lk i j + ld i j ≤ B) (h0 : 0 ≤ B) : ∀ j, j ≤ m → x_mx m ok lk ld i j ≤ B
  | 0, _ => h0
  | j + 1, h => by
    have h1 := x_mx_b hB h0 j (by omega)
    unfold x_mx
    by_cases c : ok i j = true
    · rw [if_pos c]; have := hB j (by omega) c; omega
    · rw [if_neg c]; exact h1
theorem pr_l_e {A A' : Nat → Int} : ∀ i, (∀ k, k < i → A' k = A k) → pr_l lk ld A' i = pr_l lk ld A i
  | 0, _ => rfl
  | i + 1, h => by unfold pr_l; rw [pr_l_e i (fun k hk => h k (by omega)), h i (by omega)]
theorem pr_l_le {m : Nat} {ok : Nat → Nat → Bool} {lk ld : Nat → Nat → Int} {A : Nat → Int} {n : Nat} : ∀ c, c ≤ n → val m ok A n → pr_l lk ld A n ≤ pr_l lk ld A (n - c) + x_mf m n ok lk ld c
  | 0, _, _ => by simp [x_mf]
  | c + 1, hc, hv => by
    have h1 := pr_l_le (A := A) (lk := lk) (ld := ld) c (by omega) hv
    have e : n - c = n - (c + 1) + 1 := by omega
    rw [e] at h1
    have h2 : pr_l lk ld A (n - (c + 1) + 1) = pr_l lk ld A (n - (c + 1)) + if A (n - (c + 1)) < 0 then 0 else lk (n - (c + 1)) (A (n - (c + 1))).toNat + ld (n - (c + 1)) (A (n - (c + 1))).toNat := rfl
    unfold x_mf
    have h3 := x_mx_0 (m := m) (ok := ok) (lk := lk) (ld := ld) (i := n - (c + 1)) m
    rcases hv (n - (c + 1)) (by omega) with q | ⟨q1, q2, q3⟩
    · rw [if_pos (by omega)] at h2; omega
    · rw [if_neg (by omega)] at h2
      have h4 := x_mx_le (m := m) (lk := lk) (ld := ld) q2 m (by omega)
      omega
end
