/-! ===== pairings: by seats and by numbers; the limit that rises ===== -/
theorem it_s {S : Type} (f : Nat → S → S) : ∀ (c j : Nat) (s : S), it f (c + 1) j s = f (j + c) (it f c j s)
  | 0, j, s => rfl
  | c + 1, j, s => by
    show it f (c + 1) (j + 1) (f j s) = _
    rw [it_s f c (j + 1) (f j s), show j + 1 + c = j + (c + 1) by omega]; rfl
theorem it_cong {S : Type} {f g : Nat → S → S} : ∀ (c j : Nat) (s : S), (∀ k s, j ≤ k → k < j + c → f k s = g k s) → it f c j s = it g c j s
  | 0, _, _, _ => rfl
  | c + 1, j, s, h => by
    show it f c (j + 1) (f j s) = it g c (j + 1) (g j s)
    rw [h j s (by omega) (by omega)]
    exact it_cong c (j + 1) _ (fun k s h1 h2 => h k s (by omega) (by omega))
theorem ith_lt {f : Nat → Bool} {n j : Nat} (h : j < cn f n) : ith f (n + 1) j = ith f n j := by
  show (if f n = true ∧ j = cn f n then n else ith f n j) = _
  rw [if_neg (by omega)]
theorem it_ith {S : Type} (f : Nat → Bool) (G : Nat → S → S) : ∀ (K : Nat) (s : S), it (fun p s => if f p = true then G p s else s) K 0 s = it (fun j s => G (ith f K j) s) (cn f K) 0 s
  | 0, _ => rfl
  | K + 1, s => by
    rw [it_s, it_ith f G K s, Nat.zero_add]
    by_cases c : f K = true
    · rw [if_pos c, show cn f (K + 1) = cn f K + 1 from by show cn f K + _ = _; rw [if_pos c], it_s, Nat.zero_add]
      rw [show ith f (K + 1) (cn f K) = K from by show (if f K = true ∧ cn f K = cn f K then K else _) = K; rw [if_pos ⟨c, rfl⟩]]
      rw [it_cong (f := fun j s => G (ith f (K + 1) j) s) (g := fun j s => G (ith f K j) s) (cn f K) 0 s (fun k s _ h => by rw [ith_lt (by omega)])]
    · rw [if_neg c, show cn f (K + 1) = cn f K from by show cn f K + _ = _; rw [if_neg c]; rfl]
      exact (it_cong (cn f K) 0 s (fun k s _ h => by rw [ith_lt (by omega)])).symm
section
variable {f : Nat → Bool} {K : Nat} {okR : Nat → Nat → Bool} {lkR ldR : Nat → Nat → Int}
/-- seats to numbers -/
def ph (f : Nat → Bool) (K : Nat) (A : Nat → Int) : Nat → Int := fun k => if A k < 0 then -1 else ((ith f K (A k).toNat : Nat) : Int)
theorem ph_se (A : Nat → Int) (i : Nat) (x : Int) : ph f K (se A i x) = se (ph f K A) i (if x < 0 then -1 else ((ith f K x.toNat : Nat) : Int)) := by
  funext k; unfold ph se; by_cases e : k = i
  · rw [if_pos e, if_pos e]
  · rw [if_neg e, if_neg e]
theorem ph_eq {A : Nat → Int} {k j : Nat} (hj : j < cn f K) (hA : A k = -1 ∨ (0 ≤ A k ∧ A k < (cn f K : Int))) : ph f K A k = ((ith f K j : Nat) : Int) ↔ A k = (j : Int) := by
  unfold ph
  rcases hA with q | q
  · rw [if_pos (by omega)]; constructor <;> (intro w; omega)
  · rw [if_neg (by omega)]
    constructor
    · intro w
      have := ith_inj f K (A k).toNat j (by omega) hj (by omega)
      omega
    · intro w
      rw [show (A k).toNat = j by omega]
theorem val_A {m : Nat} {ok : Nat → Nat → Bool} {A : Nat → Int} {i k : Nat} (hv : val m ok A i) (hk : k < i) : A k = -1 ∨ (0 ≤ A k ∧ A k < (m : Int)) := (hv k hk).imp id (fun q => q.1)
theorem ph_un {ok : Nat → Nat → Bool} {A : Nat → Int} {j : Nat} (hj : j < cn f K) : ∀ i, val (cn f K) ok A i → un (ph f K A) (ith f K j) i = un A j i
  | 0, _ => rfl
  | i + 1, hv => by
    rw [un_s, un_s, ph_un hj i (val_le hv (by omega))]
    congr 1
    exact decide_eq_decide.mpr (not_congr (ph_eq hj (val_A hv (by omega))))
theorem ph_gi {ok : Nat → Nat → Bool} {A : Nat → Int} {j : Nat} (hj : j < cn f K) : ∀ i, val (cn f K) ok A i → gi (ph f K A) (ith f K j) i = gi A j i
  | 0, _ => rfl
  | i + 1, hv => by
    unfold gi
    rw [ph_gi hj i (val_le hv (by omega))]
    exact if_c (ph_eq hj (val_A hv (by omega))) rfl rfl
variable {okX : Nat → Nat → Bool}
theorem pf_map {S : Type} (h : (Nat → Int) → S → S) (n : Nat) (hf : ∀ i p, i < n → p < K → okR i p = true → f p = true) (hx : ∀ i j, i < n → j < cn f K → okX i j = okR i (ith f K j)) : ∀ (r i : Nat) (A : Nat → Int) (s : S), i + r ≤ n → val (cn f K) okX A i → pf K okR h r i (ph f K A) s = pf (cn f K) okX (fun A s => h (ph f K A) s) r i A s
  | 0, _, _, _, _, _ => rfl
  | r + 1, i, A, s, hn, hv => by
    show pf K okR h r (i + 1) (se (ph f K A) i (-1)) (it (fun p s => if (okR i p && un (ph f K A) p i) = true then pf K okR h r (i + 1) (se (ph f K A) i (p : Int)) s else s) K 0 s) = pf (cn f K) okX _ r (i + 1) (se A i (-1)) _
    have e1 : se (ph f K A) i (-1) = ph f K (se A i (-1)) := by rw [ph_se, if_pos (by omega)]
    rw [e1, pf_map h n hf hx r (i + 1) (se A i (-1)) _ (by omega) (val_m1 hv)]
    congr 1
    rw [it_cong (f := fun p s => if (okR i p && un (ph f K A) p i) = true then pf K okR h r (i + 1) (se (ph f K A) i (p : Int)) s else s) (g := fun p s => if f p = true then (if (okR i p && un (ph f K A) p i) = true then pf K okR h r (i + 1) (se (ph f K A) i (p : Int)) s else s) else s) K 0 s (fun p s _ hp => ?_)]
    · rw [it_ith f (fun p s => if (okR i p && un (ph f K A) p i) = true then pf K okR h r (i + 1) (se (ph f K A) i (p : Int)) s else s) K s]
      refine it_cong _ 0 s (fun j s _ hj => ?_)
      show (if (okR i (ith f K j) && un (ph f K A) (ith f K j) i) = true then _ else s) = (if (okX i j && un A j i) = true then _ else s)
      rw [← hx i j (by omega) (by omega), ph_un (by omega) i hv]
      by_cases q : (okX i j && un A j i) = true
      · rw [if_pos q, if_pos q]
        rw [Bool.and_eq_true] at q
        have e2 : se (ph f K A) i ((ith f K j : Nat) : Int) = ph f K (se A i (j : Int)) := by rw [ph_se, if_neg (by omega)]; rfl
        rw [e2]
        exact pf_map h n hf hx r (i + 1) (se A i (j : Int)) s (by omega) (val_j hv (by omega) q.1 q.2)
      · rw [if_neg q, if_neg q]
    · show _ = (if f p = true then _ else s)
      by_cases q : f p = true
      · rw [if_pos q]
      · rw [if_neg q, if_neg]
        intro w
        rw [Bool.and_eq_true] at w
        exact q (hf i p (by omega) (by omega) w.1)
theorem ph_l (A : Nat → Int) : ∀ i, pr_l lkR ldR (ph f K A) i = pr_l (fun i j => lkR i (ith f K j)) (fun i j => ldR i (ith f K j)) A i
  | 0 => rfl
  | i + 1 => by
    unfold pr_l
    rw [ph_l A i]
    congr 1
    unfold ph
    by_cases q : A i < 0
    · rw [if_pos q, if_pos q, if_pos (by omega)]
    · rw [if_neg q, if_neg q, if_neg (by omega)]; rfl
theorem ph_ru {n : Nat} (hx : ∀ i j, i < n → j < cn f K → okX i j = okR i (ith f K j)) {A : Nat → Int} (hv : val (cn f K) okX A n) {i j : Nat} (hi : i < n) (hj : j < cn f K) : pr_ru n okR lkR ldR (ph f K A) i (ith f K j) = pr_ru n okX (fun i j => lkR i (ith f K j)) (fun i j => ldR i (ith f K j)) A i j := by
  unfold pr_ru
  rw [← hx i j hi hj, ph_gi hj n hv]
  congr 1
  refine decide_eq_decide.mpr ?_
  have e0 := not_congr (ph_eq hj (val_A hv hi))
  have e1 : (ph f K A i < 0) ↔ (A i < 0) := by unfold ph; split <;> constructor <;> (intro q; omega)
  have e2 : ¬ A i < 0 → (ph f K A i).toNat = ith f K (A i).toNat := fun q => by unfold ph; rw [if_neg q]; rfl
  by_cases q : A i < 0
  · constructor
    · exact fun w => ⟨e0.mp w.1, Or.inl q, w.2.2⟩
    · exact fun w => ⟨e0.mpr w.1, Or.inl (e1.mpr q), w.2.2⟩
  · rw [e2 q]
    constructor
    · exact fun w => ⟨e0.mp w.1, w.2.1.imp (fun z => e1.mp z) id, w.2.2⟩
    · exact fun w => ⟨e0.mpr w.1, w.2.1.imp (fun z => e1.mpr z) id, w.2.2⟩
theorem ph_r {n : Nat} (hf : ∀ i p, i < n → p < K → okR i p = true → f p = true) (hx : ∀ i j, i < n → j < cn f K → okX i j = okR i (ith f K j)) {A : Nat → Int} (hv : val (cn f K) okX A n) : ∀ i, i ≤ n → pr_r K n okR lkR ldR (ph f K A) i = pr_r (cn f K) n okX (fun i j => lkR i (ith f K j)) (fun i j => ldR i (ith f K j)) A i
  | 0, _ => rfl
  | i + 1, hi => by
    unfold pr_r
    rw [ph_r hf hx hv i (by omega)]
    congr 1
    rw [← nb_cong (n := cn f K) (fun j hj => ph_ru (lkR := lkR) (ldR := ldR) hx hv (show i < n by omega) hj), nb_ith f (fun p => pr_ru n okR lkR ldR (ph f K A) i p) K]
    refine nb_cong (fun p hp => ?_)
    cases q : pr_ru n okR lkR ldR (ph f K A) i p with
    | false => simp
    | true =>
      have : okR i p = true := by
        have w := q; unfold pr_ru at w; rw [Bool.and_eq_true] at w; exact w.1
      rw [hf i p (by omega) hp this]; rfl
end
/-- the class holds a pairing within the limit that is liked more -/
def h_M (R L : (Nat → Int) → Int) (M : Int) (A : Nat → Int) (t : Int × (Nat → Int)) : Int × (Nat → Int) := if R A ≤ M ∧ t.1 < L A then (L A, A) else t
def RlM (g : (Nat → Int) → Nat → Int) (M : Int) (t0 : Int × (Nat → Int)) (s : Int × Int × (Nat → Int)) (t : Int × (Nat → Int)) : Prop := (s.1 < 0 ∧ t = t0) ∨ (0 ≤ s.1 ∧ (M < s.1 → t = t0) ∧ (M = s.1 → t.1 = s.2.1 ∧ s.2.2 = g t.2))
theorem RlM_h {R L R' L' : (Nat → Int) → Int} {g : (Nat → Int) → Nat → Int} {M : Int} {t0 : Int × (Nat → Int)} (ht : t0.1 = -1) {A : Nat → Int} (hR : R' (g A) = R A) (hL : L' (g A) = L A) (h0 : 0 ≤ R A) (hl : 0 ≤ L A) {s : Int × Int × (Nat → Int)} {t : Int × (Nat → Int)} (h : RlM g M t0 s t) : RlM g M t0 (pr_h R' L' (g A) s) (h_M R L M A t) := by
  unfold pr_h h_M
  rw [hR, hL]
  rcases h with ⟨h1, h2⟩ | ⟨h1, h2, h3⟩
  · rw [if_pos (Or.inl h1), h2]
    refine Or.inr ⟨h0, fun q => ?_, fun q => ?_⟩
    · rw [if_neg (by intro w; have : M < R A := q; omega)]
    · rw [if_pos (by have : M = R A := q; omega)]; exact ⟨rfl, rfl⟩
  · by_cases c : s.1 < 0 ∨ R A < s.1 ∨ (R A = s.1 ∧ s.2.1 < L A)
    · rw [if_pos c]
      refine Or.inr ⟨h0, fun q => ?_, fun q => ?_⟩
      · have q' : M < R A := q
        rw [if_neg (by omega)]; exact h2 (by omega)
      · have q' : M = R A := q
        by_cases e : R A < s.1
        · rw [h2 (by omega), if_pos (by omega)]; exact ⟨rfl, rfl⟩
        · have := (h3 (by omega)).1
          rw [if_pos (by omega)]; exact ⟨rfl, rfl⟩
    · rw [if_neg c]
      refine Or.inr ⟨h1, fun q => ?_, fun q => ?_⟩
      · rw [if_neg (by omega)]; exact h2 q
      · have := (h3 q).1
        rw [if_neg (by omega)]; exact h3 q
theorem pf_last {S : Type} {m : Nat} {ok : Nat → Nat → Bool} (h : (Nat → Int) → S → S) : ∀ (r i : Nat) (A : Nat → Int) (s : S), ∃ A' s', pf m ok h r i A s = h A' s'
  | 0, _, A, s => ⟨A, s, rfl⟩
  | r + 1, i, A, s => pf_last h r (i + 1) (se A i (-1)) _
