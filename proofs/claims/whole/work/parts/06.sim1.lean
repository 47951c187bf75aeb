/-! ===== the abstract memory in the heap ===== -/
def ab_c (ad : Nat → Nat → Nat) (v : ab_V) : Value := match v with
  | .inl z => .int (Int32.ofInt z)
  | .inr (.inl z) => .long (Int64.ofInt z)
  | .inr (.inr (t, o)) => va_rf (o.map (ad t))
def ab_tys (cy : Nat → ClassId) : List (ClassId × FieldType) := [(cy 11, .int), (cy 12, .byte), (cy 13, .boolean), (cy 14, .object "RoomForHelp$Helper"), (cy 15, .object "RoomForHelp$Home"), (cy 16, .object "RoomForHelp$Lasting"), (cy 17, .object "RoomForHelp$Pair"), (cy 18, .array .int)]
def ab_fv (ad : Nat → Nat → Nat) (μ : ab_M) (t n : Nat) : List Value := (List.range (ab_nf t)).map (fun k => ab_c ad (ab_gv μ t n k (ab_ft t k)))
def ab_e (ad : Nat → Nat → Nat) (cy : Nat → ClassId) (μ : ab_M) (t n : Nat) : va_E := if t < 11 then .inr (t, ab_fv ad μ t n) else if t < 14 then .inl (cy t, ag_L μ t n, .inl (fun j => Int32.ofInt (ag_I μ t n j))) else .inl (cy t, ag_L μ t n, .inr (.inr (.inr (.inr (fun j => (ag_R μ t n j).map (ad (ab_et t)))))))
def ab_H (D : va_G) (cy : Nat → ClassId) (base : Nat) (ad : Nat → Nat → Nat) (μ : ab_M) (H : Heap) : Prop :=
  (∀ t n, t < 19 → n < ag_C μ t → va_at D vwCl (ad t n, ab_e ad cy μ t n) H ∧ base ≤ ad t n) ∧ (∀ t n t' n', t < 19 → t' < 19 → n < ag_C μ t → n' < ag_C μ t' → ad t n = ad t' n' → t = t' ∧ n = n')
def ab_tt (t k : Nat) : Nat := if t < 11 then (ab_ft t k).2 else ab_et t
def ab_W (μ : ab_M) : Prop := (∀ t n k, ab_wr (ag_I μ t n k) = ag_I μ t n k) ∧ (∀ t n k, ab_wl (ag_J μ t n k) = ag_J μ t n k) ∧ (∀ t n k j, t < 19 → ag_R μ t n k = some j → j < ag_C μ (ab_tt t k)) ∧ (∀ t n, ag_L μ t n ≤ 100000)
def ab_ok (μ : ab_M) (v : ab_V) : Prop := match v with
  | .inl z => ab_wr z = z
  | .inr (.inl z) => ab_wl z = z
  | .inr (.inr (t, o)) => ∀ n, o = some n → n < ag_C μ t
/-- the names of all cells, in a row -/
def ab_ij (L : List (Nat × Nat)) : Prop := ∀ (i j : Nat) (x : Nat × Nat), L[i]? = some x → L[j]? = some x → i = j
def ab_pt (t n : Nat) : List (Nat × Nat) := (List.range n).map (fun j => (t, j))
def ab_pl (C : Nat → Nat) : Nat → List (Nat × Nat)
  | 0 => []
  | t + 1 => ab_pl C t ++ ab_pt t (C t)
theorem ab_pt_at {t n i : Nat} {x : Nat × Nat} (h : (ab_pt t n)[i]? = some x) : x = (t, i) ∧ i < n := by
  unfold ab_pt at h
  rw [List.getElem?_map] at h
  by_cases hi : i < n
  · rw [List.getElem?_range hi] at h
    exact ⟨(Option.some.inj h).symm, hi⟩
  · rw [List.getElem?_eq_none (by rw [List.length_range]; omega)] at h
    cases h
theorem ab_pl_mem {C : Nat → Nat} {x : Nat × Nat} : ∀ {T : Nat}, x ∈ ab_pl C T ↔ x.1 < T ∧ x.2 < C x.1
  | 0 => by simp [ab_pl]
  | T + 1 => by
    unfold ab_pl
    rw [List.mem_append, ab_pl_mem]
    constructor
    · rintro (h | h)
      · exact ⟨by omega, h.2⟩
      · obtain ⟨i, hi⟩ := List.getElem?_of_mem h
        obtain ⟨rfl, h2⟩ := ab_pt_at hi
        exact ⟨Nat.lt_succ_self _, h2⟩
    · rintro ⟨h1, h2⟩
      by_cases e : x.1 < T
      · exact Or.inl ⟨e, h2⟩
      · right
        have e2 : x.1 = T := by omega
        obtain ⟨a, b⟩ := x
        simp only at e2 h2
        subst e2
        exact List.mem_map.mpr ⟨b, List.mem_range.mpr h2, rfl⟩
theorem ab_ij_app {L1 L2 : List (Nat × Nat)} (h1 : ab_ij L1) (h2 : ab_ij L2) (hd : ∀ x, x ∈ L1 → x ∈ L2 → False) : ab_ij (L1 ++ L2) := by
  intro i j x hi hj
  by_cases a : i < L1.length <;> by_cases b : j < L1.length
  · rw [List.getElem?_append_left a] at hi
    rw [List.getElem?_append_left b] at hj
    exact h1 i j x hi hj
  · rw [List.getElem?_append_left a] at hi
    rw [List.getElem?_append_right (by omega)] at hj
    exact (hd x (List.mem_of_getElem? hi) (List.mem_of_getElem? hj)).elim
  · rw [List.getElem?_append_right (by omega)] at hi
    rw [List.getElem?_append_left b] at hj
    exact (hd x (List.mem_of_getElem? hj) (List.mem_of_getElem? hi)).elim
  · rw [List.getElem?_append_right (by omega)] at hi hj
    have := h2 _ _ x hi hj
    omega
theorem ab_pl_ij {C : Nat → Nat} : ∀ {T : Nat}, ab_ij (ab_pl C T)
  | 0 => fun i j x hi _ => by simp [ab_pl] at hi
  | T + 1 => by
    unfold ab_pl
    refine ab_ij_app ab_pl_ij ?_ ?_
    · intro i j x hi hj
      have h1 := (ab_pt_at hi).1
      have h2 := (ab_pt_at hj).1
      rw [h1] at h2
      exact congrArg Prod.snd h2
    · intro x hx hy
      obtain ⟨i, hi⟩ := List.getElem?_of_mem hy
      have h1 := (ab_pt_at hi).1
      have h2 := (ab_pl_mem.mp hx).1
      rw [h1] at h2
      exact Nat.lt_irrefl _ h2
def ab_wo (ad : Nat → Nat → Nat) (cy : Nat → ClassId) (μ : ab_M) : va_W := (ab_pl (ag_C μ) 19).map (fun q => (ad q.1 q.2, ab_e ad cy μ q.1 q.2))
section
variable {D : va_G} {cy : Nat → ClassId} {base : Nat} {ad : Nat → Nat → Nat} {μ : ab_M} {H : Heap}
theorem ab_wo_at {i : Nat} {x : Nat × va_E} (h : (ab_wo ad cy μ)[i]? = some x) : ∃ t n, (ab_pl (ag_C μ) 19)[i]? = some (t, n) ∧ t < 19 ∧ n < ag_C μ t ∧ x = (ad t n, ab_e ad cy μ t n) := by
  unfold ab_wo at h
  rw [List.getElem?_map] at h
  cases e : (ab_pl (ag_C μ) 19)[i]? with
  | none => rw [e] at h; cases h
  | some q =>
    rw [e] at h
    obtain ⟨t, n⟩ := q
    have hm := ab_pl_mem.mp (List.mem_of_getElem? e)
    exact ⟨t, n, rfl, hm.1, hm.2, (Option.some.inj h).symm⟩
theorem ab_wP (h : ab_H D cy base ad μ H) : va_P D vwCl (ab_wo ad cy μ) H := by
  intro i x hx
  obtain ⟨t, n, -, h1, h2, rfl⟩ := ab_wo_at hx
  exact (h.1 t n h1 h2).1
theorem ab_wD (h : ab_H D cy base ad μ H) : va_D (fun q => base ≤ q) (ab_wo ad cy μ) := by
  refine ⟨fun i j x y hx hy hxy => ?_, fun i x hx => ?_⟩
  · obtain ⟨t, n, e1, h1, h2, rfl⟩ := ab_wo_at hx
    obtain ⟨t', n', e2, h3, h4, rfl⟩ := ab_wo_at hy
    obtain ⟨rfl, rfl⟩ := h.2 t n t' n' h1 h3 h2 h4 hxy
    exact ab_pl_ij i j _ e1 e2
  · obtain ⟨t, n, -, h1, h2, rfl⟩ := ab_wo_at hx
    exact (h.1 t n h1 h2).2
theorem ab_wat {t n : Nat} (ht : t < 19) (hn : n < ag_C μ t) : ∃ q0 : Nat, (ab_pl (ag_C μ) 19)[q0]? = some (t, n) ∧ (ab_wo ad cy μ)[q0]? = some (ad t n, ab_e ad cy μ t n) := by
  obtain ⟨i, hi⟩ := List.getElem?_of_mem (ab_pl_mem (C := ag_C μ) (x := (t, n)) (T := 19).mpr ⟨ht, hn⟩)
  refine ⟨i, hi, ?_⟩
  unfold ab_wo
  rw [List.getElem?_map, hi]
  rfl
/-- a cell is written -/
theorem ab_H_set {μ1 : ab_M} {H1 : Heap} {t n q0 : Nat} {e : va_E} (h : ab_H D cy base ad μ H) (hq : (ab_pl (ag_C μ) 19)[q0]? = some (t, n)) (hP : va_P D vwCl ((ab_wo ad cy μ).set q0 (ad t n, e)) H1) (hC : ∀ t, ag_C μ1 t = ag_C μ t) (he : ab_e ad cy μ1 t n = e) (ho : ∀ t' n', ¬ (t' = t ∧ n' = n) → ab_e ad cy μ1 t' n' = ab_e ad cy μ t' n') : ab_H D cy base ad μ1 H1 := by
  refine ⟨fun t' n' ht' hn' => ?_, fun a b c d' h1 h2 h3 h4 => h.2 a b c d' h1 h2 (by rw [← hC]; exact h3) (by rw [← hC]; exact h4)⟩
  rw [hC] at hn'
  refine ⟨?_, (h.1 t' n' ht' hn').2⟩
  obtain ⟨i, hi, hw⟩ := ab_wat (ad := ad) (cy := cy) ht' hn'
  have hl : i < (ab_wo ad cy μ).length := (List.getElem?_eq_some_iff.mp hw).1
  by_cases hc : t' = t ∧ n' = n
  · obtain ⟨rfl, rfl⟩ := hc
    have := ab_pl_ij i q0 _ hi hq
    subst this
    have := hP i (ad t' n', e) (by rw [List.getElem?_set_self hl])
    rw [he]
    exact this
  · rw [ho t' n' hc]
    have hne : q0 ≠ i := fun q => by
      subst q
      rw [hq] at hi
      cases hi
      exact hc ⟨rfl, rfl⟩
    exact hP i _ (by rw [List.getElem?_set_ne hne]; exact hw)
/-- a cell comes -/
theorem ab_H_new {μ1 : ab_M} {H1 : Heap} {t q : Nat} {e : va_E} (ht : t < 19) (h : ab_H D cy base ad μ H) (hP : va_P D vwCl (ab_wo ad cy μ ++ [(q, e)]) H1) (hD : va_D (fun q => base ≤ q) (ab_wo ad cy μ ++ [(q, e)])) (hC : ∀ t', ag_C μ1 t' = if t' = t then ag_C μ t + 1 else ag_C μ t') {ad' : Nat → Nat → Nat} (ha : ∀ t' n', ad' t' n' = if t' = t ∧ n' = ag_C μ t then q else ad t' n') (he : ab_e ad' cy μ1 t (ag_C μ t) = e) (ho : ∀ t' n', t' < 19 → n' < ag_C μ t' → ab_e ad' cy μ1 t' n' = ab_e ad cy μ t' n') : ab_H D cy base ad' μ1 H1 := by
  have hlast : (ab_wo ad cy μ ++ [(q, e)])[(ab_wo ad cy μ).length]? = some (q, e) := by simp
  have hold : ∀ t' n', t' < 19 → n' < ag_C μ t' → ∃ i, i < (ab_wo ad cy μ).length ∧ (ab_wo ad cy μ ++ [(q, e)])[i]? = some (ad t' n', ab_e ad cy μ t' n') := by
    intro t' n' h1 h2
    obtain ⟨i, hi, hw⟩ := ab_wat (ad := ad) (cy := cy) h1 h2
    have hl : i < (ab_wo ad cy μ).length := (List.getElem?_eq_some_iff.mp hw).1
    exact ⟨i, hl, by rw [List.getElem?_append_left hl]; exact hw⟩
  have hnq : ∀ t' n', t' < 19 → n' < ag_C μ t' → ad t' n' ≠ q := by
    intro t' n' h1 h2 hq
    obtain ⟨i, hl, hi⟩ := hold t' n' h1 h2
    have := hD.1 _ _ _ _ hi hlast hq
    omega
  have hin : ∀ t' n', n' < ag_C μ1 t' → (t' = t ∧ n' = ag_C μ t) ∨ (n' < ag_C μ t' ∧ ¬ (t' = t ∧ n' = ag_C μ t)) := by
    intro t' n' h1
    rw [hC] at h1
    by_cases hc : t' = t
    · subst hc
      rw [if_pos rfl] at h1
      by_cases h2 : n' = ag_C μ t'
      · exact Or.inl ⟨rfl, h2⟩
      · exact Or.inr ⟨by omega, fun q => h2 q.2⟩
    · rw [if_neg hc] at h1
      exact Or.inr ⟨h1, fun q => hc q.1⟩
  refine ⟨fun t' n' ht' hn' => ?_, fun a b c d' h1 h2 h3 h4 h5 => ?_⟩
  · rcases hin t' n' hn' with ⟨rfl, rfl⟩ | ⟨h1, h2⟩
    · rw [he, ha, if_pos ⟨rfl, rfl⟩]
      exact ⟨hP _ _ hlast, hD.2 _ _ hlast⟩
    · rw [ho t' n' ht' h1, ha, if_neg h2]
      obtain ⟨i, -, hi⟩ := hold t' n' ht' h1
      exact ⟨hP _ _ hi, hD.2 _ _ hi⟩
  · rw [ha, ha] at h5
    rcases hin a b h3 with ⟨rfl, rfl⟩ | ⟨g1, g2⟩ <;> rcases hin c d' h4 with ⟨rfl, rfl⟩ | ⟨g3, g4⟩
    · exact ⟨rfl, rfl⟩
    · rw [if_pos ⟨rfl, rfl⟩, if_neg g4] at h5
      exact absurd h5.symm (hnq c d' h2 g3)
    · rw [if_neg g2, if_pos ⟨rfl, rfl⟩] at h5
      exact absurd h5 (hnq a b h1 g1)
    · rw [if_neg g2, if_neg g4] at h5
      exact h.2 a b c d' h1 h2 g1 g3 h5
end
def ab_ext (μ : ab_M) (ad ad' : Nat → Nat → Nat) : Prop := ∀ t n, n < ag_C μ t → ad' t n = ad t n
theorem ab_c_ext {μ : ab_M} {ad ad' : Nat → Nat → Nat} (h : ab_ext μ ad ad') {v : ab_V} (hv : ab_ok μ v) : ab_c ad' v = ab_c ad v := by
  rcases v with z | z | ⟨t, o⟩
  · rfl
  · rfl
  · cases o with
    | none => rfl
    | some n =>
      have : ad' t n = ad t n := h t n (hv n rfl)
      simp [ab_c, va_rf, this]
theorem ab_map_ext {μ : ab_M} {ad ad' : Nat → Nat → Nat} (h : ab_ext μ ad ad') {l : List ab_V} (hl : ∀ v ∈ l, ab_ok μ v) : l.map (ab_c ad') = l.map (ab_c ad) := List.map_congr_left (fun v hv => ab_c_ext h (hl v hv))
