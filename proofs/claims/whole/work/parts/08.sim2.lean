/-! ===== the machine does what the abstract one does: plain instructions ===== -/
def ab_AA (U : State) : Prop := (Cond.arrayOver (.array .int)).before #[] U = true
/-- what was there before the law began: two tables, the script, five texts -/
def ab_St (adS : Nat → Nat → Nat) (μS : ab_M) (A : Nat → Prop) (U : State) (H : Heap) : Prop :=
  va_Z "RoomForHelp$AgreementReader" "WITHOUT" "[I" (.ref (adS 20 0)) A U H ∧ va_Z "RoomForHelp$AgreementReader" "MOST" "[I" (.ref (adS 20 1)) A U H ∧ va_Z "java/lang/String" "COMPACT_STRINGS" "Z" (.int 1) A U H ∧
  (∀ n, n < 3 → va_T .int (adS 20 n) (ag_L μS 20 n) (fun j => .int (Int32.ofInt (ag_I μS 20 n j))) A U H) ∧
  (∀ n, n < 5 → va_T .byte (adS 22 n) (ag_L μS 22 n) (fun j => .int (Int32.ofInt (ag_I μS 22 n j))) A U H ∧ va_O "java/lang/String" (adS 21 n) A U H ∧ va_OF "java/lang/String" "coder" "B" (.int 0) (adS 21 n) A U H ∧ va_OF "java/lang/String" "value" "[B" (.ref (adS 22 n)) (adS 21 n) A U H) ∧
  (∀ e ∈ ab_SC, e.2.2 < 5 ∧ ∃ tx, vk_R e.1 e.2.1 tx (adS 21 e.2.2) U) ∧ (∀ e ∈ ab_CN, va_Nw (.methodLinkNest e.1 e.2.1 (ab_nm e.2.2.1) "RoomForHelp") U) ∧ (∀ t, 14 ≤ t → t ≤ 17 → va_AO (ab_el t) U) ∧ ab_AA U ∧ va_Z "jdk/internal/util/Preconditions" "SIOOBE_FORMATTER" "Ljava/util/function/BiFunction;" (ab_c adS (ab_r 23 (ag_R μS 23 0 0))) A U H
def ab_sS (μS : ab_M) : Prop := ag_C μS 20 = 3 ∧ ag_C μS 21 = 5 ∧ ag_C μS 22 = 5 ∧ (∀ n, n < 5 → ag_R μS 21 n 0 = some n ∧ ag_I μS 21 n 1 = 0) ∧ ∀ j, ag_R μS 23 0 0 = some j → j < ag_C μS 23
def ab_ro (μS μ : ab_M) : Prop := ∀ t, 20 ≤ t → ag_C μ t = ag_C μS t ∧ ∀ n, ag_L μ t n = ag_L μS t n ∧ ∀ k, ag_I μ t n k = ag_I μS t n k ∧ ag_R μ t n k = ag_R μS t n k
def ab_X (p : Program) (R : Room) (s : State) (m : MethodId) (args : Array Value) (meth : Method) (c : Code) (D : va_G) (cy : Nat → ClassId) (base k : Nat) (adS : Nat → Nat → Nat) (μS : ab_M) : Prop :=
  p.tables.exec = Jvm.exec ∧ c.code = ab_cd k ∧ c.maxLocals = ab_ml k ∧ s.vm.findClass (ab_nm k).cls = some m.cls ∧ (∀ w ∈ ab_gt, w.before args s = true) ∧ va_K D vwCl (ab_tys cy) s ∧ ((ab_nm k).name = "<init>" → meth.name = "<init>") ∧ ab_St adS μS (fun q => base ≤ q) s s.heap ∧ base ≤ s.heap.size ∧ ab_sS μS ∧ 1 ≤ R.frames ∧ 60 ≤ R.locals
def ab_Z (D : va_G) (cy : Nat → ClassId) (base c0 s0 nL : Nat) (adS : Nat → Nat → Nat) (μS : ab_M) (s : State) (ad : Nat → Nat → Nat) (μ : ab_M) (H : Heap) (locs : List Loc) (cells slots : Nat) (ls : Array Slot) (lo : ab_L) (st : List ab_V) : Prop :=
  ab_H D cy base ad μ H ∧ ab_W μ ∧ ab_ro μS μ ∧ (ab_ext μS adS ad ∧ ∀ t, ag_C μS t ≤ ag_C μ t) ∧ va_S (fun q => base ≤ q) s.heap H locs ∧ cells + c0 = ag_c μ ∧ slots + s0 = ag_s μ ∧ lv_has ls nL (lo.map (fun q => (q.1, ab_c ad q.2))) ∧ (∀ q ∈ lo, ab_ok μ q.2) ∧ (∀ v ∈ st, ab_ok μ v)
def ab_G (p : Program) (la : Launch) (e : Env) (R : Room) (s : State) (m : MethodId) (args : Array Value) (below : List Frame) (meth : Method) (c : Code) (Q : State → Prop) (D : va_G) (cy : Nat → ClassId) (base c0 s0 k : Nat) (adS : Nat → Nat → Nat) (μS μ : ab_M) (pc : Nat) (lo : ab_L) (st : List ab_V) : Prop :=
  ∀ (ad : Nat → Nat → Nat) (H : Heap) (locs : List Loc) (cells slots : Nat) (ls : Array Slot), ab_Z D cy base c0 s0 (ab_ml k) adS μS s ad μ H locs cells slots ls lo st → W p la e R s m args below meth c H locs cells slots Q (F0 m pc ls (st.map (ab_c ad)))
/-! numbers -/
theorem ab_wr_id {z : Int} (h1 : -2147483648 ≤ z) (h2 : z < 2147483648) : ab_wr z = z := Int32.toInt_ofInt_of_le h1 h2
theorem ab_wl_id {z : Int} (h1 : -9223372036854775808 ≤ z) (h2 : z < 9223372036854775808) : ab_wl z = z := Int64.toInt_ofInt_of_le h1 h2
theorem ab_wr_of (x : Int32) : ab_wr x.toInt = x.toInt := by unfold ab_wr; rw [Int32.ofInt_toInt]
theorem ab_wl_of (x : Int64) : ab_wl x.toInt = x.toInt := by unfold ab_wl; rw [Int64.ofInt_toInt]
theorem ab_wr_wr (z : Int) : ab_wr (ab_wr z) = ab_wr z := ab_wr_of _
theorem ab_wl_wl (z : Int) : ab_wl (ab_wl z) = ab_wl z := ab_wl_of _
theorem ab_of_wr (z : Int) : Int32.ofInt (ab_wr z) = Int32.ofInt z := by unfold ab_wr; rw [Int32.ofInt_toInt]
theorem ab_of_wl (z : Int) : Int64.ofInt (ab_wl z) = Int64.ofInt z := by unfold ab_wl; rw [Int64.ofInt_toInt]
theorem ab_inj {x y : Int} (hx : ab_wr x = x) (hy : ab_wr y = y) (h : Int32.ofInt x = Int32.ofInt y) : x = y := by
  have := congrArg Int32.toInt h
  unfold ab_wr at hx hy
  rw [hx, hy] at this
  exact this
theorem ab_lt {x y : Int} (hx : ab_wr x = x) (hy : ab_wr y = y) : Int32.ofInt x < Int32.ofInt y ↔ x < y := by
  rw [Int32.lt_iff_toInt_lt]
  unfold ab_wr at hx hy
  rw [hx, hy]
theorem ab_le {x y : Int} (hx : ab_wr x = x) (hy : ab_wr y = y) : Int32.ofInt x ≤ Int32.ofInt y ↔ x ≤ y := by
  rw [Int32.le_iff_toInt_le]
  unfold ab_wr at hx hy
  rw [hx, hy]
theorem ab_rng32 {x : Int} (hx : ab_wr x = x) : -2147483648 ≤ x ∧ x < 2147483648 := by
  unfold ab_wr at hx
  have h1 := Int32.le_toInt (Int32.ofInt x)
  have h2 := Int32.toInt_lt (Int32.ofInt x)
  omega
theorem ab_rng64 {x : Int} (hx : ab_wl x = x) : -9223372036854775808 ≤ x ∧ x < 9223372036854775808 := by
  unfold ab_wl at hx
  have h1 := Int64.le_toInt (Int64.ofInt x)
  have h2 := Int64.toInt_lt (Int64.ofInt x)
  omega
theorem ab_sm_ok {M : Nat} {z : Int} (h : ab_sm M z = true) : -(M : Int) - 1 ≤ z ∧ z ≤ (M : Int) := by
  cases z with
  | ofNat n =>
    have h1 : n ≤ M := Nat.ble_eq.mp h
    have : (Int.ofNat n) = (n : Int) := rfl
    omega
  | negSucc n =>
    have h1 : n ≤ M := Nat.ble_eq.mp h
    have : Int.negSucc n = -(n : Int) - 1 := by omega
    omega
theorem ab_b8 {z : Int} (h : ab_sm 127 z = true) : (Int8.ofInt z).toInt32 = Int32.ofInt z := by
  have := ab_sm_ok h
  apply Int32.toInt_inj.mp
  rw [Int8.toInt_toInt32, Int8.toInt_ofInt_of_le (by omega) (by omega), Int32.toInt_ofInt_of_le (by omega) (by omega)]
theorem ab_b16 {z : Int} (h : ab_sm 32767 z = true) : (Int16.ofInt z).toInt32 = Int32.ofInt z := by
  have := ab_sm_ok h
  apply Int32.toInt_inj.mp
  rw [Int16.toInt_toInt32, Int16.toInt_ofInt_of_le (by omega) (by omega), Int32.toInt_ofInt_of_le (by omega) (by omega)]
/-! locals -/
theorem ab_lk_mem : ∀ {l : ab_L} {i : Nat} {v : ab_V}, ab_lk l i = some v → (i, v) ∈ l
  | [], i, v, h => by simp [ab_lk] at h
  | q :: l, i, v, h => by
    unfold ab_lk at h
    cases e : Nat.beq q.1 i with
    | true =>
      rw [e] at h
      have e2 : q.1 = i := Nat.eq_of_beq_eq_true e
      have e3 : q.2 = v := Option.some.inj h
      rw [← e2, ← e3]
      exact List.mem_cons_self
    | false =>
      rw [e] at h
      exact List.mem_cons_of_mem _ (ab_lk_mem h)
theorem ab_na_at : ∀ {l : ab_L} {i w : Nat}, ab_na l i w = true → ∀ q ∈ l, q.1 + ab_cat q.2 ≤ i ∨ i + w ≤ q.1
  | [], _, _, _, q, hq => by cases hq
  | x :: l, i, w, h, q, hq => by
    simp only [ab_na, Bool.and_eq_true, Bool.or_eq_true, Nat.ble_eq] at h
    rcases List.mem_cons.mp hq with rfl | hq
    · exact h.1
    · exact ab_na_at h.2 q hq
theorem ab_up_at : ∀ {l : ab_L} {i w : Nat} {v : ab_V}, ab_nc l i w = true → ∀ q ∈ ab_up l i v, q = (i, v) ∨ (q ∈ l ∧ (q.1 + ab_cat q.2 ≤ i ∨ i + w ≤ q.1))
  | [], i, w, v, _, q, hq => Or.inl (List.mem_singleton.mp hq)
  | x :: l, i, w, v, h, q, hq => by
    unfold ab_up at hq
    unfold ab_nc at h
    cases e : Nat.beq x.1 i with
    | true =>
      rw [e] at hq h
      simp only [cond_true] at hq h
      rcases List.mem_cons.mp hq with rfl | hq
      · exact Or.inl rfl
      · exact Or.inr ⟨List.mem_cons_of_mem _ hq, ab_na_at h q hq⟩
    | false =>
      rw [e] at hq h
      simp only [cond_false, Bool.and_eq_true, Bool.or_eq_true, Nat.ble_eq] at hq h
      rcases List.mem_cons.mp hq with rfl | hq
      · exact Or.inr ⟨List.mem_cons_self, h.1⟩
      · rcases ab_up_at h.2 q hq with h3 | ⟨h3, h4⟩
        · exact Or.inl h3
        · exact Or.inr ⟨List.mem_cons_of_mem _ h3, h4⟩
theorem ab_c_cat (ad : Nat → Nat → Nat) (v : ab_V) : (ab_c ad v).category = ab_cat v := by
  rcases v with z | z | ⟨t, o⟩
  · rfl
  · rfl
  · cases o <;> rfl
theorem ab_cat_pos (v : ab_V) : 1 ≤ ab_cat v := by
  rcases v with z | z | ⟨t, o⟩ <;> simp [ab_cat]
section
variable {ad : Nat → Nat → Nat} {nL : Nat} {lo : ab_L} {ls ls' : Array Slot}
theorem ab_ld_at (h : lv_has ls nL (lo.map (fun q => (q.1, ab_c ad q.2)))) {i : Nat} {v : ab_V} (hk : ab_lk lo i = some v) : ls[i]? = some (.val (ab_c ad v)) := h.2.2 (i, ab_c ad v) (List.mem_map.mpr ⟨(i, v), ab_lk_mem hk, rfl⟩)
theorem ab_st1 {i : Nat} {v : ab_V} {x : Value} (hx : ab_c ad v = x) (hnc : ab_nc lo i 1 = true) (h : lv_has ls' nL ((i, x) :: (lo.map (fun q => (q.1, ab_c ad q.2))).filter (fun q => !(q.1 == i) && !(q.1 + 1 == i && q.2.category == 2)))) : lv_has ls' nL ((ab_up lo i v).map (fun q => (q.1, ab_c ad q.2))) := by
  refine ⟨h.1, h.2.1, fun q hq => h.2.2 q ?_⟩
  obtain ⟨y, hy, rfl⟩ := List.mem_map.mp hq
  rcases ab_up_at hnc y hy with rfl | ⟨h1, h2⟩
  · exact List.mem_cons.mpr (Or.inl (by rw [hx]))
  · refine List.mem_cons_of_mem _ (List.mem_filter.mpr ⟨List.mem_map.mpr ⟨y, h1, rfl⟩, ?_⟩)
    have hp := ab_cat_pos y.2
    simp only [ab_c_cat, Bool.and_eq_true, Bool.not_eq_true', beq_eq_false_iff_ne, Bool.and_eq_false_iff, ne_eq]
    refine ⟨by omega, ?_⟩
    by_cases hc : y.1 + 1 = i
    · right; omega
    · left; exact hc
theorem ab_st2 {i : Nat} {v : ab_V} {x : Value} (hx : ab_c ad v = x) (hnc : ab_nc lo i 2 = true) (h : lv_has ls' nL ((i, x) :: (lo.map (fun q => (q.1, ab_c ad q.2))).filter (fun q => !(q.1 == i) && (!(q.1 == i + 1) && !(q.1 + 1 == i && q.2.category == 2))))) : lv_has ls' nL ((ab_up lo i v).map (fun q => (q.1, ab_c ad q.2))) := by
  refine ⟨h.1, h.2.1, fun q hq => h.2.2 q ?_⟩
  obtain ⟨y, hy, rfl⟩ := List.mem_map.mp hq
  rcases ab_up_at hnc y hy with rfl | ⟨h1, h2⟩
  · exact List.mem_cons.mpr (Or.inl (by rw [hx]))
  · refine List.mem_cons_of_mem _ (List.mem_filter.mpr ⟨List.mem_map.mpr ⟨y, h1, rfl⟩, ?_⟩)
    have hp := ab_cat_pos y.2
    simp only [ab_c_cat, Bool.and_eq_true, Bool.not_eq_true', beq_eq_false_iff_ne, Bool.and_eq_false_iff, ne_eq]
    refine ⟨by omega, by omega, ?_⟩
    by_cases hc : y.1 + 1 = i
    · right; omega
    · left; exact hc
end
section
variable {p : Program} {la : Launch} {e : Env} {R : Room} {s : State} {m : MethodId} {args : Array Value} {below : List Frame} {meth : Method} {c : Code} {Q : State → Prop} {D : va_G} {cy : Nat → ClassId} {base c0 s0 k nL : Nat} {adS ad : Nat → Nat → Nat} {μS μ : ab_M} {H : Heap} {locs : List Loc} {cells slots : Nat} {ls ls' : Array Slot} {lo lo' : ab_L} {st st' r : List ab_V} {pc nx a b : Nat}
theorem ab_Z_st (z : ab_Z D cy base c0 s0 nL adS μS s ad μ H locs cells slots ls lo st) (h : ∀ v ∈ st', ab_ok μ v) : ab_Z D cy base c0 s0 nL adS μS s ad μ H locs cells slots ls lo st' := by
  obtain ⟨h1, h2, h3, h4, h5, h6, h7, h8, h9, -⟩ := z
  exact ⟨h1, h2, h3, h4, h5, h6, h7, h8, h9, h⟩
theorem ab_Z_up {i : Nat} {v : ab_V} (z : ab_Z D cy base c0 s0 nL adS μS s ad μ H locs cells slots ls lo st) (hv : ab_ok μ v) {w : Nat} (hnc : ab_nc lo i w = true) (hl : lv_has ls' nL ((ab_up lo i v).map (fun q => (q.1, ab_c ad q.2)))) (h : ∀ v ∈ st', ab_ok μ v) : ab_Z D cy base c0 s0 nL adS μS s ad μ H locs cells slots ls' (ab_up lo i v) st' := by
  obtain ⟨h1, h2, h3, h4, h5, h6, h7, h8, h9, -⟩ := z
  refine ⟨h1, h2, h3, h4, h5, h6, h7, hl, fun q hq => ?_, h⟩
  rcases ab_up_at hnc q hq with rfl | ⟨h10, -⟩
  · exact hv
  · exact h9 q h10
theorem ab_oks {v : ab_V} (h : ∀ x ∈ v :: st, ab_ok μ x) : ab_ok μ v ∧ ∀ x ∈ st, ab_ok μ x := ⟨h v List.mem_cons_self, fun x hx => h x (List.mem_cons_of_mem _ hx)⟩
theorem ab_okc {v : ab_V} (h1 : ab_ok μ v) (h2 : ∀ x ∈ st, ab_ok μ x) : ∀ x ∈ v :: st, ab_ok μ x := fun x hx => (List.mem_cons.mp hx).elim (fun q => q ▸ h1) (h2 x)
end
