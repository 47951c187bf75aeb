/-! THE CLAIM OUT OF ONE WALK OF THE LAW'S BODY. Your part is whole_start (and what it stands on); all else here is the same for every law, but numbers. -/
def R_law : String := "RoomForHelpLaw"
def lw_P (b : Addr) (xs : List Int32) (args : Array Value) (s : State) : Prop := args = #[.ref b] ∧ s.IntsAt b xs ∧ xs.length ≤ 3072 ∧ (Jvm.Cond.and given_1 narrow_1).before args s = true
def lw_Q (_ : Array Value) (s : State) (o : Outcome) (t : State) : Prop := o = .returned (some (.int 1)) ∧ Framed s o t [] 600000 7302250
def lw_Z (below : List Frame) (a : Array Value) (s : State) : State → Prop := fun t => ∃ o, t.status = .running ∧ Ended t below o ∧ lw_Q a s o t
/-- the law's own end, with 1 on the stack, nothing written that was there before, its room as the claim has it -/
theorem lw_ret {p : Program} {l : Launch} {e : Env} {s : State} {m : MethodId} {below : List Frame} {meth : Method} {c : Code} {b : Nat} (hx : p.tables.exec = Jvm.exec) (hb : c.code = code) (hr : meth.sig.returnType = ret) (hlocks : meth.locks = false) {pc : Nat} {H : Heap} {ls : Array Slot} (hdg : decode code pc = .ok (.ireturn, 1)) : W p l e room_1 s m #[Value.ref b] below meth c H [] 600000 7302250 (lw_Z below #[Value.ref b] s) (F0 m pc ls [.int 1]) := by
  intro T hT X
  obtain ⟨fs, hret, hrun, hended, hW, hframe⟩ := X.leave (v := some (.int 1)) (hlocks := hlocks) (fun h => by rw [hr] at h; cases h)
  have hmeth' : T.vm.method? m = some meth := X.method'
  refine ⟨T.setFrames fs, ?_, .returned (some (.int 1)), hrun, hended, rfl, ⟨_, rfl⟩, hW, hframe⟩
  jvm_step X.here [X.here.top, hx, hb, hdg, hmeth', hr, ret, narrow_b1]
  (try refine ⟨rfl, ?_⟩); (try refine ⟨rfl, ?_⟩)
  first | (intro acts; rw [hret _ acts rfl rfl rfl]) | rw [hret _ _ rfl rfl rfl]
  exact Steps.refl _
/-- what holds at the law's entry: the machine, the code, the tables' words (any of lw_tbl by 'hts w (by decide +kernel)'), the script of L ints xs at the cell b, what the Statement gives of the start (any of its parts by flat_of_before) -/
def lw_At (p : Program) (s : State) (m : MethodId) (meth : Method) (c : Code) (b L : Nat) (xs : Nat → Int32) : Prop :=
  p.tables.exec = Jvm.exec ∧ c.code = code ∧ meth.sig.returnType = ret ∧ c.maxLocals = 4 ∧ s.vm.findClass R_law = some m.cls ∧ (∀ w ∈ lw_tbl, w.before #[Value.ref b] s = true) ∧ va_X b L xs s s.heap ∧ b < s.heap.size ∧ meth.locks = false ∧ (Jvm.Cond.and given_1 narrow_1).before #[Value.ref b] s = true
/-! ===== the law's start, told by the abstract machine ===== -/
def ab_bl : List Nat := [5, 6, 6, 5, 0]
def ab_bt : List (List Int) := [[104, 111, 117, 114, 115], [110, 105, 103, 104, 116, 115], [110, 111, 116, 105, 99, 101], [116, 114, 105, 97, 108], []]
def ab_b32 : List (List Int32) := [[104, 111, 117, 114, 115], [110, 105, 103, 104, 116, 115], [110, 111, 116, 105, 99, 101], [116, 114, 105, 97, 108], []]
/-- the memory at the law's start: the tables, the script, the texts -/
def ab_m0 (L : Nat) (xs : Nat → Int32) (z : Bool) : ab_M := ((fun t n k => if t = 20 then (if n = 0 then ([0, 7, 2, 0] : List Int).getD k 0 else if n = 1 then ([60, 7, 20, 20] : List Int).getD k 0 else if k < L then (xs k).toInt else 0) else if t = 22 then (ab_bt.getD n []).getD k 0 else 0), (fun _ _ _ => 0), (fun t n k => if t = 21 ∧ k = 0 then some n else if t = 23 ∧ n = 0 ∧ k = 0 ∧ z = true then some 0 else none), (fun t n => if t = 20 then (if n = 2 then L else 4) else if t = 22 then ab_bl.getD n 0 else 0), (fun t => if t = 20 then 3 else if t = 21 then 5 else if t = 22 then 5 else if t = 23 then 1 else 0), 0, 0)
theorem ab_m0_W {L : Nat} {xs : Nat → Int32} {z : Bool} (hL : L ≤ 3072) : ab_W (ab_m0 L xs z) := by
  refine ⟨fun t n k => ?_, fun _ _ _ => rfl, fun t n k j ht hj => ?_, fun t n => ?_⟩
  · have small : ∀ (l : List Int), (∀ z ∈ l, 0 ≤ z ∧ z < 200) → ab_wr (l.getD k 0) = l.getD k 0 := by
      intro l hl
      rw [List.getD_eq_getElem?_getD]
      cases h : l[k]? with
      | none => rfl
      | some z =>
        have := hl z (List.mem_of_getElem? h)
        exact ab_wr_id (by show -2147483648 ≤ z; omega) (by show z < 2147483648; omega)
    show ab_wr (if _ then _ else _) = (if _ then _ else _)
    by_cases h1 : t = 20
    · rw [if_pos h1]
      by_cases h2 : n = 0
      · rw [if_pos h2]; exact small _ (by decide)
      · rw [if_neg h2]
        by_cases h3 : n = 1
        · rw [if_pos h3]; exact small _ (by decide)
        · rw [if_neg h3]
          by_cases h4 : k < L
          · rw [if_pos h4]; exact ab_wr_of _
          · rw [if_neg h4]; rfl
    · rw [if_neg h1]
      by_cases h2 : t = 22
      · rw [if_pos h2]
        refine small _ ?_
        rw [List.getD_eq_getElem?_getD]
        cases h : ab_bt[n]? with
        | none => intro z hz; cases hz
        | some l => exact (by decide : ∀ l ∈ ab_bt, ∀ z ∈ l, 0 ≤ z ∧ z < 200) l (List.mem_of_getElem? h)
      · rw [if_neg h2]; rfl
  · have : (if t = 21 ∧ k = 0 then some n else if t = 23 ∧ n = 0 ∧ k = 0 ∧ z = true then some 0 else none) = some j := hj
    rw [if_neg (by omega), if_neg (by omega)] at this
    cases this
  · show (if _ then _ else _) ≤ _
    by_cases h1 : t = 20
    · rw [if_pos h1]
      by_cases h2 : n = 2
      · rw [if_pos h2]; omega
      · rw [if_neg h2]; omega
    · rw [if_neg h1]
      by_cases h2 : t = 22
      · rw [if_pos h2, List.getD_eq_getElem?_getD]
        cases h : ab_bl[n]? with
        | none => exact Nat.zero_le _
        | some z =>
          have := (by decide : ∀ z ∈ ab_bl, z ≤ 100000) z (List.mem_of_getElem? h)
          exact this
      · rw [if_neg h2]; omega
theorem ab_m0_S {L : Nat} {xs : Nat → Int32} {z : Bool} : ab_sS (ab_m0 L xs z) := ⟨rfl, rfl, rfl, fun n hn => ⟨(show (if 21 = 21 ∧ 0 = 0 then some n else if 21 = 23 ∧ n = 0 ∧ 0 = 0 ∧ z = true then some 0 else none) = some n from if_pos ⟨rfl, rfl⟩), rfl⟩, fun j hj => by
  have h : (if 23 = 23 ∧ 0 = 0 ∧ 0 = 0 ∧ z = true then some 0 else none) = some j := hj
  show j < 1
  split at h <;> cases h
  omega⟩
theorem ab_c4 {P : Nat → Prop} (h0 : P 0) (h1 : P 1) (h2 : P 2) (h3 : P 3) : ∀ j, j < 4 → P j
  | 0, _ => h0
  | 1, _ => h1
  | 2, _ => h2
  | 3, _ => h3
  | j + 4, h => absurd h (by omega)
theorem ab_c5 {P : Nat → Prop} (h0 : P 0) (h1 : P 1) (h2 : P 2) (h3 : P 3) (h4 : P 4) : ∀ j, j < 5 → P j
  | 0, _ => h0
  | 1, _ => h1
  | 2, _ => h2
  | 3, _ => h3
  | 4, _ => h4
  | j + 5, h => absurd h (by omega)
theorem ab_c6 {P : Nat → Prop} (h0 : P 0) (h1 : P 1) (h2 : P 2) (h3 : P 3) (h4 : P 4) (h5 : P 5) : ∀ j, j < 6 → P j
  | 0, _ => h0
  | 1, _ => h1
  | 2, _ => h2
  | 3, _ => h3
  | 4, _ => h4
  | 5, _ => h5
  | j + 6, h => absurd h (by omega)
def ab_fl : List Cond := flatC (Jvm.Cond.and given_1 narrow_1)
abbrev ab_AR : String := "RoomForHelp$AgreementReader"
abbrev ab_tm (i : Nat) : Term := .string ab_AR ([43, 45, 47, 49, 51].getD i 0)
abbrev ab_tv (i : Nat) : Term := .field (ab_tm i) "java/lang/String" "value" "[B"
set_option maxRecDepth 100000 in
set_option maxHeartbeats 4000000 in
/-- the statics of the start -/
theorem ab_statics {args : Array Value} {s : State} {b L : Nat} {xs : Nat → Int32} (hL : L ≤ 3072) (hts : ∀ w ∈ lw_tbl, w.before args s = true) (hX : va_X b L xs s s.heap) (hbl : b < s.heap.size) (hgv : (Jvm.Cond.and given_1 narrow_1).before args s = true) : ∃ (adS : Nat → Nat → Nat) (z : Bool), adS 20 2 = b ∧ ab_St adS (ab_m0 L xs z) (fun q => s.heap.size ≤ q) s s.heap := by
  have hf : ∀ w ∈ ab_fl, w.before args s = true := flat_of_before _ hgv
  have hA : ∀ a : Nat, a < s.heap.size → ¬ (fun q => s.heap.size ≤ q) a := fun a h => Nat.not_le.mpr h
  obtain ⟨aW, eW, tW⟩ := va_Tof (tm := .static ab_AR "WITHOUT" "[I") (ty := .int) (N := 4) (f := fun j => .int (Int32.ofInt (ag_I (ab_m0 L xs false) 20 0 j))) (A := fun q => s.heap.size ≤ q) (by decide) (hf _ (by decide +kernel)) (va_eqt (hf (.eq (.length (.static ab_AR "WITHOUT" "[I")) (.int 4)) (by decide +kernel))) (ab_c4 (va_eqt (hf (.eq (.elem (.static ab_AR "WITHOUT" "[I") (.int 0)) (.int 0)) (by decide +kernel))) (va_eqt (hf (.eq (.elem (.static ab_AR "WITHOUT" "[I") (.int 1)) (.int 7)) (by decide +kernel))) (va_eqt (hf (.eq (.elem (.static ab_AR "WITHOUT" "[I") (.int 2)) (.int 2)) (by decide +kernel))) (va_eqt (hf (.eq (.elem (.static ab_AR "WITHOUT" "[I") (.int 3)) (.int 0)) (by decide +kernel)))) hA
  obtain ⟨aM, eM, tM⟩ := va_Tof (tm := .static ab_AR "MOST" "[I") (ty := .int) (N := 4) (f := fun j => .int (Int32.ofInt (ag_I (ab_m0 L xs false) 20 1 j))) (A := fun q => s.heap.size ≤ q) (by decide) (hf _ (by decide +kernel)) (va_eqt (hf (.eq (.length (.static ab_AR "MOST" "[I")) (.int 4)) (by decide +kernel))) (ab_c4 (va_eqt (hf (.eq (.elem (.static ab_AR "MOST" "[I") (.int 0)) (.int 60)) (by decide +kernel))) (va_eqt (hf (.eq (.elem (.static ab_AR "MOST" "[I") (.int 1)) (.int 7)) (by decide +kernel))) (va_eqt (hf (.eq (.elem (.static ab_AR "MOST" "[I") (.int 2)) (.int 20)) (by decide +kernel))) (va_eqt (hf (.eq (.elem (.static ab_AR "MOST" "[I") (.int 3)) (.int 20)) (by decide +kernel)))) hA
  have zW := va_Zref (A := fun q => s.heap.size ≤ q) (hts (.laysStatic ab_AR "WITHOUT" "[I") (List.mem_of_getElem? (i := 180) (by decide +kernel))) (hts (.initialized ab_AR) (List.mem_of_getElem? (i := 54) (by decide +kernel))) eW hA
  have zM := va_Zref (A := fun q => s.heap.size ≤ q) (hts (.laysStatic ab_AR "MOST" "[I") (List.mem_of_getElem? (i := 677) (by decide +kernel))) (hts (.initialized ab_AR) (List.mem_of_getElem? (i := 54) (by decide +kernel))) eM hA
  have zC := va_Zof (A := fun q => s.heap.size ≤ q) (hts (.laysStatic "java/lang/String" "COMPACT_STRINGS" "Z") (List.mem_of_getElem? (i := 619) (by decide +kernel))) (hts (.initialized "java/lang/String") (List.mem_of_getElem? (i := 65) (by decide +kernel))) (va_eqi (hf (.eq (.static "java/lang/String" "COMPACT_STRINGS" "Z") (.int 1)) (by decide +kernel))) hA
  obtain ⟨adK, adV, hK, hE⟩ := vk_Sof (N := 5) (tm := ab_tm) (len := ab_bl) (byt := ab_b32) (A := fun q => s.heap.size ≤ q) (args := args) (s := s) (by decide)
    (ab_c5 (hf _ (by decide +kernel)) (hf _ (by decide +kernel)) (hf _ (by decide +kernel)) (hf _ (by decide +kernel)) (hf _ (by decide +kernel)))
    (ab_c5 (hf _ (by decide +kernel)) (hf _ (by decide +kernel)) (hf _ (by decide +kernel)) (hf _ (by decide +kernel)) (hf _ (by decide +kernel)))
    (ab_c5 (hf _ (by decide +kernel)) (hf _ (by decide +kernel)) (hf _ (by decide +kernel)) (hf _ (by decide +kernel)) (hf _ (by decide +kernel)))
    (ab_c5 (hf _ (by decide +kernel)) (hf _ (by decide +kernel)) (hf _ (by decide +kernel)) (hf _ (by decide +kernel)) (hf _ (by decide +kernel)))
    (ab_c5 (ab_c5 (hf _ (by decide +kernel)) (hf _ (by decide +kernel)) (hf _ (by decide +kernel)) (hf _ (by decide +kernel)) (hf _ (by decide +kernel))) (ab_c6 (hf _ (by decide +kernel)) (hf _ (by decide +kernel)) (hf _ (by decide +kernel)) (hf _ (by decide +kernel)) (hf _ (by decide +kernel)) (hf _ (by decide +kernel))) (ab_c6 (hf _ (by decide +kernel)) (hf _ (by decide +kernel)) (hf _ (by decide +kernel)) (hf _ (by decide +kernel)) (hf _ (by decide +kernel)) (hf _ (by decide +kernel))) (ab_c5 (hf _ (by decide +kernel)) (hf _ (by decide +kernel)) (hf _ (by decide +kernel)) (hf _ (by decide +kernel)) (hf _ (by decide +kernel))) (fun j h => absurd h (Nat.not_lt_zero j)))
    (by
      intro i j hi hj hij
      have hd : ∀ i, i < 5 → ∀ j, j < 5 → i ≠ j → (Cond.not (Cond.eq (ab_tm i) (ab_tm j))) ∈ ab_fl ∨ (Cond.not (Cond.eq (ab_tm j) (ab_tm i))) ∈ ab_fl := by decide +kernel
      exact (hd i hi j hj hij).imp (hf _) (hf _)) hA
  have zq := va_Zqof (A := fun q => s.heap.size ≤ q) (hts (.laysStatic "jdk/internal/util/Preconditions" "SIOOBE_FORMATTER" "Ljava/util/function/BiFunction;") (List.mem_of_getElem? (i := 635) (by decide +kernel))) (hts (.initialized "jdk/internal/util/Preconditions") (List.mem_of_getElem? (i := 67) (by decide +kernel))) (hf (.isRef (.static "jdk/internal/util/Preconditions" "SIOOBE_FORMATTER" "Ljava/util/function/BiFunction;")) (by decide +kernel)) hA
  obtain ⟨z, t23, zS⟩ : ∃ (z : Bool) (t : Nat), va_Z "jdk/internal/util/Preconditions" "SIOOBE_FORMATTER" "Ljava/util/function/BiFunction;" (bif z then Value.ref t else Value.null) (fun q => s.heap.size ≤ q) s s.heap := by
    rcases zq with h | ⟨t, h⟩
    · exact ⟨false, 0, h⟩
    · exact ⟨true, t, h⟩
  refine ⟨fun t n => if t = 20 then (if n = 0 then aW else if n = 1 then aM else b) else if t = 21 then adK n else if t = 23 then t23 else adV n, z, rfl, zW, zM, zC, fun n hn => ?_, fun n hn => ?_, fun x hx => ?_, fun x hx => ?_, fun t h1 h2 => ?_, ?_, ?_⟩
  · rcases (show n = 0 ∨ n = 1 ∨ n = 2 by omega) with rfl | rfl | rfl
    · exact tW
    · exact tM
    · obtain ⟨scr, g1, g2, g3, g4, g5⟩ := hX
      refine ⟨scr, g1, g2, g3, by rw [g4]; exact Nat.le_refl _, by rw [g4]; rfl, fun j hj => ?_, Nat.not_le.mpr hbl⟩
      rw [g5 j hj]
      show _ = some (Value.int (Int32.ofInt (if j < L then (xs j).toInt else 0)))
      have hj2 : j < L := hj
      rw [if_pos hj2, Int32.ofInt_toInt]
  · obtain ⟨g1, g2, g3, g4⟩ := hK.1 n hn
    have hfun : ∀ n, n < 5 → ∀ j, (ab_b32.getD n []).getD j 0 = Int32.ofInt (ag_I (ab_m0 L xs false) 22 n j) := by
      intro n hn j
      show _ = Int32.ofInt ((ab_bt.getD n []).getD j 0)
      have hlist : ∀ n, n < 5 → ab_b32.getD n [] = (ab_bt.getD n []).map Int32.ofInt := by decide +kernel
      rw [hlist n hn]
      generalize ab_bt.getD n [] = l
      rw [List.getD_eq_getElem?_getD, List.getD_eq_getElem?_getD, List.getElem?_map]
      cases l[j]? <;> rfl
    refine ⟨?_, g1, g2, g3⟩
    have : (fun j => Value.int ((ab_b32.getD n []).getD j 0)) = fun j => Value.int (Int32.ofInt (ag_I (ab_m0 L xs false) 22 n j)) := funext fun j => by rw [hfun n hn j]
    rw [this] at g4
    exact g4
  · have hm : ∀ x ∈ ab_SC, x.2.2 < 5 ∧ x.1 = ab_AR ∧ x.2.1 = [43, 45, 47, 49, 51].getD x.2.2 0 ∧ ∃ tx : String, Cond.stringRef x.1 x.2.1 tx ∈ lw_tbl := by
      refine List.forall_mem_cons.mpr ⟨⟨by decide, rfl, rfl, "hours", List.mem_of_getElem? (i := 601) (by decide +kernel)⟩, List.forall_mem_cons.mpr ⟨⟨by decide, rfl, rfl, "nights", List.mem_of_getElem? (i := 602) (by decide +kernel)⟩, List.forall_mem_cons.mpr ⟨⟨by decide, rfl, rfl, "notice", List.mem_of_getElem? (i := 603) (by decide +kernel)⟩, List.forall_mem_cons.mpr ⟨⟨by decide, rfl, rfl, "trial", List.mem_of_getElem? (i := 604) (by decide +kernel)⟩, List.forall_mem_cons.mpr ⟨⟨by decide, rfl, rfl, "", List.mem_of_getElem? (i := 605) (by decide +kernel)⟩, fun _ h => absurd h List.not_mem_nil⟩⟩⟩⟩⟩
    obtain ⟨q1, q2, q3, tx, q4⟩ := hm x hx
    refine ⟨q1, tx, vk_R.of (hts _ q4) ?_⟩
    have := hE x.2.2 q1
    rw [q2, q3]
    exact this
  · have hm : ∀ x ∈ ab_CN, Cond.methodLinkNest x.1 x.2.1 (ab_nm x.2.2.1) "RoomForHelp" ∈ lw_tbl := by
      refine List.forall_mem_cons.mpr ⟨List.mem_of_getElem? (i := 86) (by decide +kernel), List.forall_mem_cons.mpr ⟨List.mem_of_getElem? (i := 100) (by decide +kernel), List.forall_mem_cons.mpr ⟨List.mem_of_getElem? (i := 131) (by decide +kernel), List.forall_mem_cons.mpr ⟨List.mem_of_getElem? (i := 207) (by decide +kernel), List.forall_mem_cons.mpr ⟨List.mem_of_getElem? (i := 749) (by decide +kernel), fun _ h => absurd h List.not_mem_nil⟩⟩⟩⟩⟩
    exact va_Nw.of rfl (hts _ (hm x hx))
  · rcases (show t = 14 ∨ t = 15 ∨ t = 16 ∨ t = 17 by omega) with rfl | rfl | rfl | rfl
    · exact va_AO.of (hts _ (List.mem_of_getElem? (i := 81) (by decide +kernel)))
    · exact va_AO.of (hts _ (List.mem_of_getElem? (i := 79) (by decide +kernel)))
    · exact va_AO.of (hts _ (List.mem_of_getElem? (i := 83) (by decide +kernel)))
    · exact va_AO.of (hts _ (List.mem_of_getElem? (i := 212) (by decide +kernel)))
  · have h9 : (Cond.arrayOver (.array .int)).before args s = true := hts _ (List.mem_of_getElem? (i := 136) (by decide +kernel))
    exact h9
  · cases z
    · exact zS
    · exact zS
/-- the array classes -/
theorem ab_arrcls {args : Array Value} {s : State} (hts : ∀ w ∈ lw_tbl, w.before args s = true) (hS : ∀ t, 14 ≤ t → t ≤ 17 → va_AO (ab_el t) s) (hAA : ab_AA s) : ∃ cy : Nat → ClassId, ∀ (q : Nat) (x : ClassId × FieldType), (ab_tys cy)[q]? = some x → ArrOfT s x.1 x.2 ∧ va_RA s x.1 x.2 := by
  have hg : ∀ w ∈ ab_gt, w.before args s = true := fun w hw => hts w (List.mem_filter.mp hw).1
  have prim : ∀ {ty : FieldType}, (Cond.arrayClass ty).before args s = true → ∃ cA, ArrOfT s cA ty ∧ s.vm.findClass ("[" ++ ty.toString) = some cA := fun {ty} h => by
    obtain ⟨cA, kA, comp, f1, f2, f3⟩ := Cond.arrayClass_spec h
    exact ⟨cA, fun n z => ⟨fun k h => (by cases h), kA, f2, comp, f3⟩, f1⟩
  have objs : ∀ t, 14 ≤ t → t ≤ 17 → ∃ cA, ArrOfT s cA (.object (ab_el t)) ∧ va_RA s cA (.object (ab_el t)) := fun t h1 h2 => by
    obtain ⟨comp, cA, kA, f1, f2, f3, f4, f5⟩ := Cond.arrayOver_spec (hS t h1 h2)
    exact ⟨cA, fun n z => ⟨fun k h => (by cases h), kA, f3, comp, f4⟩, kA, comp, f3, f4, f1, f5⟩
  obtain ⟨c11, a11, b11⟩ := prim (hg _ ab_arr.1)
  obtain ⟨c12, a12, b12⟩ := prim (hg _ ab_arr.2.1)
  obtain ⟨c13, a13, b13⟩ := prim (hg _ ab_arr.2.2)
  obtain ⟨c14, a14, b14⟩ := objs 14 (by omega) (by omega)
  obtain ⟨c15, a15, b15⟩ := objs 15 (by omega) (by omega)
  obtain ⟨c16, a16, b16⟩ := objs 16 (by omega) (by omega)
  obtain ⟨c17, a17, b17⟩ := objs 17 (by omega) (by omega)
  obtain ⟨comp, c18, k18, f1, f2, f3, f4⟩ := Cond.arrayOver_specA hAA
  refine ⟨fun t => if t = 11 then c11 else if t = 12 then c12 else if t = 13 then c13 else if t = 14 then c14 else if t = 15 then c15 else if t = 16 then c16 else if t = 17 then c17 else c18, fun q x hx => ?_⟩
  match q, hx with
  | 0, hx => cases hx; exact ⟨a11, b11⟩
  | 1, hx => cases hx; exact ⟨a12, b12⟩
  | 2, hx => cases hx; exact ⟨a13, b13⟩
  | 3, hx => cases hx; exact ⟨a14, b14⟩
  | 4, hx => cases hx; exact ⟨a15, b15⟩
  | 5, hx => cases hx; exact ⟨a16, b16⟩
  | 6, hx => cases hx; exact ⟨a17, b17⟩
  | 7, hx => cases hx; exact ⟨fun n z => ⟨fun k h => (by cases h), k18, f2, comp, f3⟩, f4⟩
  | q + 8, hx => simp [ab_tys] at hx
theorem ab_known {args : Array Value} {s : State} (hts : ∀ w ∈ lw_tbl, w.before args s = true) : ∃ D : va_G, ∀ (q : Nat) (x : vw_C), vwCl[q]? = some x → u_Kn s x.1 x.2.1 x.2.2 (D.1 q) (D.2 q) := by
  have hg : ∀ w ∈ ab_gt, w.before args s = true := fun w hw => hts w (List.mem_filter.mp hw).1
  have one : ∀ q, q < 11 → ∃ (cC : ClassId) (iS : Nat → Nat), u_Kn s (ab_q q).1 (ab_q q).2.1 (ab_q q).2.2 cC iS := fun q hq => u_known (n := (ab_q q).2.2) hg (ab_uws hq) (hg _ (ab_instok hq).1)
  have all : ∀ q, ∃ z : ClassId × (Nat → Nat), q < 11 → u_Kn s (ab_q q).1 (ab_q q).2.1 (ab_q q).2.2 z.1 z.2 := fun q => by
    by_cases hq : q < 11
    · obtain ⟨cC, iS, h⟩ := one q hq
      exact ⟨(cC, iS), fun _ => h⟩
    · exact ⟨(0, fun _ => 0), fun h => absurd h hq⟩
  have F := Classical.axiomOfChoice all
  obtain ⟨f, hF⟩ := F
  refine ⟨(fun q => (f q).1, fun q => (f q).2), fun q x hx => ?_⟩
  have hq : q < 11 := (List.getElem?_eq_some_iff.mp hx).1
  rw [ab_q_at hq] at hx
  cases hx
  exact hF q hq
theorem ab_ad2 (adS : Nat → Nat → Nat) : ([ab_r 20 (some 2)] : List ab_V).map (ab_c adS) = [Value.ref (adS 20 2)] := rfl
set_option maxRecDepth 100000 in
/-- the law's run out of the abstract machine's -/
theorem ab_start {p : Program} {e : Env} {s : State} {m : MethodId} {below : List Frame} {meth : Method} {c : Code} (l : Launch) {b L : Nat} {xs : Nat → Int32} (hL : L ≤ 3072) (C0 : lw_At p s m meth c b L xs) (hrun : ∀ z, Wg 40 164 (ab_m0 L xs z) 0 [(0, ab_r 20 (some 2))] [] (fun v μ' => v = some (ab_i 1) ∧ ag_c μ' ≤ 600000 ∧ ag_s μ' ≤ 7302250)) : W p l e room_1 s m #[Value.ref b] below meth c s.heap [] 0 0 (lw_Z below #[Value.ref b] s) (entryFrame m ([Value.ref b] : List Value).toArray 4) := by
  obtain ⟨hx, hb, hr, hml, hown, hts, hX, hbl, hlocks, hgv⟩ := C0
  obtain ⟨adS, z, ead, hSt⟩ := ab_statics hL hts hX hbl hgv
  obtain ⟨n, v, μ', hRn, rfl, hc, hs⟩ := hrun z
  obtain ⟨cy, hcy⟩ := ab_arrcls hts hSt.2.2.2.2.2.2.2.1 hSt.2.2.2.2.2.2.2.2.1
  obtain ⟨D, hD⟩ := ab_known hts
  have X : ab_X p room_1 s m #[Value.ref b] meth c D cy s.heap.size 164 adS (ab_m0 L xs z) := ⟨hx, hb, hml, hown, fun w hw => hts w (List.mem_filter.mp hw).1, ⟨hD, hcy⟩, fun h => absurd h (by decide), hSt, Nat.le_refl _, ab_m0_S, by decide, by decide⟩
  rw [lg_entry_eq]
  have hl := lv_entry ([Value.ref b] : List Value) (n := 4) (Nat.le_of_ble_eq_true rfl)
  generalize (lg_sl ([Value.ref b] : List Value) ++ List.replicate (4 - (lg_sl ([Value.ref b] : List Value)).length) Slot.unset).toArray = ls at hl ⊢
  have hl : lv_has ls (ab_ml 164) (([(0, ab_r 20 (some 2))] : ab_L).map (fun q => (q.1, ab_c adS q.2))) := by
    show lv_has ls 4 [(0, Value.ref (adS 20 2))]
    rw [ead]
    exact hl
  have hnone : ∀ t, t < 19 → ag_C (ab_m0 L xs z) t = 0 := fun t ht => by
    show (if t = 20 then 3 else if t = 21 then 5 else if t = 22 then 5 else if t = 23 then 1 else 0) = 0
    rw [if_neg (by omega), if_neg (by omega), if_neg (by omega), if_neg (by omega)]
  have Z : ab_Z D cy s.heap.size 0 0 (ab_ml 164) adS (ab_m0 L xs z) s adS (ab_m0 L xs z) s.heap [] 0 0 ls [(0, ab_r 20 (some 2))] [] := by
    refine ⟨⟨fun t n ht hn => ?_, fun t n t' n' ht ht' hn => ?_⟩, ab_m0_W hL, ab_ro_rf, ⟨fun _ _ _ => rfl, fun _ => Nat.le_refl _⟩, va_S.rf, rfl, rfl, hl, fun q hq => ?_, fun v hv => by cases hv⟩
    · rw [hnone t ht] at hn; omega
    · rw [hnone t ht] at hn; omega
    · rw [List.mem_singleton.mp hq]
      intro j hj
      cases hj
      show 2 < 3
      omega
  refine ab_body (d := 40) (c0 := 0) (s0 := 0) (by decide) X (fun a as μ w μ1 ha hC => ab_met 40 a as μ w μ1 ha hC) (fun a as μ w μ1 hC => ab_gr_Cl hC) ⟨by decide, by decide⟩ ⟨by show ag_c μ' ≤ 0 + 600000; omega, by show ag_s μ' ≤ 0 + 7302250; omega⟩ ?_ n _ 0 _ [] hRn adS s.heap [] 0 0 ls Z
  intro i nx a b' pc lo st cn hins hret hcn
  intro ad' H locs cells slots ls' Z'
  obtain ⟨Z1, Z2, Z3, Z4, Z5, Z6, Z7, Z8, Z9, Z10⟩ := Z'
  have hchk := ab_ck 164 (by decide) pc
  unfold ab_chk at hchk
  rw [hins] at hchk
  simp only [Bool.and_eq_true, Bool.or_eq_true, decide_eq_true_eq] at hchk
  obtain ⟨hdec, hlen, -⟩ := hchk
  replace hlen : ab_len i = 0 ∨ nx = pc + ab_len i := hlen.imp ab_beq ab_beq
  refine va_forget (fun q hq => Z5.2.2 q hq) ?_
  refine W.widen (k := 600000) (n := 7302250) (by omega) (by omega) ?_
  unfold ab_ret at hret
  split at hret
  · cases hret
    obtain ⟨-, hd⟩ := ab_dec hdec hlen (by simp [ab_len])
    exact lw_ret hx hb hr hlocks hd
  · split at hret <;> cases hret
  · split at hret <;> cases hret
  · split at hret <;> cases hret
  · cases hret
