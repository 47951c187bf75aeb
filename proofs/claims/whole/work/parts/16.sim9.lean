/-! ===== a method's contract out of its run ===== -/
theorem ab_AA_mv {u U : State} (hvm : u.vm.Alike U.vm) (h : ab_AA u) : ab_AA U := by
  have h2 : (Cond.arrayOver (.array .int)).before #[] (u.setVm U.vm) = true := by rw [Cond.arrayOver_setVmC hvm]; exact h
  exact h2
theorem ab_St_mv {adS : Nat → Nat → Nat} {μS : ab_M} {A : Nat → Prop} {s U : State} {H : Heap} (hW : s.WarmedH U.vm) (hq : ∀ a : Nat, a < s.heap.size → ¬ A a → H[a]? = s.heap[a]?) (h : ab_St adS μS A s s.heap) : ab_St adS μS A U H := by
  obtain ⟨h1, h2, h3, h4, h5, h6, h7, h8, h9, h10⟩ := h
  have hv := hW.alike
  exact ⟨(h1.moved hv).kept hq, (h2.moved hv).kept hq, (h3.moved hv).kept hq, fun n hn => ((h4 n hn).moved hv).kept hq, fun n hn => ⟨((h5 n hn).1.moved hv).kept hq, ((h5 n hn).2.1.moved hv).kept hq, ((h5 n hn).2.2.1.moved hv).kept hq, ((h5 n hn).2.2.2.moved hv).kept hq⟩, fun x hx => ⟨(h6 x hx).1, (h6 x hx).2.imp (fun tx ht => ht.warm hW)⟩, fun x hx => va_Nw.warmM hW (h7 x hx), fun t a b => (h8 t a b).moved hv, ab_AA_mv hv h9, (h10.moved hv).kept hq⟩
theorem ab_St_calling {adS : Nat → Nat → Nat} {μS : ab_M} {A : Nat → Prop} {U : State} {g : JFrame} {mk : MethodId} {a : Array Value} {H : Heap} (h : ab_St adS μS A U H) : ab_St adS μS A (U.calling g mk a) H := by
  obtain ⟨h1, h2, h3, h4, h5, h6, h7, h8, h9, h10⟩ := h
  have hv : U.vm.Alike (U.calling g mk a).vm := Vm.Alike.refl U.vm
  exact ⟨h1.moved hv, h2.moved hv, h3.moved hv, fun n hn => (h4 n hn).moved hv, fun n hn => ⟨(h5 n hn).1.moved hv, (h5 n hn).2.1.moved hv, (h5 n hn).2.2.1.moved hv, (h5 n hn).2.2.2.moved hv⟩, fun x hx => ⟨(h6 x hx).1, (h6 x hx).2.imp (fun tx ht => ht.same rfl)⟩, fun x hx => (h7 x hx).same rfl rfl, fun t a b => (h8 t a b).moved hv, ab_AA_mv hv h9, h10.moved hv⟩
/-- the same statics, told by a later memory -/
theorem ab_St_re {adS ad : Nat → Nat → Nat} {μS μ : ab_M} {A : Nat → Prop} {U : State} {H : Heap} (hs : ab_sS μS) (hx : ab_ext μS adS ad) (hr : ab_ro μS μ) (h : ab_St adS μS A U H) : ab_St ad μ A U H ∧ ab_sS μ := by
  obtain ⟨h1, h2, h3, h4, h5, h6, h7, h8, h9, h10⟩ := h
  obtain ⟨s1, s2, s3, s4, s5⟩ := hs
  have r20 := hr 20 (by omega)
  have r21 := hr 21 (by omega)
  have r22 := hr 22 (by omega)
  have r23 := hr 23 (by omega)
  have e23 : ab_c ad (ab_r 23 (ag_R μ 23 0 0)) = ab_c adS (ab_r 23 (ag_R μS 23 0 0)) := by
    rw [((r23.2 0).2 0).2]
    cases ho : ag_R μS 23 0 0 with
    | none => rfl
    | some j =>
      show Value.ref (ad 23 j) = Value.ref (adS 23 j)
      rw [hx 23 j (s5 j ho)]
  have x20 : ∀ n, n < 3 → ad 20 n = adS 20 n := fun n hn => hx 20 n (by omega)
  have x21 : ∀ n, n < 5 → ad 21 n = adS 21 n := fun n hn => hx 21 n (by omega)
  have x22 : ∀ n, n < 5 → ad 22 n = adS 22 n := fun n hn => hx 22 n (by omega)
  have f20 : ∀ n, (fun j => Value.int (Int32.ofInt (ag_I μ 20 n j))) = fun j => Value.int (Int32.ofInt (ag_I μS 20 n j)) := fun n => funext fun j => by rw [((r20.2 n).2 j).1]
  have f22 : ∀ n, (fun j => Value.int (Int32.ofInt (ag_I μ 22 n j))) = fun j => Value.int (Int32.ofInt (ag_I μS 22 n j)) := fun n => funext fun j => by rw [((r22.2 n).2 j).1]
  refine ⟨⟨by rw [x20 0 (by omega)]; exact h1, by rw [x20 1 (by omega)]; exact h2, h3, fun n hn => by rw [x20 n hn, (r20.2 n).1, f20]; exact h4 n hn, fun n hn => ?_, fun x hx => ⟨(h6 x hx).1, by rw [x21 _ (h6 x hx).1]; exact (h6 x hx).2⟩, h7, h8, h9, by rw [e23]; exact h10⟩, by rw [r20.1]; exact s1, by rw [r21.1]; exact s2, by rw [r22.1]; exact s3, fun n hn => ⟨by rw [((r21.2 n).2 0).2]; exact (s4 n hn).1, by rw [((r21.2 n).2 1).1]; exact (s4 n hn).2⟩, fun j hj => by rw [r23.1]; rw [((r23.2 0).2 0).2] at hj; exact s5 j hj⟩
  rw [x22 n hn, x21 n hn, (r22.2 n).1, f22]
  exact h5 n hn
theorem ab_ro_tr {μ μ1 μ2 : ab_M} (h1 : ab_ro μ μ1) (h2 : ab_ro μ1 μ2) : ab_ro μ μ2 := fun t ht => ⟨(h2 t ht).1.trans (h1 t ht).1, fun n => ⟨((h2 t ht).2 n).1.trans ((h1 t ht).2 n).1, fun k => ⟨(((h2 t ht).2 n).2 k).1.trans (((h1 t ht).2 n).2 k).1, (((h2 t ht).2 n).2 k).2.trans (((h1 t ht).2 n).2 k).2⟩⟩⟩
theorem ab_ro_rf {μ : ab_M} : ab_ro μ μ := fun _ _ => ⟨rfl, fun _ => ⟨rfl, fun _ => ⟨rfl, rfl⟩⟩⟩
def ab_Sm (D : va_G) (cy : Nat → ClassId) (base : Nat) (ad : Nat → Nat → Nat) (μ : ab_M) (U : State) : Prop :=
  base ≤ U.heap.size ∧ ab_H D cy base ad μ U.heap ∧ ab_W μ ∧ va_K D vwCl (ab_tys cy) U ∧ ab_St ad μ (fun q => base ≤ q) U U.heap ∧ ab_sS μ
theorem ab_Sm_calling {D : va_G} {cy : Nat → ClassId} {base : Nat} {ad : Nat → Nat → Nat} {μ : ab_M} {U : State} {g : JFrame} {mk : MethodId} {a : Array Value} (h : ab_Sm D cy base ad μ U) : ab_Sm D cy base ad μ (U.calling g mk a) := by
  obtain ⟨h1, h2, h3, h6, h7, h8⟩ := h
  exact ⟨h1, h2, h3, va_K.moved (u := U) (U := U.calling g mk a) (Vm.Alike.refl U.vm) h6, ab_St_calling h7, h8⟩
def ab_Qc (D : va_G) (cy : Nat → ClassId) (base : Nat) (ad : Nat → Nat → Nat) (μ : ab_M) (w : Option ab_V) (μ1 : ab_M) : Array Value → State → Outcome → State → Prop := fun _ st oc t =>
  ∃ ad' : Nat → Nat → Nat, ab_ext μ ad ad' ∧ oc = .returned (w.map (ab_c ad')) ∧ (ab_H D cy base ad' μ1 t.heap ∧ ab_W μ1 ∧ ab_ro μ μ1) ∧ (∀ v, w = some v → ab_ok μ1 v) ∧ va_F (fun q => base ≤ q) st t
def ab_ws (k : Nat) : List Cond := ab_cdk k :: ab_gt
def ab_rm (d mc ms : Nat) : Room := { frames := d, cells := mc, slots := ms, locals := 60 * d }
def ab_Mt (la : Launch) (D : va_G) (cy : Nat → ClassId) (base d k : Nat) (as : List ab_V) (μ : ab_M) (w : Option ab_V) (μ1 : ab_M) : Prop :=
  ∀ ad : Nat → Nat → Nat, (∀ v ∈ as, ab_ok μ v) → ab_wd as ≤ ab_ml k → Met la (ab_nm k) (ab_ws k) (ab_rm d (ag_c μ1 - ag_c μ) (ag_s μ1 - ag_s μ)) (va_Pc (as.map (ab_c ad)) (fun U => ab_Sm D cy base ad μ U)) (ab_Qc D cy base ad μ w μ1) (ag_c μ1 - ag_c μ) (ag_s μ1 - ag_s μ) (fun q => base ≤ q)
/-- nothing is ever taken away -/
def ab_gr (μ μ1 : ab_M) : Prop := ag_c μ ≤ ag_c μ1 ∧ ag_s μ ≤ ag_s μ1 ∧ ∀ t, ag_C μ t ≤ ag_C μ1 t
theorem ab_gr_rf {μ : ab_M} : ab_gr μ μ := ⟨Nat.le_refl _, Nat.le_refl _, fun _ => Nat.le_refl _⟩
theorem ab_gr_tr {μ μ1 μ2 : ab_M} (h1 : ab_gr μ μ1) (h2 : ab_gr μ1 μ2) : ab_gr μ μ2 := ⟨Nat.le_trans h1.1 h2.1, Nat.le_trans h1.2.1 h2.2.1, fun t => Nat.le_trans (h1.2.2 t) (h2.2.2 t)⟩
theorem ab_gr_N {μ : ab_M} {t len sl : Nat} : ab_gr μ (as_N μ t len sl) := ⟨Nat.le_add_right _ _, Nat.le_add_right _ _, fun t' => by
  rw [ag_C_N]; split
  · rename_i h; rw [h]; omega
  · exact Nat.le_refl _⟩
theorem ab_gr_W {μ : ab_M} {N M : Nat} : ab_gr μ (as_W μ N M) := ⟨by show ag_c μ ≤ ag_c μ + 1 + N; omega, by show ag_s μ ≤ ag_s μ + N + N * M; omega, ag_C_Wle⟩
theorem ab_gr_ch {μ μ1 : ab_M} {t n : Nat} (h : ab_ch μ μ1 t n) : ab_gr μ μ1 := ⟨Nat.le_of_eq h.2.2.1.symm, Nat.le_of_eq h.2.2.2.1.symm, fun t => Nat.le_of_eq (h.1 t).symm⟩
theorem ab_gr_pv {μ μ1 : ab_M} {t n k : Nat} {f : Nat × Nat} {v : ab_V} {c : Prop} (h : ab_pv μ t n k f v = some (c, μ1)) : ab_gr μ μ1 := by
  unfold ab_pv at h
  split at h
  · cases h; exact ab_gr_ch ab_ch_I
  · cases h; exact ab_gr_ch ab_ch_I
  · cases h; exact ab_gr_ch ab_ch_J
  · rename_i t' o hf
    cases hb : Nat.beq t' f.2 with
    | true => simp only [hb, cond_true] at h; cases h; exact ab_gr_ch ab_ch_R
    | false =>
      simp only [hb, cond_false] at h
      split at h
      · cases h; exact ab_gr_ch ab_ch_R
      · cases h
  · cases h
theorem ab_cnd {α : Type} {b : Bool} {x : Option α} {y : α} (h : (bif b then x else none) = some y) : x = some y := by
  cases b with
  | true => exact h
  | false => cases h
set_option maxHeartbeats 4000000 in
theorem ab_gr_step {i : Instr} {pc nx a b pc1 : Nat} {μ μ1 : ab_M} {lo lo1 : ab_L} {st st1 : List ab_V} {cn : Prop} (hs : ab_step i pc nx a b μ lo st = some (cn, μ1, pc1, lo1, st1)) : ab_gr μ μ1 := by
  cases i
  case putfield y =>
    dsimp only [ab_step] at hs
    split at hs
    · have hs := ab_cnd hs
      split at hs
      · rename_i hp; cases hs; exact ab_gr_pv hp
      · cases hs
    · cases hs
  case new y => dsimp only [ab_step] at hs; cases hs; exact ab_gr_N
  case newarray y =>
    dsimp only [ab_step] at hs
    split at hs
    · cases hs; exact ab_gr_N
    · cases hs
  case anewarray y =>
    dsimp only [ab_step] at hs
    split at hs
    · cases hs; exact ab_gr_N
    · cases hs
  case multianewarray y dm =>
    dsimp only [ab_step] at hs
    have hs := ab_cnd hs
    split at hs
    · cases hs; exact ab_gr_W
    · cases hs
  case iastore =>
    dsimp only [ab_step] at hs
    split at hs
    · have hs := ab_cnd hs
      cases hs; exact ab_gr_ch ab_ch_I
    · cases hs
  case aastore =>
    dsimp only [ab_step] at hs
    split at hs
    · have hs := ab_cnd hs
      cases hs; exact ab_gr_ch ab_ch_R
    · cases hs
  case bastore =>
    dsimp only [ab_step] at hs
    split at hs
    · rename_i x i t n r
      cases hb : Nat.beq t 12 with
      | true => simp only [hb, cond_true] at hs; cases hs; exact ab_gr_ch ab_ch_I
      | false =>
        simp only [hb, cond_false] at hs
        have hs := ab_cnd hs
        cases hs; exact ab_gr_ch ab_ch_I
    · cases hs
  case invokestatic y =>
    dsimp only [ab_step] at hs
    cases h8 : Nat.beq a 998 with
    | true =>
      simp only [h8, cond_true] at hs
      split at hs
      · have hs := ab_cnd hs
        cases hs
        exact ⟨Nat.le_refl _, Nat.le_refl _, fun _ => Nat.le_refl _⟩
      · cases hs
    | false =>
      simp only [h8, cond_false] at hs
      cases h6 : Nat.beq a 996 with
      | true =>
        simp only [h6, cond_true] at hs
        split at hs
        · have hs := ab_cnd hs
          cases hs; exact ab_gr_rf
        · cases hs
      | false =>
        simp only [h6, cond_false] at hs
        have hs := ab_cnd hs
        split at hs
        · have hs := ab_cnd hs
          cases hs; exact ab_gr_rf
        · cases hs
  case ldc y =>
    dsimp only [ab_step] at hs
    cases hb : Nat.beq b 0 with
    | true => simp only [hb, cond_true] at hs; cases hs; exact ab_gr_rf
    | false => simp only [hb, cond_false] at hs; cases hs; exact ab_gr_rf
  case ldc2_w y =>
    dsimp only [ab_step] at hs
    cases hb : Nat.beq b 0 with
    | true => simp only [hb, cond_true] at hs; cases hs; exact ab_gr_rf
    | false => simp only [hb, cond_false] at hs; cases hs; exact ab_gr_rf
  case getstatic y =>
    dsimp only [ab_step] at hs
    cases hb : Nat.blt a 2 with
    | true => simp only [hb, cond_true] at hs; cases hs; exact ab_gr_rf
    | false =>
      simp only [hb, cond_false] at hs
      cases hb2 : Nat.beq a 2 with
      | true => simp only [hb2, cond_true] at hs; cases hs; exact ab_gr_rf
      | false => simp only [hb2, cond_false] at hs; cases hs; exact ab_gr_rf
  all_goals (dsimp only [ab_step, ab_ldi, ab_ldl, ab_ldr, ab_sti, ab_stl, ab_str, ab_b2, ab_l2] at hs)
  all_goals first
    | (cases hs; done)
    | (cases hs; exact ab_gr_rf)
    | (have hs := ab_cnd hs; cases hs; exact ab_gr_rf)
    | (split at hs
       · first | (cases hs; exact ab_gr_rf) | (have hs := ab_cnd hs; cases hs; exact ab_gr_rf)
       · cases hs)
theorem ab_gr_Rn {C : ab_R} (hC : ∀ a as μ w μ1, C a as μ w μ1 → ab_gr μ μ1) {k : Nat} : ∀ {n : Nat} {μ : ab_M} {pc : Nat} {lo : ab_L} {st : List ab_V} {v : Option ab_V} {μ' : ab_M}, ab_Rn C k n μ pc lo st v μ' → ab_gr μ μ'
  | 0, _, _, _, _, _, _, h => h.elim
  | n + 1, μ, pc, lo, st, v, μ', h => by
    obtain ⟨i, nx, a, b, -, h⟩ := h
    rcases h with ⟨c, μ1, pc1, l1, st1, hs, -, h⟩ | ⟨as, r, w, μ1, -, hc, h⟩ | ⟨c, -, -, rfl⟩
    · exact ab_gr_tr (ab_gr_step hs) (ab_gr_Rn hC h)
    · exact ab_gr_tr (hC _ _ _ _ _ hc) (ab_gr_Rn hC h)
    · exact ab_gr_rf
theorem ab_gr_Cl : ∀ {d a : Nat} {as : List ab_V} {μ : ab_M} {w : Option ab_V} {μ1 : ab_M}, ab_Cl d a as μ w μ1 → ab_gr μ μ1
  | 0, _, _, _, _, _, h => h.elim
  | d + 1, a, as, μ, w, μ1, h => by
    obtain ⟨n, h⟩ := h
    exact ab_gr_Rn (fun a as μ w μ1 hc => ab_gr_Cl hc) h
