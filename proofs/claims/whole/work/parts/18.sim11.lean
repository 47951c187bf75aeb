/-! ===== every run of the abstract machine is a contract ===== -/
theorem ab_nar_z {rt : FieldType} {z : Int} (h : ab_rc (some rt) z) : rt = .int ∨ narrow rt (.int (Int32.ofInt z)) = .int (Int32.ofInt z) := by
  cases rt
  case int => exact Or.inl rfl
  case boolean => rcases h with rfl | rfl <;> exact Or.inr rfl
  case byte =>
    right
    have h2 : ab_i2b z = z := h
    have e : Int32.ofInt z = (Int32.ofInt z).toInt8.toInt32 := by
      have := congrArg Int32.ofInt h2
      unfold ab_i2b at this
      rw [Int32.ofInt_toInt] at this
      exact this.symm
    rw [e]
    exact pk_nb _
  case char =>
    right
    have h2 : ab_i2c z = z := h
    have e : Int32.ofInt z = ((Int32.ofInt z).toUInt32 % 65536).toInt32 := by
      have := congrArg Int32.ofInt h2
      unfold ab_i2c at this
      rw [Int32.ofInt_toInt] at this
      exact this.symm
    rw [e]
    exact pk_nc _
  all_goals exact h.elim
theorem ab_met {la : Launch} {D : va_G} {cy : Nat → ClassId} {base : Nat} : ∀ (d k : Nat) (as : List ab_V) (μ : ab_M) (w : Option ab_V) (μ1 : ab_M), k < 164 → ab_Cl d k as μ w μ1 → ab_Mt la D cy base d k as μ w μ1
  | 0, _, _, _, _, _, _, h => h.elim
  | d + 1, k, as, μ, w, μ1, hk, h => by
    have hgr := ab_gr_Cl h
    obtain ⟨n, h⟩ := h
    intro ad hok hml
    refine Met.ofW (cc := ab_cd k) (maxL := ab_ml k) (ret := ab_rt k) (ab_cdok hk).2.2.2.1 rfl ?_
    intro p e s m args below meth c s₁ B hmxl hv
    obtain ⟨rfl, g1, g2, g3, g6, g7, g8⟩ := hv
    have hlocks := B.notSynchronized
    have hrt := B.returns
    have X : ab_X p (headSpec (ab_ws k) (ab_rm (d + 1) (ag_c μ1 - ag_c μ) (ag_s μ1 - ag_s μ))).room s m (as.map (ab_c ad)).toArray meth c D cy base k ad μ := ⟨B.exec, B.bytes, hmxl, findClass_of_methodNamed B.named, fun x hx => atoms_spec (ws := ab_ws k) B.pre x (List.mem_cons_of_mem _ hx), g6, fun h => (name_of_methodNamed B.named B.method).1.trans h, g7, g1, g8, by show 1 ≤ d + 1; omega, by show 60 ≤ 60 * (d + 1); omega⟩
    rw [lg_entry_eq]
    have hl := lv_entry (as.map (ab_c ad)) (n := ab_ml k) (by rw [ab_lgsl]; exact hml)
    generalize (lg_sl (as.map (ab_c ad)) ++ List.replicate (ab_ml k - (lg_sl (as.map (ab_c ad))).length) Slot.unset).toArray = ls at hl ⊢
    rw [ab_lvargs] at hl
    have q1 := hgr.1
    have q2 := hgr.2.1
    refine ab_body (d := d) (c0 := ag_c μ) (s0 := ag_s μ) (Nat.lt_succ_of_lt hk) X (fun a as μ w μ1 ha hC => ab_met d a as μ w μ1 ha hC) (fun a as μ w μ1 hC => ab_gr_Cl hC) ⟨Nat.le_refl _, Nat.le_refl _⟩ ⟨by show ag_c μ1 ≤ ag_c μ + (ag_c μ1 - ag_c μ); omega, by show ag_s μ1 ≤ ag_s μ + (ag_s μ1 - ag_s μ); omega⟩ ?_ n μ 0 (ab_in 0 as) [] h ad s.heap [] 0 0 ls ⟨g2, g3, ab_ro_rf, ⟨fun _ _ _ => rfl, fun _ => Nat.le_refl _⟩, va_S.rf, Nat.zero_add _, Nat.zero_add _, hl, ab_in_ok hok, fun _ h => by cases h⟩
    intro i nx a b pc lo st cn hins hr hcn
    intro ad' H locs cells slots ls' Z
    obtain ⟨Z1, Z2, Z3, Z4, Z5, Z6, Z7, Z8, Z9, Z10⟩ := Z
    have ec : cells = ag_c μ1 - ag_c μ := by omega
    have es : slots = ag_s μ1 - ag_s μ := by omega
    have hchk := ab_ck k (Nat.lt_succ_of_lt hk) pc
    unfold ab_chk at hchk
    rw [hins] at hchk
    simp only [Bool.and_eq_true, Bool.or_eq_true, decide_eq_true_eq] at hchk
    obtain ⟨hdec, hlen, -⟩ := hchk
    replace hlen : ab_len i = 0 ∨ nx = pc + ab_len i := hlen.imp ab_beq ab_beq
    have hq : ∀ v, w = v → (∀ x, w = some x → ab_ok μ1 x) → ∀ t : State, t.heap = H → s.WarmedH t.vm → ab_Qc D cy base ad μ w μ1 (as.map (ab_c ad)).toArray s (.returned (v.map (ab_c ad'))) t := fun v hv ho t ht hW => ⟨ad', Z4.1, by rw [hv], ⟨by rw [ht]; exact Z1, Z2, Z3⟩, ho, Z5.F ht⟩
    rw [← ec, ← es]
    unfold ab_ret at hr
    split at hr
    · rename_i z
      cases hr
      obtain ⟨-, hd⟩ := ab_dec hdec hlen (by simp [ab_len])
      have hq := hq _ rfl (fun x hx => by cases hx; exact Z10 _ List.mem_cons_self)
      cases hrt2 : ab_rt k with
      | none => rw [hrt2] at hcn; exact hcn.elim
      | some rt =>
        rw [hrt2] at hcn hrt
        rcases ab_nar_z hcn with rfl | hn
        · exact W.iret X.1 X.2.1 hrt hq Z5.2.2 hd
        · exact W.zret X.1 X.2.1 hrt hn hq Z5.2.2 hd
    · rename_i z
      split at hr
      · rename_i hrt2
        cases hr
        obtain ⟨-, hd⟩ := ab_dec hdec hlen (by simp [ab_len])
        rw [hrt2] at hrt
        exact W.lret X.1 X.2.1 hrt (hq _ rfl (fun x hx => by cases hx; exact Z10 _ List.mem_cons_self)) Z5.2.2 hd
      · cases hr
    · rename_i t o
      have hv : ab_c ad' (ab_r t o) = .null ∨ ∃ a, ab_c ad' (ab_r t o) = .ref a := by
        cases o with
        | none => exact Or.inl rfl
        | some n => exact Or.inr ⟨_, rfl⟩
      split at hr
      · rename_i q hrt2
        cases hr
        obtain ⟨-, hd⟩ := ab_dec hdec hlen (by simp [ab_len])
        rw [hrt2] at hrt
        exact W.aret X.1 X.2.1 hrt (Or.inl ⟨_, rfl⟩) hv (hq _ rfl (fun x hx => by cases hx; exact Z10 _ List.mem_cons_self)) Z5.2.2 hd
      · rename_i q hrt2
        cases hr
        obtain ⟨-, hd⟩ := ab_dec hdec hlen (by simp [ab_len])
        rw [hrt2] at hrt
        exact W.aret X.1 X.2.1 hrt (Or.inr ⟨_, rfl⟩) hv (hq _ rfl (fun x hx => by cases hx; exact Z10 _ List.mem_cons_self)) Z5.2.2 hd
      · cases hr
    · split at hr
      · rename_i hrt2
        cases hr
        obtain ⟨-, hd⟩ := ab_dec hdec hlen (by simp [ab_len])
        rw [hrt2] at hrt
        exact W.vret X.1 X.2.1 hrt (hq _ rfl (fun x hx => by cases hx)) Z5.2.2 hd
      · cases hr
    · cases hr
