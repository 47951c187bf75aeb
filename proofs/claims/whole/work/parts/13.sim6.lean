/-! ===== new cells ===== -/
section
variable {p : Program} {la : Launch} {e : Env} {R : Room} {s : State} {m : MethodId} {args : Array Value} {below : List Frame} {meth : Method} {c : Code} {Q : State → Prop} {D : va_G} {cy : Nat → ClassId} {base c0 s0 k nL : Nat} {adS ad ad' : Nat → Nat → Nat} {μS μ μ1 : ab_M} {H H1 : Heap} {locs locs1 : List Loc} {cells slots : Nat} {ls ls' : Array Slot} {lo lo' : ab_L} {st st' r : List ab_V} {pc nx a b t n len sl : Nat} {i x : Int}
theorem ag_I_N {t' n' k' : Nat} : ag_I (as_N μ t len sl) t' n' k' = if t' = t ∧ n' = ag_C μ t then 0 else ag_I μ t' n' k' := rfl
theorem ag_J_N {t' n' k' : Nat} : ag_J (as_N μ t len sl) t' n' k' = if t' = t ∧ n' = ag_C μ t then 0 else ag_J μ t' n' k' := rfl
theorem ag_R_N {t' n' k' : Nat} : ag_R (as_N μ t len sl) t' n' k' = if t' = t ∧ n' = ag_C μ t then none else ag_R μ t' n' k' := rfl
theorem ag_L_N {t' n' : Nat} : ag_L (as_N μ t len sl) t' n' = if t' = t ∧ n' = ag_C μ t then len else ag_L μ t' n' := rfl
theorem ag_C_N {t' : Nat} : ag_C (as_N μ t len sl) t' = if t' = t then ag_C μ t + 1 else ag_C μ t' := rfl
/-- the old cells stay as they were, though addresses came -/
theorem ab_e_keep (hW : ab_W μ) (hx : ab_ext μ ad ad') (h : ∀ t' n', t' < 19 → n' < ag_C μ t' → ag_L μ1 t' n' = ag_L μ t' n' ∧ ∀ k', ag_I μ1 t' n' k' = ag_I μ t' n' k' ∧ ag_J μ1 t' n' k' = ag_J μ t' n' k' ∧ ag_R μ1 t' n' k' = ag_R μ t' n' k') : ∀ t' n', t' < 19 → n' < ag_C μ t' → ab_e ad' cy μ1 t' n' = ab_e ad cy μ t' n' := by
  intro t' n' ht hn
  obtain ⟨hL, hh⟩ := h t' n' ht hn
  by_cases h1 : t' < 11
  · rw [ab_e_obj h1, ab_e_obj h1]
    unfold ab_fv
    congr 2
    exact List.map_congr_left (fun j _ => by rw [ab_gv_eq (hh j), ab_c_ext hx (ab_gv_ok hW h1)])
  · by_cases h2 : t' < 14
    · rw [ab_e_int (by omega) h2, ab_e_int (by omega) h2, hL]
      exact ab_ci (fun q => by rw [(hh q).1])
    · rw [ab_e_ref (by omega), ab_e_ref (by omega), hL]
      refine ab_cr (fun q => ?_)
      rw [(hh q).2.2]
      cases hq : ag_R μ t' n' q with
      | none => rfl
      | some j =>
        have hj := hW.2.2.1 t' n' q j ht hq
        unfold ab_tt at hj
        rw [if_neg h1] at hj
        show some (ad' _ _) = some (ad _ _)
        rw [hx _ _ hj]
theorem ab_W_N (hW : ab_W μ) (hlen : len ≤ 100000) : ab_W (as_N μ t len sl) := by
  refine ⟨fun t' n' k' => ?_, fun t' n' k' => ?_, fun t' n' k' j ht hj => ?_, fun t' n' => ?_⟩
  · rw [ag_I_N]; split
    · rfl
    · exact hW.1 _ _ _
  · rw [ag_J_N]; split
    · rfl
    · exact hW.2.1 _ _ _
  · rw [ag_R_N] at hj
    split at hj
    · cases hj
    · have := hW.2.2.1 t' n' k' j ht hj
      rw [ag_C_N]
      split
      · rename_i h1 h2; rw [h2] at this; omega
      · exact this
  · rw [ag_L_N]; split
    · exact hlen
    · exact hW.2.2.2 _ _
theorem ab_lo_ext (hx : ab_ext μ ad ad') (h : ∀ q ∈ lo, ab_ok μ q.2) : lo.map (fun q => (q.1, ab_c ad' q.2)) = lo.map (fun q => (q.1, ab_c ad q.2)) := List.map_congr_left (fun q hq => by rw [ab_c_ext hx (h q hq)])
/-- behind a new cell -/
theorem ab_Z_al {q : Nat} {y : va_E} (z : ab_Z D cy base c0 s0 nL adS μS s ad μ H locs cells slots ls lo st) (ht : t < 19) (hlen : len ≤ 100000) (hP : va_P D vwCl (ab_wo ad cy μ ++ [(q, y)]) H1) (hD : va_D (fun q => base ≤ q) (ab_wo ad cy μ ++ [(q, y)])) (ha : ∀ t' n', ad' t' n' = if t' = t ∧ n' = ag_C μ t then q else ad t' n') (he : ab_e ad' cy (as_N μ t len sl) t (ag_C μ t) = y) (hS : va_S (fun q => base ≤ q) s.heap H1 locs1) (h : ∀ v ∈ st', ab_ok μ v) : ab_Z D cy base c0 s0 nL adS μS s ad' (as_N μ t len sl) H1 locs1 (cells + 1) (slots + sl) ls lo (ab_r t (some (ag_C μ t)) :: st') ∧ (st'.map (ab_c ad') = st'.map (ab_c ad)) ∧ ab_c ad' (ab_r t (some (ag_C μ t))) = .ref q := by
  obtain ⟨h1, h2, h3, h4, h5, h6, h7, h8, h9, -⟩ := z
  have hx : ab_ext μ ad ad' := fun t' n' hn => by
    rw [ha, if_neg]
    rintro ⟨rfl, rfl⟩
    omega
  have hle : ∀ t', ag_C μ t' ≤ ag_C (as_N μ t len sl) t' := fun t' => by
    rw [ag_C_N]; split
    · rename_i q; rw [q]; omega
    · exact Nat.le_refl _
  refine ⟨⟨ab_H_new ht h1 hP hD (fun t' => ag_C_N) ha he (ab_e_keep h2 hx (fun t' n' _ hn => ?_)), ab_W_N h2 hlen, fun t' ht' => ?_, ⟨fun t' n' hn => (hx t' n' (Nat.lt_of_lt_of_le hn (h4.2 t'))).trans (h4.1 t' n' hn), fun t' => Nat.le_trans (h4.2 t') (hle t')⟩, hS, ?_, ?_, by rw [ab_lo_ext hx h9]; exact h8, fun q hq => ab_ok_ch hle (h9 q hq), ab_okc (fun j hj => ?_) (fun v hv => ab_ok_ch hle (h v hv))⟩, ab_map_ext hx h, ?_⟩
  · have hne : ¬ (t' = t ∧ n' = ag_C μ t) := by rintro ⟨rfl, rfl⟩; omega
    refine ⟨by rw [ag_L_N, if_neg hne], fun k' => ⟨by rw [ag_I_N, if_neg hne], by rw [ag_J_N, if_neg hne], by rw [ag_R_N, if_neg hne]⟩⟩
  · have hne : ∀ n' : Nat, ¬ (t' = t ∧ n' = ag_C μ t) := fun n' q => by omega
    refine ⟨by rw [ag_C_N, if_neg (by omega)]; exact (h3 t' ht').1, fun n' => ⟨by rw [ag_L_N, if_neg (hne n')]; exact ((h3 t' ht').2 n').1, fun k' => ⟨by rw [ag_I_N, if_neg (hne n')]; exact (((h3 t' ht').2 n').2 k').1, by rw [ag_R_N, if_neg (hne n')]; exact (((h3 t' ht').2 n').2 k').2⟩⟩⟩
  · show cells + 1 + c0 = ag_c μ + 1; omega
  · show slots + sl + s0 = ag_s μ + sl; omega
  · cases hj; rw [ag_C_N, if_pos rfl]; omega
  · show Value.ref (ad' _ _) = _
    rw [ha, if_pos ⟨rfl, rfl⟩]
theorem s_new {y : Nat} (X : ab_X p R s m args meth c D cy base k adS μS) (hd : decode (ab_cd k) pc = .ok (.new y, 3)) (hl : ab_NW.elem ((ab_nm k).cls, y, a) = true) (hroom : ag_c (as_N μ a 0 (ab_nf a)) ≤ c0 + R.cells ∧ ag_s (as_N μ a 0 (ab_nf a)) ≤ s0 + R.slots) (K : ab_G p la e R s m args below meth c Q D cy base c0 s0 k adS μS (as_N μ a 0 (ab_nf a)) (pc + 3) lo (ab_r a (some (ag_C μ a)) :: st)) : ab_G p la e R s m args below meth c Q D cy base c0 s0 k adS μS μ pc lo st := by
  intro ad H locs cells slots ls Z
  obtain ⟨q, h1⟩ := ab_zipat (f := ab_NWf) ab_NWs (List.elem_iff.mp hl)
  simp only [ab_NWf, Bool.and_eq_true, decide_eq_true_eq] at h1
  have ha := h1.1
  have hcl := X.2.2.2.2.1 _ (ab_mems_ok h1.2 _ List.mem_cons_self)
  have hin := ab_instok ha
  have h6 := Z.2.2.2.2.2.1
  have h7 := Z.2.2.2.2.2.2.1
  have hr1 : ag_c μ + 1 ≤ c0 + R.cells := hroom.1
  have hr2 : ag_s μ + ab_nf a ≤ s0 + R.slots := hroom.2
  have hnew : ∀ j, ag_I (as_N μ a 0 (ab_nf a)) a (ag_C μ a) j = 0 ∧ ag_J (as_N μ a 0 (ab_nf a)) a (ag_C μ a) j = 0 ∧ ag_R (as_N μ a 0 (ab_nf a)) a (ag_C μ a) j = none := fun j => ⟨by rw [ag_I_N, if_pos ⟨rfl, rfl⟩], by rw [ag_J_N, if_pos ⟨rfl, rfl⟩], by rw [ag_R_N, if_pos ⟨rfl, rfl⟩]⟩
  have hfs : ∀ j, j < (ab_q a).2.2 → defaultValue (ab_ty a j) = vp_V (ab_fv ad (as_N μ a 0 (ab_nf a)) a (ag_C μ a)) j := by
    intro j hj
    rw [ab_nf_q ha] at hj
    unfold vp_V
    rw [List.getD_eq_getElem?_getD, ab_fv_at hj]
    show _ = ab_c ad (ab_gv _ _ _ _ _)
    unfold ab_gv
    rw [(hnew j).1, (hnew j).2.1, (hnew j).2.2]
    rcases ab_kind ha hj with ⟨q1, q2⟩ | ⟨q1, q2⟩ | ⟨q1, q2⟩ | ⟨q1, ⟨z, q2⟩ | ⟨z, q2⟩⟩ <;> rw [q1, q2] <;> rfl
  refine va_new (c0 := c) (ci := a) (C := (ab_q a).1) (T := (ab_q a).2.1) (N := (ab_q a).2.2) X.1 X.2.1 X.2.2.2.2.1 (ab_uws ha) (ab_ty a) (ab_tyok ha) X.2.2.2.1 hcl (X.2.2.2.2.1 _ hin.1) (X.2.2.2.2.1 _ hin.2) X.2.2.2.2.2.1 (ab_wP (ab_Z_H Z)) (ab_wD (ab_Z_H Z)) (ab_Z_S Z) (fun q hq => Nat.le_trans X.2.2.2.2.2.2.2.2.1 hq) (ab_q_at ha) hfs (by omega) (by rw [ab_nf_q ha]; omega) hd (fun q H1 hP1 hD1 hS1 => ?_)
  obtain ⟨z1, z2, z3⟩ := ab_Z_al (sl := ab_nf a) (ad' := fun t' n' => if t' = a ∧ n' = ag_C μ a then q else ad t' n') Z (show a < 19 by omega) (Nat.zero_le _) hP1 hD1 (fun _ _ => rfl) (by
    rw [ab_e_obj ha]
    congr 2
    unfold ab_fv
    refine List.map_congr_left (fun j _ => ?_)
    unfold ab_gv
    rw [(hnew j).1, (hnew j).2.1, (hnew j).2.2]
    split <;> rfl) hS1 (ab_Z_ok Z)
  have K := K _ H1 locs (cells + 1) (slots + ab_nf a) ls z1
  rw [List.map_cons, z2, z3] at K
  rw [ab_nf_q ha]
  exact K
theorem ab_mapL {f g : Nat → Int32} {cA : ClassId} {L L' : Nat} (h : L = L') (hf : ∀ q, f q = g q) : (Sum.inl (cA, L, Sum.inl f) : va_E) = Sum.inl (cA, L', Sum.inl g) := by rw [h, funext hf]
theorem ab_mapR {f g : Nat → Option Nat} {cA : ClassId} {L L' : Nat} (h : L = L') (hf : ∀ q, f q = g q) : (Sum.inl (cA, L, Sum.inr (Sum.inr (Sum.inr (Sum.inr f)))) : va_E) = Sum.inl (cA, L', Sum.inr (Sum.inr (Sum.inr (Sum.inr g)))) := by rw [h, funext hf]
theorem ab_cyA (hK : va_K D vwCl (ab_tys cy) s) : s.vm.findClass "[I" = some (cy 11) ∧ s.vm.findClass "[B" = some (cy 12) ∧ s.vm.findClass "[Z" = some (cy 13) ∧ s.vm.findClass "[[I" = some (cy 18) := ⟨(hK.2 0 _ (ab_tys_at cy).1).2, (hK.2 1 _ (ab_tys_at cy).2.1).2, (hK.2 2 _ (ab_tys_at cy).2.2.1).2, (hK.2 7 _ (ab_tys_at cy).2.2.2).2⟩
theorem s_newarray {y : ArrayType} {z : Int} (X : ab_X p R s m args meth c D cy base k adS μS) (hd : decode (ab_cd k) pc = .ok (.newarray y, 2)) (hl : (a = 11 ∧ y = .int) ∨ (a = 12 ∧ y = .byte) ∨ (a = 13 ∧ y = .boolean)) (hz : 0 ≤ z ∧ z ≤ 100000) (hroom : ag_c (as_N μ a z.toNat z.toNat) ≤ c0 + R.cells ∧ ag_s (as_N μ a z.toNat z.toNat) ≤ s0 + R.slots) (K : ab_G p la e R s m args below meth c Q D cy base c0 s0 k adS μS (as_N μ a z.toNat z.toNat) (pc + 2) lo (ab_r a (some (ag_C μ a)) :: r)) : ab_G p la e R s m args below meth c Q D cy base c0 s0 k adS μS μ pc lo (ab_i z :: r) := by
  intro ad H locs cells slots ls Z
  have hv := ab_oks (ab_Z_ok Z)
  have h6 := Z.2.2.2.2.2.1
  have h7 := Z.2.2.2.2.2.2.1
  have hr1 : ag_c μ + 1 ≤ c0 + R.cells := hroom.1
  have hr2 : ag_s μ + z.toNat ≤ s0 + R.slots := hroom.2
  have hneg : ¬ Int32.ofInt z < 0 := fun q => by
    have := (ab_lt hv.1 (show ab_wr 0 = 0 from rfl)).mp q
    omega
  have hcl : (Int32.ofInt z).toNatClampNeg = z.toNat := by
    show (Int32.ofInt z).toInt.toNat = z.toNat
    have h1 : ab_wr z = z := hv.1
    unfold ab_wr at h1
    rw [h1]
  have hcy := ab_cyA X.2.2.2.2.2.1
  have main : ∀ (ty : FieldType), newarray.typeOf y = ty → (Cond.arrayClass (newarray.typeOf y)).before args s = true → s.vm.findClass ("[" ++ ty.toString) = some (cy a) → (∀ cA : ClassId, vp_cell cA (z.toNat, .inl (fun _ => 0)) = arrV cA z.toNat (fun _ => defaultValue ty)) → z.toNat * componentBytes ty ≤ 536870912 → (∀ cA, va_RA s cA ty → s.vm.findClass ("[" ++ ty.toString) = some cA) → 11 ≤ a → a < 14 → W p la e R s m args below meth c H locs cells slots Q (F0 m pc ls ((ab_i z :: r).map (ab_c ad))) := by
    intro ty hty harr hfc hcell hby hra ha1 ha2
    refine va_newa X.1 X.2.1 harr hty X.2.2.2.2.2.1 (ab_wP (ab_Z_H Z)) (ab_wD (ab_Z_H Z)) (ab_Z_S Z) (fun q hq => Nat.le_trans X.2.2.2.2.2.2.2.2.1 hq) hcell hneg hcl hby (by omega) (by omega) hd (fun q cA H1 hK1 hP1 hD1 hS1 => ?_)
    have hcA : cA = cy a := by
      have := (hK1.2 (ab_tys cy).length (cA, ty) (by simp)).2
      have := hra cA this
      rw [hfc] at this
      exact (Option.some.inj this).symm
    subst hcA
    obtain ⟨z1, z2, z3⟩ := ab_Z_al (len := z.toNat) (sl := z.toNat) (ad' := fun t' n' => if t' = a ∧ n' = ag_C μ a then q else ad t' n') Z (show a < 19 by omega) (by omega) hP1 hD1 (fun _ _ => rfl) (by
      rw [ab_e_int ha1 ha2]
      refine ab_mapL (by rw [ag_L_N, if_pos ⟨rfl, rfl⟩]) (fun j => ?_)
      rw [ag_I_N, if_pos ⟨rfl, rfl⟩]; rfl) hS1 hv.2
    have K := K _ H1 locs (cells + 1) (slots + z.toNat) ls z1
    rw [List.map_cons, z2, z3] at K
    exact K
  rcases hl with ⟨rfl, rfl⟩ | ⟨rfl, rfl⟩ | ⟨rfl, rfl⟩
  · exact main .int rfl (X.2.2.2.2.1 _ ab_arr.1) hcy.1 (fun _ => rfl) (by show z.toNat * 4 ≤ _; omega) (fun _ h => h) (by omega) (by omega)
  · exact main .byte rfl (X.2.2.2.2.1 _ ab_arr.2.1) hcy.2.1 (fun _ => rfl) (by show z.toNat * 1 ≤ _; omega) (fun _ h => h) (by omega) (by omega)
  · exact main .boolean rfl (X.2.2.2.2.1 _ ab_arr.2.2) hcy.2.2.1 (fun _ => rfl) (by show z.toNat * 1 ≤ _; omega) (fun _ h => h) (by omega) (by omega)
theorem s_anewarray {y : Nat} {z : Int} (X : ab_X p R s m args meth c D cy base k adS μS) (hd : decode (ab_cd k) pc = .ok (.anewarray y, 3)) (hl : ab_AN.elem ((ab_nm k).cls, y, a) = true) (hz : 0 ≤ z ∧ z ≤ 100000) (hroom : ag_c (as_N μ a z.toNat z.toNat) ≤ c0 + R.cells ∧ ag_s (as_N μ a z.toNat z.toNat) ≤ s0 + R.slots) (K : ab_G p la e R s m args below meth c Q D cy base c0 s0 k adS μS (as_N μ a z.toNat z.toNat) (pc + 3) lo (ab_r a (some (ag_C μ a)) :: r)) : ab_G p la e R s m args below meth c Q D cy base c0 s0 k adS μS μ pc lo (ab_i z :: r) := by
  intro ad H locs cells slots ls Z
  obtain ⟨q, h1⟩ := ab_zipat (f := ab_ANf) ab_ANs (List.elem_iff.mp hl)
  simp only [ab_ANf, Bool.and_eq_true, decide_eq_true_eq] at h1
  obtain ⟨⟨ha1, ha2⟩, hmem⟩ := h1
  have hlk := X.2.2.2.2.1 _ (ab_mems_ok hmem _ List.mem_cons_self)
  have hv := ab_oks (ab_Z_ok Z)
  have h6 := Z.2.2.2.2.2.1
  have h7 := Z.2.2.2.2.2.2.1
  have hr1 : ag_c μ + 1 ≤ c0 + R.cells := hroom.1
  have hr2 : ag_s μ + z.toNat ≤ s0 + R.slots := hroom.2
  have hneg : ¬ Int32.ofInt z < 0 := fun q => by
    have := (ab_lt hv.1 (show ab_wr 0 = 0 from rfl)).mp q
    omega
  have hcl : (Int32.ofInt z).toNatClampNeg = z.toNat := by
    show (Int32.ofInt z).toInt.toNat = z.toNat
    have h1 : ab_wr z = z := hv.1
    unfold ab_wr at h1
    rw [h1]
  refine va_newq X.1 X.2.1 X.2.2.2.1 hlk (X.2.2.2.2.2.2.2.1.2.2.2.2.2.2.2.1 a ha1 ha2) X.2.2.2.2.2.1 (ab_wP (ab_Z_H Z)) (ab_wD (ab_Z_H Z)) (ab_Z_S Z) (fun q hq => Nat.le_trans X.2.2.2.2.2.2.2.2.1 hq) hneg hcl (by omega) (by omega) (by omega) hd (fun q cA H1 hK1 hP1 hD1 hS1 => ?_)
  have hcA : cA = cy a := by
    obtain ⟨_, _, -, -, -, g1⟩ := (hK1.2 (ab_tys cy).length (cA, .object (ab_el a)) (by simp)).2
    obtain ⟨_, _, -, -, -, g2⟩ := (X.2.2.2.2.2.1.2 (a - 11) _ (ab_tys_q cy ha1 ha2)).2
    rw [g1] at g2
    exact Option.some.inj g2
  subst hcA
  obtain ⟨z1, z2, z3⟩ := ab_Z_al (len := z.toNat) (sl := z.toNat) (ad' := fun t' n' => if t' = a ∧ n' = ag_C μ a then q else ad t' n') Z (show a < 19 by omega) (by omega) hP1 hD1 (fun _ _ => rfl) (by
    rw [ab_e_ref ha1]
    refine ab_mapR (by rw [ag_L_N, if_pos ⟨rfl, rfl⟩]) (fun j => ?_)
    rw [ag_R_N, if_pos ⟨rfl, rfl⟩]; rfl) hS1 hv.2
  have K := K _ H1 locs (cells + 1) (slots + z.toNat) ls z1
  rw [List.map_cons, z2, z3] at K
  exact K
end
