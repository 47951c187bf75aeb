/-! ===== calls, returns, whole methods ===== -/
theorem ab_pop_ok : ∀ {n : Nat} {acc st as r : List ab_V}, ab_pop n acc st = some (as, r) → ∃ l : List ab_V, st = l ++ r ∧ as = l.reverse ++ acc ∧ l.length = n
  | 0, acc, st, as, r, h => by
    cases h
    exact ⟨[], rfl, rfl, rfl⟩
  | n + 1, acc, [], as, r, h => by cases h
  | n + 1, acc, v :: st, as, r, h => by
    obtain ⟨l, h1, h2, h3⟩ := ab_pop_ok (n := n) (acc := v :: acc) (st := st) h
    exact ⟨v :: l, by rw [h1]; rfl, by rw [h2]; simp, by simp [h3]⟩
theorem ab_lvargs (ad : Nat → Nat → Nat) : ∀ (as : List ab_V) (i : Nat), lv_args i (as.map (ab_c ad)) = (ab_in i as).map (fun q => (q.1, ab_c ad q.2))
  | [], _ => rfl
  | v :: as, i => by
    show (i, ab_c ad v) :: lv_args _ _ = (i, ab_c ad v) :: _
    rw [ab_c_cat]
    have e : (if ab_cat v = 2 then i + 2 else i + 1) = i + ab_cat v := by
      rcases v with z | z | ⟨t, o⟩ <;> rfl
    rw [e, ab_lvargs ad as]
theorem ab_lgsl (ad : Nat → Nat → Nat) : ∀ as : List ab_V, (lg_sl (as.map (ab_c ad))).length = ab_wd as
  | [] => rfl
  | v :: as => by
    have ih := ab_lgsl ad as
    unfold lg_sl at ih ⊢
    rw [List.map_cons, List.flatMap_cons, List.length_append, ih, ab_c_cat]
    rcases v with z | z | ⟨t, o⟩ <;> rfl
theorem ab_in_ok {μ : ab_M} : ∀ {as : List ab_V} {i : Nat}, (∀ v ∈ as, ab_ok μ v) → ∀ q ∈ ab_in i as, ab_ok μ q.2
  | [], _, _, q, hq => by cases hq
  | v :: as, i, h, q, hq => by
    rcases List.mem_cons.mp hq with rfl | hq
    · exact h _ List.mem_cons_self
    · exact ab_in_ok (fun x hx => h x (List.mem_cons_of_mem _ hx)) q hq
section
variable {p : Program} {la : Launch} {e : Env} {R : Room} {s : State} {m : MethodId} {args : Array Value} {below : List Frame} {meth : Method} {c : Code} {Q : State → Prop} {D : va_G} {cy : Nat → ClassId} {base c0 s0 k nL d : Nat} {adS ad ad' : Nat → Nat → Nat} {μS μ μ1 : ab_M} {H : Heap} {locs : List Loc} {cells slots : Nat} {ls : Array Slot} {lo lo1 : ab_L} {st st1 as r : List ab_V} {pc pc1 nx a b : Nat} {cn : Prop} {w : Option ab_V}
/-- behind a call -/
theorem ab_after {arr : Array Value} {st0 : List Value} (hr : va_Run p la e R s m args below meth c H locs cells slots (ag_c μ1 - ag_c μ) (ag_s μ1 - ag_s μ) (F0 m pc ls st0) (r.map (ab_c ad)) (ab_Qc D cy base ad μ w μ1 arr) (fun q => base ≤ q)) (Z : ab_Z D cy base c0 s0 (ab_ml k) adS μS s ad μ H locs cells slots ls lo st) (hrok : ∀ v ∈ r, ab_ok μ v) (hg : ab_gr μ μ1) (K : ab_G p la e R s m args below meth c Q D cy base c0 s0 k adS μS μ1 (pc + 3) lo (ab_push w r)) : W p la e R s m args below meth c H locs cells slots Q (F0 m pc ls st0) := by
  intro T hT XS
  obtain ⟨Z1, Z2, Z3, Z4, Z5, Z6, Z7, Z8, Z9, -⟩ := Z
  obtain ⟨v, st₀, t, T', L, h0, X', hL, e1, e2, ⟨ad', hx, hv, ⟨g1, g2, g3⟩, hw, hF⟩, step⟩ := hr T hT XS
  have hv : v = w.map (ab_c ad') := by cases hv; rfl
  have hS : va_S (fun q => base ≤ q) s.heap t.heap (locs ++ L) := by
    have f1 := hF.1
    have f2 := hF.2
    rw [h0] at f1 f2
    refine ⟨Nat.le_trans Z5.1 f1, fun q q1 q2 => (f2 q (Nat.lt_of_lt_of_le q1 Z5.1) q2).trans (Z5.2.1 q q1 q2), fun q hq => ?_⟩
    rcases List.mem_append.mp hq with h | h
    · exact Z5.2.2 q h
    · exact hL q h
  have ZN : ab_Z D cy base c0 s0 (ab_ml k) adS μS s ad' μ1 t.heap (locs ++ L) (cells + (ag_c μ1 - ag_c μ)) (slots + (ag_s μ1 - ag_s μ)) ls lo (ab_push w r) := by
    have q1 := hg.1
    have q2 := hg.2.1
    refine ⟨g1, g2, ab_ro_tr Z3 g3, ⟨fun t' n' hn => (hx t' n' (Nat.lt_of_lt_of_le hn (Z4.2 t'))).trans (Z4.1 t' n' hn), fun t' => Nat.le_trans (Z4.2 t') (hg.2.2 t')⟩, hS, by omega, by omega, by rw [ab_lo_ext hx Z9]; exact Z8, fun q hq => ab_ok_ch hg.2.2 (Z9 q hq), ?_⟩
    cases w with
    | none => exact fun x hx => ab_ok_ch hg.2.2 (hrok x hx)
    | some y => exact ab_okc (hw y rfl) (fun x hx => ab_ok_ch hg.2.2 (hrok x hx))
  obtain ⟨t2, a1, b1⟩ := K ad' t.heap (locs ++ L) _ _ ls ZN T' e1 X'
  refine ⟨t2, step t2 ?_, b1⟩
  have e5 : (ab_push w r).map (ab_c ad') = v.toList ++ r.map (ab_c ad) := by
    rw [hv]
    cases w with
    | none => exact ab_map_ext hx hrok
    | some y =>
      show ab_c ad' y :: r.map (ab_c ad') = ab_c ad' y :: r.map (ab_c ad)
      rw [ab_map_ext hx hrok]
  rw [e5] at a1
  exact a1
theorem ab_goodws (h : a < 164) : GoodIn ab_gt (ab_ws a) := fun x hx => by
  rcases List.mem_cons.mp hx with rfl | hx
  · exact ab_good _ (ab_cdok h).1
  · exact ab_good _ hx
theorem ab_callB {x n : Nat} (X : ab_X p R s m args meth c D cy base k adS μS) (ha : a < 164) (hl : Cond.methodLink (ab_nm k).cls x (ab_nm a) ∈ ab_gt) (hp : (parseMethodDescriptor (ab_nm a).desc).map (fun d => d.parameters.length) = some n) (hR : d + 1 ≤ R.frames ∧ 60 * (d + 1) ≤ R.locals) (mc ms : Nat) : CallB R s args (ab_nm k).cls x (ab_nm a) (ab_cd a) (ab_ml a) (ab_rt a) (ab_ws a) (ab_rm d mc ms) mc ms n := by
  obtain ⟨q1, q2, q3, q4, q5⟩ := ab_cdok ha
  exact callB_of n X.2.2.2.2.1 (ab_goodws ha) rfl rfl rfl (X.2.2.2.2.1 _ q2) (X.2.2.2.2.1 _ hl) ⟨q3.1, q3.2, hp⟩ ⟨hR.1, by show 8 + (ab_ml a + 11) + 60 * d ≤ R.locals; omega⟩
theorem ab_parse {desc : String} {b : Nat} (h : (parseMethodDescriptor desc).map (fun d => d.parameters.length + 1) = some (b + 1)) : (parseMethodDescriptor desc).map (fun d => d.parameters.length) = some b := by
  cases hp : parseMethodDescriptor desc with
  | none => rw [hp] at h; cases h
  | some q =>
    rw [hp] at h
    simp only [Option.map_some, Option.some.injEq] at h ⊢
    omega
set_option maxHeartbeats 4000000 in
theorem s_call {i : Instr} (X : ab_X p R s m args meth c D cy base k adS μS) (hchk : ab_chk k pc = true) (hins : ab_ins k pc = some (i, nx, a, b)) (hc : ab_call i a b st = some (as, r)) (hM : ab_Mt la D cy base d a as μ w μ1) (hg : ab_gr μ μ1) (hR : d + 1 ≤ R.frames ∧ 60 * (d + 1) ≤ R.locals) (hroom : ag_c μ1 ≤ c0 + R.cells ∧ ag_s μ1 ≤ s0 + R.slots) (K : ab_G p la e R s m args below meth c Q D cy base c0 s0 k adS μS μ1 nx lo (ab_push w r)) : ab_G p la e R s m args below meth c Q D cy base c0 s0 k adS μS μ pc lo st := by
  intro ad H locs cells slots ls Z
  unfold ab_chk at hchk
  rw [hins] at hchk
  simp only [Bool.and_eq_true, Bool.or_eq_true, decide_eq_true_eq] at hchk
  obtain ⟨hdec, hlen, hm⟩ := hchk
  replace hlen : ab_len i = 0 ∨ nx = pc + ab_len i := hlen.imp ab_beq ab_beq
  unfold ab_call at hc
  have hc1 := ab_cnd hc
  have hisc : ab_isc i = true ∧ a < 164 := by
    cases hb : (ab_isc i && Nat.blt a 164) with
    | false => rw [hb] at hc; cases hc
    | true =>
      simp only [Bool.and_eq_true] at hb
      exact ⟨hb.1, Nat.blt_eq.mp hb.2⟩
  obtain ⟨hpop, hwd, hrk, hml⟩ : ab_pop b [] st = some (as, r) ∧ ab_wd r ≤ 8 ∧ ab_rok i a as = true ∧ ab_wd as ≤ ab_ml a := by
    split at hc1
    · rename_i as' r' hpop
      have e1 := ab_cnd hc1
      cases e1
      cases hb : (Nat.ble (ab_wd r) 8 && (ab_rok i a as && Nat.ble (ab_wd as) (ab_ml a))) with
      | false => rw [hb] at hc1; cases hc1
      | true =>
        simp only [Bool.and_eq_true] at hb
        exact ⟨hpop, Nat.ble_eq.mp hb.1, hb.2.1, Nat.ble_eq.mp hb.2.2⟩
    · cases hc1
  obtain ⟨lst, hst, has, hlb⟩ := ab_pop_ok hpop
  rw [List.append_nil] at has
  have hrev : lst = as.reverse := by rw [has, List.reverse_reverse]
  have hst2 : st = as.reverse ++ r := by rw [hst, hrev]
  have hasl : as.length = b := by rw [has, List.length_reverse]; exact hlb
  have hok := ab_Z_ok Z
  have hok1 : ∀ v ∈ as, ab_ok μ v := fun v hv => hok v (by rw [hst2]; exact List.mem_append_left _ (List.mem_reverse.mpr hv))
  have hok2 : ∀ v ∈ r, ab_ok μ v := fun v hv => hok v (by rw [hst2]; exact List.mem_append_right _ hv)
  have hMet := hM ad hok1 hml
  obtain ⟨Z1, Z2, Z3, Z4, Z5, Z6, Z7, Z8, Z9, -⟩ := id Z
  have hSm : ∀ U : State, U.heap = H → s.WarmedH U.vm → ab_Sm D cy base ad μ U := fun U hU hW => by
    refine ⟨by rw [hU]; exact Nat.le_trans X.2.2.2.2.2.2.2.2.1 Z5.1, by rw [hU]; exact Z1, Z2, va_K.moved hW.alike X.2.2.2.2.2.1, ?_⟩
    rw [hU]
    exact ab_St_re X.2.2.2.2.2.2.2.2.2.1 Z4.1 Z3 (ab_St_mv hW Z5.2.1 X.2.2.2.2.2.2.2.1)
  have hbl : FrameBlind (va_Pc (as.map (ab_c ad)) (fun U => ab_Sm D cy base ad μ U)) := fun a U g mk h => ⟨h.1, ab_Sm_calling h.2⟩
  have hfx : CallFix p m c (ab_cd k) (ab_ml k) s args ab_gt (ab_nm k).cls := ⟨X.1, X.2.1, X.2.2.1, X.2.2.2.1, X.2.2.2.2.1⟩
  have hmap : st.map (ab_c ad) = (as.map (ab_c ad)).reverse ++ r.map (ab_c ad) := by rw [hst2, List.map_append, List.map_reverse]
  have hsum : 2 * 0 + ((r.map (ab_c ad)).map fun v => v.category).sum ≤ 8 := by rw [ab_sum]; omega
  have hf : cells + (ag_c μ1 - ag_c μ) ≤ R.cells ∧ slots + (ag_s μ1 - ag_s μ) ≤ R.slots := by
    have q1 := hg.1
    have q2 := hg.2.1
    omega
  cases i
  case invokestatic x =>
    obtain ⟨rfl, hd⟩ := ab_dec hdec hlen (by simp [ab_len])
    simp only [Bool.or_eq_true] at hm
    have hcs : ab_CS.elem ((ab_nm k).cls, x, a, b) = true := hm.resolve_right (fun h => by have := (ab_ACok h).1; omega)
    obtain ⟨q1, q2, q3, q4⟩ := ab_CSok hcs
    exact ab_after (va_runS (As := as.map (ab_c ad)) hfx hMet ⟨ab_callB X q1 q2 q4 hR _ _, X.2.2.2.2.1 _ q3⟩ ⟨hbl, fun U hU hW => ⟨rfl, hSm U hU hW⟩⟩ rfl (by rw [List.length_map]; exact hasl) Z8.1 hmap hsum hd hf) Z hok2 hg K
  case invokevirtual x =>
    obtain ⟨rfl, hd⟩ := ab_dec hdec hlen (by simp [ab_len])
    obtain ⟨q1, q2, q3, q4, q5, q6⟩ := ab_CVok hm
    dsimp only [ab_rok] at hrk
    split at hrk
    · rename_i t n as'
      have ht := ab_beq hrk
      have hn : n < ag_C μ t := hok1 _ List.mem_cons_self n rfl
      have hb1 : b = as'.length + 1 := by rw [← hasl]; rfl
      rw [hb1] at q5
      have hmap' : st.map (ab_c ad) = (as'.map (ab_c ad)).reverse ++ .ref (ad t n) :: r.map (ab_c ad) := by
        rw [hmap, List.map_cons, List.reverse_cons, List.append_assoc]
        rfl
      have hrecv : ∃ cellB : Cell, H[ad t n]? = some cellB ∧ cellB.vm.isStatics = false ∧ s.vm.findClass (ab_nm a).cls = some cellB.cls := by
        rcases q6 with ⟨q7, q8⟩ | ⟨q7, q8⟩
        · rw [← ht] at q7 q8
          obtain ⟨q0, -, hq⟩ := ab_wat (ad := ad) (cy := cy) (show t < 19 by omega) hn
          rw [ab_e_obj q7] at hq
          rw [q8]
          exact va_recv X.2.2.2.2.2.1 (ab_wP Z1) (ab_q_at q7) hq
        · rw [← ht] at q7
          subst q7
          have hro := Z3 21 (by omega)
          have h5 : n < 5 := by rw [hro.1, X.2.2.2.2.2.2.2.2.2.1.2.1] at hn; exact hn
          have hO := (X.2.2.2.2.2.2.2.1.2.2.2.2.1 n h5).2.1
          rw [← Z4.1 21 n (by rw [X.2.2.2.2.2.2.2.2.2.1.2.1]; exact h5)] at hO
          rw [q8]
          exact va_Orecv hO Z5
      exact ab_after (va_runV (As := as'.map (ab_c ad)) (C := (ab_nm a).cls) hfx hMet ⟨ab_callB X q1 q2 (ab_parse q5) hR _ _, X.2.2.2.2.1 _ q3, X.2.2.2.2.1 _ q4⟩ ⟨hbl, hrecv, fun U hU hW => ⟨rfl, hSm U hU hW⟩⟩ rfl (by rw [List.length_map]) Z8.1 hmap' hsum hd hf) Z hok2 hg K
    · cases hrk
  case invokespecial x =>
    obtain ⟨rfl, hd⟩ := ab_dec hdec hlen (by simp [ab_len])
    dsimp only [ab_rok] at hrk
    split at hrk
    · rename_i t n as'
      have hb1 : b = as'.length + 1 := by rw [← hasl]; rfl
      have hmap' : st.map (ab_c ad) = (as'.map (ab_c ad)).reverse ++ .ref (ad t n) :: r.map (ab_c ad) := by
        rw [hmap, List.map_cons, List.reverse_cons, List.append_assoc]
        rfl
      simp only [Bool.or_eq_true] at hm
      rcases hm with (hm | hm) | hm
      · obtain ⟨q1, q2, q3, q4, q5, q6⟩ := ab_CIok hm
        rw [hb1] at q5
        have hcb := ab_callB (d := d) X q1 q2 (ab_parse q5) hR (ag_c μ1 - ag_c μ) (ag_s μ1 - ag_s μ)
        rw [q6] at hcb
        exact ab_after (va_runI (As := as'.map (ab_c ad)) hfx hMet ⟨hcb, q4, X.2.2.2.2.1 _ q3⟩ ⟨hbl, fun U hU hW => ⟨rfl, hSm U hU hW⟩⟩ rfl (by rw [List.length_map]) Z8.1 hmap' hsum hd hf) Z hok2 hg K
      · obtain ⟨q1, q3, q4, q5, q6⟩ := ab_CNok hm
        rw [hb1] at q5
        obtain ⟨z1, z2, z3, z4, z5⟩ := ab_cdok q1
        have hnw := X.2.2.2.2.2.2.2.1.2.2.2.2.2.2.1 _ (List.elem_iff.mp hm)
        have hcb := va_cnB (R := R) (index := x) (own := (ab_nm k).cls) (rm := ab_rm d (ag_c μ1 - ag_c μ) (ag_s μ1 - ag_s μ)) as'.length X.2.2.2.2.1 (ab_goodws q1) (rfl : ab_ws a = Cond.code (ab_nm a) (ab_cd a) (ab_ml a) (ab_rt a) :: ab_gt) rfl rfl hnw (X.2.2.2.2.1 _ z2) ⟨z3.1, z3.2, ab_parse q5⟩ ⟨hR.1, by show 8 + (ab_ml a + 11) + 60 * d ≤ R.locals; omega⟩
        rw [q6] at hcb
        exact ab_after (va_runIN (As := as'.map (ab_c ad)) hfx hMet ⟨hcb, q4, X.2.2.2.2.1 _ q3⟩ ⟨hbl, fun U hU hW => ⟨rfl, hSm U hU hW⟩⟩ rfl (by rw [List.length_map]) Z8.1 hmap' hsum hd hf) Z hok2 hg K
      · have h1 : a = 999 := by
          obtain ⟨q, h1⟩ := ab_zipat (f := ab_OIf) ab_OIs (List.elem_iff.mp hm)
          simp only [ab_OIf, Bool.and_eq_true, decide_eq_true_eq] at h1
          exact h1.1
        omega
    · cases hrk
  all_goals (have := hisc.1; dsimp only [ab_isc] at this; cases this)
/-- a method's body out of its run -/
theorem ab_body {C : ab_R} {v : Option ab_V} {μ' : ab_M} (hk : k < 165) (X : ab_X p R s m args meth c D cy base k adS μS) (hCM : ∀ a as μ w μ1, a < 164 → C a as μ w μ1 → ab_Mt la D cy base d a as μ w μ1) (hCg : ∀ a as μ w μ1, C a as μ w μ1 → ab_gr μ μ1) (hR : d + 1 ≤ R.frames ∧ 60 * (d + 1) ≤ R.locals) (hend : ag_c μ' ≤ c0 + R.cells ∧ ag_s μ' ≤ s0 + R.slots) (hret : ∀ i nx a b pc lo st cn, ab_ins k pc = some (i, nx, a, b) → ab_ret i (ab_rt k) st = some (cn, v) → cn → ab_G p la e R s m args below meth c Q D cy base c0 s0 k adS μS μ' pc lo st) : ∀ (n : Nat) (μ : ab_M) (pc : Nat) (lo : ab_L) (st : List ab_V), ab_Rn C k n μ pc lo st v μ' → ab_G p la e R s m args below meth c Q D cy base c0 s0 k adS μS μ pc lo st
  | 0, _, _, _, _, h => h.elim
  | n + 1, μ, pc, lo, st, h => by
    obtain ⟨i, nx, a, b, hins, h⟩ := h
    have hchk := ab_ck k hk pc
    rcases h with ⟨cn, μ1, pc1, l1, st1, hs, hcn, h⟩ | ⟨as, r, w, μ1, hc, hC, h⟩ | ⟨cn, hr, hcn, rfl⟩
    · have hg := ab_gr_Rn hCg h
      exact ab_sim_step X hchk hins hs hcn ⟨Nat.le_trans hg.1 hend.1, Nat.le_trans hg.2.1 hend.2⟩ (ab_body hk X hCM hCg hR hend hret n μ1 pc1 l1 st1 h)
    · have hg := ab_gr_Rn hCg h
      have ha : a < 164 := by
        unfold ab_call at hc
        cases hb : (ab_isc i && Nat.blt a 164) with
        | false => rw [hb] at hc; cases hc
        | true =>
          simp only [Bool.and_eq_true] at hb
          exact Nat.blt_eq.mp hb.2
      exact s_call X hchk hins hc (hCM _ _ _ _ _ ha hC) (hCg _ _ _ _ _ hC) hR ⟨Nat.le_trans hg.1 hend.1, Nat.le_trans hg.2.1 hend.2⟩ (ab_body hk X hCM hCg hR hend hret n μ1 nx lo (ab_push w r) h)
    · exact hret i nx a b pc lo st cn hins hr hcn
end
