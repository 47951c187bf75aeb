/-! ===== the heap: what a write and a new cell do to the picture ===== -/
theorem ab_rmap_set {N b : Nat} {g g' : Nat → Value} {x : Value} (hb : b < N) (h1 : g' b = x) (h2 : ∀ j, j ≠ b → g' j = g j) : (List.range N).map g' = ((List.range N).map g).set b x := by
  apply List.ext_getElem?
  intro j
  rw [List.getElem?_set, List.getElem?_map, List.getElem?_map, List.length_map, List.length_range]
  by_cases hj : b = j
  · subst hj
    rw [if_pos rfl, if_pos hb, List.getElem?_range hb]
    simp [h1]
  · rw [if_neg hj]
    by_cases hl : j < N
    · rw [List.getElem?_range hl]
      simp [h2 j (fun q => hj q.symm)]
    · rw [List.getElem?_eq_none (by rw [List.length_range]; omega)]
      rfl
section
variable {ad ad' : Nat → Nat → Nat} {cy : Nat → ClassId} {μ μ1 : ab_M} {t n : Nat}
theorem ab_e_obj (h : t < 11) : ab_e ad cy μ t n = .inr (t, ab_fv ad μ t n) := if_pos h
theorem ab_e_int (h : 11 ≤ t) (h2 : t < 14) : ab_e ad cy μ t n = .inl (cy t, ag_L μ t n, .inl (fun j => Int32.ofInt (ag_I μ t n j))) := by
  unfold ab_e
  rw [if_neg (by omega), if_pos h2]
theorem ab_e_ref (h : 14 ≤ t) : ab_e ad cy μ t n = .inl (cy t, ag_L μ t n, .inr (.inr (.inr (.inr (fun j => (ag_R μ t n j).map (ad (ab_et t))))))) := by
  unfold ab_e
  rw [if_neg (by omega), if_neg (by omega)]
theorem ab_fv_at {k : Nat} (hk : k < ab_nf t) : (ab_fv ad μ t n)[k]? = some (ab_c ad (ab_gv μ t n k (ab_ft t k))) := by
  unfold ab_fv
  rw [List.getElem?_map, List.getElem?_range hk]
  rfl
/-- only the cell (t, n) differs -/
def ab_ch (μ μ1 : ab_M) (t n : Nat) : Prop := (∀ t', ag_C μ1 t' = ag_C μ t') ∧ (∀ t' n', ag_L μ1 t' n' = ag_L μ t' n') ∧ ag_c μ1 = ag_c μ ∧ ag_s μ1 = ag_s μ ∧ ∀ t' n' k', ¬ (t' = t ∧ n' = n) → ag_I μ1 t' n' k' = ag_I μ t' n' k' ∧ ag_J μ1 t' n' k' = ag_J μ t' n' k' ∧ ag_R μ1 t' n' k' = ag_R μ t' n' k'
theorem ab_gv_eq {n' t' k' : Nat} {f : Nat × Nat} (h : ag_I μ1 t' n' k' = ag_I μ t' n' k' ∧ ag_J μ1 t' n' k' = ag_J μ t' n' k' ∧ ag_R μ1 t' n' k' = ag_R μ t' n' k') : ab_gv μ1 t' n' k' f = ab_gv μ t' n' k' f := by
  unfold ab_gv
  rw [h.1, h.2.1, h.2.2]
theorem ab_e_oth (h : ab_ch μ μ1 t n) : ∀ t' n', ¬ (t' = t ∧ n' = n) → ab_e ad cy μ1 t' n' = ab_e ad cy μ t' n' := by
  intro t' n' hne
  have hh := fun k => h.2.2.2.2 t' n' k hne
  unfold ab_e
  by_cases h1 : t' < 11
  · rw [if_pos h1, if_pos h1]
    unfold ab_fv
    congr 2
    exact List.map_congr_left (fun k _ => by rw [ab_gv_eq (hh k)])
  · rw [if_neg h1, if_neg h1, h.2.1]
    by_cases h2 : t' < 14
    · rw [if_pos h2, if_pos h2]
      congr 4
      funext j
      rw [(hh j).1]
    · rw [if_neg h2, if_neg h2]
      congr 7
      funext j
      rw [(hh j).2.2]
theorem ab_ch_I {k : Nat} {x : Int} : ab_ch μ (as_I μ t n k x) t n := by
  refine ⟨fun _ => rfl, fun _ _ => rfl, rfl, rfl, fun t' n' k' h => ⟨?_, rfl, rfl⟩⟩
  show ab_u3 μ.1 t n k x t' n' k' = μ.1 t' n' k'
  exact if_neg (fun q => h ⟨q.1, q.2.1⟩)
theorem ab_ch_J {k : Nat} {x : Int} : ab_ch μ (as_J μ t n k x) t n := by
  refine ⟨fun _ => rfl, fun _ _ => rfl, rfl, rfl, fun t' n' k' h => ⟨rfl, ?_, rfl⟩⟩
  show ab_u3 μ.2.1 t n k x t' n' k' = μ.2.1 t' n' k'
  exact if_neg (fun q => h ⟨q.1, q.2.1⟩)
theorem ab_ch_R {k : Nat} {x : Option Nat} : ab_ch μ (as_R μ t n k x) t n := by
  refine ⟨fun _ => rfl, fun _ _ => rfl, rfl, rfl, fun t' n' k' h => ⟨rfl, rfl, ?_⟩⟩
  show ab_u3 μ.2.2.1 t n k x t' n' k' = μ.2.2.1 t' n' k'
  exact if_neg (fun q => h ⟨q.1, q.2.1⟩)
theorem ag_I_I {k : Nat} {x : Int} {t' n' k' : Nat} : ag_I (as_I μ t n k x) t' n' k' = if t' = t ∧ n' = n ∧ k' = k then x else ag_I μ t' n' k' := rfl
theorem ag_J_J {k : Nat} {x : Int} {t' n' k' : Nat} : ag_J (as_J μ t n k x) t' n' k' = if t' = t ∧ n' = n ∧ k' = k then x else ag_J μ t' n' k' := rfl
theorem ag_R_R {k : Nat} {x : Option Nat} {t' n' k' : Nat} : ag_R (as_R μ t n k x) t' n' k' = if t' = t ∧ n' = n ∧ k' = k then x else ag_R μ t' n' k' := rfl
theorem ab_W_I {k : Nat} {x : Int} (h : ab_W μ) (hx : ab_wr x = x) : ab_W (as_I μ t n k x) := by
  refine ⟨fun t' n' k' => ?_, h.2.1, h.2.2.1, h.2.2.2⟩
  rw [ag_I_I]
  by_cases q : t' = t ∧ n' = n ∧ k' = k
  · rw [if_pos q]; exact hx
  · rw [if_neg q]; exact h.1 t' n' k'
theorem ab_W_J {k : Nat} {x : Int} (h : ab_W μ) (hx : ab_wl x = x) : ab_W (as_J μ t n k x) := by
  refine ⟨h.1, fun t' n' k' => ?_, h.2.2.1, h.2.2.2⟩
  rw [ag_J_J]
  by_cases q : t' = t ∧ n' = n ∧ k' = k
  · rw [if_pos q]; exact hx
  · rw [if_neg q]; exact h.2.1 t' n' k'
theorem ab_W_R {k : Nat} {x : Option Nat} (h : ab_W μ) (hx : ∀ j, x = some j → j < ag_C μ (ab_tt t k)) : ab_W (as_R μ t n k x) := by
  refine ⟨h.1, h.2.1, fun t' n' k' j ht hj => ?_, h.2.2.2⟩
  rw [ag_R_R] at hj
  by_cases q : t' = t ∧ n' = n ∧ k' = k
  · rw [if_pos q] at hj
    rw [q.1, q.2.2]
    exact hx j hj
  · rw [if_neg q] at hj
    exact h.2.2.1 t' n' k' j ht hj
theorem ab_ro_ch {μS : ab_M} (h : ab_ro μS μ) (hc : ab_ch μ μ1 t n) (ht : t < 20) : ab_ro μS μ1 := by
  intro t' ht'
  refine ⟨(hc.1 t').trans (h t' ht').1, fun n' => ⟨(hc.2.1 t' n').trans ((h t' ht').2 n').1, fun k' => ?_⟩⟩
  have := hc.2.2.2.2 t' n' k' (fun q => by omega)
  rw [this.1, this.2.2]
  exact ((h t' ht').2 n').2 k'
theorem ab_ok_ch (hc : ∀ t', ag_C μ t' ≤ ag_C μ1 t') {v : ab_V} (h : ab_ok μ v) : ab_ok μ1 v := by
  rcases v with z | z | ⟨t', o⟩
  · exact h
  · exact h
  · exact fun j hj => Nat.lt_of_lt_of_le (h j hj) (hc t')
end
section
variable {p : Program} {la : Launch} {e : Env} {R : Room} {s : State} {m : MethodId} {args : Array Value} {below : List Frame} {meth : Method} {c : Code} {Q : State → Prop} {D : va_G} {cy : Nat → ClassId} {base c0 s0 k nL : Nat} {adS ad : Nat → Nat → Nat} {μS μ μ1 : ab_M} {H H1 : Heap} {locs locs1 : List Loc} {cells slots : Nat} {ls ls' : Array Slot} {lo lo' : ab_L} {st st' r : List ab_V} {pc nx a b t n : Nat}
/-- behind a write -/
theorem ab_Z_wr {q0 : Nat} {x : va_E} (z : ab_Z D cy base c0 s0 nL adS μS s ad μ H locs cells slots ls lo st) (ht : t < 19) (hc : ab_ch μ μ1 t n) (hW : ab_W μ1) (hq : (ab_pl (ag_C μ) 19)[q0]? = some (t, n)) (hP : va_P D vwCl ((ab_wo ad cy μ).set q0 (ad t n, x)) H1) (he : ab_e ad cy μ1 t n = x) (hS : va_S (fun q => base ≤ q) s.heap H1 locs1) (h : ∀ v ∈ st', ab_ok μ v) : ab_Z D cy base c0 s0 nL adS μS s ad μ1 H1 locs1 cells slots ls lo st' := by
  obtain ⟨h1, h2, h3, h4, h5, h6, h7, h8, h9, -⟩ := z
  have hle : ∀ t', ag_C μ t' ≤ ag_C μ1 t' := fun t' => Nat.le_of_eq (hc.1 t').symm
  exact ⟨ab_H_set h1 hq hP hc.1 he (ab_e_oth hc), hW, ab_ro_ch h3 hc (by omega), ⟨h4.1, fun t => by rw [hc.1]; exact h4.2 t⟩, hS, by rw [hc.2.2.1]; exact h6, by rw [hc.2.2.2.1]; exact h7, h8, fun q hq => ab_ok_ch hle (h9 q hq), fun v hv => ab_ok_ch hle (h v hv)⟩
theorem ab_Z_H (z : ab_Z D cy base c0 s0 nL adS μS s ad μ H locs cells slots ls lo st) : ab_H D cy base ad μ H := z.1
theorem ab_Z_W (z : ab_Z D cy base c0 s0 nL adS μS s ad μ H locs cells slots ls lo st) : ab_W μ := z.2.1
theorem ab_Z_ro (z : ab_Z D cy base c0 s0 nL adS μS s ad μ H locs cells slots ls lo st) : ab_ro μS μ := z.2.2.1
theorem ab_Z_ad (z : ab_Z D cy base c0 s0 nL adS μS s ad μ H locs cells slots ls lo st) (t n : Nat) (hn : n < ag_C μS t) : ad t n = adS t n := z.2.2.2.1.1 t n hn
theorem ab_Z_S (z : ab_Z D cy base c0 s0 nL adS μS s ad μ H locs cells slots ls lo st) : va_S (fun q => base ≤ q) s.heap H locs := z.2.2.2.2.1
/-- an index within -/
theorem ab_vpin {i : Int} {N : Nat} (hi : ab_wr i = i) (h : 0 ≤ i ∧ i < N) : vp_in (Int32.ofInt i) N ∧ (Int32.ofInt i).toNatClampNeg = i.toNat := by
  unfold ab_wr at hi
  refine ⟨vp_in_iff.mpr (by rw [hi]; exact h), ?_⟩
  show (Int32.ofInt i).toInt.toNat = i.toNat
  rw [hi]
theorem ab_gv_ok (hW : ab_W μ) (ht : t < 11) : ab_ok μ (ab_gv μ t n b (ab_ft t b)) := by
  unfold ab_gv
  split
  · exact hW.1 t n b
  · exact hW.1 t n b
  · exact hW.2.1 t n b
  · intro j hj
    have := hW.2.2.1 t n b j (by omega) hj
    unfold ab_tt at this
    rw [if_pos ht] at this
    exact this
theorem s_getfield {x : Nat} (X : ab_X p R s m args meth c D cy base k adS μS) (hd : decode (ab_cd k) pc = .ok (.getfield x, 3)) (hl : ab_FL.elem ((ab_nm k).cls, x, a, b) = true) (K : ab_G p la e R s m args below meth c Q D cy base c0 s0 k adS μS μ (pc + 3) lo (ab_gv μ a n b (ab_ft a b) :: r)) : ab_G p la e R s m args below meth c Q D cy base c0 s0 k adS μS μ pc lo (ab_r a (some n) :: r) := by
  intro ad H locs cells slots ls Z
  obtain ⟨ha, hb, hlk⟩ := ab_FLok hl
  have hv := ab_oks (ab_Z_ok Z)
  have hn : n < ag_C μ a := hv.1 n rfl
  obtain ⟨q0, -, hq⟩ := ab_wat (ad := ad) (cy := cy) (show a < 19 by omega) hn
  rw [ab_e_obj ha] at hq
  have hb' : b < (ab_q a).2.2 := by rw [ab_nf_q ha]; exact hb
  exact va_get (D := D) (ci := a) (C := (ab_q a).1) (T := (ab_q a).2.1) (N := (ab_q a).2.2) X.1 X.2.1 X.2.2.2.2.1 (ab_uws ha) X.2.2.2.1 X.2.2.2.2.2.1 (ab_wP (ab_Z_H Z)) q0 hq (ab_q_at ha) b hb' (X.2.2.2.2.1 _ hlk) (fun _ h => h) (ab_fv_at hb) hd (K ad H locs cells slots ls (ab_Z_st Z (ab_okc (ab_gv_ok (ab_Z_W Z) ha) hv.2)))
/-- a field's new value: how the cell looks then -/
theorem ab_pv_ok {v : ab_V} {cn : Prop} {μ1 : ab_M} (ht : t < 11) (hb : b < ab_nf t) (h : ab_pv μ t n b (ab_ft t b) v = some (cn, μ1)) (hcn : cn) (hW : ab_W μ) (hv : ab_ok μ v) : ab_ch μ μ1 t n ∧ ab_W μ1 ∧ ab_fv ad μ1 t n = (ab_fv ad μ t n).set b (ab_c ad v) ∧ narrow (ab_ty t b) (ab_c ad v) = ab_c ad v ∧ fits (ab_ty t b) (ab_c ad v) = true := by
  have hk := ab_kind ht hb
  unfold ab_pv at h
  have key : ∀ {μ1 : ab_M}, ab_gv μ1 t n b (ab_ft t b) = v → (∀ j, j ≠ b → ab_gv μ1 t n j (ab_ft t j) = ab_gv μ t n j (ab_ft t j)) → ab_fv ad μ1 t n = (ab_fv ad μ t n).set b (ab_c ad v) := by
    intro μ1 e1 e2
    unfold ab_fv
    exact ab_rmap_set hb (by rw [e1]) (fun j hj => by rw [e2 j hj])
  split at h
  · rename_i z hf
    cases h
    have hty : ab_ty t b = .int := by
      rcases hk with h | h | h | h
      · exact h.2
      all_goals (rw [hf] at h; omega)
    refine ⟨ab_ch_I, ab_W_I hW hv, key ?_ ?_, ?_, ?_⟩
    · unfold ab_gv
      rw [hf]
      simp only [ag_I_I, and_self, if_true]
    · intro j hj
      refine ab_gv_eq ⟨?_, rfl, rfl⟩
      rw [ag_I_I, if_neg (fun q => hj q.2.2)]
    · rw [hty]; rfl
    · rw [hty]; rfl
  · rename_i z hf
    cases h
    have hty : ab_ty t b = .boolean := by
      rcases hk with h | h | h | h
      · rw [hf] at h; omega
      · exact h.2
      all_goals (rw [hf] at h; omega)
    refine ⟨ab_ch_I, ab_W_I hW hv, key ?_ ?_, ?_, ?_⟩
    · unfold ab_gv
      rw [hf]
      simp only [ag_I_I, and_self, if_true]
    · intro j hj
      refine ab_gv_eq ⟨?_, rfl, rfl⟩
      rw [ag_I_I, if_neg (fun q => hj q.2.2)]
    · rw [hty]; rcases hcn with rfl | rfl <;> rfl
    · rw [hty]; rcases hcn with rfl | rfl <;> rfl
  · rename_i z hf
    cases h
    have hty : ab_ty t b = .long := by
      rcases hk with h | h | h | h
      · rw [hf] at h; omega
      · rw [hf] at h; omega
      · exact h.2
      · rw [hf] at h; omega
    refine ⟨ab_ch_J, ab_W_J hW hv, key ?_ ?_, ?_, ?_⟩
    · unfold ab_gv
      rw [hf]
      simp only [ag_J_J, and_self, if_true]
    · intro j hj
      refine ab_gv_eq ⟨rfl, ?_, rfl⟩
      rw [ag_J_J, if_neg (fun q => hj q.2.2)]
    · rw [hty]; rfl
    · rw [hty]; rfl
  · rename_i t' o hf
    have hty : (∃ q, ab_ty t b = .object q) ∨ ∃ u, ab_ty t b = .array u := by
      rcases hk with h | h | h | h
      · rw [hf] at h; omega
      · rw [hf] at h; omega
      · rw [hf] at h; omega
      · exact h.2
    have hnr : ∀ o' : Option Nat, narrow (ab_ty t b) (va_rf o') = va_rf o' ∧ fits (ab_ty t b) (va_rf o') = true := by
      intro o'
      rcases hty with ⟨q, hq⟩ | ⟨q, hq⟩ <;> rw [hq] <;> cases o' <;> exact ⟨rfl, rfl⟩
    have main : ∀ o1 : Option Nat, ab_c ad (ab_r (ab_ft t b).2 o1) = ab_c ad (ab_r t' o) → (∀ j, o1 = some j → j < ag_C μ (ab_ft t b).2) → ab_ch μ (as_R μ t n b o1) t n ∧ ab_W (as_R μ t n b o1) ∧ ab_fv ad (as_R μ t n b o1) t n = (ab_fv ad μ t n).set b (ab_c ad (ab_r t' o)) ∧ narrow (ab_ty t b) (ab_c ad (ab_r t' o)) = ab_c ad (ab_r t' o) ∧ fits (ab_ty t b) (ab_c ad (ab_r t' o)) = true := by
      intro o1 e1 e2
      refine ⟨ab_ch_R, ab_W_R hW (fun j hj => by unfold ab_tt; rw [if_pos ht]; exact e2 j hj), ?_, hnr _⟩
      unfold ab_fv
      refine ab_rmap_set hb ?_ (fun j hj => ?_)
      · rw [← e1]
        congr 1
        unfold ab_gv
        rw [hf]
        simp only [ag_R_R, and_self, if_true]
      · congr 1
        refine ab_gv_eq ⟨rfl, rfl, ?_⟩
        rw [ag_R_R, if_neg (fun q => hj q.2.2)]
    cases hb2 : Nat.beq t' (ab_ft t b).2 with
    | true =>
      rw [hb2] at h
      have ht' : t' = (ab_ft t b).2 := Nat.eq_of_beq_eq_true hb2
      cases h
      exact main o (by rw [ht']) (fun j hj => by rw [← ht']; exact hv j hj)
    | false =>
      rw [hb2] at h
      cases o with
      | none => cases h; exact main none rfl (fun j hj => by cases hj)
      | some j => cases h
  · cases h
theorem s_putfield {x : Nat} {v : ab_V} {cn : Prop} (X : ab_X p R s m args meth c D cy base k adS μS) (hd : decode (ab_cd k) pc = .ok (.putfield x, 3)) (hl : ab_FL.elem ((ab_nm k).cls, x, a, b) = true) (hf : ((ab_nm k).name = "<init>" ∧ (ab_nm k).cls = ((ab_q a).2.1 b).1) ∨ ((ab_q a).2.1 b).2.2.2 = false) (hp : ab_pv μ a n b (ab_ft a b) v = some (cn, μ1)) (hcn : cn) (K : ab_G p la e R s m args below meth c Q D cy base c0 s0 k adS μS μ1 (pc + 3) lo r) : ab_G p la e R s m args below meth c Q D cy base c0 s0 k adS μS μ pc lo (v :: ab_r a (some n) :: r) := by
  intro ad H locs cells slots ls Z
  obtain ⟨ha, hb, hlk⟩ := ab_FLok hl
  have hv := ab_oks (ab_Z_ok Z)
  have hv2 := ab_oks hv.2
  have hn : n < ag_C μ a := hv2.1 n rfl
  obtain ⟨q0, hpl, hq⟩ := ab_wat (ad := ad) (cy := cy) (show a < 19 by omega) hn
  rw [ab_e_obj ha] at hq
  have hb' : b < (ab_q a).2.2 := by rw [ab_nf_q ha]; exact hb
  obtain ⟨f1, f2, f3, f4, f5⟩ := ab_pv_ok (ad := ad) ha hb hp hcn (ab_Z_W Z) hv.1
  have hlen : b < (ab_fv ad μ a n).length := by unfold ab_fv; rw [List.length_map, List.length_range]; exact hb
  have kk : ∀ (H1 : Heap) (locs1 : List Loc), va_P D vwCl ((ab_wo ad cy μ).set q0 (ad a n, .inr (a, (ab_fv ad μ a n).set b (ab_c ad v)))) H1 → va_D (fun q => base ≤ q) ((ab_wo ad cy μ).set q0 (ad a n, .inr (a, (ab_fv ad μ a n).set b (ab_c ad v)))) → va_S (fun q => base ≤ q) s.heap H1 locs1 → W p la e R s m args below meth c H1 locs1 cells slots Q (F0 m (pc + 3) ls (r.map (ab_c ad))) := by
    intro H1 locs1 hP1 _ hS1
    exact K ad H1 locs1 cells slots ls (ab_Z_wr Z (show a < 19 by omega) f1 f2 hpl hP1 (by rw [ab_e_obj ha, f3]) hS1 hv2.2)
  cases hfin : ((ab_q a).2.1 b).2.2.2 with
  | false => exact va_put (D := D) (ci := a) (C := (ab_q a).1) (T := (ab_q a).2.1) (N := (ab_q a).2.2) X.1 X.2.1 X.2.2.2.2.1 (ab_uws ha) (ab_ty a) (ab_tyok ha) (ab_nmok ha) X.2.2.2.1 X.2.2.2.2.2.1 (ab_wP (ab_Z_H Z)) (ab_wD (ab_Z_H Z)) (ab_Z_S Z) q0 hq (ab_q_at ha) b hb' (X.2.2.2.2.1 _ hlk) (fun _ h => h) hfin (ab_tyok ha b hb') f4 f5 hlen hd kk
  | true =>
    rcases hf with hf | hf
    · exact va_putF (D := D) (ci := a) (C := (ab_q a).1) (T := (ab_q a).2.1) (N := (ab_q a).2.2) X.1 X.2.1 X.2.2.2.2.1 (ab_uws ha) (ab_ty a) (ab_tyok ha) (ab_nmok ha) X.2.2.2.1 X.2.2.2.2.2.1 (ab_wP (ab_Z_H Z)) (ab_wD (ab_Z_H Z)) (ab_Z_S Z) q0 hq (ab_q_at ha) b hb' (X.2.2.2.2.1 _ hlk) (fun _ h => h) hfin (X.2.2.2.2.2.2.1 hf.1) hf.2.symm (ab_tyok ha b hb') f4 f5 hlen hd kk
    · rw [hfin] at hf; cases hf
end
