/-! ===== arrays, statics, texts ===== -/
theorem ab_nI (n : Nat) : Int32.ofInt (n : Int) = Int32.ofNat n := Int32.ofInt_eq_ofNat
theorem ab_b_nar {x : Int} (h : ab_i2b x = x) : vp_nar .byte (Int32.ofInt x) = Int32.ofInt x := by
  rw [vp_nar_byte]
  apply Int32.toInt_inj.mp
  unfold ab_i2b at h
  have h2 := congrArg Int32.ofInt h
  rw [Int32.ofInt_toInt] at h2
  rw [h2]
theorem ab_ci {cA : ClassId} {L : Nat} {f g : Nat → Int32} (h : ∀ q, f q = g q) : (Sum.inl (cA, L, Sum.inl f) : va_E) = Sum.inl (cA, L, Sum.inl g) := by rw [funext h]
theorem ab_cr {cA : ClassId} {L : Nat} {f g : Nat → Option Nat} (h : ∀ q, f q = g q) : (Sum.inl (cA, L, Sum.inr (Sum.inr (Sum.inr (Sum.inr f)))) : va_E) = Sum.inl (cA, L, Sum.inr (Sum.inr (Sum.inr (Sum.inr g)))) := by rw [funext h]
theorem ab_nfw : nativeFrameWords "java/lang/System" "arraycopy" 5 ≤ 20 := by decide
theorem ab_tys_at (cy : Nat → ClassId) : (ab_tys cy)[0]? = some (cy 11, .int) ∧ (ab_tys cy)[1]? = some (cy 12, .byte) ∧ (ab_tys cy)[2]? = some (cy 13, .boolean) ∧ (ab_tys cy)[7]? = some (cy 18, .array .int) := ⟨rfl, rfl, rfl, rfl⟩
theorem ab_tys_q (cy : Nat → ClassId) {t : Nat} (h1 : 14 ≤ t) (h2 : t ≤ 17) : (ab_tys cy)[t - 11]? = some (cy t, .object (ab_el t)) := by
  rcases (show t = 14 ∨ t = 15 ∨ t = 16 ∨ t = 17 by omega) with rfl | rfl | rfl | rfl <;> rfl
section
variable {p : Program} {la : Launch} {e : Env} {R : Room} {s : State} {m : MethodId} {args : Array Value} {below : List Frame} {meth : Method} {c : Code} {Q : State → Prop} {D : va_G} {cy : Nat → ClassId} {base c0 s0 k nL : Nat} {adS ad : Nat → Nat → Nat} {μS μ μ1 : ab_M} {H H1 : Heap} {locs locs1 : List Loc} {cells slots : Nat} {ls ls' : Array Slot} {lo lo' : ab_L} {st st' r : List ab_V} {pc nx a b t n : Nat} {i x : Int}
theorem s_iaload (X : ab_X p R s m args meth c D cy base k adS μS) (hd : decode (ab_cd k) pc = .ok (.iaload, 1)) (ht : t = 11 ∨ t = 20) (hi : 0 ≤ i ∧ i < ag_L μ t n) (K : ab_G p la e R s m args below meth c Q D cy base c0 s0 k adS μS μ (pc + 1) lo (ab_i (ag_I μ t n i.toNat) :: r)) : ab_G p la e R s m args below meth c Q D cy base c0 s0 k adS μS μ pc lo (ab_i i :: ab_r t (some n) :: r) := by
  intro ad H locs cells slots ls Z
  have hv := ab_oks (ab_Z_ok Z)
  have hv2 := ab_oks hv.2
  have hn : n < ag_C μ t := hv2.1 n rfl
  obtain ⟨hin, hcl⟩ := ab_vpin hv.1 hi
  have K := K ad H locs cells slots ls (ab_Z_st Z (ab_okc ((ab_Z_W Z).1 _ _ _) hv2.2))
  rcases ht with rfl | rfl
  · obtain ⟨q0, -, hq⟩ := ab_wat (ad := ad) (cy := cy) (show 11 < 19 by omega) hn
    rw [ab_e_int (by omega) (by omega)] at hq
    refine va_iald X.1 X.2.1 X.2.2.2.2.2.1 (ab_wP (ab_Z_H Z)) q0 0 hq (ab_tys_at cy).1 hin hd ?_
    rw [hcl]
    exact K
  · have hro := ab_Z_ro Z 20 (Nat.le_refl _)
    have h3 : n < 3 := by rw [hro.1, X.2.2.2.2.2.2.2.2.2.1.1] at hn; exact hn
    have hT := X.2.2.2.2.2.2.2.1.2.2.2.1 n h3
    rw [← ab_Z_ad Z 20 n (by rw [X.2.2.2.2.2.2.2.2.2.1.1]; exact h3)] at hT
    refine va_ti X.1 X.2.1 hT (ab_Z_S Z) (by rw [← (hro.2 n).1]; exact hin) rfl hd ?_
    rw [hcl, ← ((hro.2 n).2 _).1]
    exact K
theorem s_baload (X : ab_X p R s m args meth c D cy base k adS μS) (hd : decode (ab_cd k) pc = .ok (.baload, 1)) (ht : t = 12 ∨ t = 13 ∨ t = 22) (hi : 0 ≤ i ∧ i < ag_L μ t n) (K : ab_G p la e R s m args below meth c Q D cy base c0 s0 k adS μS μ (pc + 1) lo (ab_i (ag_I μ t n i.toNat) :: r)) : ab_G p la e R s m args below meth c Q D cy base c0 s0 k adS μS μ pc lo (ab_i i :: ab_r t (some n) :: r) := by
  intro ad H locs cells slots ls Z
  have hv := ab_oks (ab_Z_ok Z)
  have hv2 := ab_oks hv.2
  have hn : n < ag_C μ t := hv2.1 n rfl
  obtain ⟨hin, hcl⟩ := ab_vpin hv.1 hi
  have K := K ad H locs cells slots ls (ab_Z_st Z (ab_okc ((ab_Z_W Z).1 _ _ _) hv2.2))
  rcases ht with rfl | rfl | rfl
  · obtain ⟨q0, -, hq⟩ := ab_wat (ad := ad) (cy := cy) (show 12 < 19 by omega) hn
    rw [ab_e_int (by omega) (by omega)] at hq
    refine va_bald X.1 X.2.1 X.2.2.2.2.2.1 (ab_wP (ab_Z_H Z)) q0 1 hq (ab_tys_at cy).2.1 hin hd ?_
    rw [hcl]
    exact K
  · obtain ⟨q0, -, hq⟩ := ab_wat (ad := ad) (cy := cy) (show 13 < 19 by omega) hn
    rw [ab_e_int (by omega) (by omega)] at hq
    refine va_zald X.1 X.2.1 X.2.2.2.2.2.1 (ab_wP (ab_Z_H Z)) q0 2 hq (ab_tys_at cy).2.2.1 hin hd ?_
    rw [hcl]
    exact K
  · have hro := ab_Z_ro Z 22 (by omega)
    have h3 : n < 5 := by rw [hro.1, X.2.2.2.2.2.2.2.2.2.1.2.2.1] at hn; exact hn
    have hT := (X.2.2.2.2.2.2.2.1.2.2.2.2.1 n h3).1
    rw [← ab_Z_ad Z 22 n (by rw [X.2.2.2.2.2.2.2.2.2.1.2.2.1]; exact h3)] at hT
    refine va_tb X.1 X.2.1 hT (ab_Z_S Z) (by rw [← (hro.2 n).1]; exact hin) rfl hd ?_
    rw [hcl, ← ((hro.2 n).2 _).1]
    exact K
theorem ab_arr_set {μ : ab_M} {t n j : Nat} {x : Int} (h1 : 11 ≤ t) (h2 : t < 14) : ab_e ad cy (as_I μ t n j x) t n = .inl (cy t, ag_L μ t n, .inl (upd (fun j => Int32.ofInt (ag_I μ t n j)) j (Int32.ofInt x))) := by
  rw [ab_e_int h1 h2]
  refine ab_ci (fun q => ?_)
  rw [ag_I_I]
  by_cases hq : q = j
  · subst hq; simp [upd]
  · simp [upd, hq]
theorem s_iastore (X : ab_X p R s m args meth c D cy base k adS μS) (hd : decode (ab_cd k) pc = .ok (.iastore, 1)) (hi : 0 ≤ i ∧ i < ag_L μ 11 n) (K : ab_G p la e R s m args below meth c Q D cy base c0 s0 k adS μS (as_I μ 11 n i.toNat x) (pc + 1) lo r) : ab_G p la e R s m args below meth c Q D cy base c0 s0 k adS μS μ pc lo (ab_i x :: ab_i i :: ab_r 11 (some n) :: r) := by
  intro ad H locs cells slots ls Z
  have hv := ab_oks (ab_Z_ok Z)
  have hv2 := ab_oks hv.2
  have hv3 := ab_oks hv2.2
  have hn : n < ag_C μ 11 := hv3.1 n rfl
  obtain ⟨hin, hcl⟩ := ab_vpin hv2.1 hi
  obtain ⟨q0, hpl, hq⟩ := ab_wat (ad := ad) (cy := cy) (show 11 < 19 by omega) hn
  rw [ab_e_int (by omega) (by omega)] at hq
  refine va_iast X.1 X.2.1 X.2.2.2.2.2.1 (ab_wP (ab_Z_H Z)) (ab_wD (ab_Z_H Z)) (ab_Z_S Z) q0 0 hq (ab_tys_at cy).1 hin hd (fun H1 locs1 hP1 _ hS1 => ?_)
  rw [hcl] at hP1
  exact K ad H1 locs1 cells slots ls (ab_Z_wr Z (show 11 < 19 by omega) ab_ch_I (ab_W_I (ab_Z_W Z) hv.1) hpl hP1 (ab_arr_set (by omega) (by omega)) hS1 hv3.2)
theorem s_bastore (X : ab_X p R s m args meth c D cy base k adS μS) (hd : decode (ab_cd k) pc = .ok (.bastore, 1)) (hi : 0 ≤ i ∧ i < ag_L μ 12 n) (hx : ab_i2b x = x) (K : ab_G p la e R s m args below meth c Q D cy base c0 s0 k adS μS (as_I μ 12 n i.toNat x) (pc + 1) lo r) : ab_G p la e R s m args below meth c Q D cy base c0 s0 k adS μS μ pc lo (ab_i x :: ab_i i :: ab_r 12 (some n) :: r) := by
  intro ad H locs cells slots ls Z
  have hv := ab_oks (ab_Z_ok Z)
  have hv2 := ab_oks hv.2
  have hv3 := ab_oks hv2.2
  have hn : n < ag_C μ 12 := hv3.1 n rfl
  obtain ⟨hin, hcl⟩ := ab_vpin hv2.1 hi
  obtain ⟨q0, hpl, hq⟩ := ab_wat (ad := ad) (cy := cy) (show 12 < 19 by omega) hn
  rw [ab_e_int (by omega) (by omega)] at hq
  refine va_bast X.1 X.2.1 X.2.2.2.2.2.1 (ab_wP (ab_Z_H Z)) (ab_wD (ab_Z_H Z)) (ab_Z_S Z) q0 1 hq (ab_tys_at cy).2.1 hin hd (fun H1 locs1 hP1 _ hS1 => ?_)
  rw [hcl, ab_b_nar hx] at hP1
  exact K ad H1 locs1 cells slots ls (ab_Z_wr Z (show 12 < 19 by omega) ab_ch_I (ab_W_I (ab_Z_W Z) hv.1) hpl hP1 (ab_arr_set (by omega) (by omega)) hS1 hv3.2)
theorem s_zastore (X : ab_X p R s m args meth c D cy base k adS μS) (hd : decode (ab_cd k) pc = .ok (.bastore, 1)) (hi : 0 ≤ i ∧ i < ag_L μ 13 n) (hx : x = 0 ∨ x = 1) (K : ab_G p la e R s m args below meth c Q D cy base c0 s0 k adS μS (as_I μ 13 n i.toNat x) (pc + 1) lo r) : ab_G p la e R s m args below meth c Q D cy base c0 s0 k adS μS μ pc lo (ab_i x :: ab_i i :: ab_r 13 (some n) :: r) := by
  intro ad H locs cells slots ls Z
  have hv := ab_oks (ab_Z_ok Z)
  have hv2 := ab_oks hv.2
  have hv3 := ab_oks hv2.2
  have hn : n < ag_C μ 13 := hv3.1 n rfl
  obtain ⟨hin, hcl⟩ := ab_vpin hv2.1 hi
  obtain ⟨q0, hpl, hq⟩ := ab_wat (ad := ad) (cy := cy) (show 13 < 19 by omega) hn
  rw [ab_e_int (by omega) (by omega)] at hq
  refine va_zast X.1 X.2.1 X.2.2.2.2.2.1 (ab_wP (ab_Z_H Z)) (ab_wD (ab_Z_H Z)) (ab_Z_S Z) q0 2 hq (ab_tys_at cy).2.2.1 hin hd (fun H1 locs1 hP1 _ hS1 => ?_)
  have hz : vp_nar .boolean (Int32.ofInt x) = Int32.ofInt x := by rcases hx with rfl | rfl <;> rfl
  rw [hcl, hz] at hP1
  exact K ad H1 locs1 cells slots ls (ab_Z_wr Z (show 13 < 19 by omega) ab_ch_I (ab_W_I (ab_Z_W Z) hv.1) hpl hP1 (ab_arr_set (by omega) (by omega)) hS1 hv3.2)
theorem s_aaload (X : ab_X p R s m args meth c D cy base k adS μS) (hd : decode (ab_cd k) pc = .ok (.aaload, 1)) (h1 : 14 ≤ t) (h2 : t ≤ 18) (hi : 0 ≤ i ∧ i < ag_L μ t n) (K : ab_G p la e R s m args below meth c Q D cy base c0 s0 k adS μS μ (pc + 1) lo (ab_r (ab_et t) (ag_R μ t n i.toNat) :: r)) : ab_G p la e R s m args below meth c Q D cy base c0 s0 k adS μS μ pc lo (ab_i i :: ab_r t (some n) :: r) := by
  intro ad H locs cells slots ls Z
  have hv := ab_oks (ab_Z_ok Z)
  have hv2 := ab_oks hv.2
  have hn : n < ag_C μ t := hv2.1 n rfl
  obtain ⟨hin, hcl⟩ := ab_vpin hv.1 hi
  have hok : ab_ok μ (ab_r (ab_et t) (ag_R μ t n i.toNat)) := fun j hj => by
    have := (ab_Z_W Z).2.2.1 t n _ j (by omega) hj
    unfold ab_tt at this
    rw [if_neg (by omega)] at this
    exact this
  have K := K ad H locs cells slots ls (ab_Z_st Z (ab_okc hok hv2.2))
  obtain ⟨q0, -, hq⟩ := ab_wat (ad := ad) (cy := cy) (show t < 19 by omega) hn
  rw [ab_e_ref h1] at hq
  by_cases h3 : t ≤ 17
  · refine va_aldq X.1 X.2.1 X.2.2.2.2.2.1 (ab_wP (ab_Z_H Z)) q0 (t - 11) hq (ab_tys_q cy h1 h3) hin hd ?_
    rw [hcl]
    exact K
  · have e18 : t = 18 := by omega
    subst e18
    have hlt : (Int32.ofInt i).toNatClampNeg < ag_L μ 18 n := Nat.not_le.mp fun q => hin (Or.inr q)
    refine W.aald X.1 X.2.1 (ty := .array .int) (ab_wP (ab_Z_H Z) q0 _ hq) ((X.2.2.2.2.2.1.2 7 _ (ab_tys_at cy).2.2.2).1 (ag_L μ 18 n) (fun j => va_rf ((ag_R μ 18 n j).map (ad (ab_et 18))))) rfl (fun q => by cases q) (by show ¬ (_ ∨ (arrV _ _ _).slots.size ≤ _); rw [arrV_size]; exact hin) (v := ab_c ad (ab_r (ab_et 18) (ag_R μ 18 n i.toNat))) ?_ rfl rfl hd K
    show (arrV _ _ _).slots[_]? = _
    rw [arrV_read _ _ hlt, hcl]
    rfl
theorem s_aastore {t' v : Nat} (X : ab_X p R s m args meth c D cy base k adS μS) (hd : decode (ab_cd k) pc = .ok (.aastore, 1)) (h1 : 14 ≤ t) (h2 : t ≤ 17) (ht' : t' = ab_et t) (hi : 0 ≤ i ∧ i < ag_L μ t n) (K : ab_G p la e R s m args below meth c Q D cy base c0 s0 k adS μS (as_R μ t n i.toNat (some v)) (pc + 1) lo r) : ab_G p la e R s m args below meth c Q D cy base c0 s0 k adS μS μ pc lo (ab_r t' (some v) :: ab_i i :: ab_r t (some n) :: r) := by
  intro ad H locs cells slots ls Z
  have hv := ab_oks (ab_Z_ok Z)
  have hv2 := ab_oks hv.2
  have hv3 := ab_oks hv2.2
  have hn : n < ag_C μ t := hv3.1 n rfl
  have hvn : v < ag_C μ t' := hv.1 v rfl
  obtain ⟨hin, hcl⟩ := ab_vpin hv2.1 hi
  have het : ab_et t < 11 ∧ (ab_q (ab_et t)).1 = ab_el t := by
    rcases (show t = 14 ∨ t = 15 ∨ t = 16 ∨ t = 17 by omega) with rfl | rfl | rfl | rfl <;> exact ⟨by decide, rfl⟩
  obtain ⟨q0, hpl, hq⟩ := ab_wat (ad := ad) (cy := cy) (show t < 19 by omega) hn
  obtain ⟨q1, -, hq1⟩ := ab_wat (ad := ad) (cy := cy) (show t' < 19 by omega) hvn
  rw [ab_e_ref h1] at hq
  rw [ab_e_obj (by omega)] at hq1
  have hty := ab_tys_q cy h1 h2
  rw [← het.2, ← ht'] at hty
  refine va_astq X.1 X.2.1 X.2.2.2.2.2.1 (ab_wP (ab_Z_H Z)) (ab_wD (ab_Z_H Z)) (ab_Z_S Z) q0 (t - 11) q1 t' (r := ab_q t') hq hty hq1 (ab_q_at (by omega)) hin hd (fun H1 locs1 hP1 _ hS1 => ?_)
  rw [hcl] at hP1
  refine K ad H1 locs1 cells slots ls (ab_Z_wr Z (show t < 19 by omega) ab_ch_R (ab_W_R (ab_Z_W Z) (fun j hj => ?_)) hpl hP1 ?_ hS1 hv3.2)
  · cases hj
    unfold ab_tt
    rw [if_neg (by omega), ← ht']
    exact hvn
  · rw [ab_e_ref h1]
    refine ab_cr (fun q => ?_)
    rw [ag_R_R]
    by_cases hq : q = i.toNat
    · subst hq; simp [va_up, ht']
    · simp [va_up, hq]
theorem s_alen (X : ab_X p R s m args meth c D cy base k adS μS) (hd : decode (ab_cd k) pc = .ok (.arraylength, 1)) (ht : (11 ≤ t ∧ t ≤ 18) ∨ t = 20 ∨ t = 22) (K : ab_G p la e R s m args below meth c Q D cy base c0 s0 k adS μS μ (pc + 1) lo (ab_i (ag_L μ t n) :: r)) : ab_G p la e R s m args below meth c Q D cy base c0 s0 k adS μS μ pc lo (ab_r t (some n) :: r) := by
  intro ad H locs cells slots ls Z
  have hv := ab_oks (ab_Z_ok Z)
  have hn : n < ag_C μ t := hv.1 n rfl
  have hL := (ab_Z_W Z).2.2.2 t n
  have K := K ad H locs cells slots ls (ab_Z_st Z (ab_okc (ab_wr_id (by omega) (by omega)) hv.2))
  rcases ht with ⟨h1, h2⟩ | rfl | rfl
  · obtain ⟨q0, -, hq⟩ := ab_wat (ad := ad) (cy := cy) (show t < 19 by omega) hn
    obtain ⟨ty, hty⟩ : ∃ ty, (ab_tys cy)[t - 11]? = some (cy t, ty) := by
      rcases (show t = 11 ∨ t = 12 ∨ t = 13 ∨ t = 14 ∨ t = 15 ∨ t = 16 ∨ t = 17 ∨ t = 18 by omega) with rfl | rfl | rfl | rfl | rfl | rfl | rfl | rfl <;> exact ⟨_, rfl⟩
    by_cases h3 : t < 14
    · rw [ab_e_int h1 h3] at hq
      exact va_alen X.1 X.2.1 X.2.2.2.2.2.1 (ab_wP (ab_Z_H Z)) q0 (t - 11) hq hty (ab_nI _).symm hd K
    · rw [ab_e_ref (by omega)] at hq
      exact va_alen X.1 X.2.1 X.2.2.2.2.2.1 (ab_wP (ab_Z_H Z)) q0 (t - 11) hq hty (ab_nI _).symm hd K
  · have hro := ab_Z_ro Z 20 (by omega)
    have h3 : n < 3 := by rw [hro.1, X.2.2.2.2.2.2.2.2.2.1.1] at hn; exact hn
    have hT := X.2.2.2.2.2.2.2.1.2.2.2.1 n h3
    rw [← ab_Z_ad Z 20 n (by rw [X.2.2.2.2.2.2.2.2.2.1.1]; exact h3), ← (hro.2 n).1] at hT
    exact va_tlen X.1 X.2.1 hT (ab_Z_S Z) (ab_nI _).symm hd K
  · have hro := ab_Z_ro Z 22 (by omega)
    have h3 : n < 5 := by rw [hro.1, X.2.2.2.2.2.2.2.2.2.1.2.2.1] at hn; exact hn
    have hT := (X.2.2.2.2.2.2.2.1.2.2.2.2.1 n h3).1
    rw [← ab_Z_ad Z 22 n (by rw [X.2.2.2.2.2.2.2.2.2.1.2.2.1]; exact h3), ← (hro.2 n).1] at hT
    exact va_tlen X.1 X.2.1 hT (ab_Z_S Z) (ab_nI _).symm hd K
theorem ab_GSok {own : String} {x a : Nat} (h : ab_GS.elem (own, x, a) = true) : a < 4 ∧ Cond.fieldLink own x (ab_gsn a).1 (ab_gsn a).2.1 (ab_gsn a).2.2 ∈ ab_gt := by
  obtain ⟨p, h1⟩ := ab_zipat (f := ab_GSf) ab_GSs (List.elem_iff.mp h)
  simp only [ab_GSf, Bool.and_eq_true, decide_eq_true_eq] at h1
  exact ⟨h1.1, ab_mems_ok h1.2 _ List.mem_cons_self⟩
theorem s_getstatic {y : Nat} (X : ab_X p R s m args meth c D cy base k adS μS) (hd : decode (ab_cd k) pc = .ok (.getstatic y, 3)) (hl : ab_GS.elem ((ab_nm k).cls, y, a) = true) (K : ab_G p la e R s m args below meth c Q D cy base c0 s0 k adS μS μ (pc + 3) lo ((if a < 2 then ab_r 20 (some a) else if a = 2 then ab_i 1 else ab_r 23 (ag_R μ 23 0 0)) :: st)) : ab_G p la e R s m args below meth c Q D cy base c0 s0 k adS μS μ pc lo st := by
  intro ad H locs cells slots ls Z
  obtain ⟨ha, hlk⟩ := ab_GSok hl
  have hro := ab_Z_ro Z 20 (by omega)
  have hC : ag_C μ 20 = 3 := by rw [hro.1, X.2.2.2.2.2.2.2.2.2.1.1]
  have hlk := X.2.2.2.2.1 _ hlk
  have K := K ad H locs cells slots ls (ab_Z_st Z (ab_okc (by
    by_cases h : a < 2
    · rw [if_pos h]; exact fun j hj => by cases hj; omega
    · rw [if_neg h]
      by_cases h2 : a = 2
      · rw [if_pos h2]; exact rfl
      · rw [if_neg h2]
        have hr3 := ab_Z_ro Z 23 (by omega)
        exact fun j hj => by
          rw [hr3.1]
          rw [((hr3.2 0).2 0).2] at hj
          exact X.2.2.2.2.2.2.2.2.2.1.2.2.2.2 j hj) (ab_Z_ok Z)))
  have hT := X.2.2.2.2.2.2.2.1
  rw [List.map_cons] at K
  rcases (show a = 0 ∨ a = 1 ∨ a = 2 ∨ a = 3 by omega) with rfl | rfl | rfl | rfl
  · refine va_gets X.1 X.2.1 hT.1 (ab_Z_S Z) X.2.2.2.1 hlk (fun _ h => h) hd ?_
    rw [← ab_Z_ad Z 20 0 (by rw [X.2.2.2.2.2.2.2.2.2.1.1]; omega)]
    exact K
  · refine va_gets X.1 X.2.1 hT.2.1 (ab_Z_S Z) X.2.2.2.1 hlk (fun _ h => h) hd ?_
    rw [← ab_Z_ad Z 20 1 (by rw [X.2.2.2.2.2.2.2.2.2.1.1]; omega)]
    exact K
  · exact va_gets X.1 X.2.1 hT.2.2.1 (ab_Z_S Z) X.2.2.2.1 hlk (fun _ h => h) hd K
  · have hr3 := ab_Z_ro Z 23 (by omega)
    refine va_gets X.1 X.2.1 hT.2.2.2.2.2.2.2.2.2 (ab_Z_S Z) X.2.2.2.1 hlk (fun _ h => h) hd ?_
    have e3 : ab_c ad (ab_r 23 (ag_R μ 23 0 0)) = ab_c adS (ab_r 23 (ag_R μS 23 0 0)) := by
      rw [((hr3.2 0).2 0).2]
      cases ho : ag_R μS 23 0 0 with
      | none => rfl
      | some j =>
        show Value.ref (ad 23 j) = Value.ref (adS 23 j)
        rw [ab_Z_ad Z 23 j (X.2.2.2.2.2.2.2.2.2.1.2.2.2.2 j ho)]
    rw [← e3]
    exact K
theorem ab_SFok {own : String} {x a b : Nat} (h : ab_SF.elem (own, x, a, b) = true) : a = 21 ∧ b < 2 ∧ Cond.fieldLink own x "java/lang/String" (ab_sfn b).1 (ab_sfn b).2 ∈ ab_gt := by
  obtain ⟨p, h1⟩ := ab_zipat (f := ab_SFf) ab_SFs (List.elem_iff.mp h)
  simp only [ab_SFf, Bool.and_eq_true, decide_eq_true_eq] at h1
  exact ⟨h1.1.1, h1.1.2, ab_mems_ok h1.2 _ List.mem_cons_self⟩
theorem s_getstr {y : Nat} (X : ab_X p R s m args meth c D cy base k adS μS) (hd : decode (ab_cd k) pc = .ok (.getfield y, 3)) (hl : ab_SF.elem ((ab_nm k).cls, y, a, b) = true) (K : ab_G p la e R s m args below meth c Q D cy base c0 s0 k adS μS μ (pc + 3) lo (ab_gv μ a n b (ab_ft a b) :: r)) : ab_G p la e R s m args below meth c Q D cy base c0 s0 k adS μS μ pc lo (ab_r a (some n) :: r) := by
  intro ad H locs cells slots ls Z
  obtain ⟨rfl, hb, hlk⟩ := ab_SFok hl
  have hlk := X.2.2.2.2.1 _ hlk
  have hv := ab_oks (ab_Z_ok Z)
  have hn : n < ag_C μ 21 := hv.1 n rfl
  have hro := ab_Z_ro Z 21 (by omega)
  have hs := X.2.2.2.2.2.2.2.2.2.1
  have h5 : n < 5 := by rw [hro.1, hs.2.1] at hn; exact hn
  obtain ⟨-, -, hco, hva⟩ := X.2.2.2.2.2.2.2.1.2.2.2.2.1 n h5
  rw [← ab_Z_ad Z 21 n (by rw [X.2.2.2.2.2.2.2.2.2.1.2.1]; exact h5)] at hco hva
  rw [← ab_Z_ad Z 22 n (by rw [X.2.2.2.2.2.2.2.2.2.1.2.2.1]; exact h5)] at hva
  have hsn := hs.2.2.2.1 n h5
  rcases (show b = 0 ∨ b = 1 by omega) with rfl | rfl
  · have e1 : ab_gv μ 21 n 0 (ab_ft 21 0) = ab_r 22 (some n) := by
      show ab_r 22 (ag_R μ 21 n 0) = _
      rw [((hro.2 n).2 0).2, hsn.1]
    rw [e1] at K
    refine vk_getf X.1 X.2.1 hva (ab_Z_S Z) X.2.2.2.1 hlk (fun _ h => h) hd (K ad H locs cells slots ls (ab_Z_st Z (ab_okc (fun j hj => ?_) hv.2)))
    cases hj
    have := (ab_Z_ro Z 22 (by omega)).1
    rw [this, hs.2.2.1]
    exact h5
  · have e1 : ab_gv μ 21 n 1 (ab_ft 21 1) = ab_i 0 := by
      show ab_i (ag_I μ 21 n 1) = _
      rw [((hro.2 n).2 1).1, hsn.2]
    rw [e1] at K
    exact vk_getf X.1 X.2.1 hco (ab_Z_S Z) X.2.2.2.1 hlk (fun _ h => h) hd (K ad H locs cells slots ls (ab_Z_st Z (ab_okc rfl hv.2)))
theorem s_ldci {y : Nat} (X : ab_X p R s m args meth c D cy base k adS μS) (hd : decode (ab_cd k) pc = .ok (.ldc y, 2)) (hl : ab_IC.elem ((ab_nm k).cls, y, a) = true) (K : ab_G p la e R s m args below meth c Q D cy base c0 s0 k adS μS μ (pc + 2) lo (ab_i a :: st)) : ab_G p la e R s m args below meth c Q D cy base c0 s0 k adS μS μ pc lo st := by
  intro ad H locs cells slots ls Z
  obtain ⟨q, h1⟩ := ab_zipat (f := ab_ICf) ab_ICs (List.elem_iff.mp hl)
  simp only [ab_ICf, Bool.and_eq_true, decide_eq_true_eq] at h1
  exact lv_ldc X.1 X.2.1 X.2.2.2.1 (X.2.2.2.2.1 _ (ab_mems_ok h1.1 _ List.mem_cons_self)) hd (K ad H locs cells slots ls (ab_Z_st Z (ab_okc h1.2 (ab_Z_ok Z))))
theorem s_ldc2 {y : Nat} (X : ab_X p R s m args meth c D cy base k adS μS) (hd : decode (ab_cd k) pc = .ok (.ldc2_w y, 3)) (hl : ab_LC.elem ((ab_nm k).cls, y, a, b) = true) (K : ab_G p la e R s m args below meth c Q D cy base c0 s0 k adS μS μ (pc + 3) lo (ab_l (if b = 0 then (a : Int) else -(a : Int)) :: st)) : ab_G p la e R s m args below meth c Q D cy base c0 s0 k adS μS μ pc lo st := by
  intro ad H locs cells slots ls Z
  obtain ⟨q, h1⟩ := ab_zipat (f := ab_LCf) ab_LCs (List.elem_iff.mp hl)
  simp only [ab_LCf, Bool.and_eq_true, decide_eq_true_eq] at h1
  exact lv_ldc2 X.1 X.2.1 X.2.2.2.1 (X.2.2.2.2.1 _ (ab_mems_ok h1.1 _ List.mem_cons_self)) hd (K ad H locs cells slots ls (ab_Z_st Z (ab_okc h1.2 (ab_Z_ok Z))))
theorem s_ldcs {y : Nat} (X : ab_X p R s m args meth c D cy base k adS μS) (hd : decode (ab_cd k) pc = .ok (.ldc y, 2)) (hl : ab_SC.elem ((ab_nm k).cls, y, a) = true) (K : ab_G p la e R s m args below meth c Q D cy base c0 s0 k adS μS μ (pc + 2) lo (ab_r 21 (some a) :: st)) : ab_G p la e R s m args below meth c Q D cy base c0 s0 k adS μS μ pc lo st := by
  intro ad H locs cells slots ls Z
  obtain ⟨h5, tx, hz⟩ := X.2.2.2.2.2.2.2.1.2.2.2.2.2.1 _ (List.elem_iff.mp hl)
  have hro := ab_Z_ro Z 21 (by omega)
  rw [← ab_Z_ad Z 21 a (by rw [X.2.2.2.2.2.2.2.2.2.1.2.1]; exact h5)] at hz
  refine va_ldcS X.1 X.2.1 X.2.2.2.1 hz hd (K ad H locs cells slots ls (ab_Z_st Z (ab_okc (fun j hj => ?_) (ab_Z_ok Z))))
  cases hj
  rw [hro.1, X.2.2.2.2.2.2.2.2.2.1.2.1]
  exact h5
theorem ab_sum (ad : Nat → Nat → Nat) : ∀ r : List ab_V, ((r.map (ab_c ad)).map fun v => v.category).sum = ab_wd r
  | [] => rfl
  | v :: r => by
    rw [List.map_cons, List.map_cons, List.sum_cons, ab_sum ad r, ab_c_cat]
    rfl
theorem s_objinit {y o : Nat} (X : ab_X p R s m args meth c D cy base k adS μS) (hd : decode (ab_cd k) pc = .ok (.invokespecial y, 3)) (hl : ab_OI.elem ((ab_nm k).cls, y, a) = true) (hw : ab_wd r ≤ 8) (K : ab_G p la e R s m args below meth c Q D cy base c0 s0 k adS μS μ (pc + 3) lo r) : ab_G p la e R s m args below meth c Q D cy base c0 s0 k adS μS μ pc lo (ab_r o (some n) :: r) := by
  intro ad H locs cells slots ls Z
  obtain ⟨q, h1⟩ := ab_zipat (f := ab_OIf) ab_OIs (List.elem_iff.mp hl)
  simp only [ab_OIf, Bool.and_eq_true, decide_eq_true_eq] at h1
  have hv := ab_oks (ab_Z_ok Z)
  have hR := X.2.2.2.2.2.2.2.2.2.2
  refine W.objInit X.1 X.2.1 X.2.2.2.1 (X.2.2.2.2.1 _ (ab_mems_ok h1.2 _ List.mem_cons_self)) (X.2.2.2.2.1 _ ab_obj.1) (X.2.2.2.2.1 _ ab_obj.2) rfl (by rw [X.2.2.1]; exact (ab_Z_lv Z).1) rfl hd hR.1 ?_ (K ad H locs cells slots ls (ab_Z_st Z hv.2))
  rw [ab_sum]
  show 2 * 0 + _ + 12 ≤ _
  omega
theorem ab_ACok {own : String} {x a : Nat} (h : ab_AC.elem (own, x, a) = true) : (996 ≤ a ∧ a ≤ 998) ∧ Cond.methodLink own x (ab_acn a) ∈ ab_gt ∧ Cond.static (ab_acn a) ∈ ab_gt := by
  obtain ⟨p, h1⟩ := ab_zipat (f := ab_ACf) ab_ACs (List.elem_iff.mp h)
  simp only [ab_ACf, Bool.and_eq_true, decide_eq_true_eq] at h1
  exact ⟨h1.1, ab_mems_ok h1.2 _ List.mem_cons_self, ab_mems_ok h1.2 _ (List.mem_cons_of_mem _ List.mem_cons_self)⟩
theorem ab_ok_max {x y : Int} (hx : ab_wr x = x) (hy : ab_wr y = y) : ab_wr (max x y) = max x y ∧ ab_wr (min x y) = min x y := by
  have h1 := ab_rng32 hx
  have h2 := ab_rng32 hy
  exact ⟨ab_wr_id (by omega) (by omega), ab_wr_id (by omega) (by omega)⟩
theorem s_max {y : Nat} {u v : Int} (X : ab_X p R s m args meth c D cy base k adS μS) (hd : decode (ab_cd k) pc = .ok (.invokestatic y, 3)) (hl : ab_AC.elem ((ab_nm k).cls, y, 996) = true) (hw : ab_wd r ≤ 8) (hroom : ag_c μ ≤ c0 + R.cells ∧ ag_s μ ≤ s0 + R.slots) (K : ab_G p la e R s m args below meth c Q D cy base c0 s0 k adS μS μ (pc + 3) lo (ab_i (max u v) :: r)) : ab_G p la e R s m args below meth c Q D cy base c0 s0 k adS μS μ pc lo (ab_i v :: ab_i u :: r) := by
  intro ad H locs cells slots ls Z
  obtain ⟨-, g1, g2⟩ := ab_ACok hl
  have hv := ab_oks (ab_Z_ok Z)
  have hv2 := ab_oks hv.2
  have hR := X.2.2.2.2.2.2.2.2.2.2
  have h6 := Z.2.2.2.2.2.1
  have h7 := Z.2.2.2.2.2.2.1
  have K := K ad H locs cells slots ls (ab_Z_st Z (ab_okc (ab_ok_max hv2.1 hv.1).1 hv2.2))
  refine va_mmax X.1 X.2.1 (by rw [X.2.2.1]; exact (ab_Z_lv Z).1.symm) X.2.2.2.1 (X.2.2.2.2.1 _ g1) (X.2.2.2.2.1 _ g2) (X.2.2.2.2.1 _ ab_jdk.2.2.1) (X.2.2.2.2.1 _ ab_jdk.2.2.2.1) hR.1 (by rw [ab_sum]; omega) (by omega) (by omega) hd ?_
  have e1 : Int32.ofInt (max u v) = if Int32.ofInt u < Int32.ofInt v then Int32.ofInt v else Int32.ofInt u := by
    by_cases h : u < v
    · rw [if_pos ((ab_lt hv2.1 hv.1).mpr h), Int.max_eq_right (Int.le_of_lt h)]
    · rw [if_neg (fun q => h ((ab_lt hv2.1 hv.1).mp q)), Int.max_eq_left (by omega)]
  rw [← e1]
  exact K
theorem s_min {y : Nat} {u v : Int} (X : ab_X p R s m args meth c D cy base k adS μS) (hd : decode (ab_cd k) pc = .ok (.invokestatic y, 3)) (hl : ab_AC.elem ((ab_nm k).cls, y, 997) = true) (hw : ab_wd r ≤ 8) (hroom : ag_c μ ≤ c0 + R.cells ∧ ag_s μ ≤ s0 + R.slots) (K : ab_G p la e R s m args below meth c Q D cy base c0 s0 k adS μS μ (pc + 3) lo (ab_i (min u v) :: r)) : ab_G p la e R s m args below meth c Q D cy base c0 s0 k adS μS μ pc lo (ab_i v :: ab_i u :: r) := by
  intro ad H locs cells slots ls Z
  obtain ⟨-, g1, g2⟩ := ab_ACok hl
  have hv := ab_oks (ab_Z_ok Z)
  have hv2 := ab_oks hv.2
  have hR := X.2.2.2.2.2.2.2.2.2.2
  have h6 := Z.2.2.2.2.2.1
  have h7 := Z.2.2.2.2.2.2.1
  have K := K ad H locs cells slots ls (ab_Z_st Z (ab_okc (ab_ok_max hv2.1 hv.1).2 hv2.2))
  refine va_mmin X.1 X.2.1 (by rw [X.2.2.1]; exact (ab_Z_lv Z).1.symm) X.2.2.2.1 (X.2.2.2.2.1 _ g1) (X.2.2.2.2.1 _ g2) (X.2.2.2.2.1 _ ab_jdk.2.2.1) (X.2.2.2.2.1 _ ab_jdk.2.2.2.2) hR.1 (by rw [ab_sum]; omega) (by omega) (by omega) hd ?_
  have e1 : Int32.ofInt (min u v) = if Int32.ofInt v < Int32.ofInt u then Int32.ofInt v else Int32.ofInt u := by
    by_cases h : v < u
    · rw [if_pos ((ab_lt hv.1 hv2.1).mpr h), Int.min_eq_right (Int.le_of_lt h)]
    · rw [if_neg (fun q => h ((ab_lt hv.1 hv2.1).mp q)), Int.min_eq_left (by omega)]
  rw [← e1]
  exact K
theorem s_copy {y n2 : Nat} {sp dp u : Int} (X : ab_X p R s m args meth c D cy base k adS μS) (hd : decode (ab_cd k) pc = .ok (.invokestatic y, 3)) (hl : ab_AC.elem ((ab_nm k).cls, y, 998) = true) (hw : ab_wd r ≤ 8) (hc : 0 ≤ u ∧ 0 ≤ sp ∧ 0 ≤ dp ∧ sp + u ≤ ag_L μ 11 n ∧ dp + u ≤ ag_L μ 11 n2) (K : ab_G p la e R s m args below meth c Q D cy base c0 s0 k adS μS (as_Y μ 11 n sp.toNat n2 dp.toNat u.toNat) (pc + 3) lo r) : ab_G p la e R s m args below meth c Q D cy base c0 s0 k adS μS μ pc lo (ab_i u :: ab_i dp :: ab_r 11 (some n2) :: ab_i sp :: ab_r 11 (some n) :: r) := by
  intro ad H locs cells slots ls Z
  obtain ⟨-, g1, g2⟩ := ab_ACok hl
  have v1 := ab_oks (ab_Z_ok Z)
  have v2 := ab_oks v1.2
  have v3 := ab_oks v2.2
  have v4 := ab_oks v3.2
  have v5 := ab_oks v4.2
  have hn2 : n2 < ag_C μ 11 := v3.1 n2 rfl
  have hn : n < ag_C μ 11 := v5.1 n rfl
  have hR := X.2.2.2.2.2.2.2.2.2.2
  obtain ⟨c1, c2, c3, c4, c5⟩ := hc
  obtain ⟨q0, -, hq0⟩ := ab_wat (ad := ad) (cy := cy) (show 11 < 19 by omega) hn
  obtain ⟨q1, hpl, hq1⟩ := ab_wat (ad := ad) (cy := cy) (show 11 < 19 by omega) hn2
  rw [ab_e_int (by omega) (by omega)] at hq0 hq1
  have hneg : ∀ {z : Int}, ab_wr z = z → 0 ≤ z → ¬ Int32.ofInt z < 0 := fun {z} h1 h2 q => by
    have := (ab_lt h1 (show ab_wr 0 = 0 from rfl)).mp q
    omega
  have hcl : ∀ {z : Int}, ab_wr z = z → (Int32.ofInt z).toNatClampNeg = z.toNat := fun {z} h1 => by
    show (Int32.ofInt z).toInt.toNat = z.toNat
    unfold ab_wr at h1
    rw [h1]
  refine va_copyi X.1 X.2.1 (by rw [X.2.2.1]; exact (ab_Z_lv Z).1.symm) X.2.2.2.1 (X.2.2.2.2.1 _ g1) (X.2.2.2.2.1 _ ab_jdk.1) (X.2.2.2.2.1 _ g2) (X.2.2.2.2.1 _ ab_jdk.2.1) X.2.2.2.2.2.1 (ab_wP (ab_Z_H Z)) (ab_wD (ab_Z_H Z)) (ab_Z_S Z) q0 q1 0 0 hq0 hq1 (ab_tys_at cy).1 (ab_tys_at cy).1 rfl (hneg v4.1 c2) (hneg v2.1 c3) (hneg v1.1 c1) (by rw [hcl v4.1, hcl v1.1]; omega) (by rw [hcl v2.1, hcl v1.1]; omega) (fun _ _ => rfl) hR.1 (by rw [ab_sum]; have := ab_nfw; omega) hd (fun H1 locs1 hP1 _ hS1 => ?_)
  rw [hcl v4.1, hcl v2.1, hcl v1.1] at hP1
  have hch : ab_ch μ (as_Y μ 11 n sp.toNat n2 dp.toNat u.toNat) 11 n2 := by
    refine ⟨fun _ => rfl, fun _ _ => rfl, rfl, rfl, fun t' n' k' h => ⟨?_, rfl, rfl⟩⟩
    exact if_neg (fun q => h ⟨q.1, q.2.1⟩)
  have hW : ab_W (as_Y μ 11 n sp.toNat n2 dp.toNat u.toNat) := by
    have h := ab_Z_W Z
    refine ⟨fun t' n' k' => ?_, h.2.1, h.2.2.1, h.2.2.2⟩
    show ab_wr (if _ then _ else _) = (if _ then _ else _)
    by_cases q : t' = 11 ∧ n' = n2 ∧ dp.toNat ≤ k' ∧ k' < dp.toNat + u.toNat
    · rw [if_pos q]; exact h.1 _ _ _
    · rw [if_neg q]; exact h.1 _ _ _
  refine K ad H1 locs1 cells slots ls (ab_Z_wr Z (show 11 < 19 by omega) hch hW hpl hP1 ?_ hS1 v5.2)
  rw [ab_e_int (by omega) (by omega)]
  refine ab_ci (fun q => ?_)
  show Int32.ofInt (if _ then _ else _) = if _ then _ else _
  by_cases h : dp.toNat ≤ q ∧ q < dp.toNat + u.toNat
  · rw [if_pos ⟨rfl, rfl, h⟩, if_pos h]; rfl
  · rw [if_neg (fun z => h z.2.2), if_neg h]; rfl
end
