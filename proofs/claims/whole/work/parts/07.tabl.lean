/-! ===== what the tables say of the classes and links ===== -/
def ab_gt : List Cond := lw_tbl.filter goodWord
def ab_mem (p : Nat) (w : Cond) : Bool := decide (lw_tbl[p]? = some w) && goodWord w
theorem ab_mem_ok {p : Nat} {w : Cond} (h : ab_mem p w = true) : w ∈ ab_gt := by
  unfold ab_mem at h
  simp only [Bool.and_eq_true, decide_eq_true_eq] at h
  exact List.mem_filter.mpr ⟨List.mem_of_getElem? h.1, h.2⟩
def ab_mems : List Nat → List Cond → Bool
  | _, [] => true
  | [], _ :: _ => false
  | p :: ps, w :: ws => ab_mem p w && ab_mems ps ws
theorem ab_mems_ok : ∀ {ps : List Nat} {ws : List Cond}, ab_mems ps ws = true → ∀ w ∈ ws, w ∈ ab_gt
  | _, [], _, w, hw => by cases hw
  | [], _ :: _, h, _, _ => by simp [ab_mems] at h
  | p :: ps, x :: xs, h, w, hw => by
    simp only [ab_mems, Bool.and_eq_true] at h
    rcases List.mem_cons.mp hw with rfl | hw
    · exact ab_mem_ok h.1
    · exact ab_mems_ok h.2 w hw
def ab_q (t : Nat) : vw_C := vwCl.getD t (RX0, TX0, 0)
theorem ab_q_at {t : Nat} (h : t < 11) : vwCl[t]? = some (ab_q t) := by
  unfold ab_q
  rw [List.getD_eq_getElem?_getD]
  have : t < vwCl.length := h
  rw [List.getElem?_eq_getElem this]
  rfl
def ab_ty (t : Nat) : Nat → FieldType := bif Nat.beq t 0 then tyX0 else bif Nat.beq t 1 then tyX1 else bif Nat.beq t 2 then tyX2 else bif Nat.beq t 3 then tyX3 else bif Nat.beq t 4 then tyX4 else bif Nat.beq t 5 then tyX5 else bif Nat.beq t 6 then tyX6 else bif Nat.beq t 7 then tyX7 else bif Nat.beq t 8 then tyX8 else bif Nat.beq t 9 then tyX9 else tyX10
theorem ab_in_0 : ∀ w ∈ u_ws RX0 TX0 8, w ∈ ab_gt := ab_mems_ok (ps := [112, 114, 116, 118, 120, 122, 124, 126]) (by decide +kernel)
theorem ab_in_1 : ∀ w ∈ u_ws RX1 TX1 12, w ∈ ab_gt := ab_mems_ok (ps := [149, 151, 153, 155, 157, 159, 161, 163, 165, 167, 169, 171]) (by decide +kernel)
theorem ab_in_2 : ∀ w ∈ u_ws RX2 TX2 2, w ∈ ab_gt := ab_mems_ok (ps := [757, 759]) (by decide +kernel)
theorem ab_in_3 : ∀ w ∈ u_ws RX3 TX3 6, w ∈ ab_gt := ab_mems_ok (ps := [323, 325, 327, 329, 331, 333]) (by decide +kernel)
theorem ab_in_4 : ∀ w ∈ u_ws RX4 TX4 7, w ∈ ab_gt := ab_mems_ok (ps := [283, 285, 287, 289, 291, 293, 295]) (by decide +kernel)
theorem ab_in_5 : ∀ w ∈ u_ws RX5 TX5 2, w ∈ ab_gt := ab_mems_ok (ps := [215, 217]) (by decide +kernel)
theorem ab_in_6 : ∀ w ∈ u_ws RX6 TX6 5, w ∈ ab_gt := ab_mems_ok (ps := [513, 515, 517, 519, 521]) (by decide +kernel)
theorem ab_in_7 : ∀ w ∈ u_ws RX7 TX7 2, w ∈ ab_gt := ab_mems_ok (ps := [92, 94]) (by decide +kernel)
theorem ab_in_8 : ∀ w ∈ u_ws RX8 TX8 4, w ∈ ab_gt := ab_mems_ok (ps := [197, 199, 201, 203]) (by decide +kernel)
theorem ab_in_9 : ∀ w ∈ u_ws RX9 TX9 10, w ∈ ab_gt := ab_mems_ok (ps := [230, 232, 234, 236, 238, 240, 242, 244, 246, 248]) (by decide +kernel)
theorem ab_in_10 : ∀ w ∈ u_ws RX10 TX10 46, w ∈ ab_gt := ab_mems_ok (ps := [870, 872, 874, 876, 878, 880, 882, 884, 886, 888, 890, 892, 894, 896, 898, 900, 902, 904, 906, 908, 910, 912, 914, 916, 918, 920, 922, 924, 926, 928, 930, 932, 934, 936, 938, 940, 942, 944, 946, 948, 950, 952, 954, 956, 958, 960]) (by decide +kernel)
theorem ab_c11 {P : Nat → Prop} (h0 : P 0) (h1 : P 1) (h2 : P 2) (h3 : P 3) (h4 : P 4) (h5 : P 5) (h6 : P 6) (h7 : P 7) (h8 : P 8) (h9 : P 9) (h10 : P 10) {t : Nat} (h : t < 11) : P t := by
  match t, h with
  | 0, _ => exact h0
  | 1, _ => exact h1
  | 2, _ => exact h2
  | 3, _ => exact h3
  | 4, _ => exact h4
  | 5, _ => exact h5
  | 6, _ => exact h6
  | 7, _ => exact h7
  | 8, _ => exact h8
  | 9, _ => exact h9
  | 10, _ => exact h10
  | t + 11, h => omega
theorem ab_nf_q {t : Nat} (h : t < 11) : (ab_q t).2.2 = ab_nf t := ab_c11 (P := fun t => (ab_q t).2.2 = ab_nf t) rfl rfl rfl rfl rfl rfl rfl rfl rfl rfl rfl h
theorem ab_uws {t : Nat} (h : t < 11) : ∀ w ∈ u_ws (ab_q t).1 (ab_q t).2.1 (ab_q t).2.2, w ∈ ab_gt := ab_c11 (P := fun t => ∀ w ∈ u_ws (ab_q t).1 (ab_q t).2.1 (ab_q t).2.2, w ∈ ab_gt) ab_in_0 ab_in_1 ab_in_2 ab_in_3 ab_in_4 ab_in_5 ab_in_6 ab_in_7 ab_in_8 ab_in_9 ab_in_10 h
theorem ab_tyok {t : Nat} (h : t < 11) : ∀ k, k < (ab_q t).2.2 → parseFieldDescriptor ((ab_q t).2.1 k).2.2.1 = some (ab_ty t k) := ab_c11 (P := fun t => ∀ k, k < (ab_q t).2.2 → parseFieldDescriptor ((ab_q t).2.1 k).2.2.1 = some (ab_ty t k)) tyX0_ok tyX1_ok tyX2_ok tyX3_ok tyX4_ok tyX5_ok tyX6_ok tyX7_ok tyX8_ok tyX9_ok tyX10_ok h
theorem ab_nmok {t : Nat} (h : t < 11) : ∀ a, a < (ab_q t).2.2 → ∀ b, b < (ab_q t).2.2 → a ≠ b → ((ab_q t).2.1 a).2.1 ≠ ((ab_q t).2.1 b).2.1 := ab_c11 (P := fun t => ∀ a, a < (ab_q t).2.2 → ∀ b, b < (ab_q t).2.2 → a ≠ b → ((ab_q t).2.1 a).2.1 ≠ ((ab_q t).2.1 b).2.1) nmX0 nmX1 nmX2 nmX3 nmX4 nmX5 nmX6 nmX7 nmX8 nmX9 nmX10 h
def ab_inst (t : Nat) : Prop := Cond.instantiable (ab_q t).1 (ab_q t).2.2 ∈ ab_gt ∧ Cond.initialized (ab_q t).1 ∈ ab_gt
theorem ab_instok {t : Nat} (h : t < 11) : ab_inst t := ab_c11 (P := ab_inst) ⟨ab_mem_ok (p := 99) (by decide +kernel), ab_mem_ok (p := 54) (by decide +kernel)⟩ ⟨ab_mem_ok (p := 130) (by decide +kernel), ab_mem_ok (p := 55) (by decide +kernel)⟩ ⟨ab_mem_ok (p := 748) (by decide +kernel), ab_mem_ok (p := 69) (by decide +kernel)⟩ ⟨ab_mem_ok (p := 305) (by decide +kernel), ab_mem_ok (p := 61) (by decide +kernel)⟩ ⟨ab_mem_ok (p := 261) (by decide +kernel), ab_mem_ok (p := 59) (by decide +kernel)⟩ ⟨ab_mem_ok (p := 206) (by decide +kernel), ab_mem_ok (p := 57) (by decide +kernel)⟩ ⟨ab_mem_ok (p := 497) (by decide +kernel), ab_mem_ok (p := 64) (by decide +kernel)⟩ ⟨ab_mem_ok (p := 85) (by decide +kernel), ab_mem_ok (p := 53) (by decide +kernel)⟩ ⟨ab_mem_ok (p := 175) (by decide +kernel), ab_mem_ok (p := 56) (by decide +kernel)⟩ ⟨ab_mem_ok (p := 71) (by decide +kernel), ab_mem_ok (p := 52) (by decide +kernel)⟩ ⟨ab_mem_ok (p := 819) (by decide +kernel), ab_mem_ok (p := 58) (by decide +kernel)⟩ h
/-- the kind of a field's type -/
def ab_kt (f : Nat) (ty : FieldType) : Prop := (f = 0 ∧ ty = .int) ∨ (f = 1 ∧ ty = .boolean) ∨ (f = 2 ∧ ty = .long) ∨ (f = 3 ∧ ((∃ n, ty = .object n) ∨ ∃ u, ty = .array u))
def ab_ktb (f : Nat) (ty : FieldType) : Bool := (decide (f = 0) && decide (ty = .int)) || ((decide (f = 1) && decide (ty = .boolean)) || ((decide (f = 2) && decide (ty = .long)) || (decide (f = 3) && (match ty with
  | .object _ => true
  | .array _ => true
  | _ => false))))
theorem ab_ktb_ok {f : Nat} {ty : FieldType} (h : ab_ktb f ty = true) : ab_kt f ty := by
  unfold ab_ktb at h
  simp only [Bool.or_eq_true, Bool.and_eq_true, decide_eq_true_eq] at h
  rcases h with h | h | h | ⟨h1, h2⟩
  · exact Or.inl h
  · exact Or.inr (Or.inl h)
  · exact Or.inr (Or.inr (Or.inl h))
  · refine Or.inr (Or.inr (Or.inr ⟨h1, ?_⟩))
    cases ty <;> simp at h2
    · exact Or.inl ⟨_, rfl⟩
    · exact Or.inr ⟨_, rfl⟩
theorem ab_kinds : (List.range 11).all (fun t => (List.range (ab_nf t)).all (fun k => ab_ktb (ab_ft t k).1 (ab_ty t k))) = true := by decide +kernel
theorem ab_kind {t k : Nat} (h : t < 11) (hk : k < ab_nf t) : ab_kt (ab_ft t k).1 (ab_ty t k) := by
  have h1 := List.all_eq_true.mp ab_kinds t (List.mem_range.mpr h)
  exact ab_ktb_ok (List.all_eq_true.mp h1 k (List.mem_range.mpr hk))
theorem ab_zipat {α : Type} {L : List α} {ps : List (List Nat)} {f : α → List Nat → Bool} (h : (L.length == ps.length && (L.zip ps).all (fun q => f q.1 q.2)) = true) {x : α} (hx : x ∈ L) : ∃ p, f x p = true := by
  simp only [Bool.and_eq_true, beq_iff_eq] at h
  obtain ⟨i, hi⟩ := List.getElem?_of_mem hx
  have hl : i < L.length := (List.getElem?_eq_some_iff.mp hi).1
  have h2 : (L.zip ps)[i]? = some (x, ps[i]'(by omega)) := by
    rw [List.getElem?_zip_eq_some]
    exact ⟨hi, List.getElem?_eq_getElem _⟩
  exact ⟨_, List.all_eq_true.mp h.2 _ (List.mem_of_getElem? h2)⟩
def ab_FLp : List (List Nat) := [[220], [221], [222], [223], [224], [225], [226], [227], [228], [229], [320], [318], [278], [282], [322], [270], [280], [507], [505], [509], [756], [754], [187], [190], [193], [196], [274], [312], [314], [272], [276], [316], [503], [512], [104], [105], [106], [107], [108], [109], [110], [111], [137], [138], [139], [140], [141], [142], [143], [144], [145], [146], [147], [148], [753], [755], [317], [321], [311], [313], [315], [319], [277], [279], [281], [269], [271], [273], [275], [213], [214], [511], [508], [510], [502], [504], [506], [195], [192], [186], [189], [90], [91], [185], [188], [191], [194], [826], [827], [828], [829], [831], [832], [833], [834], [835], [836], [837], [845], [846], [847], [848], [849], [851], [852], [853], [854], [855], [856], [857], [858], [859], [860], [861], [863], [864], [865], [825], [830], [824], [850], [862], [866], [867], [838], [839], [840], [841], [842], [843], [844], [868], [869]]
def ab_FLf (e : String × Nat × Nat × Nat) (p : List Nat) : Bool := decide (e.2.2.1 < 11) && (decide (e.2.2.2 < ab_nf e.2.2.1) && ab_mems p [Cond.fieldLink e.1 e.2.1 ((ab_q e.2.2.1).2.1 e.2.2.2).1 ((ab_q e.2.2.1).2.1 e.2.2.2).2.1 ((ab_q e.2.2.1).2.1 e.2.2.2).2.2.1])
theorem ab_FLs : (ab_FL.length == ab_FLp.length && (ab_FL.zip ab_FLp).all (fun q => ab_FLf q.1 q.2)) = true := by decide +kernel
theorem ab_FLok {own : String} {x a b : Nat} (h : ab_FL.elem (own, x, a, b) = true) : a < 11 ∧ b < ab_nf a ∧ Cond.fieldLink own x ((ab_q a).2.1 b).1 ((ab_q a).2.1 b).2.1 ((ab_q a).2.1 b).2.2.1 ∈ ab_gt := by
  obtain ⟨p, h1⟩ := ab_zipat (f := ab_FLf) ab_FLs (List.elem_iff.mp h)
  simp only [ab_FLf, Bool.and_eq_true, decide_eq_true_eq] at h1
  exact ⟨h1.1, h1.2.1, ab_mems_ok h1.2.2 _ List.mem_cons_self⟩
def ab_cdk (k : Nat) : Cond := .code (ab_nm k) (ab_cd k) (ab_ml k) (ab_rt k)
set_option maxRecDepth 20000 in
theorem cd_0 : ab_cdk 0 ∈ ab_gt := List.mem_filter.mpr ⟨List.mem_of_getElem? (i := 102) rfl, rfl⟩
set_option maxRecDepth 20000 in
theorem cd_1 : ab_cdk 1 ∈ ab_gt := List.mem_filter.mpr ⟨List.mem_of_getElem? (i := 178) rfl, rfl⟩
set_option maxRecDepth 20000 in
theorem cd_2 : ab_cdk 2 ∈ ab_gt := List.mem_filter.mpr ⟨List.mem_of_getElem? (i := 675) rfl, rfl⟩
set_option maxRecDepth 20000 in
theorem cd_3 : ab_cdk 3 ∈ ab_gt := List.mem_filter.mpr ⟨List.mem_of_getElem? (i := 600) rfl, rfl⟩
set_option maxRecDepth 20000 in
theorem cd_4 : ab_cdk 4 ∈ ab_gt := List.mem_filter.mpr ⟨List.mem_of_getElem? (i := 681) rfl, rfl⟩
set_option maxRecDepth 20000 in
theorem cd_5 : ab_cdk 5 ∈ ab_gt := List.mem_filter.mpr ⟨List.mem_of_getElem? (i := 685) rfl, rfl⟩
set_option maxRecDepth 20000 in
theorem cd_6 : ab_cdk 6 ∈ ab_gt := List.mem_filter.mpr ⟨List.mem_of_getElem? (i := 694) rfl, rfl⟩
set_option maxRecDepth 20000 in
theorem cd_7 : ab_cdk 7 ∈ ab_gt := List.mem_filter.mpr ⟨List.mem_of_getElem? (i := 698) rfl, rfl⟩
set_option maxRecDepth 20000 in
theorem cd_8 : ab_cdk 8 ∈ ab_gt := List.mem_filter.mpr ⟨List.mem_of_getElem? (i := 568) rfl, rfl⟩
set_option maxRecDepth 20000 in
theorem cd_9 : ab_cdk 9 ∈ ab_gt := List.mem_filter.mpr ⟨List.mem_of_getElem? (i := 572) rfl, rfl⟩
set_option maxRecDepth 20000 in
theorem cd_10 : ab_cdk 10 ∈ ab_gt := List.mem_filter.mpr ⟨List.mem_of_getElem? (i := 589) rfl, rfl⟩
set_option maxRecDepth 20000 in
theorem cd_11 : ab_cdk 11 ∈ ab_gt := List.mem_filter.mpr ⟨List.mem_of_getElem? (i := 593) rfl, rfl⟩
set_option maxRecDepth 20000 in
theorem cd_12 : ab_cdk 12 ∈ ab_gt := List.mem_filter.mpr ⟨List.mem_of_getElem? (i := 665) rfl, rfl⟩
set_option maxRecDepth 20000 in
theorem cd_13 : ab_cdk 13 ∈ ab_gt := List.mem_filter.mpr ⟨List.mem_of_getElem? (i := 661) rfl, rfl⟩
set_option maxRecDepth 20000 in
theorem cd_14 : ab_cdk 14 ∈ ab_gt := List.mem_filter.mpr ⟨List.mem_of_getElem? (i := 597) rfl, rfl⟩
set_option maxRecDepth 20000 in
theorem cd_15 : ab_cdk 15 ∈ ab_gt := List.mem_filter.mpr ⟨List.mem_of_getElem? (i := 609) rfl, rfl⟩
set_option maxRecDepth 20000 in
theorem cd_16 : ab_cdk 16 ∈ ab_gt := List.mem_filter.mpr ⟨List.mem_of_getElem? (i := 669) rfl, rfl⟩
set_option maxRecDepth 20000 in
theorem cd_17 : ab_cdk 17 ∈ ab_gt := List.mem_filter.mpr ⟨List.mem_of_getElem? (i := 577) rfl, rfl⟩
set_option maxRecDepth 20000 in
theorem cd_18 : ab_cdk 18 ∈ ab_gt := List.mem_filter.mpr ⟨List.mem_of_getElem? (i := 585) rfl, rfl⟩
set_option maxRecDepth 20000 in
theorem cd_19 : ab_cdk 19 ∈ ab_gt := List.mem_filter.mpr ⟨List.mem_of_getElem? (i := 133) rfl, rfl⟩
set_option maxRecDepth 20000 in
theorem cd_20 : ab_cdk 20 ∈ ab_gt := List.mem_filter.mpr ⟨List.mem_of_getElem? (i := 379) rfl, rfl⟩
set_option maxRecDepth 20000 in
theorem cd_21 : ab_cdk 21 ∈ ab_gt := List.mem_filter.mpr ⟨List.mem_of_getElem? (i := 384) rfl, rfl⟩
set_option maxRecDepth 20000 in
theorem cd_22 : ab_cdk 22 ∈ ab_gt := List.mem_filter.mpr ⟨List.mem_of_getElem? (i := 388) rfl, rfl⟩
set_option maxRecDepth 20000 in
theorem cd_23 : ab_cdk 23 ∈ ab_gt := List.mem_filter.mpr ⟨List.mem_of_getElem? (i := 392) rfl, rfl⟩
set_option maxRecDepth 20000 in
theorem cd_24 : ab_cdk 24 ∈ ab_gt := List.mem_filter.mpr ⟨List.mem_of_getElem? (i := 396) rfl, rfl⟩
set_option maxRecDepth 20000 in
theorem cd_25 : ab_cdk 25 ∈ ab_gt := List.mem_filter.mpr ⟨List.mem_of_getElem? (i := 404) rfl, rfl⟩
set_option maxRecDepth 20000 in
theorem cd_26 : ab_cdk 26 ∈ ab_gt := List.mem_filter.mpr ⟨List.mem_of_getElem? (i := 408) rfl, rfl⟩
set_option maxRecDepth 20000 in
theorem cd_27 : ab_cdk 27 ∈ ab_gt := List.mem_filter.mpr ⟨List.mem_of_getElem? (i := 412) rfl, rfl⟩
set_option maxRecDepth 20000 in
theorem cd_28 : ab_cdk 28 ∈ ab_gt := List.mem_filter.mpr ⟨List.mem_of_getElem? (i := 466) rfl, rfl⟩
set_option maxRecDepth 20000 in
theorem cd_29 : ab_cdk 29 ∈ ab_gt := List.mem_filter.mpr ⟨List.mem_of_getElem? (i := 483) rfl, rfl⟩
set_option maxRecDepth 20000 in
theorem cd_30 : ab_cdk 30 ∈ ab_gt := List.mem_filter.mpr ⟨List.mem_of_getElem? (i := 474) rfl, rfl⟩
set_option maxRecDepth 20000 in
theorem cd_31 : ab_cdk 31 ∈ ab_gt := List.mem_filter.mpr ⟨List.mem_of_getElem? (i := 416) rfl, rfl⟩
set_option maxRecDepth 20000 in
theorem cd_32 : ab_cdk 32 ∈ ab_gt := List.mem_filter.mpr ⟨List.mem_of_getElem? (i := 420) rfl, rfl⟩
set_option maxRecDepth 20000 in
theorem cd_33 : ab_cdk 33 ∈ ab_gt := List.mem_filter.mpr ⟨List.mem_of_getElem? (i := 435) rfl, rfl⟩
set_option maxRecDepth 20000 in
theorem cd_34 : ab_cdk 34 ∈ ab_gt := List.mem_filter.mpr ⟨List.mem_of_getElem? (i := 455) rfl, rfl⟩
set_option maxRecDepth 20000 in
theorem cd_35 : ab_cdk 35 ∈ ab_gt := List.mem_filter.mpr ⟨List.mem_of_getElem? (i := 462) rfl, rfl⟩
set_option maxRecDepth 20000 in
theorem cd_36 : ab_cdk 36 ∈ ab_gt := List.mem_filter.mpr ⟨List.mem_of_getElem? (i := 439) rfl, rfl⟩
set_option maxRecDepth 20000 in
theorem cd_37 : ab_cdk 37 ∈ ab_gt := List.mem_filter.mpr ⟨List.mem_of_getElem? (i := 443) rfl, rfl⟩
set_option maxRecDepth 20000 in
theorem cd_38 : ab_cdk 38 ∈ ab_gt := List.mem_filter.mpr ⟨List.mem_of_getElem? (i := 447) rfl, rfl⟩
set_option maxRecDepth 20000 in
theorem cd_39 : ab_cdk 39 ∈ ab_gt := List.mem_filter.mpr ⟨List.mem_of_getElem? (i := 451) rfl, rfl⟩
set_option maxRecDepth 20000 in
theorem cd_40 : ab_cdk 40 ∈ ab_gt := List.mem_filter.mpr ⟨List.mem_of_getElem? (i := 424) rfl, rfl⟩
set_option maxRecDepth 20000 in
theorem cd_41 : ab_cdk 41 ∈ ab_gt := List.mem_filter.mpr ⟨List.mem_of_getElem? (i := 428) rfl, rfl⟩
set_option maxRecDepth 20000 in
theorem cd_42 : ab_cdk 42 ∈ ab_gt := List.mem_filter.mpr ⟨List.mem_of_getElem? (i := 751) rfl, rfl⟩
set_option maxRecDepth 20000 in
theorem cd_43 : ab_cdk 43 ∈ ab_gt := List.mem_filter.mpr ⟨List.mem_of_getElem? (i := 777) rfl, rfl⟩
set_option maxRecDepth 20000 in
theorem cd_44 : ab_cdk 44 ∈ ab_gt := List.mem_filter.mpr ⟨List.mem_of_getElem? (i := 792) rfl, rfl⟩
set_option maxRecDepth 20000 in
theorem cd_45 : ab_cdk 45 ∈ ab_gt := List.mem_filter.mpr ⟨List.mem_of_getElem? (i := 780) rfl, rfl⟩
set_option maxRecDepth 20000 in
theorem cd_46 : ab_cdk 46 ∈ ab_gt := List.mem_filter.mpr ⟨List.mem_of_getElem? (i := 308) rfl, rfl⟩
set_option maxRecDepth 20000 in
theorem cd_47 : ab_cdk 47 ∈ ab_gt := List.mem_filter.mpr ⟨List.mem_of_getElem? (i := 264) rfl, rfl⟩
set_option maxRecDepth 20000 in
theorem cd_48 : ab_cdk 48 ∈ ab_gt := List.mem_filter.mpr ⟨List.mem_of_getElem? (i := 209) rfl, rfl⟩
set_option maxRecDepth 20000 in
theorem cd_49 : ab_cdk 49 ∈ ab_gt := List.mem_filter.mpr ⟨List.mem_of_getElem? (i := 495) rfl, rfl⟩
set_option maxRecDepth 20000 in
theorem cd_50 : ab_cdk 50 ∈ ab_gt := List.mem_filter.mpr ⟨List.mem_of_getElem? (i := 527) rfl, rfl⟩
set_option maxRecDepth 20000 in
theorem cd_51 : ab_cdk 51 ∈ ab_gt := List.mem_filter.mpr ⟨List.mem_of_getElem? (i := 801) rfl, rfl⟩
set_option maxRecDepth 20000 in
theorem cd_52 : ab_cdk 52 ∈ ab_gt := List.mem_filter.mpr ⟨List.mem_of_getElem? (i := 805) rfl, rfl⟩
set_option maxRecDepth 20000 in
theorem cd_53 : ab_cdk 53 ∈ ab_gt := List.mem_filter.mpr ⟨List.mem_of_getElem? (i := 746) rfl, rfl⟩
set_option maxRecDepth 20000 in
theorem cd_54 : ab_cdk 54 ∈ ab_gt := List.mem_filter.mpr ⟨List.mem_of_getElem? (i := 788) rfl, rfl⟩
set_option maxRecDepth 20000 in
theorem cd_55 : ab_cdk 55 ∈ ab_gt := List.mem_filter.mpr ⟨List.mem_of_getElem? (i := 765) rfl, rfl⟩
set_option maxRecDepth 20000 in
theorem cd_56 : ab_cdk 56 ∈ ab_gt := List.mem_filter.mpr ⟨List.mem_of_getElem? (i := 773) rfl, rfl⟩
set_option maxRecDepth 20000 in
theorem cd_57 : ab_cdk 57 ∈ ab_gt := List.mem_filter.mpr ⟨List.mem_of_getElem? (i := 500) rfl, rfl⟩
set_option maxRecDepth 20000 in
theorem cd_58 : ab_cdk 58 ∈ ab_gt := List.mem_filter.mpr ⟨List.mem_of_getElem? (i := 729) rfl, rfl⟩
set_option maxRecDepth 20000 in
theorem cd_59 : ab_cdk 59 ∈ ab_gt := List.mem_filter.mpr ⟨List.mem_of_getElem? (i := 769) rfl, rfl⟩
set_option maxRecDepth 20000 in
theorem cd_60 : ab_cdk 60 ∈ ab_gt := List.mem_filter.mpr ⟨List.mem_of_getElem? (i := 737) rfl, rfl⟩
set_option maxRecDepth 20000 in
theorem cd_61 : ab_cdk 61 ∈ ab_gt := List.mem_filter.mpr ⟨List.mem_of_getElem? (i := 88) rfl, rfl⟩
set_option maxRecDepth 20000 in
theorem cd_62 : ab_cdk 62 ∈ ab_gt := List.mem_filter.mpr ⟨List.mem_of_getElem? (i := 552) rfl, rfl⟩
set_option maxRecDepth 20000 in
theorem cd_63 : ab_cdk 63 ∈ ab_gt := List.mem_filter.mpr ⟨List.mem_of_getElem? (i := 582) rfl, rfl⟩
set_option maxRecDepth 20000 in
theorem cd_64 : ab_cdk 64 ∈ ab_gt := List.mem_filter.mpr ⟨List.mem_of_getElem? (i := 544) rfl, rfl⟩
set_option maxRecDepth 20000 in
theorem cd_65 : ab_cdk 65 ∈ ab_gt := List.mem_filter.mpr ⟨List.mem_of_getElem? (i := 548) rfl, rfl⟩
set_option maxRecDepth 20000 in
theorem cd_66 : ab_cdk 66 ∈ ab_gt := List.mem_filter.mpr ⟨List.mem_of_getElem? (i := 560) rfl, rfl⟩
set_option maxRecDepth 20000 in
theorem cd_67 : ab_cdk 67 ∈ ab_gt := List.mem_filter.mpr ⟨List.mem_of_getElem? (i := 183) rfl, rfl⟩
set_option maxRecDepth 20000 in
theorem cd_68 : ab_cdk 68 ∈ ab_gt := List.mem_filter.mpr ⟨List.mem_of_getElem? (i := 713) rfl, rfl⟩
set_option maxRecDepth 20000 in
theorem cd_69 : ab_cdk 69 ∈ ab_gt := List.mem_filter.mpr ⟨List.mem_of_getElem? (i := 74) rfl, rfl⟩
set_option maxRecDepth 20000 in
theorem cd_70 : ab_cdk 70 ∈ ab_gt := List.mem_filter.mpr ⟨List.mem_of_getElem? (i := 254) rfl, rfl⟩
set_option maxRecDepth 20000 in
theorem cd_71 : ab_cdk 71 ∈ ab_gt := List.mem_filter.mpr ⟨List.mem_of_getElem? (i := 301) rfl, rfl⟩
set_option maxRecDepth 20000 in
theorem cd_72 : ab_cdk 72 ∈ ab_gt := List.mem_filter.mpr ⟨List.mem_of_getElem? (i := 339) rfl, rfl⟩
set_option maxRecDepth 20000 in
theorem cd_73 : ab_cdk 73 ∈ ab_gt := List.mem_filter.mpr ⟨List.mem_of_getElem? (i := 347) rfl, rfl⟩
set_option maxRecDepth 20000 in
theorem cd_74 : ab_cdk 74 ∈ ab_gt := List.mem_filter.mpr ⟨List.mem_of_getElem? (i := 355) rfl, rfl⟩
set_option maxRecDepth 20000 in
theorem cd_75 : ab_cdk 75 ∈ ab_gt := List.mem_filter.mpr ⟨List.mem_of_getElem? (i := 367) rfl, rfl⟩
set_option maxRecDepth 20000 in
theorem cd_76 : ab_cdk 76 ∈ ab_gt := List.mem_filter.mpr ⟨List.mem_of_getElem? (i := 470) rfl, rfl⟩
set_option maxRecDepth 20000 in
theorem cd_77 : ab_cdk 77 ∈ ab_gt := List.mem_filter.mpr ⟨List.mem_of_getElem? (i := 479) rfl, rfl⟩
set_option maxRecDepth 20000 in
theorem cd_78 : ab_cdk 78 ∈ ab_gt := List.mem_filter.mpr ⟨List.mem_of_getElem? (i := 487) rfl, rfl⟩
set_option maxRecDepth 20000 in
theorem cd_79 : ab_cdk 79 ∈ ab_gt := List.mem_filter.mpr ⟨List.mem_of_getElem? (i := 532) rfl, rfl⟩
set_option maxRecDepth 20000 in
theorem cd_80 : ab_cdk 80 ∈ ab_gt := List.mem_filter.mpr ⟨List.mem_of_getElem? (i := 540) rfl, rfl⟩
set_option maxRecDepth 20000 in
theorem cd_81 : ab_cdk 81 ∈ ab_gt := List.mem_filter.mpr ⟨List.mem_of_getElem? (i := 556) rfl, rfl⟩
set_option maxRecDepth 20000 in
theorem cd_82 : ab_cdk 82 ∈ ab_gt := List.mem_filter.mpr ⟨List.mem_of_getElem? (i := 564) rfl, rfl⟩
set_option maxRecDepth 20000 in
theorem cd_83 : ab_cdk 83 ∈ ab_gt := List.mem_filter.mpr ⟨List.mem_of_getElem? (i := 690) rfl, rfl⟩
set_option maxRecDepth 20000 in
theorem cd_84 : ab_cdk 84 ∈ ab_gt := List.mem_filter.mpr ⟨List.mem_of_getElem? (i := 702) rfl, rfl⟩
set_option maxRecDepth 20000 in
theorem cd_85 : ab_cdk 85 ∈ ab_gt := List.mem_filter.mpr ⟨List.mem_of_getElem? (i := 717) rfl, rfl⟩
set_option maxRecDepth 20000 in
theorem cd_86 : ab_cdk 86 ∈ ab_gt := List.mem_filter.mpr ⟨List.mem_of_getElem? (i := 721) rfl, rfl⟩
set_option maxRecDepth 20000 in
theorem cd_87 : ab_cdk 87 ∈ ab_gt := List.mem_filter.mpr ⟨List.mem_of_getElem? (i := 725) rfl, rfl⟩
set_option maxRecDepth 20000 in
theorem cd_88 : ab_cdk 88 ∈ ab_gt := List.mem_filter.mpr ⟨List.mem_of_getElem? (i := 733) rfl, rfl⟩
set_option maxRecDepth 20000 in
theorem cd_89 : ab_cdk 89 ∈ ab_gt := List.mem_filter.mpr ⟨List.mem_of_getElem? (i := 741) rfl, rfl⟩
set_option maxRecDepth 20000 in
theorem cd_90 : ab_cdk 90 ∈ ab_gt := List.mem_filter.mpr ⟨List.mem_of_getElem? (i := 784) rfl, rfl⟩
set_option maxRecDepth 20000 in
theorem cd_91 : ab_cdk 91 ∈ ab_gt := List.mem_filter.mpr ⟨List.mem_of_getElem? (i := 797) rfl, rfl⟩
set_option maxRecDepth 20000 in
theorem cd_92 : ab_cdk 92 ∈ ab_gt := List.mem_filter.mpr ⟨List.mem_of_getElem? (i := 809) rfl, rfl⟩
set_option maxRecDepth 20000 in
theorem cd_93 : ab_cdk 93 ∈ ab_gt := List.mem_filter.mpr ⟨List.mem_of_getElem? (i := 257) rfl, rfl⟩
set_option maxRecDepth 20000 in
theorem cd_94 : ab_cdk 94 ∈ ab_gt := List.mem_filter.mpr ⟨List.mem_of_getElem? (i := 260) rfl, rfl⟩
set_option maxRecDepth 20000 in
theorem cd_95 : ab_cdk 95 ∈ ab_gt := List.mem_filter.mpr ⟨List.mem_of_getElem? (i := 304) rfl, rfl⟩
set_option maxRecDepth 20000 in
theorem cd_96 : ab_cdk 96 ∈ ab_gt := List.mem_filter.mpr ⟨List.mem_of_getElem? (i := 709) rfl, rfl⟩
set_option maxRecDepth 20000 in
theorem cd_97 : ab_cdk 97 ∈ ab_gt := List.mem_filter.mpr ⟨List.mem_of_getElem? (i := 351) rfl, rfl⟩
set_option maxRecDepth 20000 in
theorem cd_98 : ab_cdk 98 ∈ ab_gt := List.mem_filter.mpr ⟨List.mem_of_getElem? (i := 343) rfl, rfl⟩
set_option maxRecDepth 20000 in
theorem cd_99 : ab_cdk 99 ∈ ab_gt := List.mem_filter.mpr ⟨List.mem_of_getElem? (i := 491) rfl, rfl⟩
set_option maxRecDepth 20000 in
theorem cd_100 : ab_cdk 100 ∈ ab_gt := List.mem_filter.mpr ⟨List.mem_of_getElem? (i := 359) rfl, rfl⟩
set_option maxRecDepth 20000 in
theorem cd_101 : ab_cdk 101 ∈ ab_gt := List.mem_filter.mpr ⟨List.mem_of_getElem? (i := 363) rfl, rfl⟩
set_option maxRecDepth 20000 in
theorem cd_102 : ab_cdk 102 ∈ ab_gt := List.mem_filter.mpr ⟨List.mem_of_getElem? (i := 706) rfl, rfl⟩
set_option maxRecDepth 20000 in
theorem cd_103 : ab_cdk 103 ∈ ab_gt := List.mem_filter.mpr ⟨List.mem_of_getElem? (i := 536) rfl, rfl⟩
set_option maxRecDepth 20000 in
theorem cd_104 : ab_cdk 104 ∈ ab_gt := List.mem_filter.mpr ⟨List.mem_of_getElem? (i := 813) rfl, rfl⟩
set_option maxRecDepth 20000 in
theorem cd_105 : ab_cdk 105 ∈ ab_gt := List.mem_filter.mpr ⟨List.mem_of_getElem? (i := 817) rfl, rfl⟩
set_option maxRecDepth 20000 in
theorem cd_106 : ab_cdk 106 ∈ ab_gt := List.mem_filter.mpr ⟨List.mem_of_getElem? (i := 371) rfl, rfl⟩
set_option maxRecDepth 20000 in
theorem cd_107 : ab_cdk 107 ∈ ab_gt := List.mem_filter.mpr ⟨List.mem_of_getElem? (i := 375) rfl, rfl⟩
set_option maxRecDepth 20000 in
theorem cd_108 : ab_cdk 108 ∈ ab_gt := List.mem_filter.mpr ⟨List.mem_of_getElem? (i := 400) rfl, rfl⟩
set_option maxRecDepth 20000 in
theorem cd_109 : ab_cdk 109 ∈ ab_gt := List.mem_filter.mpr ⟨List.mem_of_getElem? (i := 822) rfl, rfl⟩
set_option maxRecDepth 20000 in
theorem cd_110 : ab_cdk 110 ∈ ab_gt := List.mem_filter.mpr ⟨List.mem_of_getElem? (i := 971) rfl, rfl⟩
set_option maxRecDepth 20000 in
theorem cd_111 : ab_cdk 111 ∈ ab_gt := List.mem_filter.mpr ⟨List.mem_of_getElem? (i := 997) rfl, rfl⟩
set_option maxRecDepth 20000 in
theorem cd_112 : ab_cdk 112 ∈ ab_gt := List.mem_filter.mpr ⟨List.mem_of_getElem? (i := 989) rfl, rfl⟩
set_option maxRecDepth 20000 in
theorem cd_113 : ab_cdk 113 ∈ ab_gt := List.mem_filter.mpr ⟨List.mem_of_getElem? (i := 974) rfl, rfl⟩
set_option maxRecDepth 20000 in
theorem cd_114 : ab_cdk 114 ∈ ab_gt := List.mem_filter.mpr ⟨List.mem_of_getElem? (i := 967) rfl, rfl⟩
set_option maxRecDepth 20000 in
theorem cd_115 : ab_cdk 115 ∈ ab_gt := List.mem_filter.mpr ⟨List.mem_of_getElem? (i := 980) rfl, rfl⟩
set_option maxRecDepth 20000 in
theorem cd_116 : ab_cdk 116 ∈ ab_gt := List.mem_filter.mpr ⟨List.mem_of_getElem? (i := 985) rfl, rfl⟩
set_option maxRecDepth 20000 in
theorem cd_117 : ab_cdk 117 ∈ ab_gt := List.mem_filter.mpr ⟨List.mem_of_getElem? (i := 993) rfl, rfl⟩
set_option maxRecDepth 20000 in
theorem cd_118 : ab_cdk 118 ∈ ab_gt := List.mem_filter.mpr ⟨List.mem_of_getElem? (i := 1006) rfl, rfl⟩
set_option maxRecDepth 20000 in
theorem cd_119 : ab_cdk 119 ∈ ab_gt := List.mem_filter.mpr ⟨List.mem_of_getElem? (i := 1002) rfl, rfl⟩
set_option maxRecDepth 20000 in
theorem cd_120 : ab_cdk 120 ∈ ab_gt := List.mem_filter.mpr ⟨List.mem_of_getElem? (i := 1018) rfl, rfl⟩
set_option maxRecDepth 20000 in
theorem cd_121 : ab_cdk 121 ∈ ab_gt := List.mem_filter.mpr ⟨List.mem_of_getElem? (i := 1022) rfl, rfl⟩
set_option maxRecDepth 20000 in
theorem cd_122 : ab_cdk 122 ∈ ab_gt := List.mem_filter.mpr ⟨List.mem_of_getElem? (i := 1030) rfl, rfl⟩
set_option maxRecDepth 20000 in
theorem cd_123 : ab_cdk 123 ∈ ab_gt := List.mem_filter.mpr ⟨List.mem_of_getElem? (i := 1034) rfl, rfl⟩
set_option maxRecDepth 20000 in
theorem cd_124 : ab_cdk 124 ∈ ab_gt := List.mem_filter.mpr ⟨List.mem_of_getElem? (i := 1038) rfl, rfl⟩
set_option maxRecDepth 20000 in
theorem cd_125 : ab_cdk 125 ∈ ab_gt := List.mem_filter.mpr ⟨List.mem_of_getElem? (i := 1014) rfl, rfl⟩
set_option maxRecDepth 20000 in
theorem cd_126 : ab_cdk 126 ∈ ab_gt := List.mem_filter.mpr ⟨List.mem_of_getElem? (i := 1026) rfl, rfl⟩
set_option maxRecDepth 20000 in
theorem cd_127 : ab_cdk 127 ∈ ab_gt := List.mem_filter.mpr ⟨List.mem_of_getElem? (i := 1010) rfl, rfl⟩
set_option maxRecDepth 20000 in
theorem cd_128 : ab_cdk 128 ∈ ab_gt := List.mem_filter.mpr ⟨List.mem_of_getElem? (i := 1042) rfl, rfl⟩
set_option maxRecDepth 20000 in
theorem cd_129 : ab_cdk 129 ∈ ab_gt := List.mem_filter.mpr ⟨List.mem_of_getElem? (i := 1046) rfl, rfl⟩
set_option maxRecDepth 20000 in
theorem cd_130 : ab_cdk 130 ∈ ab_gt := List.mem_filter.mpr ⟨List.mem_of_getElem? (i := 1054) rfl, rfl⟩
set_option maxRecDepth 20000 in
theorem cd_131 : ab_cdk 131 ∈ ab_gt := List.mem_filter.mpr ⟨List.mem_of_getElem? (i := 1050) rfl, rfl⟩
set_option maxRecDepth 20000 in
theorem cd_132 : ab_cdk 132 ∈ ab_gt := List.mem_filter.mpr ⟨List.mem_of_getElem? (i := 1063) rfl, rfl⟩
set_option maxRecDepth 20000 in
theorem cd_133 : ab_cdk 133 ∈ ab_gt := List.mem_filter.mpr ⟨List.mem_of_getElem? (i := 1058) rfl, rfl⟩
set_option maxRecDepth 20000 in
theorem cd_134 : ab_cdk 134 ∈ ab_gt := List.mem_filter.mpr ⟨List.mem_of_getElem? (i := 1071) rfl, rfl⟩
set_option maxRecDepth 20000 in
theorem cd_135 : ab_cdk 135 ∈ ab_gt := List.mem_filter.mpr ⟨List.mem_of_getElem? (i := 1067) rfl, rfl⟩
set_option maxRecDepth 20000 in
theorem cd_136 : ab_cdk 136 ∈ ab_gt := List.mem_filter.mpr ⟨List.mem_of_getElem? (i := 1075) rfl, rfl⟩
set_option maxRecDepth 20000 in
theorem cd_137 : ab_cdk 137 ∈ ab_gt := List.mem_filter.mpr ⟨List.mem_of_getElem? (i := 1086) rfl, rfl⟩
set_option maxRecDepth 20000 in
theorem cd_138 : ab_cdk 138 ∈ ab_gt := List.mem_filter.mpr ⟨List.mem_of_getElem? (i := 1094) rfl, rfl⟩
set_option maxRecDepth 20000 in
theorem cd_139 : ab_cdk 139 ∈ ab_gt := List.mem_filter.mpr ⟨List.mem_of_getElem? (i := 1083) rfl, rfl⟩
set_option maxRecDepth 20000 in
theorem cd_140 : ab_cdk 140 ∈ ab_gt := List.mem_filter.mpr ⟨List.mem_of_getElem? (i := 1109) rfl, rfl⟩
set_option maxRecDepth 20000 in
theorem cd_141 : ab_cdk 141 ∈ ab_gt := List.mem_filter.mpr ⟨List.mem_of_getElem? (i := 1105) rfl, rfl⟩
set_option maxRecDepth 20000 in
theorem cd_142 : ab_cdk 142 ∈ ab_gt := List.mem_filter.mpr ⟨List.mem_of_getElem? (i := 1079) rfl, rfl⟩
set_option maxRecDepth 20000 in
theorem cd_143 : ab_cdk 143 ∈ ab_gt := List.mem_filter.mpr ⟨List.mem_of_getElem? (i := 1116) rfl, rfl⟩
set_option maxRecDepth 20000 in
theorem cd_144 : ab_cdk 144 ∈ ab_gt := List.mem_filter.mpr ⟨List.mem_of_getElem? (i := 1120) rfl, rfl⟩
set_option maxRecDepth 20000 in
theorem cd_145 : ab_cdk 145 ∈ ab_gt := List.mem_filter.mpr ⟨List.mem_of_getElem? (i := 1125) rfl, rfl⟩
set_option maxRecDepth 20000 in
theorem cd_146 : ab_cdk 146 ∈ ab_gt := List.mem_filter.mpr ⟨List.mem_of_getElem? (i := 1129) rfl, rfl⟩
set_option maxRecDepth 20000 in
theorem cd_147 : ab_cdk 147 ∈ ab_gt := List.mem_filter.mpr ⟨List.mem_of_getElem? (i := 1135) rfl, rfl⟩
set_option maxRecDepth 20000 in
theorem cd_148 : ab_cdk 148 ∈ ab_gt := List.mem_filter.mpr ⟨List.mem_of_getElem? (i := 1139) rfl, rfl⟩
set_option maxRecDepth 20000 in
theorem cd_149 : ab_cdk 149 ∈ ab_gt := List.mem_filter.mpr ⟨List.mem_of_getElem? (i := 1154) rfl, rfl⟩
set_option maxRecDepth 20000 in
theorem cd_150 : ab_cdk 150 ∈ ab_gt := List.mem_filter.mpr ⟨List.mem_of_getElem? (i := 1151) rfl, rfl⟩
set_option maxRecDepth 20000 in
theorem cd_151 : ab_cdk 151 ∈ ab_gt := List.mem_filter.mpr ⟨List.mem_of_getElem? (i := 1147) rfl, rfl⟩
set_option maxRecDepth 20000 in
theorem cd_152 : ab_cdk 152 ∈ ab_gt := List.mem_filter.mpr ⟨List.mem_of_getElem? (i := 1143) rfl, rfl⟩
set_option maxRecDepth 20000 in
theorem cd_153 : ab_cdk 153 ∈ ab_gt := List.mem_filter.mpr ⟨List.mem_of_getElem? (i := 1158) rfl, rfl⟩
set_option maxRecDepth 20000 in
theorem cd_154 : ab_cdk 154 ∈ ab_gt := List.mem_filter.mpr ⟨List.mem_of_getElem? (i := 1162) rfl, rfl⟩
set_option maxRecDepth 20000 in
theorem cd_155 : ab_cdk 155 ∈ ab_gt := List.mem_filter.mpr ⟨List.mem_of_getElem? (i := 1166) rfl, rfl⟩
set_option maxRecDepth 20000 in
theorem cd_156 : ab_cdk 156 ∈ ab_gt := List.mem_filter.mpr ⟨List.mem_of_getElem? (i := 613) rfl, rfl⟩
set_option maxRecDepth 20000 in
theorem cd_157 : ab_cdk 157 ∈ ab_gt := List.mem_filter.mpr ⟨List.mem_of_getElem? (i := 623) rfl, rfl⟩
set_option maxRecDepth 20000 in
theorem cd_158 : ab_cdk 158 ∈ ab_gt := List.mem_filter.mpr ⟨List.mem_of_getElem? (i := 617) rfl, rfl⟩
set_option maxRecDepth 20000 in
theorem cd_159 : ab_cdk 159 ∈ ab_gt := List.mem_filter.mpr ⟨List.mem_of_getElem? (i := 627) rfl, rfl⟩
set_option maxRecDepth 20000 in
theorem cd_160 : ab_cdk 160 ∈ ab_gt := List.mem_filter.mpr ⟨List.mem_of_getElem? (i := 630) rfl, rfl⟩
set_option maxRecDepth 20000 in
theorem cd_161 : ab_cdk 161 ∈ ab_gt := List.mem_filter.mpr ⟨List.mem_of_getElem? (i := 268) rfl, rfl⟩
set_option maxRecDepth 20000 in
theorem cd_162 : ab_cdk 162 ∈ ab_gt := List.mem_filter.mpr ⟨List.mem_of_getElem? (i := 633) rfl, rfl⟩
set_option maxRecDepth 20000 in
theorem cd_163 : ab_cdk 163 ∈ ab_gt := List.mem_filter.mpr ⟨List.mem_of_getElem? (i := 638) rfl, rfl⟩
theorem ab_cda : ∀ {k : Nat}, k < 164 → ab_cdk k ∈ ab_gt
  | 0, _ => cd_0
  | 1, _ => cd_1
  | 2, _ => cd_2
  | 3, _ => cd_3
  | 4, _ => cd_4
  | 5, _ => cd_5
  | 6, _ => cd_6
  | 7, _ => cd_7
  | 8, _ => cd_8
  | 9, _ => cd_9
  | 10, _ => cd_10
  | 11, _ => cd_11
  | 12, _ => cd_12
  | 13, _ => cd_13
  | 14, _ => cd_14
  | 15, _ => cd_15
  | 16, _ => cd_16
  | 17, _ => cd_17
  | 18, _ => cd_18
  | 19, _ => cd_19
  | 20, _ => cd_20
  | 21, _ => cd_21
  | 22, _ => cd_22
  | 23, _ => cd_23
  | 24, _ => cd_24
  | 25, _ => cd_25
  | 26, _ => cd_26
  | 27, _ => cd_27
  | 28, _ => cd_28
  | 29, _ => cd_29
  | 30, _ => cd_30
  | 31, _ => cd_31
  | 32, _ => cd_32
  | 33, _ => cd_33
  | 34, _ => cd_34
  | 35, _ => cd_35
  | 36, _ => cd_36
  | 37, _ => cd_37
  | 38, _ => cd_38
  | 39, _ => cd_39
  | 40, _ => cd_40
  | 41, _ => cd_41
  | 42, _ => cd_42
  | 43, _ => cd_43
  | 44, _ => cd_44
  | 45, _ => cd_45
  | 46, _ => cd_46
  | 47, _ => cd_47
  | 48, _ => cd_48
  | 49, _ => cd_49
  | 50, _ => cd_50
  | 51, _ => cd_51
  | 52, _ => cd_52
  | 53, _ => cd_53
  | 54, _ => cd_54
  | 55, _ => cd_55
  | 56, _ => cd_56
  | 57, _ => cd_57
  | 58, _ => cd_58
  | 59, _ => cd_59
  | 60, _ => cd_60
  | 61, _ => cd_61
  | 62, _ => cd_62
  | 63, _ => cd_63
  | 64, _ => cd_64
  | 65, _ => cd_65
  | 66, _ => cd_66
  | 67, _ => cd_67
  | 68, _ => cd_68
  | 69, _ => cd_69
  | 70, _ => cd_70
  | 71, _ => cd_71
  | 72, _ => cd_72
  | 73, _ => cd_73
  | 74, _ => cd_74
  | 75, _ => cd_75
  | 76, _ => cd_76
  | 77, _ => cd_77
  | 78, _ => cd_78
  | 79, _ => cd_79
  | 80, _ => cd_80
  | 81, _ => cd_81
  | 82, _ => cd_82
  | 83, _ => cd_83
  | 84, _ => cd_84
  | 85, _ => cd_85
  | 86, _ => cd_86
  | 87, _ => cd_87
  | 88, _ => cd_88
  | 89, _ => cd_89
  | 90, _ => cd_90
  | 91, _ => cd_91
  | 92, _ => cd_92
  | 93, _ => cd_93
  | 94, _ => cd_94
  | 95, _ => cd_95
  | 96, _ => cd_96
  | 97, _ => cd_97
  | 98, _ => cd_98
  | 99, _ => cd_99
  | 100, _ => cd_100
  | 101, _ => cd_101
  | 102, _ => cd_102
  | 103, _ => cd_103
  | 104, _ => cd_104
  | 105, _ => cd_105
  | 106, _ => cd_106
  | 107, _ => cd_107
  | 108, _ => cd_108
  | 109, _ => cd_109
  | 110, _ => cd_110
  | 111, _ => cd_111
  | 112, _ => cd_112
  | 113, _ => cd_113
  | 114, _ => cd_114
  | 115, _ => cd_115
  | 116, _ => cd_116
  | 117, _ => cd_117
  | 118, _ => cd_118
  | 119, _ => cd_119
  | 120, _ => cd_120
  | 121, _ => cd_121
  | 122, _ => cd_122
  | 123, _ => cd_123
  | 124, _ => cd_124
  | 125, _ => cd_125
  | 126, _ => cd_126
  | 127, _ => cd_127
  | 128, _ => cd_128
  | 129, _ => cd_129
  | 130, _ => cd_130
  | 131, _ => cd_131
  | 132, _ => cd_132
  | 133, _ => cd_133
  | 134, _ => cd_134
  | 135, _ => cd_135
  | 136, _ => cd_136
  | 137, _ => cd_137
  | 138, _ => cd_138
  | 139, _ => cd_139
  | 140, _ => cd_140
  | 141, _ => cd_141
  | 142, _ => cd_142
  | 143, _ => cd_143
  | 144, _ => cd_144
  | 145, _ => cd_145
  | 146, _ => cd_146
  | 147, _ => cd_147
  | 148, _ => cd_148
  | 149, _ => cd_149
  | 150, _ => cd_150
  | 151, _ => cd_151
  | 152, _ => cd_152
  | 153, _ => cd_153
  | 154, _ => cd_154
  | 155, _ => cd_155
  | 156, _ => cd_156
  | 157, _ => cd_157
  | 158, _ => cd_158
  | 159, _ => cd_159
  | 160, _ => cd_160
  | 161, _ => cd_161
  | 162, _ => cd_162
  | 163, _ => cd_163
  | k + 164, h => absurd h (by omega)
def ab_cdp : List (List Nat) := [[54], [54], [54], [54], [54], [54], [54], [54], [54], [54], [54], [54], [54], [54], [54], [54], [54], [54], [54], [55], [55], [55], [55], [55], [55], [55], [55], [55], [55], [55], [55], [55], [55], [55], [55], [55], [55], [55], [55], [55], [55], [55], [69], [69], [69], [69], [61], [59], [57], [57], [57], [57], [57], [57], [57], [57], [57], [64], [64], [64], [64], [53], [53], [53], [53], [53], [53], [56], [56], [52], [52], [52], [52], [52], [52], [52], [52], [52], [52], [52], [52], [52], [52], [52], [52], [52], [52], [52], [52], [52], [52], [52], [52], [52], [52], [52], [52], [52], [52], [52], [52], [52], [52], [52], [52], [52], [52], [52], [52], [58], [58], [58], [58], [58], [58], [58], [58], [58], [58], [58], [58], [58], [58], [58], [58], [58], [58], [58], [58], [58], [58], [58], [58], [58], [58], [58], [58], [58], [58], [58], [58], [58], [58], [58], [58], [58], [58], [58], [58], [58], [58], [58], [58], [58], [58], [58], [65], [65], [65], [65], [66], [60], [65], [67]]
def ab_cln : List String := ["RoomForHelp", "RoomForHelp$AgreementReader", "RoomForHelp$BestPairing", "RoomForHelp$Fraction", "RoomForHelp$Helper", "RoomForHelp$Home", "RoomForHelp$Lasting", "RoomForHelp$Pair", "RoomForHelp$Tape", "RoomForHelp$Terms", "RoomForHelpModel", "java/lang/String", "java/lang/StringLatin1", "java/util/Arrays", "jdk/internal/util/Preconditions"]
theorem pn_0 : plainName "RoomForHelp" = true := by decide
theorem pn_1 : plainName "RoomForHelp$AgreementReader" = true := by decide
theorem pn_2 : plainName "RoomForHelp$BestPairing" = true := by decide
theorem pn_3 : plainName "RoomForHelp$Fraction" = true := by decide
theorem pn_4 : plainName "RoomForHelp$Helper" = true := by decide
theorem pn_5 : plainName "RoomForHelp$Home" = true := by decide
theorem pn_6 : plainName "RoomForHelp$Lasting" = true := by decide
theorem pn_7 : plainName "RoomForHelp$Pair" = true := by decide
theorem pn_8 : plainName "RoomForHelp$Tape" = true := by decide
theorem pn_9 : plainName "RoomForHelp$Terms" = true := by decide
theorem pn_10 : plainName "RoomForHelpModel" = true := by decide
theorem pn_11 : plainName "java/lang/String" = true := by decide
theorem pn_12 : plainName "java/lang/StringLatin1" = true := by decide
theorem pn_13 : plainName "java/util/Arrays" = true := by decide
theorem pn_14 : plainName "jdk/internal/util/Preconditions" = true := by decide
theorem ab_clp : ∀ c ∈ ab_cln, plainName c = true := List.forall_mem_cons.mpr ⟨pn_0, List.forall_mem_cons.mpr ⟨pn_1, List.forall_mem_cons.mpr ⟨pn_2, List.forall_mem_cons.mpr ⟨pn_3, List.forall_mem_cons.mpr ⟨pn_4, List.forall_mem_cons.mpr ⟨pn_5, List.forall_mem_cons.mpr ⟨pn_6, List.forall_mem_cons.mpr ⟨pn_7, List.forall_mem_cons.mpr ⟨pn_8, List.forall_mem_cons.mpr ⟨pn_9, List.forall_mem_cons.mpr ⟨pn_10, List.forall_mem_cons.mpr ⟨pn_11, List.forall_mem_cons.mpr ⟨pn_12, List.forall_mem_cons.mpr ⟨pn_13, List.forall_mem_cons.mpr ⟨pn_14, fun _ h => absurd h List.not_mem_nil⟩⟩⟩⟩⟩⟩⟩⟩⟩⟩⟩⟩⟩⟩⟩
def ab_cdf (e : Nat) (p : List Nat) : Bool := ab_mems p [Cond.initialized (ab_nm e).cls] && (decide ((ab_nm e).cls ≠ "java/lang/invoke/MethodHandle" ∧ (ab_nm e).cls ≠ "java/lang/invoke/VarHandle") && (ab_cln.elem (ab_nm e).cls && decide (ab_ml e ≤ 30)))
theorem ab_cds : ((List.range 164).length == ab_cdp.length && ((List.range 164).zip ab_cdp).all (fun q => ab_cdf q.1 q.2)) = true := by decide +kernel
theorem ab_cdok {k : Nat} (h : k < 164) : ab_cdk k ∈ ab_gt ∧ Cond.initialized (ab_nm k).cls ∈ ab_gt ∧ ((ab_nm k).cls ≠ "java/lang/invoke/MethodHandle" ∧ (ab_nm k).cls ≠ "java/lang/invoke/VarHandle") ∧ plainName (ab_nm k).cls = true ∧ ab_ml k ≤ 30 := by
  obtain ⟨p, h1⟩ := ab_zipat (f := ab_cdf) ab_cds (List.mem_range.mpr h)
  simp only [ab_cdf, Bool.and_eq_true, decide_eq_true_eq] at h1
  have h2 := ab_mems_ok h1.1
  exact ⟨ab_cda h, h2 _ List.mem_cons_self, h1.2.1, ab_clp _ (List.elem_iff.mp h1.2.2.1), h1.2.2.2⟩
def ab_CVp : List (List Nat) := [[340, 342, 0], [348, 350, 1], [356, 358, 2], [368, 370, 4], [463, 464, 465], [471, 472, 473], [480, 481, 482], [488, 490, 17], [492, 493, 494], [524, 525, 526], [533, 535, 18], [541, 542, 543], [545, 546, 547], [549, 550, 551], [557, 558, 559], [565, 566, 567], [678, 679, 680], [682, 683, 684], [691, 692, 693], [695, 696, 697], [703, 705, 28], [710, 711, 712], [726, 727, 728], [734, 735, 736], [743, 744, 745], [785, 786, 787], [798, 799, 800], [802, 803, 804], [810, 812, 31], [814, 816, 32], [360, 362, 3], [372, 374, 5], [389, 390, 391], [393, 394, 395], [397, 399, 6], [413, 414, 415], [376, 377, 378], [381, 382, 383], [385, 386, 387], [401, 402, 403], [405, 406, 407], [409, 410, 411], [569, 571, 19], [574, 576, 20], [586, 588, 21], [590, 592, 22], [662, 664, 26], [658, 660, 25], [594, 596, 23], [666, 668, 27], [606, 608, 24], [610, 611, 612], [579, 580, 581], [620, 621, 622], [578, 550, 551], [475, 406, 407], [417, 419, 7], [432, 434, 10], [421, 423, 8], [425, 427, 9], [436, 438, 11], [452, 454, 15], [459, 461, 16], [440, 442, 12], [444, 446, 13], [448, 450, 14], [762, 764, 29], [770, 772, 30], [789, 790, 791], [766, 767, 768], [774, 775, 776], [251, 252, 253], [964, 965, 966], [298, 299, 300], [977, 978, 979], [336, 337, 338], [982, 983, 984], [344, 345, 346], [990, 991, 992], [352, 353, 354], [999, 1000, 1001], [364, 365, 366], [1007, 1008, 1009], [467, 468, 469], [1039, 1040, 1041], [476, 477, 478], [1043, 1044, 1045], [484, 485, 486], [1047, 1048, 1049], [529, 530, 531], [1055, 1056, 1057], [537, 538, 539], [1064, 1065, 1066], [553, 554, 555], [1072, 1073, 1074], [561, 562, 563], [1076, 1077, 1078], [687, 688, 689], [1113, 1114, 1115], [699, 700, 701], [1117, 1118, 1119], [714, 715, 716], [1122, 1123, 1124], [718, 719, 720], [1126, 1127, 1128], [722, 723, 724], [1132, 1133, 1134], [730, 731, 732], [1136, 1137, 1138], [738, 739, 740], [1140, 1141, 1142], [781, 782, 783], [1155, 1156, 1157], [794, 795, 796], [1159, 1160, 1161], [806, 807, 808], [1163, 1164, 1165], [986, 988, 33], [994, 996, 34], [1003, 1005, 35], [1019, 1021, 38], [1015, 1017, 37], [1023, 1025, 39], [1035, 1037, 42], [1027, 1029, 40], [1031, 1033, 41], [1011, 1013, 36], [1051, 1053, 43], [1060, 1062, 44], [1068, 1070, 45], [1106, 1108, 48], [1080, 1082, 46], [1102, 1104, 47], [1131, 1123, 1124], [1148, 1150, 50], [1144, 1146, 49], [614, 615, 616], [624, 625, 626]]
def ab_CVf (e : String × Nat × Nat × Nat) (p : List Nat) : Bool := decide (e.2.2.1 < 164) && (ab_mems p [Cond.methodLink e.1 e.2.1 (ab_nm e.2.2.1), Cond.instanceMethod (ab_nm e.2.2.1), Cond.selects (ab_nm e.2.2.1).cls (ab_nm e.2.2.1) (ab_nm e.2.2.1)] && (decide ((parseMethodDescriptor (ab_nm e.2.2.1).desc).map (fun d => d.parameters.length + 1) = some e.2.2.2) && decide ((ab_ct e.2.2.1 < 11 ∧ (ab_nm e.2.2.1).cls = (ab_q (ab_ct e.2.2.1)).1) ∨ (ab_ct e.2.2.1 = 21 ∧ (ab_nm e.2.2.1).cls = "java/lang/String"))))
theorem ab_CVs : (ab_CV.length == ab_CVp.length && (ab_CV.zip ab_CVp).all (fun q => ab_CVf q.1 q.2)) = true := by decide +kernel
theorem ab_CVok {own : String} {x a b : Nat} (h : ab_CV.elem (own, x, a, b) = true) : a < 164 ∧ Cond.methodLink own x (ab_nm a) ∈ ab_gt ∧ Cond.instanceMethod (ab_nm a) ∈ ab_gt ∧ Cond.selects (ab_nm a).cls (ab_nm a) (ab_nm a) ∈ ab_gt ∧ (parseMethodDescriptor (ab_nm a).desc).map (fun d => d.parameters.length + 1) = some b ∧ ((ab_ct a < 11 ∧ (ab_nm a).cls = (ab_q (ab_ct a)).1) ∨ (ab_ct a = 21 ∧ (ab_nm a).cls = "java/lang/String")) := by
  obtain ⟨p, h1⟩ := ab_zipat (f := ab_CVf) ab_CVs (List.elem_iff.mp h)
  simp only [ab_CVf, Bool.and_eq_true, decide_eq_true_eq] at h1
  have h2 := ab_mems_ok h1.2.1
  exact ⟨h1.1, h2 _ List.mem_cons_self, h2 _ (List.mem_cons_of_mem _ List.mem_cons_self), h2 _ (List.mem_cons_of_mem _ (List.mem_cons_of_mem _ List.mem_cons_self)), h1.2.2.1, h1.2.2.2⟩
def ab_CSp : List (List Nat) := [[176, 177], [255, 256], [258, 259], [302, 303], [528, 267], [707, 708], [573, 177], [673, 674], [598, 599], [583, 584], [380, 267], [778, 779], [310, 267], [266, 267], [969, 970], [972, 973], [1084, 1085], [1092, 1093], [1152, 1153], [628, 629], [636, 637], [631, 632]]
def ab_CSf (e : String × Nat × Nat × Nat) (p : List Nat) : Bool := decide (e.2.2.1 < 164) && (ab_mems p [Cond.methodLink e.1 e.2.1 (ab_nm e.2.2.1), Cond.static (ab_nm e.2.2.1)] && decide ((parseMethodDescriptor (ab_nm e.2.2.1).desc).map (fun d => d.parameters.length) = some e.2.2.2))
theorem ab_CSs : (ab_CS.length == ab_CSp.length && (ab_CS.zip ab_CSp).all (fun q => ab_CSf q.1 q.2)) = true := by decide +kernel
theorem ab_CSok {own : String} {x a b : Nat} (h : ab_CS.elem (own, x, a, b) = true) : a < 164 ∧ Cond.methodLink own x (ab_nm a) ∈ ab_gt ∧ Cond.static (ab_nm a) ∈ ab_gt ∧ (parseMethodDescriptor (ab_nm a).desc).map (fun d => d.parameters.length) = some b := by
  obtain ⟨p, h1⟩ := ab_zipat (f := ab_CSf) ab_CSs (List.elem_iff.mp h)
  simp only [ab_CSf, Bool.and_eq_true, decide_eq_true_eq] at h1
  have h2 := ab_mems_ok h1.2.1
  exact ⟨h1.1, h2 _ List.mem_cons_self, h2 _ (List.mem_cons_of_mem _ List.mem_cons_self), h1.2.2⟩
def ab_CIp : List (List Nat) := [[181, 182], [262, 263], [306, 307], [498, 499], [72, 73], [820, 821]]
def ab_CIf (e : String × Nat × Nat × Nat) (p : List Nat) : Bool := decide (e.2.2.1 < 164) && (ab_mems p [Cond.methodLink e.1 e.2.1 (ab_nm e.2.2.1), Cond.instanceMethod (ab_nm e.2.2.1)] && (decide ((ab_nm e.2.2.1).name = "<init>") && (decide ((parseMethodDescriptor (ab_nm e.2.2.1).desc).map (fun d => d.parameters.length + 1) = some e.2.2.2) && decide (ab_rt e.2.2.1 = none))))
theorem ab_CIs : (ab_CI.length == ab_CIp.length && (ab_CI.zip ab_CIp).all (fun q => ab_CIf q.1 q.2)) = true := by decide +kernel
theorem ab_CIok {own : String} {x a b : Nat} (h : ab_CI.elem (own, x, a, b) = true) : a < 164 ∧ Cond.methodLink own x (ab_nm a) ∈ ab_gt ∧ Cond.instanceMethod (ab_nm a) ∈ ab_gt ∧ (ab_nm a).name = "<init>" ∧ (parseMethodDescriptor (ab_nm a).desc).map (fun d => d.parameters.length + 1) = some b ∧ ab_rt a = none := by
  obtain ⟨p, h1⟩ := ab_zipat (f := ab_CIf) ab_CIs (List.elem_iff.mp h)
  simp only [ab_CIf, Bool.and_eq_true, decide_eq_true_eq] at h1
  have h2 := ab_mems_ok h1.2.1
  exact ⟨h1.1, h2 _ List.mem_cons_self, h2 _ (List.mem_cons_of_mem _ List.mem_cons_self), h1.2.2.1, h1.2.2.2.1, h1.2.2.2.2⟩
def ab_CNp : List (List Nat) := [[87], [101], [132], [208], [750]]
def ab_CNf (e : String × Nat × Nat × Nat) (p : List Nat) : Bool := decide (e.2.2.1 < 164) && (ab_mems p [Cond.instanceMethod (ab_nm e.2.2.1)] && (decide ((ab_nm e.2.2.1).name = "<init>") && (decide ((parseMethodDescriptor (ab_nm e.2.2.1).desc).map (fun d => d.parameters.length + 1) = some e.2.2.2) && decide (ab_rt e.2.2.1 = none))))
theorem ab_CNs : (ab_CN.length == ab_CNp.length && (ab_CN.zip ab_CNp).all (fun q => ab_CNf q.1 q.2)) = true := by decide +kernel
theorem ab_CNok {own : String} {x a b : Nat} (h : ab_CN.elem (own, x, a, b) = true) : a < 164 ∧ Cond.instanceMethod (ab_nm a) ∈ ab_gt ∧ (ab_nm a).name = "<init>" ∧ (parseMethodDescriptor (ab_nm a).desc).map (fun d => d.parameters.length + 1) = some b ∧ ab_rt a = none := by
  obtain ⟨p, h1⟩ := ab_zipat (f := ab_CNf) ab_CNs (List.elem_iff.mp h)
  simp only [ab_CNf, Bool.and_eq_true, decide_eq_true_eq] at h1
  have h2 := ab_mems_ok h1.2.1
  exact ⟨h1.1, h2 _ List.mem_cons_self, h1.2.2.1, h1.2.2.2.1, h1.2.2.2.2⟩
def ab_LCp : List (List Nat) := [[742], [793], [975], [968], [976], [981], [998], [1059], [1087], [1088], [1089], [1090], [1095], [1096], [1097], [1098], [1091], [1099], [1100], [1110], [1111], [1112], [1121], [1130], [1167], [1168]]
def ab_LCf (e : String × Nat × Nat × Nat) (p : List Nat) : Bool := ab_mems p [Cond.constantLong e.1 e.2.1 (Int64.ofInt (if e.2.2.2 = 0 then (e.2.2.1 : Int) else -(e.2.2.1 : Int)))] && decide (ab_wl (if e.2.2.2 = 0 then (e.2.2.1 : Int) else -(e.2.2.1 : Int)) = (if e.2.2.2 = 0 then (e.2.2.1 : Int) else -(e.2.2.1 : Int)))
theorem ab_LCs : (ab_LC.length == ab_LCp.length && (ab_LC.zip ab_LCp).all (fun q => ab_LCf q.1 q.2)) = true := by decide +kernel
def ab_ICp : List (List Nat) := [[1101]]
def ab_ICf (e : String × Nat × Nat) (p : List Nat) : Bool := ab_mems p [Cond.constant e.1 e.2.1 (Int32.ofInt (e.2.2 : Int))] && decide (ab_wr (e.2.2 : Int) = (e.2.2 : Int))
theorem ab_ICs : (ab_IC.length == ab_ICp.length && (ab_IC.zip ab_ICp).all (fun q => ab_ICf q.1 q.2)) = true := by decide +kernel
def ab_NWp : List (List Nat) := [[78], [80], [82], [84], [98], [129], [174], [496], [747], [70], [818]]
def ab_NWf (e : String × Nat × Nat) (p : List Nat) : Bool := decide (e.2.2 < 11) && ab_mems p [Cond.classLink e.1 e.2.1 (ab_q e.2.2).1]
theorem ab_NWs : (ab_NW.length == ab_NWp.length && (ab_NW.zip ab_NWp).all (fun q => ab_NWf q.1 q.2)) = true := by decide +kernel
def ab_el (t : Nat) : String := bif Nat.beq t 14 then "RoomForHelp$Helper" else bif Nat.beq t 15 then "RoomForHelp$Home" else bif Nat.beq t 16 then "RoomForHelp$Lasting" else "RoomForHelp$Pair"
def ab_ANp : List (List Nat) := [[78], [80], [82], [211]]
def ab_ANf (e : String × Nat × Nat) (p : List Nat) : Bool := decide (14 ≤ e.2.2 ∧ e.2.2 ≤ 17) && ab_mems p [Cond.classLink e.1 e.2.1 (ab_el e.2.2)]
theorem ab_ANs : (ab_AN.length == ab_ANp.length && (ab_AN.zip ab_ANp).all (fun q => ab_ANf q.1 q.2)) = true := by decide +kernel
def ab_OIp : List (List Nat) := [[75], [103], [134], [752], [309], [265], [210], [501], [89], [184], [823]]
def ab_OIf (e : String × Nat × Nat) (p : List Nat) : Bool := decide (e.2.2 = 999) && ab_mems p [Cond.methodLink e.1 e.2.1 Lib.objectInit]
theorem ab_OIs : (ab_OI.length == ab_OIp.length && (ab_OI.zip ab_OIp).all (fun q => ab_OIf q.1 q.2)) = true := by decide +kernel
theorem ab_obj : Cond.instanceMethod Lib.objectInit ∈ ab_gt ∧ Cond.code Lib.objectInit ⟨#[0xb1]⟩ 1 none ∈ ab_gt := ⟨ab_mem_ok (p := 76) (by decide +kernel), ab_mem_ok (p := 77) (by decide +kernel)⟩
def ab_acn (a : Nat) : MethodName := bif Nat.beq a 996 then Lib.Math.max.name else bif Nat.beq a 997 then Lib.Math.min.name else arraycopyName
def ab_ACp : List (List Nat) := [[670, 671], [429, 430], [456, 457]]
def ab_ACf (e : String × Nat × Nat) (p : List Nat) : Bool := decide (996 ≤ e.2.2 ∧ e.2.2 ≤ 998) && ab_mems p [Cond.methodLink e.1 e.2.1 (ab_acn e.2.2), Cond.static (ab_acn e.2.2)]
theorem ab_ACs : (ab_AC.length == ab_ACp.length && (ab_AC.zip ab_ACp).all (fun q => ab_ACf q.1 q.2)) = true := by decide +kernel
theorem ab_jdk : Cond.native arraycopyName ∈ ab_gt ∧ Cond.initialized "java/lang/System" ∈ ab_gt ∧ Cond.initialized "java/lang/Math" ∈ ab_gt ∧ Cond.code Lib.Math.max.name Lib.Math.max.code 2 (some .int) ∈ ab_gt ∧ Cond.code Lib.Math.min.name Lib.Math.min.code 2 (some .int) ∈ ab_gt := ⟨ab_mem_ok (p := 458) (by decide +kernel), ab_mem_ok (p := 63) (by decide +kernel), ab_mem_ok (p := 62) (by decide +kernel), ab_mem_ok (p := 431) (by decide +kernel), ab_mem_ok (p := 672) (by decide +kernel)⟩
theorem ab_good : GoodIn ab_gt ab_gt := fun w hw => ⟨hw, good_of_word (List.mem_filter.mp hw).2⟩
