section
variable {p : Program} {la : Launch} {e : Env} {R : Room} {s : State} {m : MethodId} {args : Array Value} {below : List Frame} {meth : Method} {c : Code} {Q : State → Prop} {D : va_G} {cy : Nat → ClassId} {base c0 s0 k nL : Nat} {adS ad : Nat → Nat → Nat} {μS μ : ab_M} {H : Heap} {locs : List Loc} {cells slots : Nat} {ls ls' : Array Slot} {lo lo' : ab_L} {st st' r : List ab_V} {pc nx a b : Nat}
theorem ab_Z_ok (z : ab_Z D cy base c0 s0 nL adS μS s ad μ H locs cells slots ls lo st) : ∀ v ∈ st, ab_ok μ v := z.2.2.2.2.2.2.2.2.2
theorem ab_Z_lv (z : ab_Z D cy base c0 s0 nL adS μS s ad μ H locs cells slots ls lo st) : lv_has ls nL (lo.map (fun q => (q.1, ab_c ad q.2))) := z.2.2.2.2.2.2.2.1
theorem ab_Z_lo (z : ab_Z D cy base c0 s0 nL adS μS s ad μ H locs cells slots ls lo st) : ∀ q ∈ lo, ab_ok μ q.2 := z.2.2.2.2.2.2.2.2.1
theorem s_iconst {z : Int} (X : ab_X p R s m args meth c D cy base k adS μS) (hd : decode (ab_cd k) pc = .ok (.iconst z, 1)) (hz : ab_sm 127 z = true) (K : (ab_G p la e R s m args below meth c Q D cy base c0 s0 k adS μS μ (pc + 1) lo (ab_i z :: st))) : (ab_G p la e R s m args below meth c Q D cy base c0 s0 k adS μS μ (pc) lo (st)) := by
  intro ad H locs cells slots ls Z
  have := ab_sm_ok hz
  exact lv_iconst X.1 X.2.1 hd rfl (K ad H locs cells slots ls (ab_Z_st Z (ab_okc (ab_wr_id (by omega) (by omega)) (ab_Z_ok Z))))
theorem s_bipush {z : Int} (X : ab_X p R s m args meth c D cy base k adS μS) (hd : decode (ab_cd k) pc = .ok (.bipush z, 2)) (hz : ab_sm 127 z = true) (K : (ab_G p la e R s m args below meth c Q D cy base c0 s0 k adS μS μ (pc + 2) lo (ab_i z :: st))) : (ab_G p la e R s m args below meth c Q D cy base c0 s0 k adS μS μ (pc) lo (st)) := by
  intro ad H locs cells slots ls Z
  have := ab_sm_ok hz
  exact lv_bipush X.1 X.2.1 hd (ab_b8 hz) (K ad H locs cells slots ls (ab_Z_st Z (ab_okc (ab_wr_id (by omega) (by omega)) (ab_Z_ok Z))))
theorem s_sipush {z : Int} (X : ab_X p R s m args meth c D cy base k adS μS) (hd : decode (ab_cd k) pc = .ok (.sipush z, 3)) (hz : ab_sm 32767 z = true) (K : (ab_G p la e R s m args below meth c Q D cy base c0 s0 k adS μS μ (pc + 3) lo (ab_i z :: st))) : (ab_G p la e R s m args below meth c Q D cy base c0 s0 k adS μS μ (pc) lo (st)) := by
  intro ad H locs cells slots ls Z
  have := ab_sm_ok hz
  exact lv_sipush X.1 X.2.1 hd (ab_b16 hz) (K ad H locs cells slots ls (ab_Z_st Z (ab_okc (ab_wr_id (by omega) (by omega)) (ab_Z_ok Z))))
theorem s_lconst {z : Fin 2} (X : ab_X p R s m args meth c D cy base k adS μS) (hd : decode (ab_cd k) pc = .ok (.lconst z, 1)) (K : (ab_G p la e R s m args below meth c Q D cy base c0 s0 k adS μS μ (pc + 1) lo (ab_l ((z : Nat) : Int) :: st))) : (ab_G p la e R s m args below meth c Q D cy base c0 s0 k adS μS μ (pc) lo (st)) := by
  intro ad H locs cells slots ls Z
  have hz := z.isLt
  exact lv_lconst X.1 X.2.1 hd (by rw [← Int64.ofInt_eq_ofNat]) (K ad H locs cells slots ls (ab_Z_st Z (ab_okc (ab_wl_id (by omega) (by omega)) (ab_Z_ok Z))))
theorem s_null (X : ab_X p R s m args meth c D cy base k adS μS) (hd : decode (ab_cd k) pc = .ok (.aconst_null, 1)) (K : (ab_G p la e R s m args below meth c Q D cy base c0 s0 k adS μS μ (pc + 1) lo (ab_r 99 none :: st))) : (ab_G p la e R s m args below meth c Q D cy base c0 s0 k adS μS μ (pc) lo (st)) := by
  intro ad H locs cells slots ls Z
  exact lv_null X.1 X.2.1 hd (K ad H locs cells slots ls (ab_Z_st Z (ab_okc (fun n h => by cases h) (ab_Z_ok Z))))
theorem s_iload {j : Nat} {z : Int} (X : ab_X p R s m args meth c D cy base k adS μS) (hd : decode (ab_cd k) pc = .ok (.iload j, 2)) (hk : ab_lk lo j = some (ab_i z)) (K : (ab_G p la e R s m args below meth c Q D cy base c0 s0 k adS μS μ (pc + 2) lo (ab_i z :: st))) : (ab_G p la e R s m args below meth c Q D cy base c0 s0 k adS μS μ (pc) lo (st)) := by
  intro ad H locs cells slots ls Z
  exact lv_iload X.1 X.2.1 hd (ab_ld_at (ab_Z_lv Z) hk) (K ad H locs cells slots ls (ab_Z_st Z (ab_okc (ab_Z_lo Z _ (ab_lk_mem hk)) (ab_Z_ok Z))))
theorem s_iload_n {j : Fin 4} {z : Int} (X : ab_X p R s m args meth c D cy base k adS μS) (hd : decode (ab_cd k) pc = .ok (.iload_n j, 1)) (hk : ab_lk lo j = some (ab_i z)) (K : (ab_G p la e R s m args below meth c Q D cy base c0 s0 k adS μS μ (pc + 1) lo (ab_i z :: st))) : (ab_G p la e R s m args below meth c Q D cy base c0 s0 k adS μS μ (pc) lo (st)) := by
  intro ad H locs cells slots ls Z
  exact lv_iload_n X.1 X.2.1 hd rfl (ab_ld_at (ab_Z_lv Z) hk) (K ad H locs cells slots ls (ab_Z_st Z (ab_okc (ab_Z_lo Z _ (ab_lk_mem hk)) (ab_Z_ok Z))))
theorem s_lload {j : Nat} {z : Int} (X : ab_X p R s m args meth c D cy base k adS μS) (hd : decode (ab_cd k) pc = .ok (.lload j, 2)) (hk : ab_lk lo j = some (ab_l z)) (K : (ab_G p la e R s m args below meth c Q D cy base c0 s0 k adS μS μ (pc + 2) lo (ab_l z :: st))) : (ab_G p la e R s m args below meth c Q D cy base c0 s0 k adS μS μ (pc) lo (st)) := by
  intro ad H locs cells slots ls Z
  exact lv_lload X.1 X.2.1 hd (ab_ld_at (ab_Z_lv Z) hk) (K ad H locs cells slots ls (ab_Z_st Z (ab_okc (ab_Z_lo Z _ (ab_lk_mem hk)) (ab_Z_ok Z))))
theorem s_lload_n {j : Fin 4} {z : Int} (X : ab_X p R s m args meth c D cy base k adS μS) (hd : decode (ab_cd k) pc = .ok (.lload_n j, 1)) (hk : ab_lk lo j = some (ab_l z)) (K : (ab_G p la e R s m args below meth c Q D cy base c0 s0 k adS μS μ (pc + 1) lo (ab_l z :: st))) : (ab_G p la e R s m args below meth c Q D cy base c0 s0 k adS μS μ (pc) lo (st)) := by
  intro ad H locs cells slots ls Z
  exact lv_lload_n X.1 X.2.1 hd rfl (ab_ld_at (ab_Z_lv Z) hk) (K ad H locs cells slots ls (ab_Z_st Z (ab_okc (ab_Z_lo Z _ (ab_lk_mem hk)) (ab_Z_ok Z))))
theorem s_aload {j : Nat} {t : Nat} {o : Option Nat} (X : ab_X p R s m args meth c D cy base k adS μS) (hd : decode (ab_cd k) pc = .ok (.aload j, 2)) (hk : ab_lk lo j = some (ab_r t o)) (K : (ab_G p la e R s m args below meth c Q D cy base c0 s0 k adS μS μ (pc + 2) lo (ab_r t o :: st))) : (ab_G p la e R s m args below meth c Q D cy base c0 s0 k adS μS μ (pc) lo (st)) := by
  intro ad H locs cells slots ls Z
  have K := K ad H locs cells slots ls (ab_Z_st Z (ab_okc (ab_Z_lo Z _ (ab_lk_mem hk)) (ab_Z_ok Z)))
  cases o with
  | none => exact lv_aloadN X.1 X.2.1 hd (ab_ld_at (ab_Z_lv Z) hk) K
  | some n => exact lv_aload X.1 X.2.1 hd (ab_ld_at (ab_Z_lv Z) hk) K
theorem s_aload_n {j : Fin 4} {t : Nat} {o : Option Nat} (X : ab_X p R s m args meth c D cy base k adS μS) (hd : decode (ab_cd k) pc = .ok (.aload_n j, 1)) (hk : ab_lk lo j = some (ab_r t o)) (K : (ab_G p la e R s m args below meth c Q D cy base c0 s0 k adS μS μ (pc + 1) lo (ab_r t o :: st))) : (ab_G p la e R s m args below meth c Q D cy base c0 s0 k adS μS μ (pc) lo (st)) := by
  intro ad H locs cells slots ls Z
  have K := K ad H locs cells slots ls (ab_Z_st Z (ab_okc (ab_Z_lo Z _ (ab_lk_mem hk)) (ab_Z_ok Z)))
  cases o with
  | none => exact lv_aload_nN X.1 X.2.1 hd rfl (ab_ld_at (ab_Z_lv Z) hk) K
  | some n => exact lv_aload_n X.1 X.2.1 hd rfl (ab_ld_at (ab_Z_lv Z) hk) K
theorem s_istore {j : Nat} {z : Int} (X : ab_X p R s m args meth c D cy base k adS μS) (hd : decode (ab_cd k) pc = .ok (.istore j, 2)) (hj : (j : Nat) < ab_ml k) (hn : ab_nc lo j 1 = true) (K : (ab_G p la e R s m args below meth c Q D cy base c0 s0 k adS μS μ (pc + 2) (ab_up lo j (ab_i z)) (r))) : (ab_G p la e R s m args below meth c Q D cy base c0 s0 k adS μS μ (pc) lo (ab_i z :: r)) := by
  intro ad H locs cells slots ls Z
  have hv := ab_oks (ab_Z_ok Z)
  exact lv_istore X.1 X.2.1 hd (ab_Z_lv Z) hj rfl (fun ls' hl => K ad H locs cells slots ls' (ab_Z_up Z hv.1 hn (ab_st1 rfl hn hl) hv.2))
theorem s_istore_n {j : Fin 4} {z : Int} (X : ab_X p R s m args meth c D cy base k adS μS) (hd : decode (ab_cd k) pc = .ok (.istore_n j, 1)) (hj : (j : Nat) < ab_ml k) (hn : ab_nc lo j 1 = true) (K : (ab_G p la e R s m args below meth c Q D cy base c0 s0 k adS μS μ (pc + 1) (ab_up lo j (ab_i z)) (r))) : (ab_G p la e R s m args below meth c Q D cy base c0 s0 k adS μS μ (pc) lo (ab_i z :: r)) := by
  intro ad H locs cells slots ls Z
  have hv := ab_oks (ab_Z_ok Z)
  exact lv_istore_n X.1 X.2.1 hd rfl (ab_Z_lv Z) hj rfl (fun ls' hl => K ad H locs cells slots ls' (ab_Z_up Z hv.1 hn (ab_st1 rfl hn hl) hv.2))
theorem s_lstore {j : Nat} {z : Int} (X : ab_X p R s m args meth c D cy base k adS μS) (hd : decode (ab_cd k) pc = .ok (.lstore j, 2)) (hj : (j : Nat) + 1 < ab_ml k) (hn : ab_nc lo j 2 = true) (K : (ab_G p la e R s m args below meth c Q D cy base c0 s0 k adS μS μ (pc + 2) (ab_up lo j (ab_l z)) (r))) : (ab_G p la e R s m args below meth c Q D cy base c0 s0 k adS μS μ (pc) lo (ab_l z :: r)) := by
  intro ad H locs cells slots ls Z
  have hv := ab_oks (ab_Z_ok Z)
  exact lv_lstore X.1 X.2.1 hd (ab_Z_lv Z) hj rfl (fun ls' hl => K ad H locs cells slots ls' (ab_Z_up Z hv.1 hn (ab_st2 rfl hn hl) hv.2))
theorem s_lstore_n {j : Fin 4} {z : Int} (X : ab_X p R s m args meth c D cy base k adS μS) (hd : decode (ab_cd k) pc = .ok (.lstore_n j, 1)) (hj : (j : Nat) + 1 < ab_ml k) (hn : ab_nc lo j 2 = true) (K : (ab_G p la e R s m args below meth c Q D cy base c0 s0 k adS μS μ (pc + 1) (ab_up lo j (ab_l z)) (r))) : (ab_G p la e R s m args below meth c Q D cy base c0 s0 k adS μS μ (pc) lo (ab_l z :: r)) := by
  intro ad H locs cells slots ls Z
  have hv := ab_oks (ab_Z_ok Z)
  exact lv_lstore_n X.1 X.2.1 hd rfl (ab_Z_lv Z) hj rfl (fun ls' hl => K ad H locs cells slots ls' (ab_Z_up Z hv.1 hn (ab_st2 rfl hn hl) hv.2))
theorem s_astore {j : Nat} {t : Nat} {o : Option Nat} (X : ab_X p R s m args meth c D cy base k adS μS) (hd : decode (ab_cd k) pc = .ok (.astore j, 2)) (hj : (j : Nat) < ab_ml k) (hn : ab_nc lo j 1 = true) (K : (ab_G p la e R s m args below meth c Q D cy base c0 s0 k adS μS μ (pc + 2) (ab_up lo j (ab_r t o)) (r))) : (ab_G p la e R s m args below meth c Q D cy base c0 s0 k adS μS μ (pc) lo (ab_r t o :: r)) := by
  intro ad H locs cells slots ls Z
  have hv := ab_oks (ab_Z_ok Z)
  have K := fun ls' (hl : lv_has ls' (ab_ml k) _) => K ad H locs cells slots ls' (ab_Z_up Z hv.1 hn (ab_st1 rfl hn hl) hv.2)
  cases o with
  | none => exact lv_astoreN X.1 X.2.1 hd (ab_Z_lv Z) hj rfl K
  | some n => exact lv_astore X.1 X.2.1 hd (ab_Z_lv Z) hj rfl K
theorem s_astore_n {j : Fin 4} {t : Nat} {o : Option Nat} (X : ab_X p R s m args meth c D cy base k adS μS) (hd : decode (ab_cd k) pc = .ok (.astore_n j, 1)) (hj : (j : Nat) < ab_ml k) (hn : ab_nc lo j 1 = true) (K : (ab_G p la e R s m args below meth c Q D cy base c0 s0 k adS μS μ (pc + 1) (ab_up lo j (ab_r t o)) (r))) : (ab_G p la e R s m args below meth c Q D cy base c0 s0 k adS μS μ (pc) lo (ab_r t o :: r)) := by
  intro ad H locs cells slots ls Z
  have hv := ab_oks (ab_Z_ok Z)
  have K := fun ls' (hl : lv_has ls' (ab_ml k) _) => K ad H locs cells slots ls' (ab_Z_up Z hv.1 hn (ab_st1 rfl hn hl) hv.2)
  cases o with
  | none => exact lv_astore_nN X.1 X.2.1 hd rfl (ab_Z_lv Z) hj rfl K
  | some n => exact lv_astore_n X.1 X.2.1 hd rfl (ab_Z_lv Z) hj rfl K
theorem s_iinc {j : Nat} {x z : Int} (X : ab_X p R s m args meth c D cy base k adS μS) (hd : decode (ab_cd k) pc = .ok (.iinc j z, 3)) (hj : j < ab_ml k) (hk : ab_lk lo j = some (ab_i x)) (hn : ab_nc lo j 1 = true) (K : (ab_G p la e R s m args below meth c Q D cy base c0 s0 k adS μS μ (pc + 3) (ab_up lo j (ab_i (ab_wr (x + z)))) (st))) : (ab_G p la e R s m args below meth c Q D cy base c0 s0 k adS μS μ (pc) lo (st)) := by
  intro ad H locs cells slots ls Z
  obtain ⟨q, hq⟩ := List.getElem?_of_mem (List.mem_map.mpr ⟨(j, ab_i x), ab_lk_mem hk, rfl⟩ : (j, Value.int (Int32.ofInt x)) ∈ lo.map (fun q => (q.1, ab_c ad q.2)))
  have e1 : Int32.ofInt x + Int32.ofInt z = Int32.ofInt (ab_wr (x + z)) := by rw [ab_of_wr, Int32.ofInt_add]
  exact lv_iinc X.1 X.2.1 hd (ab_Z_lv Z) hq e1 hj rfl (fun ls' hl => K ad H locs cells slots ls' (ab_Z_up Z (ab_wr_wr _) hn (ab_st1 rfl hn hl) (ab_Z_ok Z)))
theorem s_iadd {x y : Int} (X : ab_X p R s m args meth c D cy base k adS μS) (hd : decode (ab_cd k) pc = .ok (.iadd, 1)) (K : (ab_G p la e R s m args below meth c Q D cy base c0 s0 k adS μS μ (pc + 1) lo (ab_i (ab_wr (x + y)) :: r))) : (ab_G p la e R s m args below meth c Q D cy base c0 s0 k adS μS μ (pc) lo (ab_i y :: ab_i x :: r)) := by
  intro ad H locs cells slots ls Z
  have hv := ab_oks (ab_oks (ab_Z_ok Z)).2
  have e1 : Int32.ofInt (ab_wr (x + y)) = Int32.ofInt x + Int32.ofInt y := by rw [ab_of_wr, Int32.ofInt_add]
  refine lv_iadd X.1 X.2.1 hd ?_
  rw [← e1]
  exact K ad H locs cells slots ls (ab_Z_st Z (ab_okc (ab_wr_of _) hv.2))
theorem s_isub {x y : Int} (X : ab_X p R s m args meth c D cy base k adS μS) (hd : decode (ab_cd k) pc = .ok (.isub, 1)) (K : (ab_G p la e R s m args below meth c Q D cy base c0 s0 k adS μS μ (pc + 1) lo (ab_i (ab_wr (x - y)) :: r))) : (ab_G p la e R s m args below meth c Q D cy base c0 s0 k adS μS μ (pc) lo (ab_i y :: ab_i x :: r)) := by
  intro ad H locs cells slots ls Z
  have hv := ab_oks (ab_oks (ab_Z_ok Z)).2
  have e1 : Int32.ofInt (ab_wr (x - y)) = Int32.ofInt x - Int32.ofInt y := by rw [ab_of_wr, Int32.ofInt_sub]
  refine lv_isub X.1 X.2.1 hd ?_
  rw [← e1]
  exact K ad H locs cells slots ls (ab_Z_st Z (ab_okc (ab_wr_of _) hv.2))
theorem s_imul {x y : Int} (X : ab_X p R s m args meth c D cy base k adS μS) (hd : decode (ab_cd k) pc = .ok (.imul, 1)) (K : (ab_G p la e R s m args below meth c Q D cy base c0 s0 k adS μS μ (pc + 1) lo (ab_i (ab_wr (x * y)) :: r))) : (ab_G p la e R s m args below meth c Q D cy base c0 s0 k adS μS μ (pc) lo (ab_i y :: ab_i x :: r)) := by
  intro ad H locs cells slots ls Z
  have hv := ab_oks (ab_oks (ab_Z_ok Z)).2
  have e1 : Int32.ofInt (ab_wr (x * y)) = Int32.ofInt x * Int32.ofInt y := by rw [ab_of_wr, Int32.ofInt_mul]
  refine lv_imul X.1 X.2.1 hd ?_
  rw [← e1]
  exact K ad H locs cells slots ls (ab_Z_st Z (ab_okc (ab_wr_of _) hv.2))
theorem s_iand {x y : Int} (X : ab_X p R s m args meth c D cy base k adS μS) (hd : decode (ab_cd k) pc = .ok (.iand, 1)) (K : (ab_G p la e R s m args below meth c Q D cy base c0 s0 k adS μS μ (pc + 1) lo (ab_i (ab_and x y) :: r))) : (ab_G p la e R s m args below meth c Q D cy base c0 s0 k adS μS μ (pc) lo (ab_i y :: ab_i x :: r)) := by
  intro ad H locs cells slots ls Z
  have hv := ab_oks (ab_oks (ab_Z_ok Z)).2
  have e1 : Int32.ofInt (ab_and x y) = Int32.ofInt x &&& Int32.ofInt y := by unfold ab_and; rw [Int32.ofInt_toInt]
  refine lv_iand X.1 X.2.1 hd ?_
  rw [← e1]
  exact K ad H locs cells slots ls (ab_Z_st Z (ab_okc (ab_wr_of _) hv.2))
theorem s_ior {x y : Int} (X : ab_X p R s m args meth c D cy base k adS μS) (hd : decode (ab_cd k) pc = .ok (.ior, 1)) (K : (ab_G p la e R s m args below meth c Q D cy base c0 s0 k adS μS μ (pc + 1) lo (ab_i (ab_or x y) :: r))) : (ab_G p la e R s m args below meth c Q D cy base c0 s0 k adS μS μ (pc) lo (ab_i y :: ab_i x :: r)) := by
  intro ad H locs cells slots ls Z
  have hv := ab_oks (ab_oks (ab_Z_ok Z)).2
  have e1 : Int32.ofInt (ab_or x y) = Int32.ofInt x ||| Int32.ofInt y := by unfold ab_or; rw [Int32.ofInt_toInt]
  refine lv_ior X.1 X.2.1 hd ?_
  rw [← e1]
  exact K ad H locs cells slots ls (ab_Z_st Z (ab_okc (ab_wr_of _) hv.2))
theorem s_ishl {x y : Int} (X : ab_X p R s m args meth c D cy base k adS μS) (hd : decode (ab_cd k) pc = .ok (.ishl, 1)) (K : (ab_G p la e R s m args below meth c Q D cy base c0 s0 k adS μS μ (pc + 1) lo (ab_i (ab_shl x y) :: r))) : (ab_G p la e R s m args below meth c Q D cy base c0 s0 k adS μS μ (pc) lo (ab_i y :: ab_i x :: r)) := by
  intro ad H locs cells slots ls Z
  have hv := ab_oks (ab_oks (ab_Z_ok Z)).2
  have e1 : Int32.ofInt (ab_shl x y) = Int32.ofInt x <<< (Int32.ofInt y &&& 31) := by unfold ab_shl; rw [Int32.ofInt_toInt]
  refine lv_ishl X.1 X.2.1 hd ?_
  rw [← e1]
  exact K ad H locs cells slots ls (ab_Z_st Z (ab_okc (ab_wr_of _) hv.2))
theorem s_ishr {x y : Int} (X : ab_X p R s m args meth c D cy base k adS μS) (hd : decode (ab_cd k) pc = .ok (.ishr, 1)) (K : (ab_G p la e R s m args below meth c Q D cy base c0 s0 k adS μS μ (pc + 1) lo (ab_i (ab_shr x y) :: r))) : (ab_G p la e R s m args below meth c Q D cy base c0 s0 k adS μS μ (pc) lo (ab_i y :: ab_i x :: r)) := by
  intro ad H locs cells slots ls Z
  have hv := ab_oks (ab_oks (ab_Z_ok Z)).2
  have e1 : Int32.ofInt (ab_shr x y) = Int32.ofInt x >>> (Int32.ofInt y &&& 31) := by unfold ab_shr; rw [Int32.ofInt_toInt]
  refine lv_ishr X.1 X.2.1 hd ?_
  rw [← e1]
  exact K ad H locs cells slots ls (ab_Z_st Z (ab_okc (ab_wr_of _) hv.2))
theorem s_iushr {x y : Int} (X : ab_X p R s m args meth c D cy base k adS μS) (hd : decode (ab_cd k) pc = .ok (.iushr, 1)) (K : (ab_G p la e R s m args below meth c Q D cy base c0 s0 k adS μS μ (pc + 1) lo (ab_i (ab_ush x y) :: r))) : (ab_G p la e R s m args below meth c Q D cy base c0 s0 k adS μS μ (pc) lo (ab_i y :: ab_i x :: r)) := by
  intro ad H locs cells slots ls Z
  have hv := ab_oks (ab_oks (ab_Z_ok Z)).2
  exact lv_iushr X.1 X.2.1 hd (by unfold ab_ush; rw [Int32.ofInt_toInt]) (K ad H locs cells slots ls (ab_Z_st Z (ab_okc (ab_wr_of _) hv.2)))
theorem s_ladd {x y : Int} (X : ab_X p R s m args meth c D cy base k adS μS) (hd : decode (ab_cd k) pc = .ok (.ladd, 1)) (K : (ab_G p la e R s m args below meth c Q D cy base c0 s0 k adS μS μ (pc + 1) lo (ab_l (ab_wl (x + y)) :: r))) : (ab_G p la e R s m args below meth c Q D cy base c0 s0 k adS μS μ (pc) lo (ab_l y :: ab_l x :: r)) := by
  intro ad H locs cells slots ls Z
  have hv := ab_oks (ab_oks (ab_Z_ok Z)).2
  have e1 : Int64.ofInt (ab_wl (x + y)) = Int64.ofInt x + Int64.ofInt y := by rw [ab_of_wl, Int64.ofInt_add]
  refine lv_ladd X.1 X.2.1 hd ?_
  rw [← e1]
  exact K ad H locs cells slots ls (ab_Z_st Z (ab_okc (ab_wl_of _) hv.2))
theorem s_lsub {x y : Int} (X : ab_X p R s m args meth c D cy base k adS μS) (hd : decode (ab_cd k) pc = .ok (.lsub, 1)) (K : (ab_G p la e R s m args below meth c Q D cy base c0 s0 k adS μS μ (pc + 1) lo (ab_l (ab_wl (x - y)) :: r))) : (ab_G p la e R s m args below meth c Q D cy base c0 s0 k adS μS μ (pc) lo (ab_l y :: ab_l x :: r)) := by
  intro ad H locs cells slots ls Z
  have hv := ab_oks (ab_oks (ab_Z_ok Z)).2
  have e1 : Int64.ofInt (ab_wl (x - y)) = Int64.ofInt x - Int64.ofInt y := by rw [ab_of_wl, Int64.ofInt_sub]
  refine lv_lsub X.1 X.2.1 hd ?_
  rw [← e1]
  exact K ad H locs cells slots ls (ab_Z_st Z (ab_okc (ab_wl_of _) hv.2))
theorem s_lmul {x y : Int} (X : ab_X p R s m args meth c D cy base k adS μS) (hd : decode (ab_cd k) pc = .ok (.lmul, 1)) (K : (ab_G p la e R s m args below meth c Q D cy base c0 s0 k adS μS μ (pc + 1) lo (ab_l (ab_wl (x * y)) :: r))) : (ab_G p la e R s m args below meth c Q D cy base c0 s0 k adS μS μ (pc) lo (ab_l y :: ab_l x :: r)) := by
  intro ad H locs cells slots ls Z
  have hv := ab_oks (ab_oks (ab_Z_ok Z)).2
  have e1 : Int64.ofInt (ab_wl (x * y)) = Int64.ofInt x * Int64.ofInt y := by rw [ab_of_wl, Int64.ofInt_mul]
  refine lv_lmul X.1 X.2.1 hd ?_
  rw [← e1]
  exact K ad H locs cells slots ls (ab_Z_st Z (ab_okc (ab_wl_of _) hv.2))
theorem s_ldiv {x y : Int} (X : ab_X p R s m args meth c D cy base k adS μS) (hd : decode (ab_cd k) pc = .ok (.ldiv, 1)) (hc : 0 ≤ x ∧ 0 < y) (K : (ab_G p la e R s m args below meth c Q D cy base c0 s0 k adS μS μ (pc + 1) lo (ab_l (x / y) :: r))) : (ab_G p la e R s m args below meth c Q D cy base c0 s0 k adS μS μ (pc) lo (ab_l y :: ab_l x :: r)) := by
  intro ad H locs cells slots ls Z
  have hy := ab_oks (ab_Z_ok Z)
  have hv := ab_oks hy.2
  have r1 := ab_rng64 (x := y) hy.1
  have r2 := ab_rng64 (x := x) hv.1
  obtain ⟨a1, rfl⟩ := Int.eq_ofNat_of_zero_le hc.1
  obtain ⟨b1, rfl⟩ := Int.eq_ofNat_of_zero_le (Int.le_of_lt hc.2)
  have f1 : ∀ n : Nat, Int64.ofInt (n : Int) = lN n := fun n => Int64.ofInt_eq_ofNat
  have e1 : Int64.ofInt ((a1 : Int) / (b1 : Int)) = Int64.ofInt (a1 : Int) / Int64.ofInt (b1 : Int) := by
    rw [f1, f1, show ((a1 : Int) / (b1 : Int)) = ((a1 / b1 : Nat) : Int) from rfl, f1]
    exact (pk_lDiv (by omega) (by omega) (by omega)).symm
  refine lv_ldiv X.1 X.2.1 hd (by
    intro h
    have h2 := congrArg Int64.toInt h
    have h3 : ab_wl (b1 : Int) = (b1 : Int) := hy.1
    unfold ab_wl at h3
    rw [h3] at h2
    have : (0 : Int64).toInt = 0 := rfl
    omega) ?_
  rw [← e1]
  have d1 : a1 / b1 ≤ a1 := Nat.div_le_self a1 b1
  have d3 : ((a1 : Int) / (b1 : Int)) = ((a1 / b1 : Nat) : Int) := rfl
  refine K ad H locs cells slots ls (ab_Z_st Z (ab_okc ?_ hv.2))
  show ab_wl _ = _
  rw [d3]
  generalize a1 / b1 = w at d1 ⊢
  exact ab_wl_id (by omega) (by omega)
theorem s_lrem {x y : Int} (X : ab_X p R s m args meth c D cy base k adS μS) (hd : decode (ab_cd k) pc = .ok (.lrem, 1)) (hc : 0 ≤ x ∧ 0 < y) (K : (ab_G p la e R s m args below meth c Q D cy base c0 s0 k adS μS μ (pc + 1) lo (ab_l (x % y) :: r))) : (ab_G p la e R s m args below meth c Q D cy base c0 s0 k adS μS μ (pc) lo (ab_l y :: ab_l x :: r)) := by
  intro ad H locs cells slots ls Z
  have hy := ab_oks (ab_Z_ok Z)
  have hv := ab_oks hy.2
  have r1 := ab_rng64 (x := y) hy.1
  have r2 := ab_rng64 (x := x) hv.1
  obtain ⟨a1, rfl⟩ := Int.eq_ofNat_of_zero_le hc.1
  obtain ⟨b1, rfl⟩ := Int.eq_ofNat_of_zero_le (Int.le_of_lt hc.2)
  have f1 : ∀ n : Nat, Int64.ofInt (n : Int) = lN n := fun n => Int64.ofInt_eq_ofNat
  have e1 : Int64.ofInt ((a1 : Int) % (b1 : Int)) = Int64.ofInt (a1 : Int) - Int64.ofInt (a1 : Int) / Int64.ofInt (b1 : Int) * Int64.ofInt (b1 : Int) := by
    rw [f1, f1, show ((a1 : Int) % (b1 : Int)) = ((a1 % b1 : Nat) : Int) from rfl, f1]
    exact (pk_lRem (by omega) (by omega) (by omega)).symm
  refine lv_lrem X.1 X.2.1 hd (by
    intro h
    have h2 := congrArg Int64.toInt h
    have h3 : ab_wl (b1 : Int) = (b1 : Int) := hy.1
    unfold ab_wl at h3
    rw [h3] at h2
    have : (0 : Int64).toInt = 0 := rfl
    omega) ?_
  rw [← e1]
  have d1 : a1 % b1 ≤ a1 := Nat.mod_le a1 b1
  have d3 : ((a1 : Int) % (b1 : Int)) = ((a1 % b1 : Nat) : Int) := rfl
  refine K ad H locs cells slots ls (ab_Z_st Z (ab_okc ?_ hv.2))
  show ab_wl _ = _
  rw [d3]
  generalize a1 % b1 = w at d1 ⊢
  exact ab_wl_id (by omega) (by omega)
theorem s_lcmp {x y : Int} (X : ab_X p R s m args meth c D cy base k adS μS) (hd : decode (ab_cd k) pc = .ok (.lcmp, 1)) (K : (ab_G p la e R s m args below meth c Q D cy base c0 s0 k adS μS μ (pc + 1) lo (ab_i (if y < x then 1 else if x = y then 0 else -1) :: r))) : (ab_G p la e R s m args below meth c Q D cy base c0 s0 k adS μS μ (pc) lo (ab_l y :: ab_l x :: r)) := by
  intro ad H locs cells slots ls Z
  have hy := ab_oks (ab_Z_ok Z)
  have hv := ab_oks hy.2
  have h1 : ab_wl y = y := hy.1
  have h2 : ab_wl x = x := hv.1
  unfold ab_wl at h1 h2
  have e1 : Int32.ofInt (if y < x then 1 else if x = y then 0 else -1) = lg_cmp (Int64.ofInt x) (Int64.ofInt y) := by
    unfold lg_cmp
    simp only [gt_iff_lt, Int64.lt_iff_toInt_lt, ← Int64.toInt_inj, h1, h2]
    by_cases q1 : y < x
    · rw [if_pos q1, if_pos q1]; rfl
    · rw [if_neg q1, if_neg q1]
      by_cases q2 : x = y
      · rw [if_pos q2, if_pos q2]; rfl
      · rw [if_neg q2, if_neg q2]; rfl
  refine W.lcmp X.1 X.2.1 hd ?_
  rw [← e1]
  refine K ad H locs cells slots ls (ab_Z_st Z (ab_okc ?_ hv.2))
  show ab_wr _ = _
  by_cases q1 : y < x
  · rw [if_pos q1]; rfl
  · rw [if_neg q1]
    by_cases q2 : x = y
    · rw [if_pos q2]; rfl
    · rw [if_neg q2]; rfl
theorem s_i2l {x : Int} (X : ab_X p R s m args meth c D cy base k adS μS) (hd : decode (ab_cd k) pc = .ok (.i2l, 1)) (K : (ab_G p la e R s m args below meth c Q D cy base c0 s0 k adS μS μ (pc + 1) lo (ab_l x :: r))) : (ab_G p la e R s m args below meth c Q D cy base c0 s0 k adS μS μ (pc) lo (ab_i x :: r)) := by
  intro ad H locs cells slots ls Z
  have hv := ab_oks (ab_Z_ok Z)
  have r1 := ab_rng32 (x := x) hv.1
  refine lv_i2l X.1 X.2.1 hd ?_ (K ad H locs cells slots ls (ab_Z_st Z (ab_okc (ab_wl_id (by omega) (by omega)) hv.2)))
  apply Int64.toInt_inj.mp
  rw [Int32.toInt_toInt64, Int32.toInt_ofInt_of_le (by omega) (by omega), Int64.toInt_ofInt_of_le (by omega) (by omega)]
theorem s_i2b {x : Int} (X : ab_X p R s m args meth c D cy base k adS μS) (hd : decode (ab_cd k) pc = .ok (.i2b, 1)) (K : (ab_G p la e R s m args below meth c Q D cy base c0 s0 k adS μS μ (pc + 1) lo (ab_i (ab_i2b x) :: r))) : (ab_G p la e R s m args below meth c Q D cy base c0 s0 k adS μS μ (pc) lo (ab_i x :: r)) := by
  intro ad H locs cells slots ls Z
  have hv := ab_oks (ab_Z_ok Z)
  exact lv_i2b X.1 X.2.1 hd (by unfold ab_i2b; rw [Int32.ofInt_toInt]) (K ad H locs cells slots ls (ab_Z_st Z (ab_okc (ab_wr_of _) hv.2)))
theorem s_i2c {x : Int} (X : ab_X p R s m args meth c D cy base k adS μS) (hd : decode (ab_cd k) pc = .ok (.i2c, 1)) (K : (ab_G p la e R s m args below meth c Q D cy base c0 s0 k adS μS μ (pc + 1) lo (ab_i (ab_i2c x) :: r))) : (ab_G p la e R s m args below meth c Q D cy base c0 s0 k adS μS μ (pc) lo (ab_i x :: r)) := by
  intro ad H locs cells slots ls Z
  have hv := ab_oks (ab_Z_ok Z)
  exact lv_i2c X.1 X.2.1 hd (by unfold ab_i2c; rw [Int32.ofInt_toInt]) (K ad H locs cells slots ls (ab_Z_st Z (ab_okc (ab_wr_of _) hv.2)))
theorem s_dup {v : ab_V} (X : ab_X p R s m args meth c D cy base k adS μS) (hd : decode (ab_cd k) pc = .ok (.dup, 1)) (hc : ab_cat v = 1) (K : (ab_G p la e R s m args below meth c Q D cy base c0 s0 k adS μS μ (pc + 1) lo (v :: v :: r))) : (ab_G p la e R s m args below meth c Q D cy base c0 s0 k adS μS μ (pc) lo (v :: r)) := by
  intro ad H locs cells slots ls Z
  have hv := ab_oks (ab_Z_ok Z)
  exact lv_dup X.1 X.2.1 hd (by rw [ab_c_cat]; exact hc) (K ad H locs cells slots ls (ab_Z_st Z (ab_okc hv.1 (ab_Z_ok Z))))
theorem s_pop {v : ab_V} (X : ab_X p R s m args meth c D cy base k adS μS) (hd : decode (ab_cd k) pc = .ok (.pop, 1)) (hc : ab_cat v = 1) (K : (ab_G p la e R s m args below meth c Q D cy base c0 s0 k adS μS μ (pc + 1) lo (r))) : (ab_G p la e R s m args below meth c Q D cy base c0 s0 k adS μS μ (pc) lo (v :: r)) := by
  intro ad H locs cells slots ls Z
  have hv := ab_oks (ab_Z_ok Z)
  exact lv_pop X.1 X.2.1 hd (by rw [ab_c_cat]; exact hc) (K ad H locs cells slots ls (ab_Z_st Z hv.2))
theorem s_goto {off : Int} (X : ab_X p R s m args meth c D cy base k adS μS) (hd : decode (ab_cd k) pc = .ok (.goto off, 3)) (ht : (pc : Int) + off = (a : Int)) (K : (ab_G p la e R s m args below meth c Q D cy base c0 s0 k adS μS μ (a) lo (st))) : (ab_G p la e R s m args below meth c Q D cy base c0 s0 k adS μS μ (pc) lo (st)) := by
  intro ad H locs cells slots ls Z
  exact lv_goto X.1 X.2.1 hd ht (K ad H locs cells slots ls Z)
theorem s_icmp_eq {x y off : Int} (X : ab_X p R s m args meth c D cy base k adS μS) (hd : decode (ab_cd k) pc = .ok (.if_icmp .eq off, 3)) (ht : (pc : Int) + off = (a : Int)) (K : (ab_G p la e R s m args below meth c Q D cy base c0 s0 k adS μS μ (if x = y then a else pc + 3) lo (r))) : (ab_G p la e R s m args below meth c Q D cy base c0 s0 k adS μS μ (pc) lo (ab_i y :: ab_i x :: r)) := by
  intro ad H locs cells slots ls Z
  have h1 := ab_oks (ab_Z_ok Z)
  have h2 := ab_oks h1.2
  have hy : ab_wr y = y := h1.1
  have hx : ab_wr x = x := h2.1
  have hi : (Int32.ofInt x = Int32.ofInt y) ↔ (x = y) := ⟨fun h => ab_inj hx hy h, fun h => by rw [h]⟩
  have K := K ad H locs cells slots ls (ab_Z_st Z h2.2)
  refine lv_icmp_eq X.1 X.2.1 hd ht (fun h => ?_) (fun h => ?_)
  · rw [if_pos (hi.mp h)] at K; exact K
  · rw [if_neg (fun q => h (hi.mpr q))] at K; exact K
theorem s_if_eq {x off : Int} (X : ab_X p R s m args meth c D cy base k adS μS) (hd : decode (ab_cd k) pc = .ok (.ifCond .eq off, 3)) (ht : (pc : Int) + off = (a : Int)) (K : (ab_G p la e R s m args below meth c Q D cy base c0 s0 k adS μS μ (if x = 0 then a else pc + 3) lo (r))) : (ab_G p la e R s m args below meth c Q D cy base c0 s0 k adS μS μ (pc) lo (ab_i x :: r)) := by
  intro ad H locs cells slots ls Z
  have h2 := ab_oks (ab_Z_ok Z)
  have hx : ab_wr x = x := h2.1
  have hy : ab_wr 0 = 0 := rfl
  have hi : (Int32.ofInt x = Int32.ofInt 0) ↔ (x = 0) := ⟨fun h => ab_inj hx hy h, fun h => by rw [h]⟩
  have K := K ad H locs cells slots ls (ab_Z_st Z h2.2)
  refine lv_if_eq X.1 X.2.1 hd ht (fun h => ?_) (fun h => ?_)
  · rw [if_pos (hi.mp h)] at K; exact K
  · rw [if_neg (fun q => h (hi.mpr q))] at K; exact K
theorem s_icmp_ne {x y off : Int} (X : ab_X p R s m args meth c D cy base k adS μS) (hd : decode (ab_cd k) pc = .ok (.if_icmp .ne off, 3)) (ht : (pc : Int) + off = (a : Int)) (K : (ab_G p la e R s m args below meth c Q D cy base c0 s0 k adS μS μ (if x ≠ y then a else pc + 3) lo (r))) : (ab_G p la e R s m args below meth c Q D cy base c0 s0 k adS μS μ (pc) lo (ab_i y :: ab_i x :: r)) := by
  intro ad H locs cells slots ls Z
  have h1 := ab_oks (ab_Z_ok Z)
  have h2 := ab_oks h1.2
  have hy : ab_wr y = y := h1.1
  have hx : ab_wr x = x := h2.1
  have hi : (¬ Int32.ofInt x = Int32.ofInt y) ↔ (x ≠ y) := ⟨fun h q => h (by rw [q]), fun h q => h (ab_inj hx hy q)⟩
  have K := K ad H locs cells slots ls (ab_Z_st Z h2.2)
  refine lv_icmp_ne X.1 X.2.1 hd ht (fun h => ?_) (fun h => ?_)
  · rw [if_pos (hi.mp h)] at K; exact K
  · rw [if_neg (fun q => (hi.mpr q) h)] at K; exact K
theorem s_if_ne {x off : Int} (X : ab_X p R s m args meth c D cy base k adS μS) (hd : decode (ab_cd k) pc = .ok (.ifCond .ne off, 3)) (ht : (pc : Int) + off = (a : Int)) (K : (ab_G p la e R s m args below meth c Q D cy base c0 s0 k adS μS μ (if x ≠ 0 then a else pc + 3) lo (r))) : (ab_G p la e R s m args below meth c Q D cy base c0 s0 k adS μS μ (pc) lo (ab_i x :: r)) := by
  intro ad H locs cells slots ls Z
  have h2 := ab_oks (ab_Z_ok Z)
  have hx : ab_wr x = x := h2.1
  have hy : ab_wr 0 = 0 := rfl
  have hi : (¬ Int32.ofInt x = Int32.ofInt 0) ↔ (x ≠ 0) := ⟨fun h q => h (by rw [q]), fun h q => h (ab_inj hx hy q)⟩
  have K := K ad H locs cells slots ls (ab_Z_st Z h2.2)
  refine lv_if_ne X.1 X.2.1 hd ht (fun h => ?_) (fun h => ?_)
  · rw [if_pos (hi.mp h)] at K; exact K
  · rw [if_neg (fun q => (hi.mpr q) h)] at K; exact K
theorem s_icmp_lt {x y off : Int} (X : ab_X p R s m args meth c D cy base k adS μS) (hd : decode (ab_cd k) pc = .ok (.if_icmp .lt off, 3)) (ht : (pc : Int) + off = (a : Int)) (K : (ab_G p la e R s m args below meth c Q D cy base c0 s0 k adS μS μ (if x < y then a else pc + 3) lo (r))) : (ab_G p la e R s m args below meth c Q D cy base c0 s0 k adS μS μ (pc) lo (ab_i y :: ab_i x :: r)) := by
  intro ad H locs cells slots ls Z
  have h1 := ab_oks (ab_Z_ok Z)
  have h2 := ab_oks h1.2
  have hy : ab_wr y = y := h1.1
  have hx : ab_wr x = x := h2.1
  have hi : (Int32.ofInt x < Int32.ofInt y) ↔ (x < y) := ab_lt hx hy
  have K := K ad H locs cells slots ls (ab_Z_st Z h2.2)
  refine lv_icmp_lt X.1 X.2.1 hd ht (fun h => ?_) (fun h => ?_)
  · rw [if_pos (hi.mp h)] at K; exact K
  · rw [if_neg (fun q => h (hi.mpr q))] at K; exact K
theorem s_if_lt {x off : Int} (X : ab_X p R s m args meth c D cy base k adS μS) (hd : decode (ab_cd k) pc = .ok (.ifCond .lt off, 3)) (ht : (pc : Int) + off = (a : Int)) (K : (ab_G p la e R s m args below meth c Q D cy base c0 s0 k adS μS μ (if x < 0 then a else pc + 3) lo (r))) : (ab_G p la e R s m args below meth c Q D cy base c0 s0 k adS μS μ (pc) lo (ab_i x :: r)) := by
  intro ad H locs cells slots ls Z
  have h2 := ab_oks (ab_Z_ok Z)
  have hx : ab_wr x = x := h2.1
  have hy : ab_wr 0 = 0 := rfl
  have hi : (Int32.ofInt x < Int32.ofInt 0) ↔ (x < 0) := ab_lt hx hy
  have K := K ad H locs cells slots ls (ab_Z_st Z h2.2)
  refine lv_if_lt X.1 X.2.1 hd ht (fun h => ?_) (fun h => ?_)
  · rw [if_pos (hi.mp h)] at K; exact K
  · rw [if_neg (fun q => h (hi.mpr q))] at K; exact K
theorem s_icmp_ge {x y off : Int} (X : ab_X p R s m args meth c D cy base k adS μS) (hd : decode (ab_cd k) pc = .ok (.if_icmp .ge off, 3)) (ht : (pc : Int) + off = (a : Int)) (K : (ab_G p la e R s m args below meth c Q D cy base c0 s0 k adS μS μ (if y ≤ x then a else pc + 3) lo (r))) : (ab_G p la e R s m args below meth c Q D cy base c0 s0 k adS μS μ (pc) lo (ab_i y :: ab_i x :: r)) := by
  intro ad H locs cells slots ls Z
  have h1 := ab_oks (ab_Z_ok Z)
  have h2 := ab_oks h1.2
  have hy : ab_wr y = y := h1.1
  have hx : ab_wr x = x := h2.1
  have hi : (Int32.ofInt y ≤ Int32.ofInt x) ↔ (y ≤ x) := ab_le hy hx
  have K := K ad H locs cells slots ls (ab_Z_st Z h2.2)
  refine lv_icmp_ge X.1 X.2.1 hd ht (fun h => ?_) (fun h => ?_)
  · rw [if_pos (hi.mp h)] at K; exact K
  · rw [if_neg (fun q => h (hi.mpr q))] at K; exact K
theorem s_if_ge {x off : Int} (X : ab_X p R s m args meth c D cy base k adS μS) (hd : decode (ab_cd k) pc = .ok (.ifCond .ge off, 3)) (ht : (pc : Int) + off = (a : Int)) (K : (ab_G p la e R s m args below meth c Q D cy base c0 s0 k adS μS μ (if 0 ≤ x then a else pc + 3) lo (r))) : (ab_G p la e R s m args below meth c Q D cy base c0 s0 k adS μS μ (pc) lo (ab_i x :: r)) := by
  intro ad H locs cells slots ls Z
  have h2 := ab_oks (ab_Z_ok Z)
  have hx : ab_wr x = x := h2.1
  have hy : ab_wr 0 = 0 := rfl
  have hi : (Int32.ofInt 0 ≤ Int32.ofInt x) ↔ (0 ≤ x) := ab_le hy hx
  have K := K ad H locs cells slots ls (ab_Z_st Z h2.2)
  refine lv_if_ge X.1 X.2.1 hd ht (fun h => ?_) (fun h => ?_)
  · rw [if_pos (hi.mp h)] at K; exact K
  · rw [if_neg (fun q => h (hi.mpr q))] at K; exact K
theorem s_icmp_gt {x y off : Int} (X : ab_X p R s m args meth c D cy base k adS μS) (hd : decode (ab_cd k) pc = .ok (.if_icmp .gt off, 3)) (ht : (pc : Int) + off = (a : Int)) (K : (ab_G p la e R s m args below meth c Q D cy base c0 s0 k adS μS μ (if y < x then a else pc + 3) lo (r))) : (ab_G p la e R s m args below meth c Q D cy base c0 s0 k adS μS μ (pc) lo (ab_i y :: ab_i x :: r)) := by
  intro ad H locs cells slots ls Z
  have h1 := ab_oks (ab_Z_ok Z)
  have h2 := ab_oks h1.2
  have hy : ab_wr y = y := h1.1
  have hx : ab_wr x = x := h2.1
  have hi : (Int32.ofInt y < Int32.ofInt x) ↔ (y < x) := ab_lt hy hx
  have K := K ad H locs cells slots ls (ab_Z_st Z h2.2)
  refine lv_icmp_gt X.1 X.2.1 hd ht (fun h => ?_) (fun h => ?_)
  · rw [if_pos (hi.mp h)] at K; exact K
  · rw [if_neg (fun q => h (hi.mpr q))] at K; exact K
theorem s_if_gt {x off : Int} (X : ab_X p R s m args meth c D cy base k adS μS) (hd : decode (ab_cd k) pc = .ok (.ifCond .gt off, 3)) (ht : (pc : Int) + off = (a : Int)) (K : (ab_G p la e R s m args below meth c Q D cy base c0 s0 k adS μS μ (if 0 < x then a else pc + 3) lo (r))) : (ab_G p la e R s m args below meth c Q D cy base c0 s0 k adS μS μ (pc) lo (ab_i x :: r)) := by
  intro ad H locs cells slots ls Z
  have h2 := ab_oks (ab_Z_ok Z)
  have hx : ab_wr x = x := h2.1
  have hy : ab_wr 0 = 0 := rfl
  have hi : (Int32.ofInt 0 < Int32.ofInt x) ↔ (0 < x) := ab_lt hy hx
  have K := K ad H locs cells slots ls (ab_Z_st Z h2.2)
  refine lv_if_gt X.1 X.2.1 hd ht (fun h => ?_) (fun h => ?_)
  · rw [if_pos (hi.mp h)] at K; exact K
  · rw [if_neg (fun q => h (hi.mpr q))] at K; exact K
theorem s_icmp_le {x y off : Int} (X : ab_X p R s m args meth c D cy base k adS μS) (hd : decode (ab_cd k) pc = .ok (.if_icmp .le off, 3)) (ht : (pc : Int) + off = (a : Int)) (K : (ab_G p la e R s m args below meth c Q D cy base c0 s0 k adS μS μ (if x ≤ y then a else pc + 3) lo (r))) : (ab_G p la e R s m args below meth c Q D cy base c0 s0 k adS μS μ (pc) lo (ab_i y :: ab_i x :: r)) := by
  intro ad H locs cells slots ls Z
  have h1 := ab_oks (ab_Z_ok Z)
  have h2 := ab_oks h1.2
  have hy : ab_wr y = y := h1.1
  have hx : ab_wr x = x := h2.1
  have hi : (Int32.ofInt x ≤ Int32.ofInt y) ↔ (x ≤ y) := ab_le hx hy
  have K := K ad H locs cells slots ls (ab_Z_st Z h2.2)
  refine lv_icmp_le X.1 X.2.1 hd ht (fun h => ?_) (fun h => ?_)
  · rw [if_pos (hi.mp h)] at K; exact K
  · rw [if_neg (fun q => h (hi.mpr q))] at K; exact K
theorem s_if_le {x off : Int} (X : ab_X p R s m args meth c D cy base k adS μS) (hd : decode (ab_cd k) pc = .ok (.ifCond .le off, 3)) (ht : (pc : Int) + off = (a : Int)) (K : (ab_G p la e R s m args below meth c Q D cy base c0 s0 k adS μS μ (if x ≤ 0 then a else pc + 3) lo (r))) : (ab_G p la e R s m args below meth c Q D cy base c0 s0 k adS μS μ (pc) lo (ab_i x :: r)) := by
  intro ad H locs cells slots ls Z
  have h2 := ab_oks (ab_Z_ok Z)
  have hx : ab_wr x = x := h2.1
  have hy : ab_wr 0 = 0 := rfl
  have hi : (Int32.ofInt x ≤ Int32.ofInt 0) ↔ (x ≤ 0) := ab_le hx hy
  have K := K ad H locs cells slots ls (ab_Z_st Z h2.2)
  refine lv_if_le X.1 X.2.1 hd ht (fun h => ?_) (fun h => ?_)
  · rw [if_pos (hi.mp h)] at K; exact K
  · rw [if_neg (fun q => h (hi.mpr q))] at K; exact K
theorem s_ifnull {off : Int} {t : Nat} {o : Option Nat} (X : ab_X p R s m args meth c D cy base k adS μS) (hd : decode (ab_cd k) pc = .ok (.ifnull off, 3)) (ht : (pc : Int) + off = (a : Int)) (K : (ab_G p la e R s m args below meth c Q D cy base c0 s0 k adS μS μ (if o = none then a else pc + 3) lo (r))) : (ab_G p la e R s m args below meth c Q D cy base c0 s0 k adS μS μ (pc) lo (ab_r t o :: r)) := by
  intro ad H locs cells slots ls Z
  have h2 := ab_oks (ab_Z_ok Z)
  have K := K ad H locs cells slots ls (ab_Z_st Z h2.2)
  cases o with
  | none => rw [if_pos rfl] at K; exact lv_ifnullN X.1 X.2.1 hd ht K
  | some n => rw [if_neg (by simp)] at K; exact lv_ifnull X.1 X.2.1 hd K
theorem s_ifnonnull {off : Int} {t : Nat} {o : Option Nat} (X : ab_X p R s m args meth c D cy base k adS μS) (hd : decode (ab_cd k) pc = .ok (.ifnonnull off, 3)) (ht : (pc : Int) + off = (a : Int)) (K : (ab_G p la e R s m args below meth c Q D cy base c0 s0 k adS μS μ (if o = none then pc + 3 else a) lo (r))) : (ab_G p la e R s m args below meth c Q D cy base c0 s0 k adS μS μ (pc) lo (ab_r t o :: r)) := by
  intro ad H locs cells slots ls Z
  have h2 := ab_oks (ab_Z_ok Z)
  have K := K ad H locs cells slots ls (ab_Z_st Z h2.2)
  cases o with
  | none => rw [if_pos rfl] at K; exact lv_ifnonnullN X.1 X.2.1 hd K
  | some n => rw [if_neg (by simp)] at K; exact lv_ifnonnull X.1 X.2.1 hd ht K
theorem s_table {d lw hi x : Int} {os : Array Int} {len : Nat} (X : ab_X p R s m args meth c D cy base k adS μS) (hd : decode (ab_cd k) pc = .ok (.tableswitch d lw hi os, len)) (h0 : 0 ≤ (pc : Int) + d) (h1 : os.all (fun o => decide (0 ≤ (pc : Int) + o)) = true) (h2 : (os.size : Int) = hi - lw + 1) (K : (ab_G p la e R s m args below meth c Q D cy base c0 s0 k adS μS μ (ab_sw pc d lw hi os x) lo (r))) : (ab_G p la e R s m args below meth c Q D cy base c0 s0 k adS μS μ (pc) lo (ab_i x :: r)) := by
  intro ad H locs cells slots ls Z
  have hv := ab_oks (ab_Z_ok Z)
  have hx : (Int32.ofInt x).toInt = x := hv.1
  have K := K ad H locs cells slots ls (ab_Z_st Z hv.2)
  unfold ab_sw at K
  by_cases q : x < lw ∨ hi < x
  · rw [if_pos q] at K
    exact lv_tableOut X.1 X.2.1 hd (by rw [hx]; exact q) (by omega) K
  · rw [if_neg q] at K
    have hs : (x - lw).toNat < os.size := by omega
    have e1 : os.getD (x - lw).toNat 0 = os[(x - lw).toNat] := by rw [Array.getD, dif_pos hs]; rfl
    have h3 : 0 ≤ (pc : Int) + os[(x - lw).toNat] := by
      have := Array.all_eq_true.mp h1 (x - lw).toNat hs
      exact of_decide_eq_true this
    rw [e1] at K
    exact lv_tableIn X.1 X.2.1 hd (by rw [hx]; omega) (by rw [hx]; omega) (off := os[(x - lw).toNat]) (by rw [hx]; exact Array.getElem?_eq_getElem hs) (by omega) K
end
