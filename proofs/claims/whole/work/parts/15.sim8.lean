/-! ===== every plain step ===== -/
section
variable {p : Program} {la : Launch} {e : Env} {R : Room} {s : State} {m : MethodId} {args : Array Value} {below : List Frame} {meth : Method} {c : Code} {Q : State → Prop} {D : va_G} {cy : Nat → ClassId} {base c0 s0 k nL : Nat} {adS ad ad' : Nat → Nat → Nat} {μS μ μ1 : ab_M} {lo lo1 : ab_L} {st st1 : List ab_V} {pc pc1 nx a b : Nat} {cn : Prop}
theorem ab_dec {i : Instr} (hdec : decode (ab_cd k) pc = .ok (i, nx - pc)) (hlen : ab_len i = 0 ∨ nx = pc + ab_len i) (h0 : ab_len i ≠ 0) : nx = pc + ab_len i ∧ decode (ab_cd k) pc = .ok (i, ab_len i) := by
  have h1 := hlen.resolve_left h0
  refine ⟨h1, ?_⟩
  rw [h1, Nat.add_sub_cancel_left] at hdec
  exact hdec
theorem ab_beq {x y : Nat} (h : Nat.beq x y = true) : x = y := Nat.eq_of_beq_eq_true h
set_option maxHeartbeats 4000000 in
theorem ab_sim_step {i : Instr} (X : ab_X p R s m args meth c D cy base k adS μS) (hchk : ab_chk k pc = true) (hins : ab_ins k pc = some (i, nx, a, b)) (hs : ab_step i pc nx a b μ lo st = some (cn, μ1, pc1, lo1, st1)) (hcn : cn) (hroom : ag_c μ1 ≤ c0 + R.cells ∧ ag_s μ1 ≤ s0 + R.slots) (K : ab_G p la e R s m args below meth c Q D cy base c0 s0 k adS μS μ1 pc1 lo1 st1) : ab_G p la e R s m args below meth c Q D cy base c0 s0 k adS μS μ pc lo st := by
  unfold ab_chk at hchk
  rw [hins] at hchk
  simp only [Bool.and_eq_true, Bool.or_eq_true, decide_eq_true_eq] at hchk
  obtain ⟨hdec, hlen, hm⟩ := hchk
  replace hlen : ab_len i = 0 ∨ nx = pc + ab_len i := hlen.imp ab_beq ab_beq
  cases i
  case iconst z =>
    obtain ⟨rfl, hd⟩ := ab_dec hdec hlen (by simp [ab_len])
    dsimp only [ab_step] at hs
    cases hz : ab_sm 127 z with
    | false => simp only [hz, cond_false] at hs; cases hs
    | true => simp only [hz, cond_true] at hs; cases hs; exact s_iconst X hd hz K
  case bipush z =>
    obtain ⟨rfl, hd⟩ := ab_dec hdec hlen (by simp [ab_len])
    dsimp only [ab_step] at hs
    cases hz : ab_sm 127 z with
    | false => simp only [hz, cond_false] at hs; cases hs
    | true => simp only [hz, cond_true] at hs; cases hs; exact s_bipush X hd hz K
  case sipush z =>
    obtain ⟨rfl, hd⟩ := ab_dec hdec hlen (by simp [ab_len])
    dsimp only [ab_step] at hs
    cases hz : ab_sm 32767 z with
    | false => simp only [hz, cond_false] at hs; cases hs
    | true => simp only [hz, cond_true] at hs; cases hs; exact s_sipush X hd hz K
  case lconst z =>
    obtain ⟨rfl, hd⟩ := ab_dec hdec hlen (by simp [ab_len])
    dsimp only [ab_step] at hs
    cases hs
    exact s_lconst X hd K
  case aconst_null =>
    obtain ⟨rfl, hd⟩ := ab_dec hdec hlen (by simp [ab_len])
    dsimp only [ab_step] at hs
    cases hs
    exact s_null X hd K
  case iload j =>
    obtain ⟨rfl, hd⟩ := ab_dec hdec hlen (by simp [ab_len])
    dsimp only [ab_step, ab_ldi] at hs
    split at hs
    · rename_i z hk
      cases hs
      exact s_iload X hd hk K
    · cases hs
  case iload_n j =>
    obtain ⟨rfl, hd⟩ := ab_dec hdec hlen (by simp [ab_len])
    dsimp only [ab_step, ab_ldi] at hs
    split at hs
    · rename_i z hk
      cases hs
      exact s_iload_n X hd hk K
    · cases hs
  case lload j =>
    obtain ⟨rfl, hd⟩ := ab_dec hdec hlen (by simp [ab_len])
    dsimp only [ab_step, ab_ldl] at hs
    split at hs
    · rename_i z hk
      cases hs
      exact s_lload X hd hk K
    · cases hs
  case lload_n j =>
    obtain ⟨rfl, hd⟩ := ab_dec hdec hlen (by simp [ab_len])
    dsimp only [ab_step, ab_ldl] at hs
    split at hs
    · rename_i z hk
      cases hs
      exact s_lload_n X hd hk K
    · cases hs
  case aload j =>
    obtain ⟨rfl, hd⟩ := ab_dec hdec hlen (by simp [ab_len])
    dsimp only [ab_step, ab_ldr] at hs
    split at hs
    · rename_i t o hk
      cases hs
      exact s_aload X hd hk K
    · cases hs
  case aload_n j =>
    obtain ⟨rfl, hd⟩ := ab_dec hdec hlen (by simp [ab_len])
    dsimp only [ab_step, ab_ldr] at hs
    split at hs
    · rename_i t o hk
      cases hs
      exact s_aload_n X hd hk K
    · cases hs
  case istore j =>
    obtain ⟨rfl, hd⟩ := ab_dec hdec hlen (by simp [ab_len])
    dsimp only [ab_step, ab_sti] at hs
    split at hs
    · cases hn : ab_nc lo j 1 with
      | false => simp only [hn, cond_false] at hs; cases hs
      | true => simp only [hn, cond_true] at hs; cases hs; exact s_istore X hd (Nat.blt_eq.mp hm) hn K
    · cases hs
  case istore_n j =>
    obtain ⟨rfl, hd⟩ := ab_dec hdec hlen (by simp [ab_len])
    dsimp only [ab_step, ab_sti] at hs
    split at hs
    · cases hn : ab_nc lo j 1 with
      | false => simp only [hn, cond_false] at hs; cases hs
      | true => simp only [hn, cond_true] at hs; cases hs; exact s_istore_n X hd (Nat.blt_eq.mp hm) hn K
    · cases hs
  case lstore j =>
    obtain ⟨rfl, hd⟩ := ab_dec hdec hlen (by simp [ab_len])
    dsimp only [ab_step, ab_stl] at hs
    split at hs
    · cases hn : ab_nc lo j 2 with
      | false => simp only [hn, cond_false] at hs; cases hs
      | true => simp only [hn, cond_true] at hs; cases hs; exact s_lstore X hd (Nat.blt_eq.mp hm) hn K
    · cases hs
  case lstore_n j =>
    obtain ⟨rfl, hd⟩ := ab_dec hdec hlen (by simp [ab_len])
    dsimp only [ab_step, ab_stl] at hs
    split at hs
    · cases hn : ab_nc lo j 2 with
      | false => simp only [hn, cond_false] at hs; cases hs
      | true => simp only [hn, cond_true] at hs; cases hs; exact s_lstore_n X hd (Nat.blt_eq.mp hm) hn K
    · cases hs
  case astore j =>
    obtain ⟨rfl, hd⟩ := ab_dec hdec hlen (by simp [ab_len])
    dsimp only [ab_step, ab_str] at hs
    split at hs
    · cases hn : ab_nc lo j 1 with
      | false => simp only [hn, cond_false] at hs; cases hs
      | true => simp only [hn, cond_true] at hs; cases hs; exact s_astore X hd (Nat.blt_eq.mp hm) hn K
    · cases hs
  case astore_n j =>
    obtain ⟨rfl, hd⟩ := ab_dec hdec hlen (by simp [ab_len])
    dsimp only [ab_step, ab_str] at hs
    split at hs
    · cases hn : ab_nc lo j 1 with
      | false => simp only [hn, cond_false] at hs; cases hs
      | true => simp only [hn, cond_true] at hs; cases hs; exact s_astore_n X hd (Nat.blt_eq.mp hm) hn K
    · cases hs
  case iinc j z =>
    obtain ⟨rfl, hd⟩ := ab_dec hdec hlen (by simp [ab_len])
    dsimp only [ab_step] at hs
    split at hs
    · rename_i x hk
      cases hn : ab_nc lo j 1 with
      | false => simp only [hn, cond_false] at hs; cases hs
      | true => simp only [hn, cond_true] at hs; cases hs; exact s_iinc X hd (Nat.blt_eq.mp hm) hk hn K
    · cases hs
  case iadd =>
    obtain ⟨rfl, hd⟩ := ab_dec hdec hlen (by simp [ab_len])
    dsimp only [ab_step, ab_b2] at hs
    split at hs
    · cases hs; exact s_iadd X hd K
    · cases hs
  case isub =>
    obtain ⟨rfl, hd⟩ := ab_dec hdec hlen (by simp [ab_len])
    dsimp only [ab_step, ab_b2] at hs
    split at hs
    · cases hs; exact s_isub X hd K
    · cases hs
  case imul =>
    obtain ⟨rfl, hd⟩ := ab_dec hdec hlen (by simp [ab_len])
    dsimp only [ab_step, ab_b2] at hs
    split at hs
    · cases hs; exact s_imul X hd K
    · cases hs
  case iand =>
    obtain ⟨rfl, hd⟩ := ab_dec hdec hlen (by simp [ab_len])
    dsimp only [ab_step, ab_b2] at hs
    split at hs
    · cases hs; exact s_iand X hd K
    · cases hs
  case ior =>
    obtain ⟨rfl, hd⟩ := ab_dec hdec hlen (by simp [ab_len])
    dsimp only [ab_step, ab_b2] at hs
    split at hs
    · cases hs; exact s_ior X hd K
    · cases hs
  case ishl =>
    obtain ⟨rfl, hd⟩ := ab_dec hdec hlen (by simp [ab_len])
    dsimp only [ab_step, ab_b2] at hs
    split at hs
    · cases hs; exact s_ishl X hd K
    · cases hs
  case ishr =>
    obtain ⟨rfl, hd⟩ := ab_dec hdec hlen (by simp [ab_len])
    dsimp only [ab_step, ab_b2] at hs
    split at hs
    · cases hs; exact s_ishr X hd K
    · cases hs
  case iushr =>
    obtain ⟨rfl, hd⟩ := ab_dec hdec hlen (by simp [ab_len])
    dsimp only [ab_step, ab_b2] at hs
    split at hs
    · cases hs; exact s_iushr X hd K
    · cases hs
  case ladd =>
    obtain ⟨rfl, hd⟩ := ab_dec hdec hlen (by simp [ab_len])
    dsimp only [ab_step, ab_l2] at hs
    split at hs
    · cases hs; exact s_ladd X hd K
    · cases hs
  case lsub =>
    obtain ⟨rfl, hd⟩ := ab_dec hdec hlen (by simp [ab_len])
    dsimp only [ab_step, ab_l2] at hs
    split at hs
    · cases hs; exact s_lsub X hd K
    · cases hs
  case lmul =>
    obtain ⟨rfl, hd⟩ := ab_dec hdec hlen (by simp [ab_len])
    dsimp only [ab_step, ab_l2] at hs
    split at hs
    · cases hs; exact s_lmul X hd K
    · cases hs
  case ldiv =>
    obtain ⟨rfl, hd⟩ := ab_dec hdec hlen (by simp [ab_len])
    dsimp only [ab_step, ab_l2] at hs
    split at hs
    · cases hs; exact s_ldiv X hd hcn K
    · cases hs
  case lrem =>
    obtain ⟨rfl, hd⟩ := ab_dec hdec hlen (by simp [ab_len])
    dsimp only [ab_step, ab_l2] at hs
    split at hs
    · cases hs; exact s_lrem X hd hcn K
    · cases hs
  case lcmp =>
    obtain ⟨rfl, hd⟩ := ab_dec hdec hlen (by simp [ab_len])
    dsimp only [ab_step] at hs
    split at hs
    · cases hs; exact s_lcmp X hd K
    · cases hs
  case i2l =>
    obtain ⟨rfl, hd⟩ := ab_dec hdec hlen (by simp [ab_len])
    dsimp only [ab_step] at hs
    split at hs
    · cases hs; exact s_i2l X hd K
    · cases hs
  case i2b =>
    obtain ⟨rfl, hd⟩ := ab_dec hdec hlen (by simp [ab_len])
    dsimp only [ab_step] at hs
    split at hs
    · cases hs; exact s_i2b X hd K
    · cases hs
  case i2c =>
    obtain ⟨rfl, hd⟩ := ab_dec hdec hlen (by simp [ab_len])
    dsimp only [ab_step] at hs
    split at hs
    · cases hs; exact s_i2c X hd K
    · cases hs
  case dup =>
    obtain ⟨rfl, hd⟩ := ab_dec hdec hlen (by simp [ab_len])
    dsimp only [ab_step] at hs
    split at hs
    · rename_i v r
      cases hc : Nat.beq (ab_cat v) 1 with
      | false => simp only [hc, cond_false] at hs; cases hs
      | true => simp only [hc, cond_true] at hs; cases hs; exact s_dup X hd (ab_beq hc) K
    · cases hs
  case pop =>
    obtain ⟨rfl, hd⟩ := ab_dec hdec hlen (by simp [ab_len])
    dsimp only [ab_step] at hs
    split at hs
    · rename_i v r
      cases hc : Nat.beq (ab_cat v) 1 with
      | false => simp only [hc, cond_false] at hs; cases hs
      | true => simp only [hc, cond_true] at hs; cases hs; exact s_pop X hd (ab_beq hc) K
    · cases hs
  case goto off =>
    obtain ⟨rfl, hd⟩ := ab_dec hdec hlen (by simp [ab_len])
    dsimp only [ab_step] at hs
    cases hs
    exact s_goto X hd (of_decide_eq_true hm) K
  case ifCond cd off =>
    obtain ⟨rfl, hd⟩ := ab_dec hdec hlen (by simp [ab_len])
    dsimp only [ab_step] at hs
    split at hs
    · cases hs
      unfold ab_ic at K
      cases cd
      case eq => exact s_if_eq X hd (of_decide_eq_true hm) K
      case ne => exact s_if_ne X hd (of_decide_eq_true hm) K
      case lt => exact s_if_lt X hd (of_decide_eq_true hm) K
      case ge => exact s_if_ge X hd (of_decide_eq_true hm) K
      case gt => exact s_if_gt X hd (of_decide_eq_true hm) K
      case le => exact s_if_le X hd (of_decide_eq_true hm) K
    · cases hs
  case if_icmp cd off =>
    obtain ⟨rfl, hd⟩ := ab_dec hdec hlen (by simp [ab_len])
    dsimp only [ab_step] at hs
    split at hs
    · cases hs
      unfold ab_ic at K
      cases cd
      case eq => exact s_icmp_eq X hd (of_decide_eq_true hm) K
      case ne => exact s_icmp_ne X hd (of_decide_eq_true hm) K
      case lt => exact s_icmp_lt X hd (of_decide_eq_true hm) K
      case ge => exact s_icmp_ge X hd (of_decide_eq_true hm) K
      case gt => exact s_icmp_gt X hd (of_decide_eq_true hm) K
      case le => exact s_icmp_le X hd (of_decide_eq_true hm) K
    · cases hs
  case ifnull off =>
    obtain ⟨rfl, hd⟩ := ab_dec hdec hlen (by simp [ab_len])
    dsimp only [ab_step] at hs
    split at hs
    · cases hs; exact s_ifnull X hd (of_decide_eq_true hm) K
    · cases hs
  case ifnonnull off =>
    obtain ⟨rfl, hd⟩ := ab_dec hdec hlen (by simp [ab_len])
    dsimp only [ab_step] at hs
    split at hs
    · cases hs; exact s_ifnonnull X hd (of_decide_eq_true hm) K
    · cases hs
  case tableswitch d lw hi os =>
    dsimp only [ab_step] at hs
    simp only [Bool.and_eq_true, decide_eq_true_eq] at hm
    split at hs
    · cases hs; exact s_table X hdec hm.1 hm.2.1 hm.2.2 K
    · cases hs
  case getstatic y =>
    obtain ⟨rfl, hd⟩ := ab_dec hdec hlen (by simp [ab_len])
    dsimp only [ab_step] at hs
    refine s_getstatic X hd hm ?_
    cases hb : Nat.blt a 2 with
    | false =>
      simp only [hb, cond_false] at hs
      rw [if_neg (fun h => by rw [Nat.blt_eq.mpr h] at hb; cases hb)]
      cases hb2 : Nat.beq a 2 with
      | true =>
        simp only [hb2, cond_true] at hs
        cases hs
        rw [if_pos (ab_beq hb2)]
        exact K
      | false =>
        simp only [hb2, cond_false] at hs
        cases hs
        rw [if_neg (fun h => by rw [h] at hb2; cases hb2)]
        exact K
    | true =>
      simp only [hb, cond_true] at hs
      cases hs
      rw [if_pos (Nat.blt_eq.mp hb)]
      exact K
  case getfield y =>
    obtain ⟨rfl, hd⟩ := ab_dec hdec hlen (by simp [ab_len])
    dsimp only [ab_step] at hs
    simp only [Bool.or_eq_true] at hm
    split at hs
    · rename_i t n r
      cases hb : Nat.beq t a with
      | false => simp only [hb, cond_false] at hs; cases hs
      | true =>
        simp only [hb, cond_true] at hs
        cases hs
        have := ab_beq hb
        subst this
        rcases hm with hm | hm
        · exact s_getfield X hd hm K
        · exact s_getstr X hd hm K
    · cases hs
  case putfield y =>
    obtain ⟨rfl, hd⟩ := ab_dec hdec hlen (by simp [ab_len])
    dsimp only [ab_step] at hs
    simp only [Bool.and_eq_true, Bool.or_eq_true, decide_eq_true_eq] at hm
    split at hs
    · rename_i v t n r
      cases hb : (Nat.beq t a && Nat.blt a 11) with
      | false => simp only [hb, cond_false] at hs; cases hs
      | true =>
        simp only [hb, cond_true] at hs
        split at hs
        · rename_i c9 μ9 hp
          cases hs
          simp only [Bool.and_eq_true] at hb
          have := ab_beq hb.1
          subst this
          have hgd : vwCl.getD t ("", TX0, 0) = ab_q t := by
            rw [List.getD_eq_getElem?_getD, ab_q_at (Nat.blt_eq.mp hb.2)]; rfl
          rw [hgd] at hm
          exact s_putfield X hd hm.1 hm.2 hp hcn K
        · cases hs
    · cases hs
  case iaload =>
    obtain ⟨rfl, hd⟩ := ab_dec hdec hlen (by simp [ab_len])
    dsimp only [ab_step] at hs
    split at hs
    · rename_i i t n r
      cases hb : (Nat.beq t 11 || Nat.beq t 20) with
      | false => simp only [hb, cond_false] at hs; cases hs
      | true =>
        simp only [hb, cond_true] at hs
        cases hs
        simp only [Bool.or_eq_true] at hb
        exact s_iaload X hd (hb.imp ab_beq ab_beq) hcn K
    · cases hs
  case baload =>
    obtain ⟨rfl, hd⟩ := ab_dec hdec hlen (by simp [ab_len])
    dsimp only [ab_step] at hs
    split at hs
    · rename_i i t n r
      cases hb : (Nat.beq t 12 || (Nat.beq t 13 || Nat.beq t 22)) with
      | false => simp only [hb, cond_false] at hs; cases hs
      | true =>
        simp only [hb, cond_true] at hs
        cases hs
        simp only [Bool.or_eq_true] at hb
        exact s_baload X hd (hb.imp ab_beq (fun h => h.imp ab_beq ab_beq)) hcn K
    · cases hs
  case iastore =>
    obtain ⟨rfl, hd⟩ := ab_dec hdec hlen (by simp [ab_len])
    dsimp only [ab_step] at hs
    split at hs
    · rename_i x i t n r
      cases hb : Nat.beq t 11 with
      | false => simp only [hb, cond_false] at hs; cases hs
      | true =>
        simp only [hb, cond_true] at hs
        have := ab_beq hb
        subst this
        cases hs
        exact s_iastore X hd hcn K
    · cases hs
  case bastore =>
    obtain ⟨rfl, hd⟩ := ab_dec hdec hlen (by simp [ab_len])
    dsimp only [ab_step] at hs
    split at hs
    · rename_i x i t n r
      cases hb : Nat.beq t 12 with
      | true =>
        simp only [hb, cond_true] at hs
        have := ab_beq hb
        subst this
        cases hs
        exact s_bastore X hd hcn.1 hcn.2 K
      | false =>
        simp only [hb, cond_false] at hs
        cases hb2 : Nat.beq t 13 with
        | false => simp only [hb2, cond_false] at hs; cases hs
        | true =>
          simp only [hb2, cond_true] at hs
          have := ab_beq hb2
          subst this
          cases hs
          exact s_zastore X hd hcn.1 hcn.2 K
    · cases hs
  case aaload =>
    obtain ⟨rfl, hd⟩ := ab_dec hdec hlen (by simp [ab_len])
    dsimp only [ab_step] at hs
    split at hs
    · rename_i i t n r
      cases hb : (Nat.ble 14 t && Nat.ble t 18) with
      | false => simp only [hb, cond_false] at hs; cases hs
      | true =>
        simp only [hb, cond_true] at hs
        simp only [Bool.and_eq_true] at hb
        cases hs
        exact s_aaload X hd (Nat.ble_eq.mp hb.1) (Nat.ble_eq.mp hb.2) hcn K
    · cases hs
  case aastore =>
    obtain ⟨rfl, hd⟩ := ab_dec hdec hlen (by simp [ab_len])
    dsimp only [ab_step] at hs
    split at hs
    · rename_i t' v i t n r
      cases hb : (Nat.ble 14 t && (Nat.ble t 17 && Nat.beq t' (ab_et t))) with
      | false => simp only [hb, cond_false] at hs; cases hs
      | true =>
        simp only [hb, cond_true] at hs
        simp only [Bool.and_eq_true] at hb
        cases hs
        exact s_aastore X hd (Nat.ble_eq.mp hb.1) (Nat.ble_eq.mp hb.2.1) (ab_beq hb.2.2) hcn K
    · cases hs
  case arraylength =>
    obtain ⟨rfl, hd⟩ := ab_dec hdec hlen (by simp [ab_len])
    dsimp only [ab_step] at hs
    split at hs
    · rename_i t n r
      cases hb : ((Nat.ble 11 t && Nat.ble t 18) || (Nat.beq t 20 || Nat.beq t 22)) with
      | false => simp only [hb, cond_false] at hs; cases hs
      | true =>
        simp only [hb, cond_true] at hs
        simp only [Bool.and_eq_true, Bool.or_eq_true] at hb
        cases hs
        exact s_alen X hd (hb.imp (fun h => ⟨Nat.ble_eq.mp h.1, Nat.ble_eq.mp h.2⟩) (fun h => h.imp ab_beq ab_beq)) K
    · cases hs
  case new y =>
    obtain ⟨rfl, hd⟩ := ab_dec hdec hlen (by simp [ab_len])
    dsimp only [ab_step] at hs
    cases hs
    exact s_new X hd hm hroom K
  case newarray y =>
    obtain ⟨rfl, hd⟩ := ab_dec hdec hlen (by simp [ab_len])
    dsimp only [ab_step] at hs
    simp only [decide_eq_true_eq] at hm
    split at hs
    · cases hs; exact s_newarray X hd hm hcn hroom K
    · cases hs
  case anewarray y =>
    obtain ⟨rfl, hd⟩ := ab_dec hdec hlen (by simp [ab_len])
    dsimp only [ab_step] at hs
    split at hs
    · cases hs; exact s_anewarray X hd hm hcn hroom K
    · cases hs
  case multianewarray y dm =>
    obtain ⟨rfl, hd⟩ := ab_dec hdec hlen (by simp [ab_len])
    dsimp only [ab_step] at hs
    cases hb : Nat.beq dm 2 with
    | false => simp only [hb, cond_false] at hs; cases hs
    | true =>
      simp only [hb, cond_true] at hs
      have := ab_beq hb
      subst this
      split at hs
      · cases hs; exact s_mna (y2 := 0) X hd hm hcn hroom K
      · cases hs
  case ldc y =>
    obtain ⟨rfl, hd⟩ := ab_dec hdec hlen (by simp [ab_len])
    dsimp only [ab_step] at hs
    simp only [Bool.and_eq_true, Bool.or_eq_true] at hm
    rcases hm with ⟨h1, h2⟩ | ⟨h1, h2⟩
    · have := ab_beq h1
      subst this
      simp only [show Nat.beq 0 0 = true from rfl, cond_true] at hs
      cases hs
      exact s_ldci X hd h2 K
    · have := ab_beq h1
      subst this
      simp only [show Nat.beq 1 0 = false from rfl, cond_false] at hs
      cases hs
      exact s_ldcs X hd h2 K
  case ldc2_w y =>
    obtain ⟨rfl, hd⟩ := ab_dec hdec hlen (by simp [ab_len])
    dsimp only [ab_step] at hs
    refine s_ldc2 X hd hm ?_
    cases hb : Nat.beq b 0 with
    | false =>
      simp only [hb, cond_false] at hs
      cases hs
      rw [if_neg (fun h => by subst h; cases hb)]
      exact K
    | true =>
      simp only [hb, cond_true] at hs
      cases hs
      rw [if_pos (ab_beq hb)]
      exact K
  case invokespecial y =>
    obtain ⟨rfl, hd⟩ := ab_dec hdec hlen (by simp [ab_len])
    dsimp only [ab_step] at hs
    split at hs
    · rename_i t n r
      cases hb : (Nat.beq a 999 && Nat.ble (ab_wd r) 8) with
      | false => simp only [hb, cond_false] at hs; cases hs
      | true =>
        simp only [hb, cond_true] at hs
        cases hs
        simp only [Bool.and_eq_true] at hb
        have ha := ab_beq hb.1
        subst ha
        simp only [Bool.or_eq_true] at hm
        rcases hm with (hm | hm) | hm
        · have := (ab_CIok hm).1; omega
        · have := (ab_CNok hm).1; omega
        · exact s_objinit X hd hm (Nat.ble_eq.mp hb.2) K
    · cases hs
  case invokestatic y =>
    obtain ⟨rfl, hd⟩ := ab_dec hdec hlen (by simp [ab_len])
    dsimp only [ab_step] at hs
    simp only [Bool.or_eq_true] at hm
    have hac : 996 ≤ a → ab_AC.elem ((ab_nm k).cls, y, a) = true := fun h => by
      rcases hm with hm | hm
      · have := (ab_CSok hm).1; omega
      · exact hm
    cases h8 : Nat.beq a 998 with
    | true =>
      simp only [h8, cond_true] at hs
      have ha := ab_beq h8
      subst ha
      split at hs
      · rename_i u dp t2 n2 sp t n r
        cases hb : (Nat.beq t 11 && (Nat.beq t2 11 && Nat.ble (ab_wd r) 8)) with
        | false => simp only [hb, cond_false] at hs; cases hs
        | true =>
          simp only [hb, cond_true] at hs
          simp only [Bool.and_eq_true] at hb
          have e1 := ab_beq hb.1
          have e2 := ab_beq hb.2.1
          subst e1; subst e2
          cases hs
          exact s_copy X hd (hac (by omega)) (Nat.ble_eq.mp hb.2.2) hcn K
      · cases hs
    | false =>
      simp only [h8, cond_false] at hs
      cases h6 : Nat.beq a 996 with
      | true =>
        simp only [h6, cond_true] at hs
        have ha := ab_beq h6
        subst ha
        split at hs
        · rename_i v u r
          cases hb : Nat.ble (ab_wd r) 8 with
          | false => simp only [hb, cond_false] at hs; cases hs
          | true =>
            simp only [hb, cond_true] at hs
            cases hs
            exact s_max X hd (hac (by omega)) (Nat.ble_eq.mp hb) hroom K
        · cases hs
      | false =>
        simp only [h6, cond_false] at hs
        cases h7 : Nat.beq a 997 with
        | false => simp only [h7, cond_false] at hs; cases hs
        | true =>
          simp only [h7, cond_true] at hs
          have ha := ab_beq h7
          subst ha
          split at hs
          · rename_i v u r
            cases hb : Nat.ble (ab_wd r) 8 with
            | false => simp only [hb, cond_false] at hs; cases hs
            | true =>
              simp only [hb, cond_true] at hs
              cases hs
              exact s_min X hd (hac (by omega)) (Nat.ble_eq.mp hb) hroom K
          · cases hs
  all_goals (dsimp only [ab_step] at hs; cases hs)
end
