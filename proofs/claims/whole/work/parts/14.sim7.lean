/-! ===== an array of arrays ===== -/
theorem ab_outer (cA : ClassId) (N h0 : Nat) : ∀ i : Nat, Jvm.Free.Multi.outerC cA N h0 i = arrV cA N (fun j => va_rf (if j < i then some (h0 + 1 + j) else none))
  | 0 => by
    show ({ cls := cA, slots := Array.replicate N .null, vm := .none } : Cell) = _
    rw [arrV_new]
    congr 1
  | i + 1 => by
    show (Jvm.Free.Multi.outerC cA N h0 i).setSlot i (.ref (h0 + 1 + i)) = _
    rw [ab_outer cA N h0 i, arrV_store]
    congr 1
    funext j
    by_cases h : j = i
    · subst h
      simp [updV, va_rf]
    · by_cases h2 : j < i
      · simp [updV, h, h2, Nat.lt_succ_of_lt h2]
      · simp [updV, h, h2, show ¬ j < i + 1 by omega]
section
variable {p : Program} {la : Launch} {e : Env} {R : Room} {s : State} {m : MethodId} {args : Array Value} {below : List Frame} {meth : Method} {c : Code} {Q : State → Prop} {D : va_G} {cy : Nat → ClassId} {base c0 s0 k nL : Nat} {adS ad ad' : Nat → Nat → Nat} {μS μ μ1 : ab_M} {H H1 : Heap} {locs locs1 : List Loc} {cells slots : Nat} {ls ls' : Array Slot} {lo lo' : ab_L} {st st' r : List ab_V} {pc nx a b t n N M : Nat} {i x : Int}
theorem ag_I_W {t' n' k' : Nat} : ag_I (as_W μ N M) t' n' k' = if (t' = 11 ∧ ag_C μ 11 ≤ n' ∧ n' < ag_C μ 11 + N) ∨ (t' = 18 ∧ n' = ag_C μ 18) then 0 else ag_I μ t' n' k' := rfl
theorem ag_J_W {t' n' k' : Nat} : ag_J (as_W μ N M) t' n' k' = if (t' = 11 ∧ ag_C μ 11 ≤ n' ∧ n' < ag_C μ 11 + N) ∨ (t' = 18 ∧ n' = ag_C μ 18) then 0 else ag_J μ t' n' k' := rfl
theorem ag_R_W {t' n' k' : Nat} : ag_R (as_W μ N M) t' n' k' = if t' = 18 ∧ n' = ag_C μ 18 then (if k' < N then some (ag_C μ 11 + k') else none) else if t' = 11 ∧ ag_C μ 11 ≤ n' ∧ n' < ag_C μ 11 + N then none else ag_R μ t' n' k' := rfl
theorem ag_L_W {t' n' : Nat} : ag_L (as_W μ N M) t' n' = if t' = 18 ∧ n' = ag_C μ 18 then N else if t' = 11 ∧ ag_C μ 11 ≤ n' ∧ n' < ag_C μ 11 + N then M else ag_L μ t' n' := rfl
theorem ag_C_W {t' : Nat} : ag_C (as_W μ N M) t' = if t' = 18 then ag_C μ 18 + 1 else if t' = 11 then ag_C μ 11 + N else ag_C μ t' := rfl
theorem ag_C_Wle (t' : Nat) : ag_C μ t' ≤ ag_C (as_W μ N M) t' := by
  rw [ag_C_W]
  split
  · rename_i h; rw [h]; omega
  · split
    · rename_i h; rw [h]; omega
    · exact Nat.le_refl _
theorem ab_W_W (hW : ab_W μ) (h1 : N ≤ 100000) (h2 : M ≤ 100000) : ab_W (as_W μ N M) := by
  refine ⟨fun t' n' k' => ?_, fun t' n' k' => ?_, fun t' n' k' j ht hj => ?_, fun t' n' => ?_⟩
  · rw [ag_I_W]; split
    · rfl
    · exact hW.1 _ _ _
  · rw [ag_J_W]; split
    · rfl
    · exact hW.2.1 _ _ _
  · rw [ag_R_W] at hj
    split at hj
    · rename_i h
      split at hj
      · cases hj
        rw [h.1]
        show _ < ag_C (as_W μ N M) 11
        rw [ag_C_W, if_neg (by omega), if_pos rfl]
        omega
      · cases hj
    · split at hj
      · cases hj
      · exact Nat.lt_of_lt_of_le (hW.2.2.1 t' n' k' j ht hj) (ag_C_Wle _)
  · rw [ag_L_W]; split
    · exact h1
    · split
      · exact h2
      · exact hW.2.2.2 _ _
theorem s_mna {y y2 : Nat} {z u : Int} (X : ab_X p R s m args meth c D cy base k adS μS) (hd : decode (ab_cd k) pc = .ok (.multianewarray y 2, 4)) (hl : ab_MN.elem ((ab_nm k).cls, y, a) = true) (hz : (0 ≤ z ∧ z ≤ 100) ∧ (0 ≤ u ∧ u ≤ 100)) (hroom : ag_c (as_W μ u.toNat z.toNat) ≤ c0 + R.cells ∧ ag_s (as_W μ u.toNat z.toNat) ≤ s0 + R.slots) (K : ab_G p la e R s m args below meth c Q D cy base c0 s0 k adS μS (as_W μ u.toNat z.toNat) (pc + 4) lo (ab_r 18 (some (ag_C μ 18)) :: r)) : ab_G p la e R s m args below meth c Q D cy base c0 s0 k adS μS μ pc lo (ab_i z :: ab_i u :: r) := by
  intro ad H locs cells slots ls Z
  obtain ⟨q, h1⟩ := ab_zipat (f := ab_MNf) ab_MNs (List.elem_iff.mp hl)
  simp only [ab_MNf, Bool.and_eq_true, decide_eq_true_eq] at h1
  have hlk := X.2.2.2.2.1 _ (ab_mems_ok h1.2 _ List.mem_cons_self)
  have hv := ab_oks (ab_Z_ok Z)
  have hv2 := ab_oks hv.2
  obtain ⟨Z1, Z2, Z3, Z4, Z5, Z6, Z7, Z8, Z9, -⟩ := id Z
  have hr1 : ag_c μ + 1 + u.toNat ≤ c0 + R.cells := hroom.1
  have hr2 : ag_s μ + u.toNat + u.toNat * z.toNat ≤ s0 + R.slots := hroom.2
  have hneg : ∀ {z : Int}, ab_wr z = z → 0 ≤ z → ¬ Int32.ofInt z < 0 := fun {z} h1 h2 q => by
    have := (ab_lt h1 (show ab_wr 0 = 0 from rfl)).mp q
    omega
  have hcl : ∀ {z : Int}, ab_wr z = z → (Int32.ofInt z).toNatClampNeg = z.toNat := fun {z} h1 => by
    show (Int32.ofInt z).toInt.toNat = z.toNat
    unfold ab_wr at h1
    rw [h1]
  have hcy := ab_cyA X.2.2.2.2.2.1
  intro T hT XS
  have e1 := hcl hv.1
  have e2 := hcl hv2.1
  generalize hNN : u.toNat = N at *
  generalize hMM : z.toNat = M at *
  have hN : N ≤ 100 := by omega
  have hM : M ≤ 100 := by omega
  have hmul : N * M ≤ 100 * 100 := Nat.mul_le_mul hN hM
  obtain ⟨vm₁, cA, comp, -, fA, fC, -, -, X', step⟩ := XS.multianewarray2F X.1 X.2.2.2.1 hlk X.2.2.2.2.2.2.2.1.2.2.2.2.2.2.2.2.1 (X.2.2.2.2.1 _ ab_arr.1) (g := F0 m pc ls (.int (Int32.ofInt z) :: .int (Int32.ofInt u) :: r.map (ab_c ad))) rfl (by rw [X.2.1]; exact hd) rfl (hneg hv2.1 hz.2.1) (hneg hv.1 hz.1.1) (by rw [e2]; omega) (by rw [e1]; show M * 4 ≤ _; omega) (by rw [e1]; omega) rfl rfl (by rw [e2]; omega) (by rw [e1, e2]; omega)
  rw [e1, e2] at X' step
  have ec : cA = cy 18 := by
    have h9 := hcy.2.2.2
    rw [show s.vm.findClass "[[I" = some cA from fA] at h9
    exact Option.some.inj h9
  have ec2 : comp = cy 11 := by
    have h9 := hcy.1
    rw [show s.vm.findClass "[I" = some comp from fC] at h9
    exact Option.some.inj h9
  subst ec; subst ec2
  have hTh : (T.setVm vm₁).heap = H := hT
  obtain ⟨f1, f2, -, -⟩ := Jvm.Free.Multi.fill_facts (T.setVm vm₁) (cy 18) (cy 11) N M (defaultValue .int) N
  have f3 := fun (x : Nat) (hx : x < H.size) => Jvm.Free.Multi.fill_old (T.setVm vm₁) (cy 18) (cy 11) N M (defaultValue .int) (a := x) (by rw [hTh]; exact hx) N
  have f4 := fun (j : Nat) (hj : j < N) => Jvm.Free.Multi.fill_inner (T.setVm vm₁) (cy 18) (cy 11) N M (defaultValue .int) N j hj
  rw [ab_outer] at f2
  rw [hTh] at f1 f2
  simp only [hTh] at f3 f4
  generalize hF : Jvm.Free.Multi.fill (T.setVm vm₁) (cy 18) (cy 11) N M (defaultValue .int) N = F at X' step f1 f2 f3 f4
  let ad' : Nat → Nat → Nat := fun t' n' => if t' = 18 ∧ n' = ag_C μ 18 then H.size else if t' = 11 ∧ ag_C μ 11 ≤ n' ∧ n' < ag_C μ 11 + N then H.size + 1 + (n' - ag_C μ 11) else ad t' n'
  have had : ∀ t' n', ad' t' n' = if t' = 18 ∧ n' = ag_C μ 18 then H.size else if t' = 11 ∧ ag_C μ 11 ≤ n' ∧ n' < ag_C μ 11 + N then H.size + 1 + (n' - ag_C μ 11) else ad t' n' := fun _ _ => rfl
  have hold : ∀ t' n', n' < ag_C μ t' → ¬ (t' = 18 ∧ n' = ag_C μ 18) ∧ ¬ (t' = 11 ∧ ag_C μ 11 ≤ n' ∧ n' < ag_C μ 11 + N) := fun t' n' hn => ⟨by rintro ⟨rfl, rfl⟩; omega, by rintro ⟨rfl, h, -⟩; omega⟩
  have hx : ab_ext μ ad ad' := fun t' n' hn => by rw [had, if_neg (hold t' n' hn).1, if_neg (hold t' n' hn).2]
  have hlt : ∀ t' n', t' < 19 → n' < ag_C μ t' → ad t' n' < H.size := fun t' n' h1 h2 => (Z1.1 t' n' h1 h2).1.lt
  have hkeep := ab_e_keep (cy := cy) (μ1 := as_W μ N M) Z2 hx (fun t' n' _ hn => by
    obtain ⟨g1, g2⟩ := hold t' n' hn
    have g3 : ¬ ((t' = 11 ∧ ag_C μ 11 ≤ n' ∧ n' < ag_C μ 11 + N) ∨ (t' = 18 ∧ n' = ag_C μ 18)) := fun q => q.elim g2 g1
    exact ⟨by rw [ag_L_W, if_neg g1, if_neg g2], fun k' => ⟨by rw [ag_I_W, if_neg g3], by rw [ag_J_W, if_neg g3], by rw [ag_R_W, if_neg g1, if_neg g2]⟩⟩)
  have hcase : ∀ t' n', n' < ag_C (as_W μ N M) t' → (t' = 18 ∧ n' = ag_C μ 18) ∨ (t' = 11 ∧ ag_C μ 11 ≤ n' ∧ n' < ag_C μ 11 + N) ∨ n' < ag_C μ t' := by
    intro t' n' hn
    rw [ag_C_W] at hn
    split at hn
    · rename_i h; subst h
      by_cases h2 : n' = ag_C μ 18
      · exact Or.inl ⟨rfl, h2⟩
      · exact Or.inr (Or.inr (by omega))
    · split at hn
      · rename_i h; subst h
        by_cases h2 : ag_C μ 11 ≤ n'
        · exact Or.inr (Or.inl ⟨rfl, h2, hn⟩)
        · exact Or.inr (Or.inr (by omega))
      · exact Or.inr (Or.inr hn)
  have hb0 : base ≤ H.size := Nat.le_trans X.2.2.2.2.2.2.2.2.1 Z5.1
  have hH : ab_H D cy base ad' (as_W μ N M) F.heap := by
    refine ⟨fun t' n' ht hn => ?_, fun t1 n1 t2 n2 ht1 ht2 hn1 hn2 heq => ?_⟩
    · rcases hcase t' n' hn with ⟨rfl, rfl⟩ | ⟨rfl, g1, g2⟩ | g
      · rw [had, if_pos ⟨rfl, rfl⟩, ab_e_ref (by omega)]
        refine ⟨?_, hb0⟩
        show F.heap[H.size]? = some (vp_cell _ _)
        rw [f2, vp_cell_q, ag_L_W, if_pos ⟨rfl, rfl⟩]
        congr 2
        funext j
        have g9 : ag_R (as_W μ N M) 18 (ag_C μ 18) j = if j < N then some (ag_C μ 11 + j) else none := by rw [ag_R_W, if_pos (show 18 = 18 ∧ ag_C μ 18 = ag_C μ 18 from ⟨rfl, rfl⟩)]
        rw [g9]
        by_cases hj : j < N
        · rw [if_pos hj, if_pos hj]
          show _ = va_rf (some (ad' 11 _))
          rw [had, if_neg (by omega), if_pos ⟨rfl, by omega, by omega⟩]
          congr 2
          omega
        · rw [if_neg hj, if_neg hj]; rfl
      · rw [had, if_neg (by omega), if_pos ⟨rfl, g1, g2⟩, ab_e_int (by omega) (by omega)]
        refine ⟨?_, by omega⟩
        show F.heap[_]? = some (vp_cell _ _)
        rw [f4 (n' - ag_C μ 11) (by omega), vp_cell_i, ag_L_W, if_neg (by omega), if_pos ⟨rfl, g1, g2⟩]
        congr 1
        show ({ cls := cy 11, slots := Array.replicate M (defaultValue .int), vm := .none } : Cell) = _
        rw [arrV_new]
        congr 1
        funext j
        rw [ag_I_W, if_pos (Or.inl ⟨rfl, g1, g2⟩)]
        rfl
      · rw [hkeep t' n' ht g, hx t' n' g]
        exact ⟨(Z1.1 t' n' ht g).1.kept (f3 _ (hlt t' n' ht g)), (Z1.1 t' n' ht g).2⟩
    · rw [had, had] at heq
      rcases hcase t1 n1 hn1 with ⟨rfl, rfl⟩ | ⟨rfl, a1, a2⟩ | g <;> rcases hcase t2 n2 hn2 with ⟨rfl, rfl⟩ | ⟨rfl, b1, b2⟩ | g'
      · exact ⟨rfl, rfl⟩
      · rw [if_pos ⟨rfl, rfl⟩, if_neg (by omega), if_pos ⟨rfl, b1, b2⟩] at heq; omega
      · rw [if_pos ⟨rfl, rfl⟩, if_neg (hold _ _ g').1, if_neg (hold _ _ g').2] at heq
        have := hlt _ _ ht2 g'; omega
      · rw [if_neg (by omega), if_pos ⟨rfl, a1, a2⟩, if_pos ⟨rfl, rfl⟩] at heq; omega
      · rw [if_neg (by omega), if_pos ⟨rfl, a1, a2⟩, if_neg (by omega), if_pos ⟨rfl, b1, b2⟩] at heq
        exact ⟨rfl, by omega⟩
      · rw [if_neg (by omega), if_pos ⟨rfl, a1, a2⟩, if_neg (hold _ _ g').1, if_neg (hold _ _ g').2] at heq
        have := hlt _ _ ht2 g'; omega
      · rw [if_neg (hold _ _ g).1, if_neg (hold _ _ g).2, if_pos ⟨rfl, rfl⟩] at heq
        have := hlt _ _ ht1 g; omega
      · rw [if_neg (hold _ _ g).1, if_neg (hold _ _ g).2, if_neg (by omega), if_pos ⟨rfl, b1, b2⟩] at heq
        have := hlt _ _ ht1 g; omega
      · rw [if_neg (hold _ _ g).1, if_neg (hold _ _ g).2, if_neg (hold _ _ g').1, if_neg (hold _ _ g').2] at heq
        exact Z1.2 _ _ _ _ ht1 ht2 g g' heq
  have hS1 : va_S (fun q => base ≤ q) s.heap F.heap locs := ⟨by rw [f1]; have := Z5.1; omega, fun q g1 g2 => (f3 q (Nat.lt_of_lt_of_le g1 Z5.1)).trans (Z5.2.1 q g1 g2), Z5.2.2⟩
  have hro : ab_ro μS (as_W μ N M) := fun t' ht' => by
    have g1 : ∀ n' : Nat, ¬ (t' = 18 ∧ n' = ag_C μ 18) := fun n' => by omega
    have g2 : ∀ n' : Nat, ¬ (t' = 11 ∧ ag_C μ 11 ≤ n' ∧ n' < ag_C μ 11 + N) := fun n' => by omega
    have g3 : ∀ n' : Nat, ¬ ((t' = 11 ∧ ag_C μ 11 ≤ n' ∧ n' < ag_C μ 11 + N) ∨ (t' = 18 ∧ n' = ag_C μ 18)) := fun n' q => q.elim (g2 n') (g1 n')
    exact ⟨by rw [ag_C_W, if_neg (by omega), if_neg (by omega)]; exact (Z3 t' ht').1, fun n' => ⟨by rw [ag_L_W, if_neg (g1 n'), if_neg (g2 n')]; exact ((Z3 t' ht').2 n').1, fun k' => ⟨by rw [ag_I_W, if_neg (g3 n')]; exact (((Z3 t' ht').2 n').2 k').1, by rw [ag_R_W, if_neg (g1 n'), if_neg (g2 n')]; exact (((Z3 t' ht').2 n').2 k').2⟩⟩⟩
  have ZN : ab_Z D cy base c0 s0 (ab_ml k) adS μS s ad' (as_W μ N M) F.heap locs (cells + 1 + N) (slots + N + N * M) ls lo (ab_r 18 (some (ag_C μ 18)) :: r) := by
    refine ⟨hH, ab_W_W Z2 (by omega) (by omega), hro, ⟨fun t' n' hn => (hx t' n' (Nat.lt_of_lt_of_le hn (Z4.2 t'))).trans (Z4.1 t' n' hn), fun t' => Nat.le_trans (Z4.2 t') (ag_C_Wle t')⟩, hS1, ?_, ?_, by rw [ab_lo_ext hx Z9]; exact Z8, fun q hq => ab_ok_ch ag_C_Wle (Z9 q hq), ab_okc (fun j hj => ?_) (fun v hv => ab_ok_ch ag_C_Wle (hv2.2 v hv))⟩
    · show cells + 1 + N + c0 = ag_c μ + 1 + N; omega
    · show slots + N + N * M + s0 = ag_s μ + N + N * M; omega
    · cases hj; rw [ag_C_W, if_pos rfl]; omega
  obtain ⟨t, a1, b1⟩ := K ad' F.heap locs (cells + 1 + N) (slots + N + N * M) ls ZN F rfl X'
  refine ⟨t, step t ?_, b1⟩
  rw [List.map_cons, ab_map_ext hx hv2.2] at a1
  have e5 : ab_c ad' (ab_r 18 (some (ag_C μ 18))) = .ref T.heap.size := by
    show Value.ref (ad' 18 (ag_C μ 18)) = _
    rw [had, if_pos ⟨rfl, rfl⟩, hT]
  rw [e5] at a1
  exact a1
end
