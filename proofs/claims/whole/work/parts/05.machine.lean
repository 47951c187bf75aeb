/-! ===== the abstract machine: ints are Int, a reference is a tag and a number, the memory is by tag, number, place ===== -/
abbrev ab_V : Type := Int ⊕ (Int ⊕ (Nat × Option Nat))
abbrev ab_i (z : Int) : ab_V := Sum.inl z
abbrev ab_l (z : Int) : ab_V := Sum.inr (Sum.inl z)
abbrev ab_r (t : Nat) (o : Option Nat) : ab_V := Sum.inr (Sum.inr (t, o))
abbrev ab_L : Type := List (Nat × ab_V)
abbrev ab_M : Type := (Nat → Nat → Nat → Int) × (Nat → Nat → Nat → Int) × (Nat → Nat → Nat → Option Nat) × (Nat → Nat → Nat) × (Nat → Nat) × Nat × Nat
/-- ints, longs, references of a cell; its length; how many cells of a tag; all cells, all slots -/
def ag_I (μ : ab_M) (t n k : Nat) : Int := μ.1 t n k
def ag_J (μ : ab_M) (t n k : Nat) : Int := μ.2.1 t n k
def ag_R (μ : ab_M) (t n k : Nat) : Option Nat := μ.2.2.1 t n k
def ag_L (μ : ab_M) (t n : Nat) : Nat := μ.2.2.2.1 t n
def ag_C (μ : ab_M) (t : Nat) : Nat := μ.2.2.2.2.1 t
def ag_c (μ : ab_M) : Nat := μ.2.2.2.2.2.1
def ag_s (μ : ab_M) : Nat := μ.2.2.2.2.2.2
def ab_u3 {α : Type} (f : Nat → Nat → Nat → α) (t n k : Nat) (x : α) : Nat → Nat → Nat → α := fun t' n' k' => if t' = t ∧ n' = n ∧ k' = k then x else f t' n' k'
def ab_z3 {α : Type} (f : Nat → Nat → Nat → α) (t n : Nat) (x : α) : Nat → Nat → Nat → α := fun t' n' k' => if t' = t ∧ n' = n then x else f t' n' k'
def as_I (μ : ab_M) (t n k : Nat) (x : Int) : ab_M := (ab_u3 μ.1 t n k x, μ.2)
def as_J (μ : ab_M) (t n k : Nat) (x : Int) : ab_M := (μ.1, ab_u3 μ.2.1 t n k x, μ.2.2)
def as_R (μ : ab_M) (t n k : Nat) (x : Option Nat) : ab_M := (μ.1, μ.2.1, ab_u3 μ.2.2.1 t n k x, μ.2.2.2)
/-- a new cell of a tag, of length len, with sl slots: all 0, null -/
def as_N (μ : ab_M) (t len sl : Nat) : ab_M := (ab_z3 μ.1 t (ag_C μ t) 0, ab_z3 μ.2.1 t (ag_C μ t) 0, ab_z3 μ.2.2.1 t (ag_C μ t) none, (fun t' n' => if t' = t ∧ n' = ag_C μ t then len else μ.2.2.2.1 t' n'), (fun t' => if t' = t then ag_C μ t + 1 else μ.2.2.2.2.1 t'), μ.2.2.2.2.2.1 + 1, μ.2.2.2.2.2.2 + sl)
/-- c places of an int array onto another's -/
def as_Y (μ : ab_M) (t n sp n2 dp c : Nat) : ab_M := ((fun t' n' k' => if t' = t ∧ n' = n2 ∧ dp ≤ k' ∧ k' < dp + c then μ.1 t n (sp + (k' - dp)) else μ.1 t' n' k'), μ.2)
/-- an array of n int arrays of length c -/
def as_W (μ : ab_M) (n c : Nat) : ab_M := ((fun t' n' k' => if (t' = 11 ∧ ag_C μ 11 ≤ n' ∧ n' < ag_C μ 11 + n) ∨ (t' = 18 ∧ n' = ag_C μ 18) then 0 else μ.1 t' n' k'), (fun t' n' k' => if (t' = 11 ∧ ag_C μ 11 ≤ n' ∧ n' < ag_C μ 11 + n) ∨ (t' = 18 ∧ n' = ag_C μ 18) then 0 else μ.2.1 t' n' k'), (fun t' n' k' => if t' = 18 ∧ n' = ag_C μ 18 then (if k' < n then some (ag_C μ 11 + k') else none) else if t' = 11 ∧ ag_C μ 11 ≤ n' ∧ n' < ag_C μ 11 + n then none else μ.2.2.1 t' n' k'), (fun t' n' => if t' = 18 ∧ n' = ag_C μ 18 then n else if t' = 11 ∧ ag_C μ 11 ≤ n' ∧ n' < ag_C μ 11 + n then c else μ.2.2.2.1 t' n'), (fun t' => if t' = 18 then ag_C μ 18 + 1 else if t' = 11 then ag_C μ 11 + n else μ.2.2.2.2.1 t'), μ.2.2.2.2.2.1 + 1 + n, μ.2.2.2.2.2.2 + n + n * c)
def ab_cat (v : ab_V) : Nat := match v with
  | .inr (.inl _) => 2
  | _ => 1
def ab_lk : ab_L → Nat → Option ab_V
  | [], _ => none
  | q :: l, i => bif Nat.beq q.1 i then some q.2 else ab_lk l i
def ab_up : ab_L → Nat → ab_V → ab_L
  | [], i, v => [(i, v)]
  | q :: l, i, v => bif Nat.beq q.1 i then (i, v) :: l else q :: ab_up l i v
/-- no other value stands in the words that are written -/
def ab_na : ab_L → Nat → Nat → Bool
  | [], _, _ => true
  | q :: l, i, w => (Nat.ble (q.1 + ab_cat q.2) i || Nat.ble (i + w) q.1) && ab_na l i w
def ab_nc : ab_L → Nat → Nat → Bool
  | [], _, _ => true
  | q :: l, i, w => bif Nat.beq q.1 i then ab_na l i w else (Nat.ble (q.1 + ab_cat q.2) i || Nat.ble (i + w) q.1) && ab_nc l i w
def ab_wr (z : Int) : Int := (Int32.ofInt z).toInt
def ab_wl (z : Int) : Int := (Int64.ofInt z).toInt
def ab_sm (m : Nat) (z : Int) : Bool := match z with
  | .ofNat n => Nat.ble n m
  | .negSucc n => Nat.ble n m
def ab_and (x y : Int) : Int := (Int32.ofInt x &&& Int32.ofInt y).toInt
def ab_or (x y : Int) : Int := (Int32.ofInt x ||| Int32.ofInt y).toInt
def ab_shl (x y : Int) : Int := (Int32.ofInt x <<< (Int32.ofInt y &&& 31)).toInt
def ab_shr (x y : Int) : Int := (Int32.ofInt x >>> (Int32.ofInt y &&& 31)).toInt
def ab_ush (x y : Int) : Int := (((Int32.ofInt x).toUInt32 >>> ((Int32.ofInt y).toUInt32 &&& Int32.toUInt32 31)).toInt32).toInt
def ab_i2b (x : Int) : Int := ((Int32.ofInt x).toInt8.toInt32).toInt
def ab_i2c (x : Int) : Int := (((Int32.ofInt x).toUInt32 % 65536).toInt32).toInt
abbrev ab_P : Type := Option (Prop × ab_M × Nat × ab_L × List ab_V)
/-- the value of a field -/
def ab_gv (μ : ab_M) (t n k : Nat) (f : Nat × Nat) : ab_V := match f.1 with
  | 0 => ab_i (ag_I μ t n k)
  | 1 => ab_i (ag_I μ t n k)
  | 2 => ab_l (ag_J μ t n k)
  | _ => ab_r f.2 (ag_R μ t n k)
def ab_pv (μ : ab_M) (t n k : Nat) (f : Nat × Nat) (v : ab_V) : Option (Prop × ab_M) := match f.1, v with
  | 0, .inl z => some (True, as_I μ t n k z)
  | 1, .inl z => some (z = 0 ∨ z = 1, as_I μ t n k z)
  | 2, .inr (.inl z) => some (True, as_J μ t n k z)
  | 3, .inr (.inr (t', o)) => bif Nat.beq t' f.2 then some (True, as_R μ t n k o) else match o with
    | none => some (True, as_R μ t n k none)
    | some _ => none
  | _, _ => none
def ab_ic (c : Jvm.ClassFile.Cond) (x y : Int) (a b : Nat) : Nat := match c with
  | .eq => if x = y then a else b
  | .ne => if x ≠ y then a else b
  | .lt => if x < y then a else b
  | .ge => if y ≤ x then a else b
  | .gt => if y < x then a else b
  | .le => if x ≤ y then a else b
def ab_sw (pc : Nat) (d lo hi : Int) (os : Array Int) (x : Int) : Nat := if x < lo ∨ hi < x then ((pc : Int) + d).toNat else ((pc : Int) + (os.getD (x - lo).toNat 0)).toNat
/-- the elements' tag of an array of references -/
def ab_et (t : Nat) : Nat := bif Nat.beq t 14 then 3 else bif Nat.beq t 15 then 4 else bif Nat.beq t 16 then 5 else bif Nat.beq t 17 then 6 else 11
def ab_ld (μ : ab_M) (l : ab_L) (st : List ab_V) (i nx : Nat) : ab_P := match ab_lk l i with
  | some v => some (True, μ, nx, l, v :: st)
  | none => none
def ab_ldi (μ : ab_M) (l : ab_L) (st : List ab_V) (i nx : Nat) : ab_P := match ab_lk l i with
  | some (.inl z) => some (True, μ, nx, l, ab_i z :: st)
  | _ => none
def ab_ldl (μ : ab_M) (l : ab_L) (st : List ab_V) (i nx : Nat) : ab_P := match ab_lk l i with
  | some (.inr (.inl z)) => some (True, μ, nx, l, ab_l z :: st)
  | _ => none
def ab_ldr (μ : ab_M) (l : ab_L) (st : List ab_V) (i nx : Nat) : ab_P := match ab_lk l i with
  | some (.inr (.inr (t, o))) => some (True, μ, nx, l, ab_r t o :: st)
  | _ => none
def ab_sti (μ : ab_M) (l : ab_L) (st : List ab_V) (i nx : Nat) : ab_P := match st with
  | .inl z :: r => bif ab_nc l i 1 then some (True, μ, nx, ab_up l i (ab_i z), r) else none
  | _ => none
def ab_stl (μ : ab_M) (l : ab_L) (st : List ab_V) (i nx : Nat) : ab_P := match st with
  | .inr (.inl z) :: r => bif ab_nc l i 2 then some (True, μ, nx, ab_up l i (ab_l z), r) else none
  | _ => none
def ab_str (μ : ab_M) (l : ab_L) (st : List ab_V) (i nx : Nat) : ab_P := match st with
  | .inr (.inr (t, o)) :: r => bif ab_nc l i 1 then some (True, μ, nx, ab_up l i (ab_r t o), r) else none
  | _ => none
def ab_b2 (μ : ab_M) (l : ab_L) (st : List ab_V) (nx : Nat) (f : Int → Int → Int) : ab_P := match st with
  | .inl y :: .inl x :: r => some (True, μ, nx, l, ab_i (f x y) :: r)
  | _ => none
def ab_l2 (μ : ab_M) (l : ab_L) (st : List ab_V) (nx : Nat) (c : Int → Int → Prop) (f : Int → Int → Int) : ab_P := match st with
  | .inr (.inl y) :: .inr (.inl x) :: r => some (c x y, μ, nx, l, ab_l (f x y) :: r)
  | _ => none
def ab_wd : List ab_V → Nat
  | [] => 0
  | v :: r => ab_cat v + ab_wd r
/-- an instruction that is no call and no return: what must hold, and the state behind it -/
def ab_step (i : Instr) (pc nx a b : Nat) (μ : ab_M) (l : ab_L) (st : List ab_V) : ab_P := match i with
  | .iconst z => bif ab_sm 127 z then some (True, μ, nx, l, ab_i z :: st) else none
  | .bipush z => bif ab_sm 127 z then some (True, μ, nx, l, ab_i z :: st) else none
  | .sipush z => bif ab_sm 32767 z then some (True, μ, nx, l, ab_i z :: st) else none
  | .lconst z => some (True, μ, nx, l, ab_l (z : Nat) :: st)
  | .ldc _ => bif Nat.beq b 0 then some (True, μ, nx, l, ab_i a :: st) else some (True, μ, nx, l, ab_r 21 (some a) :: st)
  | .ldc2_w _ => bif Nat.beq b 0 then some (True, μ, nx, l, ab_l a :: st) else some (True, μ, nx, l, ab_l (-a) :: st)
  | .aconst_null => some (True, μ, nx, l, ab_r 99 none :: st)
  | .iload j => ab_ldi μ l st j nx
  | .iload_n j => ab_ldi μ l st j nx
  | .lload j => ab_ldl μ l st j nx
  | .lload_n j => ab_ldl μ l st j nx
  | .aload j => ab_ldr μ l st j nx
  | .aload_n j => ab_ldr μ l st j nx
  | .istore j => ab_sti μ l st j nx
  | .istore_n j => ab_sti μ l st j nx
  | .lstore j => ab_stl μ l st j nx
  | .lstore_n j => ab_stl μ l st j nx
  | .astore j => ab_str μ l st j nx
  | .astore_n j => ab_str μ l st j nx
  | .iinc j z => match ab_lk l j with
    | some (.inl x) => bif ab_nc l j 1 then some (True, μ, nx, ab_up l j (ab_i (ab_wr (x + z))), st) else none
    | _ => none
  | .iadd => ab_b2 μ l st nx (fun x y => ab_wr (x + y))
  | .isub => ab_b2 μ l st nx (fun x y => ab_wr (x - y))
  | .imul => ab_b2 μ l st nx (fun x y => ab_wr (x * y))
  | .iand => ab_b2 μ l st nx ab_and
  | .ior => ab_b2 μ l st nx ab_or
  | .ishl => ab_b2 μ l st nx ab_shl
  | .ishr => ab_b2 μ l st nx ab_shr
  | .iushr => ab_b2 μ l st nx ab_ush
  | .ladd => ab_l2 μ l st nx (fun _ _ => True) (fun x y => ab_wl (x + y))
  | .lsub => ab_l2 μ l st nx (fun _ _ => True) (fun x y => ab_wl (x - y))
  | .lmul => ab_l2 μ l st nx (fun _ _ => True) (fun x y => ab_wl (x * y))
  | .ldiv => ab_l2 μ l st nx (fun x y => 0 ≤ x ∧ 0 < y) (fun x y => x / y)
  | .lrem => ab_l2 μ l st nx (fun x y => 0 ≤ x ∧ 0 < y) (fun x y => x % y)
  | .lcmp => match st with
    | .inr (.inl y) :: .inr (.inl x) :: r => some (True, μ, nx, l, ab_i (if y < x then 1 else if x = y then 0 else -1) :: r)
    | _ => none
  | .i2l => match st with
    | .inl x :: r => some (True, μ, nx, l, ab_l x :: r)
    | _ => none
  | .i2b => match st with
    | .inl x :: r => some (True, μ, nx, l, ab_i (ab_i2b x) :: r)
    | _ => none
  | .i2c => match st with
    | .inl x :: r => some (True, μ, nx, l, ab_i (ab_i2c x) :: r)
    | _ => none
  | .dup => match st with
    | v :: r => bif Nat.beq (ab_cat v) 1 then some (True, μ, nx, l, v :: v :: r) else none
    | _ => none
  | .pop => match st with
    | v :: r => bif Nat.beq (ab_cat v) 1 then some (True, μ, nx, l, r) else none
    | _ => none
  | .goto _ => some (True, μ, a, l, st)
  | .ifCond c _ => match st with
    | .inl x :: r => some (True, μ, ab_ic c x 0 a nx, l, r)
    | _ => none
  | .if_icmp c _ => match st with
    | .inl y :: .inl x :: r => some (True, μ, ab_ic c x y a nx, l, r)
    | _ => none
  | .ifnull _ => match st with
    | .inr (.inr (_, o)) :: r => some (True, μ, (if o = none then a else nx), l, r)
    | _ => none
  | .ifnonnull _ => match st with
    | .inr (.inr (_, o)) :: r => some (True, μ, (if o = none then nx else a), l, r)
    | _ => none
  | .tableswitch d lo hi os => match st with
    | .inl x :: r => some (True, μ, ab_sw pc d lo hi os x, l, r)
    | _ => none
  | .getstatic _ => bif Nat.blt a 2 then some (True, μ, nx, l, ab_r 20 (some a) :: st) else bif Nat.beq a 2 then some (True, μ, nx, l, ab_i 1 :: st) else some (True, μ, nx, l, ab_r 23 (ag_R μ 23 0 0) :: st)
  | .getfield _ => match st with
    | .inr (.inr (t, some n)) :: r => bif Nat.beq t a then some (True, μ, nx, l, ab_gv μ a n b (ab_ft a b) :: r) else none
    | _ => none
  | .putfield _ => match st with
    | v :: .inr (.inr (t, some n)) :: r => bif Nat.beq t a && Nat.blt a 11 then match ab_pv μ a n b (ab_ft a b) v with
      | some (c, μ1) => some (c, μ1, nx, l, r)
      | none => none else none
    | _ => none
  | .iaload => match st with
    | .inl i :: .inr (.inr (t, some n)) :: r => bif Nat.beq t 11 || Nat.beq t 20 then some (0 ≤ i ∧ i < ag_L μ t n, μ, nx, l, ab_i (ag_I μ t n i.toNat) :: r) else none
    | _ => none
  | .baload => match st with
    | .inl i :: .inr (.inr (t, some n)) :: r => bif Nat.beq t 12 || (Nat.beq t 13 || Nat.beq t 22) then some (0 ≤ i ∧ i < ag_L μ t n, μ, nx, l, ab_i (ag_I μ t n i.toNat) :: r) else none
    | _ => none
  | .iastore => match st with
    | .inl x :: .inl i :: .inr (.inr (t, some n)) :: r => bif Nat.beq t 11 then some (0 ≤ i ∧ i < ag_L μ t n, as_I μ t n i.toNat x, nx, l, r) else none
    | _ => none
  | .bastore => match st with
    | .inl x :: .inl i :: .inr (.inr (t, some n)) :: r => bif Nat.beq t 12 then some ((0 ≤ i ∧ i < ag_L μ t n) ∧ ab_i2b x = x, as_I μ t n i.toNat x, nx, l, r) else bif Nat.beq t 13 then some ((0 ≤ i ∧ i < ag_L μ t n) ∧ (x = 0 ∨ x = 1), as_I μ t n i.toNat x, nx, l, r) else none
    | _ => none
  | .aaload => match st with
    | .inl i :: .inr (.inr (t, some n)) :: r => bif Nat.ble 14 t && Nat.ble t 18 then some (0 ≤ i ∧ i < ag_L μ t n, μ, nx, l, ab_r (ab_et t) (ag_R μ t n i.toNat) :: r) else none
    | _ => none
  | .aastore => match st with
    | .inr (.inr (t', some x)) :: .inl i :: .inr (.inr (t, some n)) :: r => bif Nat.ble 14 t && (Nat.ble t 17 && Nat.beq t' (ab_et t)) then some (0 ≤ i ∧ i < ag_L μ t n, as_R μ t n i.toNat (some x), nx, l, r) else none
    | _ => none
  | .arraylength => match st with
    | .inr (.inr (t, some n)) :: r => bif (Nat.ble 11 t && Nat.ble t 18) || (Nat.beq t 20 || Nat.beq t 22) then some (True, μ, nx, l, ab_i (ag_L μ t n) :: r) else none
    | _ => none
  | .new _ => some (True, as_N μ a 0 (ab_nf a), nx, l, ab_r a (some (ag_C μ a)) :: st)
  | .newarray _ => match st with
    | .inl z :: r => some (0 ≤ z ∧ z ≤ 100000, as_N μ a z.toNat z.toNat, nx, l, ab_r a (some (ag_C μ a)) :: r)
    | _ => none
  | .anewarray _ => match st with
    | .inl z :: r => some (0 ≤ z ∧ z ≤ 100000, as_N μ a z.toNat z.toNat, nx, l, ab_r a (some (ag_C μ a)) :: r)
    | _ => none
  | .multianewarray _ dm => bif Nat.beq dm 2 then match st with
    | .inl z :: .inl y :: r => some ((0 ≤ z ∧ z ≤ 100) ∧ (0 ≤ y ∧ y ≤ 100), as_W μ y.toNat z.toNat, nx, l, ab_r 18 (some (ag_C μ 18)) :: r)
    | _ => none else none
  | .invokespecial _ => match st with
    | .inr (.inr (_, some _)) :: r => bif Nat.beq a 999 && Nat.ble (ab_wd r) 8 then some (True, μ, nx, l, r) else none
    | _ => none
  | .invokestatic _ => bif Nat.beq a 998 then match st with
    | .inl c :: .inl dp :: .inr (.inr (t2, some n2)) :: .inl sp :: .inr (.inr (t, some n)) :: r => bif Nat.beq t 11 && (Nat.beq t2 11 && Nat.ble (ab_wd r) 8) then some (0 ≤ c ∧ 0 ≤ sp ∧ 0 ≤ dp ∧ sp + c ≤ ag_L μ t n ∧ dp + c ≤ ag_L μ t2 n2, as_Y μ t n sp.toNat n2 dp.toNat c.toNat, nx, l, r) else none
    | _ => none else bif Nat.beq a 996 then match st with
    | .inl y :: .inl x :: r => bif Nat.ble (ab_wd r) 8 then some (True, μ, nx, l, ab_i (max x y) :: r) else none
    | _ => none else bif Nat.beq a 997 then match st with
    | .inl y :: .inl x :: r => bif Nat.ble (ab_wd r) 8 then some (True, μ, nx, l, ab_i (min x y) :: r) else none
    | _ => none else none
  | _ => none
/-- the arguments of a call, and what stays on the stack -/
def ab_pop : Nat → List ab_V → List ab_V → Option (List ab_V × List ab_V)
  | 0, as, st => some (as, st)
  | _ + 1, _, [] => none
  | n + 1, as, v :: st => ab_pop n (v :: as) st
def ab_isc (i : Instr) : Bool := match i with
  | .invokevirtual _ => true
  | .invokespecial _ => true
  | .invokestatic _ => true
  | _ => false
def ab_rok (i : Instr) (a : Nat) (as : List ab_V) : Bool := match i with
  | .invokestatic _ => true
  | _ => match as with
    | .inr (.inr (t, some _)) :: _ => Nat.beq t (ab_ct a)
    | _ => false
def ab_call (i : Instr) (a b : Nat) (st : List ab_V) : Option (List ab_V × List ab_V) := bif ab_isc i && Nat.blt a 164 then match ab_pop b [] st with
  | some (as, r) => bif Nat.ble (ab_wd r) 8 && (ab_rok i a as && Nat.ble (ab_wd as) (ab_ml a)) then some (as, r) else none
  | none => none else none
def ab_rc (rt : Option FieldType) (z : Int) : Prop := match rt with
  | some .int => True
  | some .boolean => z = 0 ∨ z = 1
  | some .byte => ab_i2b z = z
  | some .char => ab_i2c z = z
  | _ => False
def ab_ret (i : Instr) (rt : Option FieldType) (st : List ab_V) : Option (Prop × Option ab_V) := match i, st with
  | .ireturn, [.inl z] => some (ab_rc rt z, some (ab_i z))
  | .lreturn, [.inr (.inl z)] => match rt with
    | some .long => some (True, some (ab_l z))
    | _ => none
  | .areturn, [.inr (.inr (t, o))] => match rt with
    | some (.object _) => some (True, some (ab_r t o))
    | some (.array _) => some (True, some (ab_r t o))
    | _ => none
  | .return_, [] => match rt with
    | none => some (True, none)
    | _ => none
  | _, _ => none
def ab_in : Nat → List ab_V → ab_L
  | _, [] => []
  | i, v :: vs => (i, v) :: ab_in (i + ab_cat v) vs
def ab_push (w : Option ab_V) (r : List ab_V) : List ab_V := match w with
  | none => r
  | some x => x :: r
abbrev ab_R : Type := Nat → List ab_V → ab_M → Option ab_V → ab_M → Prop
def ab_Rn (C : ab_R) (k : Nat) : Nat → ab_M → Nat → ab_L → List ab_V → Option ab_V → ab_M → Prop
  | 0, _, _, _, _, _, _ => False
  | n + 1, μ, pc, l, st, v, μ' => ∃ i nx a b, ab_ins k pc = some (i, nx, a, b) ∧
      ((∃ c μ1 pc1 l1 st1, ab_step i pc nx a b μ l st = some (c, μ1, pc1, l1, st1) ∧ c ∧ ab_Rn C k n μ1 pc1 l1 st1 v μ')
      ∨ (∃ as r w μ1, ab_call i a b st = some (as, r) ∧ C a as μ w μ1 ∧ ab_Rn C k n μ1 nx l (ab_push w r) v μ')
      ∨ (∃ c, ab_ret i (ab_rt k) st = some (c, v) ∧ c ∧ μ' = μ))
/-- a method's run, calls at most d deep -/
def ab_Cl : Nat → ab_R
  | 0 => fun _ _ _ _ _ => False
  | d + 1 => fun k as μ v μ' => ∃ n, ab_Rn (ab_Cl d) k n μ 0 (ab_in 0 as) [] v μ'
/-- from a state within method k: it comes to an end with Q -/
def Wg (d k : Nat) (μ : ab_M) (pc : Nat) (l : ab_L) (st : List ab_V) (Q : Option ab_V → ab_M → Prop) : Prop := ∃ n v μ', ab_Rn (ab_Cl d) k n μ pc l st v μ' ∧ Q v μ'
def Wp (d k : Nat) (as : List ab_V) (μ : ab_M) (Q : Option ab_V → ab_M → Prop) : Prop := ∃ v μ', ab_Cl d k as μ v μ' ∧ Q v μ'
section
variable {d k : Nat} {μ : ab_M} {pc : Nat} {l : ab_L} {st : List ab_V} {Q : Option ab_V → ab_M → Prop}
theorem wg_c {i : Instr} {nx a b : Nat} {c : Prop} {μ1 : ab_M} {pc1 : Nat} {l1 : ab_L} {st1 : List ab_V} (hi : ab_ins k pc = some (i, nx, a, b)) (hs : ab_step i pc nx a b μ l st = some (c, μ1, pc1, l1, st1)) (hc : c) (K : Wg d k μ1 pc1 l1 st1 Q) : Wg d k μ pc l st Q := by
  obtain ⟨n, v, μ', h, hQ⟩ := K
  exact ⟨n + 1, v, μ', ⟨i, nx, a, b, hi, Or.inl ⟨c, μ1, pc1, l1, st1, hs, hc, h⟩⟩, hQ⟩
theorem wg_s {i : Instr} {nx a b : Nat} {μ1 : ab_M} {pc1 : Nat} {l1 : ab_L} {st1 : List ab_V} (hi : ab_ins k pc = some (i, nx, a, b)) (hs : ab_step i pc nx a b μ l st = some (True, μ1, pc1, l1, st1)) (K : Wg d k μ1 pc1 l1 st1 Q) : Wg d k μ pc l st Q := wg_c hi hs trivial K
theorem wg_if {i : Instr} {nx a b : Nat} {c : Prop} [Decidable c] {μ1 : ab_M} {p1 p2 : Nat} {l1 : ab_L} {st1 : List ab_V} (hi : ab_ins k pc = some (i, nx, a, b)) (hs : ab_step i pc nx a b μ l st = some (True, μ1, (if c then p1 else p2), l1, st1)) (K1 : c → Wg d k μ1 p1 l1 st1 Q) (K2 : ¬ c → Wg d k μ1 p2 l1 st1 Q) : Wg d k μ pc l st Q := by
  refine wg_s hi hs ?_
  by_cases h : c
  · rw [if_pos h]; exact K1 h
  · rw [if_neg h]; exact K2 h
theorem wg_call {i : Instr} {nx a b : Nat} {as r : List ab_V} {Q1 : Option ab_V → ab_M → Prop} (hi : ab_ins k pc = some (i, nx, a, b)) (hs : ab_call i a b st = some (as, r)) (hw : Wp d a as μ Q1) (K : ∀ w μ1, Q1 w μ1 → Wg d k μ1 nx l (ab_push w r) Q) : Wg d k μ pc l st Q := by
  obtain ⟨w, μ1, h1, h2⟩ := hw
  obtain ⟨n, v, μ', h, hQ⟩ := K w μ1 h2
  exact ⟨n + 1, v, μ', ⟨i, nx, a, b, hi, Or.inr (Or.inl ⟨as, r, w, μ1, hs, h1, h⟩)⟩, hQ⟩
theorem wg_ret {i : Instr} {nx a b : Nat} {c : Prop} {v : Option ab_V} (hi : ab_ins k pc = some (i, nx, a, b)) (hs : ab_ret i (ab_rt k) st = some (c, v)) (hc : c) (hQ : Q v μ) : Wg d k μ pc l st Q := ⟨1, v, μ, ⟨i, nx, a, b, hi, Or.inr (Or.inr ⟨c, hs, hc, rfl⟩)⟩, hQ⟩
theorem wp_of {as : List ab_V} (h : Wg d k μ 0 (ab_in 0 as) [] Q) : Wp (d + 1) k as μ Q := by
  obtain ⟨n, v, μ', h1, h2⟩ := h
  exact ⟨v, μ', ⟨n, h1⟩, h2⟩
theorem wg_mono {Q' : Option ab_V → ab_M → Prop} (h : Wg d k μ pc l st Q) (hq : ∀ v μ', Q v μ' → Q' v μ') : Wg d k μ pc l st Q' := by
  obtain ⟨n, v, μ', h1, h2⟩ := h
  exact ⟨n, v, μ', h1, hq _ _ h2⟩
theorem wp_mono {as : List ab_V} {Q' : Option ab_V → ab_M → Prop} (h : Wp d k as μ Q) (hq : ∀ v μ', Q v μ' → Q' v μ') : Wp d k as μ Q' := by
  obtain ⟨v, μ', h1, h2⟩ := h
  exact ⟨v, μ', h1, hq _ _ h2⟩
end
