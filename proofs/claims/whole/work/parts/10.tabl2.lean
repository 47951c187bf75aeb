/-- statics: class, name, type -/
def ab_gsn (a : Nat) : String × String × String := bif Nat.beq a 0 then ("RoomForHelp$AgreementReader", "WITHOUT", "[I") else bif Nat.beq a 1 then ("RoomForHelp$AgreementReader", "MOST", "[I") else bif Nat.beq a 2 then ("java/lang/String", "COMPACT_STRINGS", "Z") else ("jdk/internal/util/Preconditions", "SIOOBE_FORMATTER", "Ljava/util/function/BiFunction;")
def ab_GSp : List (List Nat) := [[179], [676], [618], [634]]
def ab_GSf (e : String × Nat × Nat) (p : List Nat) : Bool := decide (e.2.2 < 4) && ab_mems p [Cond.fieldLink e.1 e.2.1 (ab_gsn e.2.2).1 (ab_gsn e.2.2).2.1 (ab_gsn e.2.2).2.2]
theorem ab_GSs : (ab_GS.length == ab_GSp.length && (ab_GS.zip ab_GSp).all (fun q => ab_GSf q.1 q.2)) = true := by decide +kernel
def ab_sfn (b : Nat) : String × String := bif Nat.beq b 0 then ("value", "[B") else ("coder", "B")
def ab_SFp : List (List Nat) := [[1169], [1170]]
def ab_SFf (e : String × Nat × Nat × Nat) (p : List Nat) : Bool := decide (e.2.2.1 = 21 ∧ e.2.2.2 < 2) && ab_mems p [Cond.fieldLink e.1 e.2.1 "java/lang/String" (ab_sfn e.2.2.2).1 (ab_sfn e.2.2.2).2]
theorem ab_SFs : (ab_SF.length == ab_SFp.length && (ab_SF.zip ab_SFp).all (fun q => ab_SFf q.1 q.2)) = true := by decide +kernel
def ab_MNp : List (List Nat) := [[135]]
def ab_MNf (e : String × Nat × Nat) (p : List Nat) : Bool := decide (e.2.2 = 18) && ab_mems p [Cond.classLink e.1 e.2.1 "[[I"]
theorem ab_MNs : (ab_MN.length == ab_MNp.length && (ab_MN.zip ab_MNp).all (fun q => ab_MNf q.1 q.2)) = true := by decide +kernel
theorem ab_arr : Cond.arrayClass .int ∈ ab_gt ∧ Cond.arrayClass .byte ∈ ab_gt ∧ Cond.arrayClass .boolean ∈ ab_gt := ⟨ab_mem_ok (p := 97) (by decide +kernel), ab_mem_ok (p := 686) (by decide +kernel), ab_mem_ok (p := 963) (by decide +kernel)⟩
