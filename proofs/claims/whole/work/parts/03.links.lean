def ab_FL : List (String × Nat × Nat × Nat) := [("RoomForHelp", 11, 9, 0), ("RoomForHelp", 17, 9, 1), ("RoomForHelp", 23, 9, 2), ("RoomForHelp", 30, 9, 3), ("RoomForHelp", 37, 9, 4), ("RoomForHelp", 44, 9, 5), ("RoomForHelp", 57, 9, 6), ("RoomForHelp", 61, 9, 7), ("RoomForHelp", 65, 9, 8), ("RoomForHelp", 68, 9, 9), ("RoomForHelp", 89, 3, 4), ("RoomForHelp", 96, 3, 3), ("RoomForHelp", 100, 4, 4), ("RoomForHelp", 113, 4, 6), ("RoomForHelp", 123, 3, 5), ("RoomForHelp", 124, 4, 0), ("RoomForHelp", 143, 4, 5), ("RoomForHelp", 192, 6, 2), ("RoomForHelp", 197, 6, 1), ("RoomForHelp", 200, 6, 3), ("RoomForHelp", 215, 2, 1), ("RoomForHelp", 221, 2, 0), ("RoomForHelp", 239, 8, 0), ("RoomForHelp", 242, 8, 1), ("RoomForHelp", 245, 8, 2), ("RoomForHelp", 248, 8, 3), ("RoomForHelp", 251, 4, 2), ("RoomForHelp", 254, 3, 0), ("RoomForHelp", 257, 3, 1), ("RoomForHelp", 258, 4, 1), ("RoomForHelp", 259, 4, 3), ("RoomForHelp", 260, 3, 2), ("RoomForHelp", 265, 6, 0), ("RoomForHelp", 268, 6, 4), ("RoomForHelp$AgreementReader", 11, 0, 0), ("RoomForHelp$AgreementReader", 15, 0, 1), ("RoomForHelp$AgreementReader", 19, 0, 2), ("RoomForHelp$AgreementReader", 22, 0, 3), ("RoomForHelp$AgreementReader", 25, 0, 4), ("RoomForHelp$AgreementReader", 28, 0, 5), ("RoomForHelp$AgreementReader", 31, 0, 6), ("RoomForHelp$AgreementReader", 34, 0, 7), ("RoomForHelp$BestPairing", 11, 1, 0), ("RoomForHelp$BestPairing", 15, 1, 1), ("RoomForHelp$BestPairing", 18, 1, 2), ("RoomForHelp$BestPairing", 22, 1, 3), ("RoomForHelp$BestPairing", 27, 1, 4), ("RoomForHelp$BestPairing", 30, 1, 5), ("RoomForHelp$BestPairing", 33, 1, 6), ("RoomForHelp$BestPairing", 36, 1, 7), ("RoomForHelp$BestPairing", 39, 1, 8), ("RoomForHelp$BestPairing", 42, 1, 9), ("RoomForHelp$BestPairing", 45, 1, 10), ("RoomForHelp$BestPairing", 48, 1, 11), ("RoomForHelp$Fraction", 7, 2, 0), ("RoomForHelp$Fraction", 13, 2, 1), ("RoomForHelp$Helper", 9, 3, 3), ("RoomForHelp$Helper", 15, 3, 5), ("RoomForHelp$Helper", 19, 3, 0), ("RoomForHelp$Helper", 23, 3, 1), ("RoomForHelp$Helper", 26, 3, 2), ("RoomForHelp$Helper", 29, 3, 4), ("RoomForHelp$Home", 9, 4, 4), ("RoomForHelp$Home", 15, 4, 5), ("RoomForHelp$Home", 18, 4, 6), ("RoomForHelp$Home", 22, 4, 0), ("RoomForHelp$Home", 26, 4, 1), ("RoomForHelp$Home", 29, 4, 2), ("RoomForHelp$Home", 32, 4, 3), ("RoomForHelp$Lasting", 13, 5, 0), ("RoomForHelp$Lasting", 17, 5, 1), ("RoomForHelp$Lasting", 21, 6, 4), ("RoomForHelp$Pair", 9, 6, 3), ("RoomForHelp$Pair", 15, 6, 4), ("RoomForHelp$Pair", 19, 6, 0), ("RoomForHelp$Pair", 22, 6, 1), ("RoomForHelp$Pair", 25, 6, 2), ("RoomForHelp$Pair", 29, 8, 3), ("RoomForHelp$Pair", 34, 8, 2), ("RoomForHelp$Pair", 37, 8, 0), ("RoomForHelp$Pair", 40, 8, 1), ("RoomForHelp$Tape", 11, 7, 0), ("RoomForHelp$Tape", 15, 7, 1), ("RoomForHelp$Terms", 9, 8, 0), ("RoomForHelp$Terms", 15, 8, 1), ("RoomForHelp$Terms", 18, 8, 2), ("RoomForHelp$Terms", 21, 8, 3), ("RoomForHelpModel", 7, 10, 2), ("RoomForHelpModel", 13, 10, 3), ("RoomForHelpModel", 16, 10, 4), ("RoomForHelpModel", 19, 10, 5), ("RoomForHelpModel", 22, 10, 7), ("RoomForHelpModel", 25, 10, 8), ("RoomForHelpModel", 28, 10, 9), ("RoomForHelpModel", 31, 10, 10), ("RoomForHelpModel", 34, 10, 11), ("RoomForHelpModel", 37, 10, 12), ("RoomForHelpModel", 40, 10, 13), ("RoomForHelpModel", 44, 10, 21), ("RoomForHelpModel", 48, 10, 22), ("RoomForHelpModel", 51, 10, 23), ("RoomForHelpModel", 55, 10, 24), ("RoomForHelpModel", 58, 10, 25), ("RoomForHelpModel", 61, 10, 27), ("RoomForHelpModel", 64, 10, 28), ("RoomForHelpModel", 67, 10, 29), ("RoomForHelpModel", 70, 10, 30), ("RoomForHelpModel", 73, 10, 31), ("RoomForHelpModel", 76, 10, 32), ("RoomForHelpModel", 79, 10, 33), ("RoomForHelpModel", 82, 10, 34), ("RoomForHelpModel", 85, 10, 35), ("RoomForHelpModel", 88, 10, 36), ("RoomForHelpModel", 91, 10, 37), ("RoomForHelpModel", 94, 10, 39), ("RoomForHelpModel", 97, 10, 40), ("RoomForHelpModel", 100, 10, 41), ("RoomForHelpModel", 103, 10, 1), ("RoomForHelpModel", 110, 10, 6), ("RoomForHelpModel", 133, 10, 0), ("RoomForHelpModel", 140, 10, 26), ("RoomForHelpModel", 143, 10, 38), ("RoomForHelpModel", 153, 10, 42), ("RoomForHelpModel", 169, 10, 43), ("RoomForHelpModel", 184, 10, 14), ("RoomForHelpModel", 207, 10, 15), ("RoomForHelpModel", 210, 10, 16), ("RoomForHelpModel", 213, 10, 17), ("RoomForHelpModel", 225, 10, 18), ("RoomForHelpModel", 233, 10, 19), ("RoomForHelpModel", 236, 10, 20), ("RoomForHelpModel", 261, 10, 44), ("RoomForHelpModel", 265, 10, 45)]
def ab_SF : List (String × Nat × Nat × Nat) := [("java/lang/String", 9, 21, 0), ("java/lang/String", 15, 21, 1)]
def ab_LC : List (String × Nat × Nat × Nat) := [("RoomForHelp", 209, 1, 1), ("RoomForHelp$Fraction", 20, 100, 0), ("RoomForHelpModel", 113, 4095, 0), ("RoomForHelpModel", 115, 3, 0), ("RoomForHelpModel", 121, 40, 0), ("RoomForHelpModel", 123, 500, 0), ("RoomForHelpModel", 131, 99, 0), ("RoomForHelpModel", 179, 100, 0), ("RoomForHelpModel", 191, 97, 0), ("RoomForHelpModel", 193, 122, 0), ("RoomForHelpModel", 195, 65, 0), ("RoomForHelpModel", 197, 90, 0), ("RoomForHelpModel", 199, 683629747, 0), ("RoomForHelpModel", 201, 50090380595, 0), ("RoomForHelpModel", 203, 50194454757, 0), ("RoomForHelpModel", 205, 885692524, 0), ("RoomForHelpModel", 219, 64, 0), ("RoomForHelpModel", 228, 48, 0), ("RoomForHelpModel", 230, 57, 0), ("RoomForHelpModel", 245, 60, 0), ("RoomForHelpModel", 247, 7, 0), ("RoomForHelpModel", 249, 20, 0), ("RoomForHelpModel", 254, 1, 1), ("RoomForHelpModel", 256, 2, 0), ("RoomForHelpModel", 279, 10, 0), ("RoomForHelpModel", 281, 13, 0)]
def ab_CV : List (String × Nat × Nat × Nat) := [("RoomForHelp", 85, 98, 2), ("RoomForHelp", 92, 97, 2), ("RoomForHelp", 101, 100, 3), ("RoomForHelp", 105, 106, 1), ("RoomForHelp", 109, 28, 1), ("RoomForHelp", 117, 30, 2), ("RoomForHelp", 120, 29, 1), ("RoomForHelp", 127, 99, 2), ("RoomForHelp", 131, 49, 1), ("RoomForHelp", 139, 50, 2), ("RoomForHelp", 152, 103, 2), ("RoomForHelp", 156, 64, 2), ("RoomForHelp", 159, 65, 2), ("RoomForHelp", 163, 62, 1), ("RoomForHelp", 166, 66, 2), ("RoomForHelp", 169, 8, 2), ("RoomForHelp", 173, 4, 2), ("RoomForHelp", 176, 5, 1), ("RoomForHelp", 179, 6, 1), ("RoomForHelp", 182, 7, 1), ("RoomForHelp", 185, 102, 3), ("RoomForHelp", 193, 68, 3), ("RoomForHelp", 203, 58, 2), ("RoomForHelp", 206, 60, 2), ("RoomForHelp", 211, 53, 3), ("RoomForHelp", 224, 54, 3), ("RoomForHelp", 227, 51, 1), ("RoomForHelp", 230, 52, 1), ("RoomForHelp", 233, 104, 1), ("RoomForHelp", 236, 105, 1), ("RoomForHelp", 261, 101, 2), ("RoomForHelp", 272, 107, 1), ("RoomForHelp", 275, 23, 1), ("RoomForHelp", 278, 24, 1), ("RoomForHelp", 281, 108, 3), ("RoomForHelp", 285, 31, 1), ("RoomForHelp", 288, 20, 1), ("RoomForHelp", 291, 21, 2), ("RoomForHelp", 294, 22, 2), ("RoomForHelp", 297, 25, 2), ("RoomForHelp", 300, 26, 2), ("RoomForHelp", 303, 27, 5), ("RoomForHelp$AgreementReader", 53, 9, 1), ("RoomForHelp$AgreementReader", 56, 17, 2), ("RoomForHelp$AgreementReader", 60, 10, 2), ("RoomForHelp$AgreementReader", 68, 11, 2), ("RoomForHelp$AgreementReader", 72, 12, 3), ("RoomForHelp$AgreementReader", 76, 13, 2), ("RoomForHelp$AgreementReader", 80, 14, 2), ("RoomForHelp$AgreementReader", 83, 16, 2), ("RoomForHelp$AgreementReader", 93, 15, 3), ("RoomForHelp$AgreementReader", 97, 156, 1), ("RoomForHelp$AgreementReader", 103, 63, 2), ("RoomForHelp$AgreementReader", 108, 157, 2), ("RoomForHelp$AgreementReader", 118, 62, 1), ("RoomForHelp$BestPairing", 57, 26, 2), ("RoomForHelp$BestPairing", 61, 32, 1), ("RoomForHelp$BestPairing", 64, 33, 4), ("RoomForHelp$BestPairing", 68, 40, 3), ("RoomForHelp$BestPairing", 72, 41, 3), ("RoomForHelp$BestPairing", 81, 36, 1), ("RoomForHelp$BestPairing", 85, 34, 3), ("RoomForHelp$BestPairing", 89, 35, 2), ("RoomForHelp$BestPairing", 98, 37, 3), ("RoomForHelp$BestPairing", 101, 38, 3), ("RoomForHelp$BestPairing", 104, 39, 3), ("RoomForHelp$Lasting", 28, 55, 3), ("RoomForHelp$Lasting", 32, 56, 4), ("RoomForHelp$Lasting", 36, 44, 2), ("RoomForHelp$Lasting", 40, 59, 2), ("RoomForHelp$Lasting", 44, 43, 3), ("RoomForHelpLaw", 13, 70, 5), ("RoomForHelpLaw", 17, 114, 5), ("RoomForHelpLaw", 18, 71, 5), ("RoomForHelpLaw", 21, 115, 5), ("RoomForHelpLaw", 22, 72, 3), ("RoomForHelpLaw", 26, 116, 3), ("RoomForHelpLaw", 27, 73, 5), ("RoomForHelpLaw", 31, 117, 5), ("RoomForHelpLaw", 32, 74, 3), ("RoomForHelpLaw", 36, 119, 3), ("RoomForHelpLaw", 37, 75, 1), ("RoomForHelpLaw", 41, 127, 1), ("RoomForHelpLaw", 42, 76, 2), ("RoomForHelpLaw", 46, 128, 2), ("RoomForHelpLaw", 47, 77, 1), ("RoomForHelpLaw", 50, 129, 1), ("RoomForHelpLaw", 51, 78, 3), ("RoomForHelpLaw", 54, 131, 3), ("RoomForHelpLaw", 55, 79, 2), ("RoomForHelpLaw", 58, 133, 2), ("RoomForHelpLaw", 59, 80, 6), ("RoomForHelpLaw", 63, 135, 6), ("RoomForHelpLaw", 64, 81, 2), ("RoomForHelpLaw", 67, 136, 2), ("RoomForHelpLaw", 68, 82, 1), ("RoomForHelpLaw", 71, 142, 1), ("RoomForHelpLaw", 72, 83, 2), ("RoomForHelpLaw", 75, 143, 2), ("RoomForHelpLaw", 76, 84, 5), ("RoomForHelpLaw", 80, 144, 5), ("RoomForHelpLaw", 81, 85, 3), ("RoomForHelpLaw", 84, 145, 3), ("RoomForHelpLaw", 85, 86, 3), ("RoomForHelpLaw", 88, 146, 3), ("RoomForHelpLaw", 89, 87, 2), ("RoomForHelpLaw", 92, 147, 2), ("RoomForHelpLaw", 93, 88, 3), ("RoomForHelpLaw", 96, 148, 3), ("RoomForHelpLaw", 97, 89, 4), ("RoomForHelpLaw", 101, 152, 4), ("RoomForHelpLaw", 102, 90, 3), ("RoomForHelpLaw", 105, 153, 3), ("RoomForHelpLaw", 106, 91, 3), ("RoomForHelpLaw", 109, 154, 3), ("RoomForHelpLaw", 110, 92, 2), ("RoomForHelpLaw", 113, 155, 2), ("RoomForHelpModel", 125, 112, 2), ("RoomForHelpModel", 128, 111, 2), ("RoomForHelpModel", 136, 118, 3), ("RoomForHelpModel", 146, 121, 2), ("RoomForHelpModel", 149, 120, 2), ("RoomForHelpModel", 156, 126, 1), ("RoomForHelpModel", 159, 124, 3), ("RoomForHelpModel", 162, 122, 1), ("RoomForHelpModel", 166, 123, 1), ("RoomForHelpModel", 172, 125, 1), ("RoomForHelpModel", 176, 130, 2), ("RoomForHelpModel", 181, 132, 1), ("RoomForHelpModel", 187, 134, 2), ("RoomForHelpModel", 239, 140, 2), ("RoomForHelpModel", 242, 139, 2), ("RoomForHelpModel", 251, 141, 2), ("RoomForHelpModel", 258, 145, 3), ("RoomForHelpModel", 268, 150, 2), ("RoomForHelpModel", 275, 151, 3), ("java/lang/String", 335, 158, 1), ("java/lang/String", 492, 159, 1)]
def ab_CS : List (String × Nat × Nat × Nat) := [("RoomForHelp", 50, 1, 1), ("RoomForHelp", 72, 93, 2), ("RoomForHelp", 76, 94, 1), ("RoomForHelp", 81, 95, 1), ("RoomForHelp", 146, 161, 2), ("RoomForHelp", 189, 96, 2), ("RoomForHelp$AgreementReader", 64, 1, 1), ("RoomForHelp$AgreementReader", 86, 2, 1), ("RoomForHelp$AgreementReader", 89, 3, 1), ("RoomForHelp$AgreementReader", 119, 18, 1), ("RoomForHelp$BestPairing", 51, 161, 2), ("RoomForHelp$Fraction", 16, 45, 2), ("RoomForHelp$Helper", 32, 161, 2), ("RoomForHelp$Home", 35, 161, 2), ("RoomForHelpModel", 106, 110, 3), ("RoomForHelpModel", 117, 113, 1), ("RoomForHelpModel", 216, 137, 1), ("RoomForHelpModel", 221, 138, 1), ("RoomForHelpModel", 271, 149, 2), ("java/lang/String", 495, 160, 2), ("java/lang/String", 1059, 163, 3), ("java/lang/StringLatin1", 9, 162, 2)]
def ab_CI : List (String × Nat × Nat × Nat) := [("RoomForHelp", 54, 67, 5), ("RoomForHelp", 80, 47, 5), ("RoomForHelp", 84, 46, 5), ("RoomForHelp", 136, 57, 4), ("RoomForHelpLaw", 9, 69, 1), ("RoomForHelpLaw", 12, 109, 1)]
def ab_CN : List (String × Nat × Nat × Nat) := [("RoomForHelp", 29, 61, 1), ("RoomForHelp", 36, 0, 1), ("RoomForHelp", 43, 19, 1), ("RoomForHelp", 71, 48, 1), ("RoomForHelp$Lasting", 27, 42, 1)]
def ab_GS : List (String × Nat × Nat) := [("RoomForHelp$AgreementReader", 37, 0), ("RoomForHelp$AgreementReader", 40, 1), ("java/lang/String", 38, 2), ("java/lang/String", 1053, 3)]
def ab_NW : List (String × Nat × Nat) := [("RoomForHelp", 9, 4), ("RoomForHelp", 15, 3), ("RoomForHelp", 21, 5), ("RoomForHelp", 27, 7), ("RoomForHelp", 34, 0), ("RoomForHelp", 41, 1), ("RoomForHelp", 48, 8), ("RoomForHelp", 134, 6), ("RoomForHelp$Lasting", 25, 2), ("RoomForHelpLaw", 7, 9), ("RoomForHelpLaw", 10, 10)]
def ab_AN : List (String × Nat × Nat) := [("RoomForHelp", 9, 15), ("RoomForHelp", 15, 14), ("RoomForHelp", 21, 16), ("RoomForHelp$Lasting", 11, 17)]
def ab_MN : List (String × Nat × Nat) := [("RoomForHelp$BestPairing", 25, 18)]
def ab_IC : List (String × Nat × Nat) := [("RoomForHelpModel", 232, 99999)]
def ab_SC : List (String × Nat × Nat) := [("RoomForHelp$AgreementReader", 43, 0), ("RoomForHelp$AgreementReader", 45, 1), ("RoomForHelp$AgreementReader", 47, 2), ("RoomForHelp$AgreementReader", 49, 3), ("RoomForHelp$AgreementReader", 51, 4)]
def ab_OI : List (String × Nat × Nat) := [("RoomForHelp", 1, 999), ("RoomForHelp$AgreementReader", 3, 999), ("RoomForHelp$BestPairing", 3, 999), ("RoomForHelp$Fraction", 1, 999), ("RoomForHelp$Helper", 3, 999), ("RoomForHelp$Home", 3, 999), ("RoomForHelp$Lasting", 3, 999), ("RoomForHelp$Pair", 3, 999), ("RoomForHelp$Tape", 3, 999), ("RoomForHelp$Terms", 3, 999), ("RoomForHelpModel", 1, 999)]
def ab_AC : List (String × Nat × Nat) := [("RoomForHelp$AgreementReader", 112, 997), ("RoomForHelp$BestPairing", 76, 996), ("RoomForHelp$BestPairing", 92, 998)]
/-- an instruction's length (0: a table's) -/
def ab_len (i : Instr) : Nat := match i with
  | .iload _ => 2
  | .lload _ => 2
  | .aload _ => 2
  | .istore _ => 2
  | .lstore _ => 2
  | .astore _ => 2
  | .bipush _ => 2
  | .ldc _ => 2
  | .newarray _ => 2
  | .sipush _ => 3
  | .ldc2_w _ => 3
  | .iinc _ _ => 3
  | .ifCond _ _ => 3
  | .if_icmp _ _ => 3
  | .goto _ => 3
  | .ifnull _ => 3
  | .ifnonnull _ => 3
  | .getfield _ => 3
  | .putfield _ => 3
  | .getstatic _ => 3
  | .new _ => 3
  | .anewarray _ => 3
  | .invokevirtual _ => 3
  | .invokespecial _ => 3
  | .invokestatic _ => 3
  | .multianewarray _ _ => 4
  | .tableswitch _ _ _ _ => 0
  | _ => 1
/-- what an entry of the code tables must be -/
def ab_chk (k pc : Nat) : Bool := match ab_ins k pc with
  | none => true
  | some (i, nx, a, b) => decide (decode (ab_cd k) pc = .ok (i, nx - pc)) && ((Nat.beq (ab_len i) 0 || Nat.beq nx (pc + ab_len i)) && (match i with
    | .istore j => Nat.blt j (ab_ml k)
    | .astore j => Nat.blt j (ab_ml k)
    | .lstore j => Nat.blt (j + 1) (ab_ml k)
    | .istore_n j => Nat.blt j (ab_ml k)
    | .astore_n j => Nat.blt j (ab_ml k)
    | .lstore_n j => Nat.blt (j + 1) (ab_ml k)
    | .iinc j _ => Nat.blt j (ab_ml k)
    | .ifCond _ o => decide ((pc : Int) + o = (a : Int))
    | .if_icmp _ o => decide ((pc : Int) + o = (a : Int))
    | .goto o => decide ((pc : Int) + o = (a : Int))
    | .ifnull o => decide ((pc : Int) + o = (a : Int))
    | .ifnonnull o => decide ((pc : Int) + o = (a : Int))
    | .tableswitch d lo hi os => decide (0 ≤ (pc : Int) + d) && (os.all (fun o => decide (0 ≤ (pc : Int) + o)) && decide ((os.size : Int) = hi - lo + 1))
    | .getfield x => ab_FL.elem ((ab_nm k).cls, x, a, b) || ab_SF.elem ((ab_nm k).cls, x, a, b)
    | .putfield x => ab_FL.elem ((ab_nm k).cls, x, a, b) && (decide ((ab_nm k).name = "<init>" ∧ (ab_nm k).cls = ((vwCl.getD a ("", TX0, 0)).2.1 b).1) || decide (((vwCl.getD a ("", TX0, 0)).2.1 b).2.2.2 = false))
    | .getstatic x => ab_GS.elem ((ab_nm k).cls, x, a)
    | .new x => ab_NW.elem ((ab_nm k).cls, x, a)
    | .anewarray x => ab_AN.elem ((ab_nm k).cls, x, a)
    | .multianewarray x _ => ab_MN.elem ((ab_nm k).cls, x, a)
    | .newarray t => decide ((a = 11 ∧ t = .int) ∨ (a = 12 ∧ t = .byte) ∨ (a = 13 ∧ t = .boolean))
    | .ldc x => (Nat.beq b 0 && ab_IC.elem ((ab_nm k).cls, x, a)) || (Nat.beq b 1 && ab_SC.elem ((ab_nm k).cls, x, a))
    | .ldc2_w x => ab_LC.elem ((ab_nm k).cls, x, a, b)
    | .invokevirtual x => ab_CV.elem ((ab_nm k).cls, x, a, b)
    | .invokestatic x => ab_CS.elem ((ab_nm k).cls, x, a, b) || ab_AC.elem ((ab_nm k).cls, x, a)
    | .invokespecial x => (ab_CI.elem ((ab_nm k).cls, x, a, b) || ab_CN.elem ((ab_nm k).cls, x, a, b)) || ab_OI.elem ((ab_nm k).cls, x, a)
    | _ => true))
def ab_rng (k lo : Nat) : Nat → Bool
  | 0 => true
  | n + 1 => ab_chk k (lo + n) && ab_rng k lo n
theorem ab_rng_at {k lo : Nat} : ∀ {n : Nat}, ab_rng k lo n = true → ∀ pc, lo ≤ pc → pc < lo + n → ab_chk k pc = true
  | 0, _, pc, h1, h2 => absurd h2 (by omega)
  | n + 1, h, pc, h1, h2 => by
    simp only [ab_rng, Bool.and_eq_true] at h
    by_cases e : pc = lo + n
    · rw [e]; exact h.1
    · exact ab_rng_at h.2 pc h1 (by omega)
theorem ab_blt {a b : Nat} (h : b ≤ a) : Nat.blt a b = false := by
  cases e : Nat.blt a b with
  | false => rfl
  | true => exact absurd (Nat.ble_eq.mp e) (by omega)
theorem ab_all {k N : Nat} {f : Nat → Option ab_E} (hf : ab_ins k = f) (h0 : ∀ pc, N ≤ pc → f pc = none) (h : ∀ pc, pc < N → ab_chk k pc = true) : ∀ pc, ab_chk k pc = true := by
  intro pc
  by_cases e : pc < N
  · exact h pc e
  · have : ab_ins k pc = none := by rw [hf]; exact h0 pc (by omega)
    unfold ab_chk
    rw [this]
