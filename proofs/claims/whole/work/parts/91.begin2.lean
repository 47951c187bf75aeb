section
variable {L : Nat} {xs : Nat → Int32} {z : Bool}
set_option maxRecDepth 100000 in
theorem M0_C11 : ag_C (M0_ L xs z) 11 = 46 := rfl
set_option maxRecDepth 100000 in
theorem M0_C8 : ag_C (M0_ L xs z) 8 = 1 := rfl
set_option maxRecDepth 100000 in
theorem M0_C346 : ag_C (M0_ L xs z) 3 = 0 ∧ ag_C (M0_ L xs z) 4 = 0 ∧ ag_C (M0_ L xs z) 6 = 0 := ⟨rfl, rfl, rfl⟩
set_option maxRecDepth 100000 in
theorem M0_XC : XC (M0_ L xs z) (M0_ L xs z) := by
  have e1 : ag_I (M0_ L xs z) 10 0 1 = 0 := rfl
  have e6 : ag_I (M0_ L xs z) 10 0 6 = 0 := rfl
  have e0 : ag_I (M0_ L xs z) 10 0 0 = 0 := rfl
  have e26 : ag_I (M0_ L xs z) 10 0 26 = 0 := rfl
  have f7 : ag_I (M0_ L xs z) 9 0 7 = 0 := rfl
  have f8 : ag_I (M0_ L xs z) 9 0 8 = 0 := rfl
  have f9 : ag_I (M0_ L xs z) 9 0 9 = 0 := rfl
  unfold XC
  rw [e1, e6, e0, e26, f7, f8, f9, M0_C346.1, M0_C346.2.1, M0_C346.2.2, M0_C11]
  exact ⟨rfl, rfl, rfl, rfl, rfl, rfl, Nat.le_refl 46⟩
set_option maxRecDepth 100000 in
theorem M0_XR : XR (M0_ L xs z) (M0_ L xs z) 0 := by
  have a3 : ag_I (M0_ L xs z) 0 0 3 = -1 := rfl
  have a4 : ag_I (M0_ L xs z) 0 0 4 = -1 := rfl
  have b21 : ag_I (M0_ L xs z) 10 0 21 = -1 := rfl
  have b22 : ag_I (M0_ L xs z) 10 0 22 = -1 := rfl
  have c6 : ag_R (M0_ L xs z) 9 0 6 = some 0 := rfl
  refine ⟨⟨a3.trans b21.symm, a4.trans b22.symm⟩, ⟨c6, by rw [M0_C8]; omega⟩, fun b hb => ?_⟩
  rcases (show b = 0 ∨ b = 1 ∨ b = 2 ∨ b = 3 by omega) with rfl | rfl | rfl | rfl
  · exact (show ag_I (M0_ L xs z) 8 0 0 = 0 from rfl).trans (show ag_I (M0_ L xs z) 11 31 0 = 0 from rfl).symm
  · exact (show ag_I (M0_ L xs z) 8 0 1 = 7 from rfl).trans (show ag_I (M0_ L xs z) 11 31 1 = 7 from rfl).symm
  · exact (show ag_I (M0_ L xs z) 8 0 2 = 2 from rfl).trans (show ag_I (M0_ L xs z) 11 31 2 = 2 from rfl).symm
  · exact (show ag_I (M0_ L xs z) 8 0 3 = 0 from rfl).trans (show ag_I (M0_ L xs z) 11 31 3 = 0 from rfl).symm
set_option maxRecDepth 100000 in
theorem M0_XS : XS (M0_ L xs z) := by
  refine ⟨fun w hw => ?_, fun n hn => ⟨rfl, fun k hk => rfl⟩⟩
  rcases (show w = 0 ∨ w = 1 ∨ w = 2 ∨ w = 3 by omega) with rfl | rfl | rfl | rfl <;> exact ⟨rfl, rfl⟩
set_option maxRecDepth 100000 in
theorem M0_XK : XK (M0_ L xs z) (M0_ L xs z) := by
  intro k hk
  have e26 : ag_I (M0_ L xs z) 10 0 26 = 0 := rfl
  rw [e26]
  show _ = (0 : Int)
  rcases (show k = 0 ∨ k = 1 ∨ k = 2 ∨ k = 3 by omega) with rfl | rfl | rfl | rfl <;> rfl
set_option maxRecDepth 100000 in
theorem M0_IX : IX (M0_ L xs z) (M0_ L xs z) (fun _ => 0) (fun _ => 0) (fun _ => 0) (fun _ => 0) (fun _ => (0, 0)) 0 := by
  have e1 : ag_I (M0_ L xs z) 10 0 1 = 0 := rfl
  have e6 : ag_I (M0_ L xs z) 10 0 6 = 0 := rfl
  have e26 : ag_I (M0_ L xs z) 10 0 26 = 0 := rfl
  have e14 : ag_I (M0_ L xs z) 10 0 14 = 0 := rfl
  have f1 : ag_I (M0_ L xs z) 7 0 1 = 0 := rfl
  refine ⟨M0_XF, M0_XC, fun h hh => ?_, fun p hp => ?_, fun j hj => ?_, M0_XK, ⟨f1.trans e14.symm, fun i hi => ?_⟩, M0_XR, M0_XS⟩
  · rw [e1] at hh; omega
  · rw [e6] at hp; omega
  · rw [e26] at hj; omega
  · rw [e14] at hi; omega
end
