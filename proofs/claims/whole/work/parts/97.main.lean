/-- THE WHOLE, of the abstract machine: every script comes to 1 -/
theorem pure_main {L : Nat} {xs : Nat → Int32} {z : Bool} (hL : L ≤ 3072) : Wg 40 164 (ab_m0 L xs z) 0 [(0, ab_r 20 (some 2))] [] (fun v μ' => v = some (ab_i 1) ∧ ag_c μ' ≤ 600000 ∧ ag_s μ' ≤ 7302250) := by
  sorry
