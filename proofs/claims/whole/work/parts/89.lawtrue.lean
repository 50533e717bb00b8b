theorem law_true (L : Nat) (xs : Nat → Int32) (hL : L ≤ 320) : lp_L_law L xs FU 0 zX5 zX3 zX4 zX7 zX2 zX6 zX8 zX1 zX0 (fun _ => 0) 0 0 0 (fun _ => 0) 0 0 0 0 0 0 0 (fun _ => 0) 0 (fun _ => 0) 0 false 0 0 false 0 (fun _ => 0) 0 (fun _ => 0) (fun _ => 0) 0 (-1) 0 0 0 0 (fun _ => 0) (fun _ => 0) 0 = some true := by
  sorry
