-- to come
theorem S_law {xs : Nat → Int32} {L : Nat} (hL : L ≤ 260) : F_L_law_L12 xs L 0 zFuel (fun _ => 0) 0 (fun _ => 0) (fun _ => 0) 0 0 0 0 (-1) (fun _ => 0) 0 0 (fun _ => 0) 0 4 8 (fun _ => 0) 0 (fun _ => 0) 1 0 = some 1 := by sorry
