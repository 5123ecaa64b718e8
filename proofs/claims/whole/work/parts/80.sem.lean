theorem S_law {xs : Nat → Int32} {L : Nat} (hL : L ≤ 1536) : F_L_law_L18 xs L zFuel (fun _ => 0) 0 (fun _ => 0) (fun _ => 0) 0 0 0 0 (-1) (fun _ => 0) 0 0 (fun _ => 0) 0 (fun _ => 0) 0 4 8 (fun _ => 0) (fun _ => 0) 0 (fun _ => 0) 0 0 0 0 0 0 (upd (upd (fun _ => 0) 0 4) 1 8) (fun _ => 0) (fun _ => 0) (fun _ => 0) (fun _ => 0) (fun _ => 0) (fun _ => 0) 0 = some 1
  := by sorry
