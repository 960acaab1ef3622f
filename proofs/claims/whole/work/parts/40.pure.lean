abbrev X00 (la : Nat → Nat) : XS := (0, 0, 0, (fun _ => 0), zL, zL, zL, zL, zL, zL, zL, zL, zL, 0, la, (fun _ => zL))
abbrev Y00 : MS := (0, 0, 0, 0, 0, 0, 0, 0, 0, 0, 0, 0, (fun _ => 0), (fun _ => 0), (fun _ => 0), (fun _ => 0), (fun _ => 0), (fun _ => 0), (fun _ => 0), (fun _ => 0), (fun _ => 0), (fun _ => 0), (fun _ => 0), (fun _ => 0), (fun _ => 0))
theorem f_law_true {L : Nat} (hL : L ≤ 3072) (xs : Nat → Int32) (la : Nat → Nat) : f_law L xs FU 0 (X00 la) Y00 = some 1 := sorry
