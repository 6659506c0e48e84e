abbrev rmc (k c n : Nat) : Room := { frames := k, cells := c, slots := n, locals := 60 * k }
theorem nA_sA : nA (fun _ => 0) = sA (fun _ => 1) := by
  funext j
  show nI 0 = mI 1
  decide +kernel
