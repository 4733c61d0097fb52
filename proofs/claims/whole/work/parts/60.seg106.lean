/-! one more, that needs more time -/
set_option maxHeartbeats 40000000 in
set_option maxRecDepth 10000 in
theorem sgX10_mixRiver_106 (N d n : Nat) (x1 : Int32) (I : Nat → Nat → Int32) (J : Nat → Nat → Int64) (cd : Nat × Nat) : EX10_mixRiver N d (n + 1) 106 [some (rv (some 87)), some (iv x1), none] (I, J, cd) =
  if 3 ≤ x1 then
    some (rv none, (I, J, cd))
  else
    if inb x1 3 then (if (I 105 x1.toNatClampNeg) = 1 then
      if inb (((1107 * x1) + 1080) + 1) 3321 then ((cV (arun N d) 235 [rv (some 87), iv (I 106 ((((1107 * x1) + 1080) + 1).toNatClampNeg))] (I, J, cd)).bind fun r1 => EX10_mixRiver N d n 106 [some (rv (some 87)), some (iv (x1 + 1)), none] r1) else none
    else
      (cV (arun N d) 235 [rv (some 87), iv ((-1))] (I, J, cd)).bind fun r2 => EX10_mixRiver N d n 106 [some (rv (some 87)), some (iv (x1 + 1)), none] r2) else none := rfl
