/-! one more segment of mixRiver, by steps (its numbers are large) -/
theorem sg106_C (N d f : Nat) (K : Nat → LO → AH → Option RES) (x1 : Int32) (st : List AV) (A : AH) : run (CX10_mixRiver (arun N d)) [(2, [0, 1]), (43, [0, 1]), (67, [0, 1]), (77, [0, 1, 2]), (106, [0, 1])] K (f + 6) 126 [some (rv (some 87)), some (iv x1), none] st A = run (CX10_mixRiver (arun N d)) [(2, [0, 1]), (43, [0, 1]), (67, [0, 1]), (77, [0, 1, 2]), (106, [0, 1])] K f 136 [some (rv (some 87)), some (iv x1), none] (iv 1 :: iv (1107 * x1 + 1080) :: st) A := rfl
theorem sg106_D (N d f : Nat) (K : Nat → LO → AH → Option RES) (x1 x y : Int32) (st : List AV) (A : AH) : run (CX10_mixRiver (arun N d)) [(2, [0, 1]), (43, [0, 1]), (67, [0, 1]), (77, [0, 1, 2]), (106, [0, 1])] K (f + 1) 136 [some (rv (some 87)), some (iv x1), none] (iv y :: iv x :: st) A = run (CX10_mixRiver (arun N d)) [(2, [0, 1]), (43, [0, 1]), (67, [0, 1]), (77, [0, 1, 2]), (106, [0, 1])] K f 137 [some (rv (some 87)), some (iv x1), none] (iv (x + y) :: st) A := rfl
theorem sg106_B (N d f : Nat) (K : Nat → LO → AH → Option RES) (x1 i : Int32) (I : Nat → Nat → Int32) (J : Nat → Nat → Int64) (cd : Nat × Nat) : run (CX10_mixRiver (arun N d)) [(2, [0, 1]), (43, [0, 1]), (67, [0, 1]), (77, [0, 1, 2]), (106, [0, 1])] K (f + 6) 137 [some (rv (some 87)), some (iv x1), none] [iv i, rv (some 106), rv (some 87)] (I, J, cd) = if inb i 3321 then ((cV (arun N d) 235 [rv (some 87), iv (I 106 (i.toNatClampNeg))] (I, J, cd)).bind fun r1 => K 106 [some (rv (some 87)), some (iv (x1 + 1)), none] r1) else none := rfl
theorem sg106_A (N d g : Nat) (K : Nat → LO → AH → Option RES) (x1 : Int32) (I : Nat → Nat → Int32) (J : Nat → Nat → Int64) (cd : Nat × Nat) : run (CX10_mixRiver (arun N d)) [(2, [0, 1]), (43, [0, 1]), (67, [0, 1]), (77, [0, 1, 2]), (106, [0, 1])] K (g + 14) 107 [some (rv (some 87)), some (iv x1), none] [iv x1] (I, J, cd) =
  if 3 ≤ x1 then
    some (rv none, (I, J, cd))
  else
    if inb x1 3 then (if (I 105 x1.toNatClampNeg) = 1 then
      run (CX10_mixRiver (arun N d)) [(2, [0, 1]), (43, [0, 1]), (67, [0, 1]), (77, [0, 1, 2]), (106, [0, 1])] K (g + 3) 126 [some (rv (some 87)), some (iv x1), none] [rv (some 106), rv (some 87)] (I, J, cd)
    else
      (cV (arun N d) 235 [rv (some 87), iv ((-1))] (I, J, cd)).bind fun r2 => K 106 [some (rv (some 87)), some (iv (x1 + 1)), none] r2) else none := rfl
theorem exec_at {C : COD} {cuts : List (Nat × List Nat)} {n pc : Nat} {L : LO} {A : AH} {i : INS} (h : lk pc C = some i) : exec C cuts (n + 1) pc L A = i (run C cuts (exec C cuts n) 400) L [] A := by
  show (match lk pc C with
    | some i => i (run C cuts (exec C cuts n) 400) L [] A
    | none => none) = _
  rw [h]
theorem il_k (k : KT) (x1 : Int32) (A : AH) : x_iload 1 107 k [some (rv (some 87)), some (iv x1), none] [] A = k 107 [some (rv (some 87)), some (iv x1), none] [iv x1] A := rfl
theorem sg106_E (N d n : Nat) (x1 : Int32) (A : AH) : EX10_mixRiver N d (n + 1) 106 [some (rv (some 87)), some (iv x1), none] A = run (CX10_mixRiver (arun N d)) [(2, [0, 1]), (43, [0, 1]), (67, [0, 1]), (77, [0, 1, 2]), (106, [0, 1])] (exec (CX10_mixRiver (arun N d)) [(2, [0, 1]), (43, [0, 1]), (67, [0, 1]), (77, [0, 1, 2]), (106, [0, 1])] n) 400 107 [some (rv (some 87)), some (iv x1), none] [iv x1] A := (exec_at (show lk 106 (CX10_mixRiver (arun N d)) = some (x_iload 1 107) from rfl)).trans (il_k _ x1 A)
theorem sgX10_mixRiver_106 (N d n : Nat) (x1 : Int32) (I : Nat → Nat → Int32) (J : Nat → Nat → Int64) (cd : Nat × Nat) : EX10_mixRiver N d (n + 1) 106 [some (rv (some 87)), some (iv x1), none] (I, J, cd) =
  if 3 ≤ x1 then
    some (rv none, (I, J, cd))
  else
    if inb x1 3 then (if (I 105 x1.toNatClampNeg) = 1 then
      if inb (((1107 * x1) + 1080) + 1) 3321 then ((cV (arun N d) 235 [rv (some 87), iv (I 106 ((((1107 * x1) + 1080) + 1).toNatClampNeg))] (I, J, cd)).bind fun r1 => EX10_mixRiver N d n 106 [some (rv (some 87)), some (iv (x1 + 1)), none] r1) else none
    else
      (cV (arun N d) 235 [rv (some 87), iv ((-1))] (I, J, cd)).bind fun r2 => EX10_mixRiver N d n 106 [some (rv (some 87)), some (iv (x1 + 1)), none] r2) else none := by
  have e1 := sg106_A N d 386 (exec (CX10_mixRiver (arun N d)) [(2, [0, 1]), (43, [0, 1]), (67, [0, 1]), (77, [0, 1, 2]), (106, [0, 1])] n) x1 I J cd
  have e2 := sg106_C N d 383 (exec (CX10_mixRiver (arun N d)) [(2, [0, 1]), (43, [0, 1]), (67, [0, 1]), (77, [0, 1, 2]), (106, [0, 1])] n) x1 [rv (some 106), rv (some 87)] (I, J, cd)
  have e3 := sg106_D N d 382 (exec (CX10_mixRiver (arun N d)) [(2, [0, 1]), (43, [0, 1]), (67, [0, 1]), (77, [0, 1, 2]), (106, [0, 1])] n) x1 (1107 * x1 + 1080) 1 [rv (some 106), rv (some 87)] (I, J, cd)
  have e4 := sg106_B N d 376 (exec (CX10_mixRiver (arun N d)) [(2, [0, 1]), (43, [0, 1]), (67, [0, 1]), (77, [0, 1, 2]), (106, [0, 1])] n) x1 (1107 * x1 + 1080 + 1) I J cd
  rw [show 386 + 14 = 400 from rfl, show 386 + 3 = 389 from rfl] at e1
  rw [show 383 + 6 = 389 from rfl] at e2
  rw [show 382 + 1 = 383 from rfl] at e3
  rw [show 376 + 6 = 382 from rfl] at e4
  rw [sg106_E, e1, e2, e3, e4]
  unfold EX10_mixRiver
  rfl
