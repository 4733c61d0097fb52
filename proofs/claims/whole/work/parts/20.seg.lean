/-! what a run from a place to the next ones gives -/
def EJ6_bitCount_0f7a4 (N d : Nat) : Nat → Nat → LO → AH → Option RES := exec (CJ6_bitCount_0f7a4 (arun N d)) []
theorem enJ6_bitCount_0f7a4 (N d : Nat) (x0 : Int32) (A : AH) : arun N (d + 1) 0 [iv x0] A = EJ6_bitCount_0f7a4 N d N 0 [some (iv x0)] A := rfl
set_option maxRecDepth 10000 in
theorem sgJ6_bitCount_0f7a4_0 (N d n : Nat) (x0 : Int32) (I : Nat → Nat → Int32) (J : Nat → Nat → Int64) (cd : Nat × Nat) : EJ6_bitCount_0f7a4 N d (n + 1) 0 [some (iv x0)] (I, J, cd) =
  some (iv ((((((((x0 - (((x0.toUInt32 >>> ((1 : Int32).toUInt32 &&& Int32.toUInt32 31)).toInt32) &&& 1431655765)) &&& 858993459) + ((((x0 - (((x0.toUInt32 >>> ((1 : Int32).toUInt32 &&& Int32.toUInt32 31)).toInt32) &&& 1431655765)).toUInt32 >>> ((2 : Int32).toUInt32 &&& Int32.toUInt32 31)).toInt32) &&& 858993459)) + (((((x0 - (((x0.toUInt32 >>> ((1 : Int32).toUInt32 &&& Int32.toUInt32 31)).toInt32) &&& 1431655765)) &&& 858993459) + ((((x0 - (((x0.toUInt32 >>> ((1 : Int32).toUInt32 &&& Int32.toUInt32 31)).toInt32) &&& 1431655765)).toUInt32 >>> ((2 : Int32).toUInt32 &&& Int32.toUInt32 31)).toInt32) &&& 858993459)).toUInt32 >>> ((4 : Int32).toUInt32 &&& Int32.toUInt32 31)).toInt32)) &&& 252645135) + (((((((x0 - (((x0.toUInt32 >>> ((1 : Int32).toUInt32 &&& Int32.toUInt32 31)).toInt32) &&& 1431655765)) &&& 858993459) + ((((x0 - (((x0.toUInt32 >>> ((1 : Int32).toUInt32 &&& Int32.toUInt32 31)).toInt32) &&& 1431655765)).toUInt32 >>> ((2 : Int32).toUInt32 &&& Int32.toUInt32 31)).toInt32) &&& 858993459)) + (((((x0 - (((x0.toUInt32 >>> ((1 : Int32).toUInt32 &&& Int32.toUInt32 31)).toInt32) &&& 1431655765)) &&& 858993459) + ((((x0 - (((x0.toUInt32 >>> ((1 : Int32).toUInt32 &&& Int32.toUInt32 31)).toInt32) &&& 1431655765)).toUInt32 >>> ((2 : Int32).toUInt32 &&& Int32.toUInt32 31)).toInt32) &&& 858993459)).toUInt32 >>> ((4 : Int32).toUInt32 &&& Int32.toUInt32 31)).toInt32)) &&& 252645135).toUInt32 >>> ((8 : Int32).toUInt32 &&& Int32.toUInt32 31)).toInt32)) + ((((((((x0 - (((x0.toUInt32 >>> ((1 : Int32).toUInt32 &&& Int32.toUInt32 31)).toInt32) &&& 1431655765)) &&& 858993459) + ((((x0 - (((x0.toUInt32 >>> ((1 : Int32).toUInt32 &&& Int32.toUInt32 31)).toInt32) &&& 1431655765)).toUInt32 >>> ((2 : Int32).toUInt32 &&& Int32.toUInt32 31)).toInt32) &&& 858993459)) + (((((x0 - (((x0.toUInt32 >>> ((1 : Int32).toUInt32 &&& Int32.toUInt32 31)).toInt32) &&& 1431655765)) &&& 858993459) + ((((x0 - (((x0.toUInt32 >>> ((1 : Int32).toUInt32 &&& Int32.toUInt32 31)).toInt32) &&& 1431655765)).toUInt32 >>> ((2 : Int32).toUInt32 &&& Int32.toUInt32 31)).toInt32) &&& 858993459)).toUInt32 >>> ((4 : Int32).toUInt32 &&& Int32.toUInt32 31)).toInt32)) &&& 252645135) + (((((((x0 - (((x0.toUInt32 >>> ((1 : Int32).toUInt32 &&& Int32.toUInt32 31)).toInt32) &&& 1431655765)) &&& 858993459) + ((((x0 - (((x0.toUInt32 >>> ((1 : Int32).toUInt32 &&& Int32.toUInt32 31)).toInt32) &&& 1431655765)).toUInt32 >>> ((2 : Int32).toUInt32 &&& Int32.toUInt32 31)).toInt32) &&& 858993459)) + (((((x0 - (((x0.toUInt32 >>> ((1 : Int32).toUInt32 &&& Int32.toUInt32 31)).toInt32) &&& 1431655765)) &&& 858993459) + ((((x0 - (((x0.toUInt32 >>> ((1 : Int32).toUInt32 &&& Int32.toUInt32 31)).toInt32) &&& 1431655765)).toUInt32 >>> ((2 : Int32).toUInt32 &&& Int32.toUInt32 31)).toInt32) &&& 858993459)).toUInt32 >>> ((4 : Int32).toUInt32 &&& Int32.toUInt32 31)).toInt32)) &&& 252645135).toUInt32 >>> ((8 : Int32).toUInt32 &&& Int32.toUInt32 31)).toInt32)).toUInt32 >>> ((16 : Int32).toUInt32 &&& Int32.toUInt32 31)).toInt32)) &&& 63), (I, J, cd)) := rfl
def EJ9_floorMod_7cf53 (N d : Nat) : Nat → Nat → LO → AH → Option RES := exec (CJ9_floorMod_7cf53 (arun N d)) []
theorem enJ9_floorMod_7cf53 (N d : Nat) (x0 : Int32) (x1 : Int32) (A : AH) : arun N (d + 1) 1 [iv x0, iv x1] A = EJ9_floorMod_7cf53 N d N 0 [some (iv x0), some (iv x1), none] A := rfl
set_option maxRecDepth 10000 in
theorem sgJ9_floorMod_7cf53_0 (N d n : Nat) (x0 : Int32) (x1 : Int32) (I : Nat → Nat → Int32) (J : Nat → Nat → Int64) (cd : Nat × Nat) : EJ9_floorMod_7cf53 N d (n + 1) 0 [some (iv x0), some (iv x1), none] (I, J, cd) =
  if x1 = (0 : Int32) then none else (if 0 ≤ (x0 ^^^ x1) then
    some (iv (x0 - x0 / x1 * x1), (I, J, cd))
  else
    if (x0 - x0 / x1 * x1) = 0 then
      some (iv (x0 - x0 / x1 * x1), (I, J, cd))
    else
      some (iv ((x0 - x0 / x1 * x1) + x1), (I, J, cd))) := rfl
def EJ9_max_7cf53 (N d : Nat) : Nat → Nat → LO → AH → Option RES := exec (CJ9_max_7cf53 (arun N d)) []
theorem enJ9_max_7cf53 (N d : Nat) (x0 : Int32) (x1 : Int32) (A : AH) : arun N (d + 1) 2 [iv x0, iv x1] A = EJ9_max_7cf53 N d N 0 [some (iv x0), some (iv x1)] A := rfl
set_option maxRecDepth 10000 in
theorem sgJ9_max_7cf53_0 (N d n : Nat) (x0 : Int32) (x1 : Int32) (I : Nat → Nat → Int32) (J : Nat → Nat → Int64) (cd : Nat × Nat) : EJ9_max_7cf53 N d (n + 1) 0 [some (iv x0), some (iv x1)] (I, J, cd) =
  if x0 < x1 then
    some (iv x1, (I, J, cd))
  else
    some (iv x0, (I, J, cd)) := rfl
def EJ9_min_7cf53 (N d : Nat) : Nat → Nat → LO → AH → Option RES := exec (CJ9_min_7cf53 (arun N d)) []
theorem enJ9_min_7cf53 (N d : Nat) (x0 : Int32) (x1 : Int32) (A : AH) : arun N (d + 1) 3 [iv x0, iv x1] A = EJ9_min_7cf53 N d N 0 [some (iv x0), some (iv x1)] A := rfl
set_option maxRecDepth 10000 in
theorem sgJ9_min_7cf53_0 (N d n : Nat) (x0 : Int32) (x1 : Int32) (I : Nat → Nat → Int32) (J : Nat → Nat → Int64) (cd : Nat × Nat) : EJ9_min_7cf53 N d (n + 1) 0 [some (iv x0), some (iv x1)] (I, J, cd) =
  if x1 < x0 then
    some (iv x1, (I, J, cd))
  else
    some (iv x0, (I, J, cd)) := rfl
def EX0_begin (N d : Nat) : Nat → Nat → LO → AH → Option RES := exec (CX0_begin (arun N d)) [(26, [0, 1, 3]), (47, [0, 1, 3])]
theorem enX0_begin (N d : Nat) (q0 : Nat) (q1 : Nat) (x2 : Int32) (A : AH) : arun N (d + 1) 4 [rv (some q0), rv (some q1), iv x2] A = EX0_begin N d N 0 [some (rv (some q0)), some (rv (some q1)), some (iv x2), none] A := rfl
set_option maxRecDepth 10000 in
theorem sgX0_begin_39_0 (N d n : Nat) (x2 : Int32) (I : Nat → Nat → Int32) (J : Nat → Nat → Int64) (cd : Nat × Nat) : EX0_begin N d (n + 1) 0 [some (rv (some 39)), some (rv (some 20)), some (iv x2), none] (I, J, cd) =
  (cI (arun N d) 2 [iv 0, iv x2] (I, J, cd)).bind fun r1 => EX0_begin N d n 26 [some (rv (some 39)), some (rv (some 20)), none, some (iv 0)] (wr (wr (wr (wr r1.2.1 39 6 r1.1) 39 0 ((-1))) 39 3 0) 39 4 0, r1.2.2.1, r1.2.2.2) := rfl
set_option maxRecDepth 10000 in
theorem sgX0_begin_39_26 (N d n : Nat) (x3 : Int32) (I : Nat → Nat → Int32) (J : Nat → Nat → Int64) (cd : Nat × Nat) : EX0_begin N d (n + 1) 26 [some (rv (some 39)), some (rv (some 20)), none, some (iv x3)] (I, J, cd) =
  if 7 ≤ x3 then
    EX0_begin N d n 47 [some (rv (some 39)), some (rv (some 20)), none, some (iv 0)] (I, J, cd)
  else
    if inb x3 7 then (EX0_begin N d n 26 [some (rv (some 39)), some (rv (some 20)), none, some (iv (x3 + 1))] (wr I 40 x3.toNatClampNeg 0, J, cd)) else none := rfl
set_option maxRecDepth 10000 in
theorem sgX0_begin_39_47 (N d n : Nat) (x3 : Int32) (I : Nat → Nat → Int32) (J : Nat → Nat → Int64) (cd : Nat × Nat) : EX0_begin N d (n + 1) 47 [some (rv (some 39)), some (rv (some 20)), none, some (iv x3)] (I, J, cd) =
  if 6 ≤ x3 then
    some (rv none, (I, J, cd))
  else
    if (nI 6) ≤ x3 then
      some (rv none, (I, J, cd))
    else
      if inb x3 6 then (if inb x3 6 then (EX0_begin N d n 47 [some (rv (some 39)), some (rv (some 20)), none, some (iv (x3 + 1))] (wr I 42 x3.toNatClampNeg (I 20 x3.toNatClampNeg), J, cd)) else none) else none := rfl
set_option maxRecDepth 10000 in
theorem sgX0_begin_52_0 (N d n : Nat) (x2 : Int32) (I : Nat → Nat → Int32) (J : Nat → Nat → Int64) (cd : Nat × Nat) : EX0_begin N d (n + 1) 0 [some (rv (some 52)), some (rv (some 20)), some (iv x2), none] (I, J, cd) =
  (cI (arun N d) 2 [iv 0, iv x2] (I, J, cd)).bind fun r1 => EX0_begin N d n 26 [some (rv (some 52)), some (rv (some 20)), none, some (iv 0)] (wr (wr (wr (wr r1.2.1 52 6 r1.1) 52 0 ((-1))) 52 3 0) 52 4 0, r1.2.2.1, r1.2.2.2) := rfl
set_option maxRecDepth 10000 in
theorem sgX0_begin_52_26 (N d n : Nat) (x3 : Int32) (I : Nat → Nat → Int32) (J : Nat → Nat → Int64) (cd : Nat × Nat) : EX0_begin N d (n + 1) 26 [some (rv (some 52)), some (rv (some 20)), none, some (iv x3)] (I, J, cd) =
  if 7 ≤ x3 then
    EX0_begin N d n 47 [some (rv (some 52)), some (rv (some 20)), none, some (iv 0)] (I, J, cd)
  else
    if inb x3 7 then (EX0_begin N d n 26 [some (rv (some 52)), some (rv (some 20)), none, some (iv (x3 + 1))] (wr I 53 x3.toNatClampNeg 0, J, cd)) else none := rfl
set_option maxRecDepth 10000 in
theorem sgX0_begin_52_47 (N d n : Nat) (x3 : Int32) (I : Nat → Nat → Int32) (J : Nat → Nat → Int64) (cd : Nat × Nat) : EX0_begin N d (n + 1) 47 [some (rv (some 52)), some (rv (some 20)), none, some (iv x3)] (I, J, cd) =
  if 6 ≤ x3 then
    some (rv none, (I, J, cd))
  else
    if (nI 6) ≤ x3 then
      some (rv none, (I, J, cd))
    else
      if inb x3 6 then (if inb x3 6 then (EX0_begin N d n 47 [some (rv (some 52)), some (rv (some 20)), none, some (iv (x3 + 1))] (wr I 55 x3.toNatClampNeg (I 20 x3.toNatClampNeg), J, cd)) else none) else none := rfl
set_option maxRecDepth 10000 in
theorem sgX0_begin_63_0 (N d n : Nat) (x2 : Int32) (I : Nat → Nat → Int32) (J : Nat → Nat → Int64) (cd : Nat × Nat) : EX0_begin N d (n + 1) 0 [some (rv (some 63)), some (rv (some 20)), some (iv x2), none] (I, J, cd) =
  (cI (arun N d) 2 [iv 0, iv x2] (I, J, cd)).bind fun r1 => EX0_begin N d n 26 [some (rv (some 63)), some (rv (some 20)), none, some (iv 0)] (wr (wr (wr (wr r1.2.1 63 6 r1.1) 63 0 ((-1))) 63 3 0) 63 4 0, r1.2.2.1, r1.2.2.2) := rfl
set_option maxRecDepth 10000 in
theorem sgX0_begin_63_26 (N d n : Nat) (x3 : Int32) (I : Nat → Nat → Int32) (J : Nat → Nat → Int64) (cd : Nat × Nat) : EX0_begin N d (n + 1) 26 [some (rv (some 63)), some (rv (some 20)), none, some (iv x3)] (I, J, cd) =
  if 7 ≤ x3 then
    EX0_begin N d n 47 [some (rv (some 63)), some (rv (some 20)), none, some (iv 0)] (I, J, cd)
  else
    if inb x3 7 then (EX0_begin N d n 26 [some (rv (some 63)), some (rv (some 20)), none, some (iv (x3 + 1))] (wr I 64 x3.toNatClampNeg 0, J, cd)) else none := rfl
set_option maxRecDepth 10000 in
theorem sgX0_begin_63_47 (N d n : Nat) (x3 : Int32) (I : Nat → Nat → Int32) (J : Nat → Nat → Int64) (cd : Nat × Nat) : EX0_begin N d (n + 1) 47 [some (rv (some 63)), some (rv (some 20)), none, some (iv x3)] (I, J, cd) =
  if 6 ≤ x3 then
    some (rv none, (I, J, cd))
  else
    if (nI 6) ≤ x3 then
      some (rv none, (I, J, cd))
    else
      if inb x3 6 then (if inb x3 6 then (EX0_begin N d n 47 [some (rv (some 63)), some (rv (some 20)), none, some (iv (x3 + 1))] (wr I 66 x3.toNatClampNeg (I 20 x3.toNatClampNeg), J, cd)) else none) else none := rfl
def EX0_passOn (N d : Nat) : Nat → Nat → LO → AH → Option RES := exec (CX0_passOn (arun N d)) []
theorem enX0_passOn (N d : Nat) (q0 : Nat) (q1 : Nat) (x2 : Int32) (x3 : Int32) (A : AH) : arun N (d + 1) 5 [rv (some q0), rv (some q1), iv x2, iv x3] A = EX0_passOn N d N 0 [some (rv (some q0)), some (rv (some q1)), some (iv x2), some (iv x3), none] A := rfl
set_option maxRecDepth 10000 in
theorem sgX0_passOn_0 (N d n : Nat) (x2 : Int32) (x3 : Int32) (I : Nat → Nat → Int32) (J : Nat → Nat → Int64) (cd : Nat × Nat) : EX0_passOn N d (n + 1) 0 [some (rv (some 39)), some (rv (some 73)), some (iv x2), some (iv x3), none] (I, J, cd) =
  (cV (arun N d) 10 [rv (some 39), rv (some 73), rv (some 42), iv x2, iv x3] (I, J, cd)).bind fun r1 => (cI (arun N d) 0 [iv (r1.1 39 2)] (wr r1.1 39 3 ((r1.1 39 3) + (r1.1 39 1)), r1.2.1, r1.2.2)).bind fun r2 => (cI (arun N d) 7 [rv (some 39), rv (some 73), iv x2] (wr r2.2.1 39 4 ((r1.1 39 4) + r2.1), r2.2.2.1, r2.2.2.2)).bind fun r3 => (cI (arun N d) 125 [iv r3.1] r3.2).bind fun r4 => if r4.1 = 0 then
    some (rv none, r4.2)
  else
    if inb r3.1 7 then (if inb r3.1 7 then (some (rv none, (wr r4.2.1 40 r3.1.toNatClampNeg ((r4.2.1 40 r3.1.toNatClampNeg) + (r4.2.1 39 1)), r4.2.2.1, r4.2.2.2))) else none) else none := rfl
def EX0_branch (N d : Nat) : Nat → Nat → LO → AH → Option RES := exec (CX0_branch (arun N d)) []
theorem enX0_branch (N d : Nat) (q0 : Nat) (q1 : Nat) (x2 : Int32) (x3 : Int32) (A : AH) : arun N (d + 1) 6 [rv (some q0), rv (some q1), iv x2, iv x3] A = EX0_branch N d N 0 [some (rv (some q0)), some (rv (some q1)), some (iv x2), some (iv x3)] A := rfl
set_option maxRecDepth 10000 in
theorem sgX0_branch_52_0 (N d n : Nat) (x2 : Int32) (x3 : Int32) (I : Nat → Nat → Int32) (J : Nat → Nat → Int64) (cd : Nat × Nat) : EX0_branch N d (n + 1) 0 [some (rv (some 52)), some (rv (some 73)), some (iv x2), some (iv x3)] (I, J, cd) =
  if x2 < 0 then
    some (rv none, (I, J, cd))
  else
    if 4 ≤ x2 then
      some (rv none, (I, J, cd))
    else
      if inb x2 5 then (if inb (x2 + 1) 5 then ((RF cd 54 x2.toNatClampNeg).bind fun b1 => (RF cd 54 ((x2 + 1).toNatClampNeg)).bind fun b2 => if okcp b1 b2 0 0 6 then (if inb (x2 + 1) 5 then ((cV (arun N d) 10 [rv (some 52), rv (some 73), rv (RF cd 54 ((x2 + 1).toNatClampNeg)), iv x2, iv x3] (wrC I b2 (va_cpy (I b1) (I b2) 0 0 6), J, cd)).bind fun r3 => some (rv none, r3)) else none) else none) else none) else none := rfl
set_option maxRecDepth 10000 in
theorem sgX0_branch_63_0 (N d n : Nat) (x2 : Int32) (x3 : Int32) (I : Nat → Nat → Int32) (J : Nat → Nat → Int64) (cd : Nat × Nat) : EX0_branch N d (n + 1) 0 [some (rv (some 63)), some (rv (some 73)), some (iv x2), some (iv x3)] (I, J, cd) =
  if x2 < 0 then
    some (rv none, (I, J, cd))
  else
    if 4 ≤ x2 then
      some (rv none, (I, J, cd))
    else
      if inb x2 5 then (if inb (x2 + 1) 5 then ((RF cd 65 x2.toNatClampNeg).bind fun b1 => (RF cd 65 ((x2 + 1).toNatClampNeg)).bind fun b2 => if okcp b1 b2 0 0 6 then (if inb (x2 + 1) 5 then ((cV (arun N d) 10 [rv (some 63), rv (some 73), rv (RF cd 65 ((x2 + 1).toNatClampNeg)), iv x2, iv x3] (wrC I b2 (va_cpy (I b1) (I b2) 0 0 6), J, cd)).bind fun r3 => some (rv none, r3)) else none) else none) else none) else none := rfl
def EX0_ownerOf (N d : Nat) : Nat → Nat → LO → AH → Option RES := exec (CX0_ownerOf (arun N d)) []
theorem enX0_ownerOf (N d : Nat) (q0 : Nat) (q1 : Nat) (x2 : Int32) (A : AH) : arun N (d + 1) 7 [rv (some q0), rv (some q1), iv x2] A = EX0_ownerOf N d N 0 [some (rv (some q0)), some (rv (some q1)), some (iv x2)] A := rfl
set_option maxRecDepth 10000 in
theorem sgX0_ownerOf_39_0 (N d n : Nat) (x2 : Int32) (I : Nat → Nat → Int32) (J : Nat → Nat → Int64) (cd : Nat × Nat) : EX0_ownerOf N d (n + 1) 0 [some (rv (some 39)), some (rv (some 73)), some (iv x2)] (I, J, cd) =
  (cI (arun N d) 9 [rv (some 39), iv x2] (I, J, cd)).bind fun r1 => if inb r1.1 7 then (some (iv (r1.2.1 78 r1.1.toNatClampNeg), r1.2)) else none := rfl
set_option maxRecDepth 10000 in
theorem sgX0_ownerOf_52_0 (N d n : Nat) (x2 : Int32) (I : Nat → Nat → Int32) (J : Nat → Nat → Int64) (cd : Nat × Nat) : EX0_ownerOf N d (n + 1) 0 [some (rv (some 52)), some (rv (some 73)), some (iv x2)] (I, J, cd) =
  (cI (arun N d) 9 [rv (some 52), iv x2] (I, J, cd)).bind fun r1 => if inb r1.1 7 then (some (iv (r1.2.1 78 r1.1.toNatClampNeg), r1.2)) else none := rfl
def EX0_waterNow (N d : Nat) : Nat → Nat → LO → AH → Option RES := exec (CX0_waterNow (arun N d)) []
theorem enX0_waterNow (N d : Nat) (q0 : Nat) (x1 : Int32) (A : AH) : arun N (d + 1) 8 [rv (some q0), iv x1] A = EX0_waterNow N d N 0 [some (rv (some q0)), some (iv x1)] A := rfl
set_option maxRecDepth 10000 in
theorem sgX0_waterNow_0 (N d n : Nat) (x1 : Int32) (I : Nat → Nat → Int32) (J : Nat → Nat → Int64) (cd : Nat × Nat) : EX0_waterNow N d (n + 1) 0 [some (rv (some 39)), some (iv x1)] (I, J, cd) =
  if x1 < 0 then
    some (iv 0, (I, J, cd))
  else
    if 6 ≤ x1 then
      some (iv 0, (I, J, cd))
    else
      if inb x1 6 then (some (iv (I 42 x1.toNatClampNeg), (I, J, cd))) else none := rfl
def EX0_weekdayOf (N d : Nat) : Nat → Nat → LO → AH → Option RES := exec (CX0_weekdayOf (arun N d)) []
theorem enX0_weekdayOf (N d : Nat) (q0 : Nat) (x1 : Int32) (A : AH) : arun N (d + 1) 9 [rv (some q0), iv x1] A = EX0_weekdayOf N d N 0 [some (rv (some q0)), some (iv x1)] A := rfl
set_option maxRecDepth 10000 in
theorem sgX0_weekdayOf_39_0 (N d n : Nat) (x1 : Int32) (I : Nat → Nat → Int32) (J : Nat → Nat → Int64) (cd : Nat × Nat) : EX0_weekdayOf N d (n + 1) 0 [some (rv (some 39)), some (iv x1)] (I, J, cd) =
  (cI (arun N d) 1 [iv ((I 39 6) + x1), iv 7] (I, J, cd)).bind fun r1 => some (iv r1.1, r1.2) := rfl
set_option maxRecDepth 10000 in
theorem sgX0_weekdayOf_52_0 (N d n : Nat) (x1 : Int32) (I : Nat → Nat → Int32) (J : Nat → Nat → Int64) (cd : Nat × Nat) : EX0_weekdayOf N d (n + 1) 0 [some (rv (some 52)), some (iv x1)] (I, J, cd) =
  (cI (arun N d) 1 [iv ((I 52 6) + x1), iv 7] (I, J, cd)).bind fun r1 => some (iv r1.1, r1.2) := rfl
set_option maxRecDepth 10000 in
theorem sgX0_weekdayOf_63_0 (N d n : Nat) (x1 : Int32) (I : Nat → Nat → Int32) (J : Nat → Nat → Int64) (cd : Nat × Nat) : EX0_weekdayOf N d (n + 1) 0 [some (rv (some 63)), some (iv x1)] (I, J, cd) =
  (cI (arun N d) 1 [iv ((I 63 6) + x1), iv 7] (I, J, cd)).bind fun r1 => some (iv r1.1, r1.2) := rfl
def EX0_pass (N d : Nat) : Nat → Nat → LO → AH → Option RES := exec (CX0_pass (arun N d)) []
theorem enX0_pass (N d : Nat) (q0 : Nat) (q1 : Nat) (q2 : Nat) (x3 : Int32) (x4 : Int32) (A : AH) : arun N (d + 1) 10 [rv (some q0), rv (some q1), rv (some q2), iv x3, iv x4] A = EX0_pass N d N 0 [some (rv (some q0)), some (rv (some q1)), some (rv (some q2)), some (iv x3), some (iv x4), none] A := rfl
set_option maxRecDepth 10000 in
theorem sgX0_pass_39_0 (N d n : Nat) (x3 : Int32) (x4 : Int32) (I : Nat → Nat → Int32) (J : Nat → Nat → Int64) (cd : Nat × Nat) : EX0_pass N d (n + 1) 0 [some (rv (some 39)), some (rv (some 73)), some (rv (some 42)), some (iv x3), some (iv x4), none] (I, J, cd) =
  (cI (arun N d) 9 [rv (some 39), iv x3] (I, J, cd)).bind fun r1 => (cV (arun N d) 22 [rv (some 73), rv (some 42), rv (some 47), iv x4] r1.2).bind fun r2 => (cI (arun N d) 24 [rv (some 73), rv (some 47)] r2).bind fun r3 => (cI (arun N d) 25 [rv (some 73), rv (some 47)] (wr r3.2.1 39 1 r3.1, r3.2.2.1, r3.2.2.2)).bind fun r4 => if r1.1 = (r4.2.1 39 0) then
    (cV (arun N d) 23 [rv (some 73), rv (some 42), rv (some 47), iv 0] (wr r4.2.1 39 2 r4.1, r4.2.2.1, r4.2.2.2)).bind fun r5 => some (rv none, r5)
  else
    if inb r1.1 7 then ((cV (arun N d) 23 [rv (some 73), rv (some 42), rv (some 47), iv (r4.2.1 77 r1.1.toNatClampNeg)] (wr r4.2.1 39 2 r4.1, r4.2.2.1, r4.2.2.2)).bind fun r6 => some (rv none, r6)) else none := rfl
set_option maxRecDepth 10000 in
theorem sgX0_pass_52_0 (N d n : Nat) (q2 : Nat) (x3 : Int32) (x4 : Int32) (I : Nat → Nat → Int32) (J : Nat → Nat → Int64) (cd : Nat × Nat) : EX0_pass N d (n + 1) 0 [some (rv (some 52)), some (rv (some 73)), some (rv (some q2)), some (iv x3), some (iv x4), none] (I, J, cd) =
  (cI (arun N d) 9 [rv (some 52), iv x3] (I, J, cd)).bind fun r1 => (cV (arun N d) 22 [rv (some 73), rv (some q2), rv (some 60), iv x4] r1.2).bind fun r2 => (cI (arun N d) 24 [rv (some 73), rv (some 60)] r2).bind fun r3 => (cI (arun N d) 25 [rv (some 73), rv (some 60)] (wr r3.2.1 52 1 r3.1, r3.2.2.1, r3.2.2.2)).bind fun r4 => if r1.1 = (r4.2.1 52 0) then
    (cV (arun N d) 23 [rv (some 73), rv (some q2), rv (some 60), iv 0] (wr r4.2.1 52 2 r4.1, r4.2.2.1, r4.2.2.2)).bind fun r5 => some (rv none, r5)
  else
    if inb r1.1 7 then ((cV (arun N d) 23 [rv (some 73), rv (some q2), rv (some 60), iv (r4.2.1 77 r1.1.toNatClampNeg)] (wr r4.2.1 52 2 r4.1, r4.2.2.1, r4.2.2.2)).bind fun r6 => some (rv none, r6)) else none := rfl
set_option maxRecDepth 10000 in
theorem sgX0_pass_63_0 (N d n : Nat) (q2 : Nat) (x3 : Int32) (x4 : Int32) (I : Nat → Nat → Int32) (J : Nat → Nat → Int64) (cd : Nat × Nat) : EX0_pass N d (n + 1) 0 [some (rv (some 63)), some (rv (some 73)), some (rv (some q2)), some (iv x3), some (iv x4), none] (I, J, cd) =
  (cI (arun N d) 9 [rv (some 63), iv x3] (I, J, cd)).bind fun r1 => (cV (arun N d) 22 [rv (some 73), rv (some q2), rv (some 71), iv x4] r1.2).bind fun r2 => (cI (arun N d) 24 [rv (some 73), rv (some 71)] r2).bind fun r3 => (cI (arun N d) 25 [rv (some 73), rv (some 71)] (wr r3.2.1 63 1 r3.1, r3.2.2.1, r3.2.2.2)).bind fun r4 => if r1.1 = (r4.2.1 63 0) then
    (cV (arun N d) 23 [rv (some 73), rv (some q2), rv (some 71), iv 0] (wr r4.2.1 63 2 r4.1, r4.2.2.1, r4.2.2.2)).bind fun r5 => some (rv none, r5)
  else
    if inb r1.1 7 then ((cV (arun N d) 23 [rv (some 73), rv (some q2), rv (some 71), iv (r4.2.1 77 r1.1.toNatClampNeg)] (wr r4.2.1 63 2 r4.1, r4.2.2.1, r4.2.2.2)).bind fun r6 => some (rv none, r6)) else none := rfl
def EX1_weigh (N d : Nat) : Nat → Nat → LO → AH → Option RES := exec (CX1_weigh (arun N d)) [(53, [0, 1, 7])]
theorem enX1_weigh (N d : Nat) (q0 : Nat) (q1 : Nat) (q2 : Nat) (x3 : Int32) (x4 : Int32) (x5 : Int32) (x6 : Int32) (A : AH) : arun N (d + 1) 11 [rv (some q0), rv (some q1), rv (some q2), iv x3, iv x4, iv x5, iv x6] A = EX1_weigh N d N 0 [some (rv (some q0)), some (rv (some q1)), some (rv (some q2)), some (iv x3), some (iv x4), some (iv x5), some (iv x6), none] A := rfl
set_option maxRecDepth 10000 in
theorem sgX1_weigh_0 (N d n : Nat) (x3 : Int32) (x4 : Int32) (x5 : Int32) (x6 : Int32) (I : Nat → Nat → Int32) (J : Nat → Nat → Int64) (cd : Nat × Nat) : EX1_weigh N d (n + 1) 0 [some (rv (some 61)), some (rv (some 73)), some (rv (some 20)), some (iv x3), some (iv x4), some (iv x5), some (iv x6), none] (I, J, cd) =
  (cV (arun N d) 4 [rv (some 63), rv (some 20), iv x3] (I, J, cd)).bind fun r1 => (cI (arun N d) 3 [iv x4, iv 4] r1).bind fun r2 => (cI (arun N d) 2 [iv 0, iv r2.1] r2.2).bind fun r3 => EX1_weigh N d n 53 [some (rv (some 61)), some (rv (some 73)), none, none, none, none, none, some (iv 0)] (wr (wr (wr r3.2.1 61 4 r3.1) 61 5 x5) 61 6 x6, wr (wr (wr r3.2.2.1 61 1 0) 61 2 0) 61 3 1, r3.2.2.2) := rfl
set_option maxRecDepth 10000 in
theorem sgX1_weigh_53 (N d n : Nat) (x7 : Int32) (I : Nat → Nat → Int32) (J : Nat → Nat → Int64) (cd : Nat × Nat) : EX1_weigh N d (n + 1) 53 [some (rv (some 61)), some (rv (some 73)), none, none, none, none, none, some (iv x7)] (I, J, cd) =
  if (I 61 4) ≤ x7 then
    (cV (arun N d) 12 [rv (some 61), rv (some 73), iv 0, jv 1, iv 0, iv 0] (I, J, cd)).bind fun r1 => some (rv none, r1)
  else
    if inb x7 4 then ((cI (arun N d) 0 [iv (I 62 x7.toNatClampNeg)] (I, J, cd)).bind fun r2 => (cJ (arun N d) 14 [iv 12, iv r2.1] r2.2).bind fun r3 => EX1_weigh N d n 53 [some (rv (some 61)), some (rv (some 73)), none, none, none, none, none, some (iv (x7 + 1))] (r3.2.1, wr r3.2.2.1 61 3 ((J 61 3) * r3.1), r3.2.2.2)) else none := rfl
def EX1_spread (N d : Nat) : Nat → Nat → LO → AH → Option RES := exec (CX1_spread (arun N d)) [(49, [0, 1, 2, 3, 5, 6, 7])]
theorem enX1_spread (N d : Nat) (q0 : Nat) (q1 : Nat) (x2 : Int32) (y3 : Int64) (x5 : Int32) (x6 : Int32) (A : AH) : arun N (d + 1) 12 [rv (some q0), rv (some q1), iv x2, jv y3, iv x5, iv x6] A = EX1_spread N d N 0 [some (rv (some q0)), some (rv (some q1)), some (iv x2), some (jv y3), none, some (iv x5), some (iv x6), none, none, none, none, none] A := rfl
set_option maxRecDepth 10000 in
theorem sgX1_spread_0 (N d n : Nat) (x2 : Int32) (y3 : Int64) (x5 : Int32) (x6 : Int32) (I : Nat → Nat → Int32) (J : Nat → Nat → Int64) (cd : Nat × Nat) : EX1_spread N d (n + 1) 0 [some (rv (some 61)), some (rv (some 73)), some (iv x2), some (jv y3), none, some (iv x5), some (iv x6), none, none, none, none, none] (I, J, cd) =
  if x2 < (I 61 4) then
    EX1_spread N d n 49 [some (rv (some 61)), some (rv (some 73)), some (iv x2), some (jv y3), none, some (iv x5), some (iv x6), some (iv 0), none, none, none, none] (I, J, cd)
  else
    if x6 < (I 61 5) then
      some (rv none, (I, wr (wr J 61 1 ((J 61 1) + (y3 * (Int32.toInt64 x5)))) 61 2 ((J 61 2) + 0), cd))
    else
      some (rv none, (I, wr (wr J 61 1 ((J 61 1) + (y3 * (Int32.toInt64 x5)))) 61 2 ((J 61 2) + y3), cd)) := rfl
set_option maxRecDepth 10000 in
theorem sgX1_spread_49 (N d n : Nat) (x2 : Int32) (y3 : Int64) (x5 : Int32) (x6 : Int32) (x7 : Int32) (I : Nat → Nat → Int32) (J : Nat → Nat → Int64) (cd : Nat × Nat) : EX1_spread N d (n + 1) 49 [some (rv (some 61)), some (rv (some 73)), some (iv x2), some (jv y3), none, some (iv x5), some (iv x6), some (iv x7), none, none, none, none] (I, J, cd) =
  if (I 73 3) ≤ x7 then
    some (rv none, (I, J, cd))
  else
    if inb x7 8 then (if inb x2 4 then ((cJ (arun N d) 13 [rv (some 61), iv (I 62 x2.toNatClampNeg), iv (I 79 x7.toNatClampNeg)] (I, J, cd)).bind fun r1 => if (lg_cmp (y3 * r1.1) 0) ≤ 0 then
      EX1_spread N d n 49 [some (rv (some 61)), some (rv (some 73)), some (iv x2), some (jv y3), none, some (iv x5), some (iv x6), some (iv (x7 + 1)), none, none, none, none] r1.2
    else
      (cV (arun N d) 6 [rv (some 63), rv (some 73), iv x2, iv (I 79 x7.toNatClampNeg)] r1.2).bind fun r2 => (cI (arun N d) 0 [iv (r2.1 63 2)] r2).bind fun r3 => (cV (arun N d) 12 [rv (some 61), rv (some 73), iv (x2 + 1), jv (y3 * r1.1), iv (x5 + (r3.2.1 63 1)), iv (x6 + r3.1)] r3.2).bind fun r4 => EX1_spread N d n 49 [some (rv (some 61)), some (rv (some 73)), some (iv x2), some (jv y3), none, some (iv x5), some (iv x6), some (iv (x7 + 1)), none, none, none, none] r4) else none) else none := rfl
def EX1_weightOf (N d : Nat) : Nat → Nat → LO → AH → Option RES := exec (CX1_weightOf (arun N d)) []
theorem enX1_weightOf (N d : Nat) (q0 : Nat) (x1 : Int32) (x2 : Int32) (A : AH) : arun N (d + 1) 13 [rv (some q0), iv x1, iv x2] A = EX1_weightOf N d N 0 [some (rv (some q0)), some (iv x1), some (iv x2)] A := rfl
set_option maxRecDepth 10000 in
theorem sgX1_weightOf_0 (N d n : Nat) (x1 : Int32) (x2 : Int32) (I : Nat → Nat → Int32) (J : Nat → Nat → Int64) (cd : Nat × Nat) : EX1_weightOf N d (n + 1) 0 [some (rv (some 61)), some (iv x1), some (iv x2)] (I, J, cd) =
  if (x2 &&& (x1 ^^^ ((-1)))) = 0 then
    (cI (arun N d) 0 [iv x2] (I, J, cd)).bind fun r1 => (cJ (arun N d) 14 [iv (12 - (I 61 6)), iv r1.1] r1.2).bind fun r2 => (cI (arun N d) 0 [iv (x1 &&& (x2 ^^^ ((-1))))] r2.2).bind fun r3 => (cJ (arun N d) 14 [iv (r2.2.1 61 6), iv r3.1] r3.2).bind fun r4 => some (jv (r2.1 * r4.1), r4.2)
  else
    some (jv 0, (I, J, cd)) := rfl
def EX1_power (N d : Nat) : Nat → Nat → LO → AH → Option RES := exec (CX1_power (arun N d)) [(5, [0, 1, 2, 4])]
theorem enX1_power (N d : Nat) (x0 : Int32) (x1 : Int32) (A : AH) : arun N (d + 1) 14 [iv x0, iv x1] A = EX1_power N d N 0 [some (iv x0), some (iv x1), none, none, none] A := rfl
set_option maxRecDepth 10000 in
theorem sgX1_power_0 (N d n : Nat) (x0 : Int32) (x1 : Int32) (I : Nat → Nat → Int32) (J : Nat → Nat → Int64) (cd : Nat × Nat) : EX1_power N d (n + 1) 0 [some (iv x0), some (iv x1), none, none, none] (I, J, cd) =
  EX1_power N d n 5 [some (iv x0), some (iv x1), some (jv 1), none, some (iv 0)] (I, J, cd) := rfl
set_option maxRecDepth 10000 in
theorem sgX1_power_5 (N d n : Nat) (x0 : Int32) (x1 : Int32) (y2 : Int64) (x4 : Int32) (I : Nat → Nat → Int32) (J : Nat → Nat → Int64) (cd : Nat × Nat) : EX1_power N d (n + 1) 5 [some (iv x0), some (iv x1), some (jv y2), none, some (iv x4)] (I, J, cd) =
  if x1 ≤ x4 then
    some (jv y2, (I, J, cd))
  else
    if 6 ≤ x4 then
      some (jv y2, (I, J, cd))
    else
      EX1_power N d n 5 [some (iv x0), some (iv x1), some (jv (y2 * (Int32.toInt64 x0))), none, some (iv (x4 + 1))] (I, J, cd) := rfl
def EX2_clear (N d : Nat) : Nat → Nat → LO → AH → Option RES := exec (CX2_clear (arun N d)) []
theorem enX2_clear (N d : Nat) (q0 : Nat) (A : AH) : arun N (d + 1) 15 [rv (some q0)] A = EX2_clear N d N 0 [some (rv (some q0))] A := rfl
set_option maxRecDepth 10000 in
theorem sgX2_clear_0 (N d n : Nat)  (I : Nat → Nat → Int32) (J : Nat → Nat → Int64) (cd : Nat × Nat) : EX2_clear N d (n + 1) 0 [some (rv (some 80))] (I, J, cd) =
  some (rv none, (wr (wr (wr I 80 0 0) 80 1 0) 80 2 0, J, cd)) := rfl
def EX2_hasReach (N d : Nat) : Nat → Nat → LO → AH → Option RES := exec (CX2_hasReach (arun N d)) []
theorem enX2_hasReach (N d : Nat) (q0 : Nat) (x1 : Int32) (A : AH) : arun N (d + 1) 16 [rv (some q0), iv x1] A = EX2_hasReach N d N 0 [some (rv (some q0)), some (iv x1)] A := rfl
set_option maxRecDepth 10000 in
theorem sgX2_hasReach_0 (N d n : Nat) (x1 : Int32) (I : Nat → Nat → Int32) (J : Nat → Nat → Int64) (cd : Nat × Nat) : EX2_hasReach N d (n + 1) 0 [some (rv (some 73)), some (iv x1)] (I, J, cd) =
  if x1 < 0 then
    some (iv 0, (I, J, cd))
  else
    if (I 73 0) ≤ x1 then
      some (iv 0, (I, J, cd))
    else
      some (iv 1, (I, J, cd)) := rfl
def EX2_canShut (N d : Nat) : Nat → Nat → LO → AH → Option RES := exec (CX2_canShut (arun N d)) []
theorem enX2_canShut (N d : Nat) (q0 : Nat) (x1 : Int32) (A : AH) : arun N (d + 1) 17 [rv (some q0), iv x1] A = EX2_canShut N d N 0 [some (rv (some q0)), some (iv x1)] A := rfl
set_option maxRecDepth 10000 in
theorem sgX2_canShut_73_0 (N d n : Nat) (x1 : Int32) (I : Nat → Nat → Int32) (J : Nat → Nat → Int64) (cd : Nat × Nat) : EX2_canShut N d (n + 1) 0 [some (rv (some 73)), some (iv x1)] (I, J, cd) =
  if (x1 &&& ((I 73 1) ^^^ ((-1)))) = 0 then
    some (iv 1, (I, J, cd))
  else
    some (iv 0, (I, J, cd)) := rfl
set_option maxRecDepth 10000 in
theorem sgX2_canShut_80_0 (N d n : Nat) (x1 : Int32) (I : Nat → Nat → Int32) (J : Nat → Nat → Int64) (cd : Nat × Nat) : EX2_canShut N d (n + 1) 0 [some (rv (some 80)), some (iv x1)] (I, J, cd) =
  if (x1 &&& ((I 80 1) ^^^ ((-1)))) = 0 then
    some (iv 1, (I, J, cd))
  else
    some (iv 0, (I, J, cd)) := rfl
def EX2_hasRoomFor (N d : Nat) : Nat → Nat → LO → AH → Option RES := exec (CX2_hasRoomFor (arun N d)) [(23, [0]), (25, [0, 2])]
theorem enX2_hasRoomFor (N d : Nat) (q0 : Nat) (x1 : Int32) (A : AH) : arun N (d + 1) 18 [rv (some q0), iv x1] A = EX2_hasRoomFor N d N 0 [some (rv (some q0)), some (iv x1), none] A := rfl
set_option maxRecDepth 10000 in
theorem sgX2_hasRoomFor_0 (N d n : Nat) (x1 : Int32) (I : Nat → Nat → Int32) (J : Nat → Nat → Int64) (cd : Nat × Nat) : EX2_hasRoomFor N d (n + 1) 0 [some (rv (some 80)), some (iv x1), none] (I, J, cd) =
  (cI (arun N d) 40 [iv x1, iv 1] (I, J, cd)).bind fun r1 => if r1.1 = 0 then
    EX2_hasRoomFor N d n 23 [some (rv (some 80)), none, none] r1.2
  else
    (cI (arun N d) 0 [iv (r1.2.1 80 1)] r1.2).bind fun r2 => if r2.1 < 3 then
      EX2_hasRoomFor N d n 23 [some (rv (some 80)), none, none] r2.2
    else
      EX2_hasRoomFor N d n 25 [some (rv (some 80)), none, some (iv 1)] r2.2 := rfl
set_option maxRecDepth 10000 in
theorem sgX2_hasRoomFor_23 (N d n : Nat)  (I : Nat → Nat → Int32) (J : Nat → Nat → Int64) (cd : Nat × Nat) : EX2_hasRoomFor N d (n + 1) 23 [some (rv (some 80)), none, none] (I, J, cd) =
  EX2_hasRoomFor N d n 25 [some (rv (some 80)), none, some (iv 0)] (I, J, cd) := rfl
set_option maxRecDepth 10000 in
theorem sgX2_hasRoomFor_25 (N d n : Nat) (x2 : Int32) (I : Nat → Nat → Int32) (J : Nat → Nat → Int64) (cd : Nat × Nat) : EX2_hasRoomFor N d (n + 1) 25 [some (rv (some 80)), none, some (iv x2)] (I, J, cd) =
  if 6 ≤ (I 80 0) then
    some (iv 0, (I, J, cd))
  else
    if x2 = 0 then
      some (iv 1, (I, J, cd))
    else
      some (iv 0, (I, J, cd)) := rfl
def EX2_add (N d : Nat) : Nat → Nat → LO → AH → Option RES := exec (CX2_add (arun N d)) [(66, [0, 1]), (93, [0])]
theorem enX2_add (N d : Nat) (q0 : Nat) (x1 : Int32) (x2 : Int32) (x3 : Int32) (A : AH) : arun N (d + 1) 19 [rv (some q0), iv x1, iv x2, iv x3] A = EX2_add N d N 0 [some (rv (some q0)), some (iv x1), some (iv x2), some (iv x3)] A := rfl
set_option maxRecDepth 10000 in
theorem sgX2_add_0 (N d n : Nat) (x1 : Int32) (x2 : Int32) (x3 : Int32) (I : Nat → Nat → Int32) (J : Nat → Nat → Int64) (cd : Nat × Nat) : EX2_add N d (n + 1) 0 [some (rv (some 80)), some (iv x1), some (iv x2), some (iv x3)] (I, J, cd) =
  (cI (arun N d) 18 [rv (some 80), iv x1] (I, J, cd)).bind fun r1 => if r1.1 = 0 then
    some (rv none, r1.2)
  else
    if inb (r1.2.1 80 0) 6 then (if inb (r1.2.1 80 0) 6 then (if inb (r1.2.1 80 0) 6 then ((cI (arun N d) 40 [iv x1, iv 1] (wr (wr (wr r1.2.1 81 ((r1.2.1 80 0).toNatClampNeg) x1) 82 ((r1.2.1 80 0).toNatClampNeg) x2) 83 ((r1.2.1 80 0).toNatClampNeg) x3, r1.2.2.1, r1.2.2.2)).bind fun r2 => if r2.1 = 0 then
      EX2_add N d n 66 [some (rv (some 80)), some (iv x1), none, none] (wr r2.2.1 80 1 ((r1.2.1 80 1) ||| 0), r2.2.2.1, r2.2.2.2)
    else
      EX2_add N d n 66 [some (rv (some 80)), some (iv x1), none, none] (wr r2.2.1 80 1 ((r1.2.1 80 1) ||| (1 <<< ((r2.2.1 80 0) &&& 31))), r2.2.2.1, r2.2.2.2)) else none) else none) else none := rfl
set_option maxRecDepth 10000 in
theorem sgX2_add_66 (N d n : Nat) (x1 : Int32) (I : Nat → Nat → Int32) (J : Nat → Nat → Int64) (cd : Nat × Nat) : EX2_add N d (n + 1) 66 [some (rv (some 80)), some (iv x1), none, none] (I, J, cd) =
  (cI (arun N d) 40 [iv x1, iv 2] (I, J, cd)).bind fun r1 => if r1.1 = 0 then
    EX2_add N d n 93 [some (rv (some 80)), none, none, none] (wr r1.2.1 80 2 ((I 80 2) ||| 0), r1.2.2.1, r1.2.2.2)
  else
    EX2_add N d n 93 [some (rv (some 80)), none, none, none] (wr r1.2.1 80 2 ((I 80 2) ||| (1 <<< ((r1.2.1 80 0) &&& 31))), r1.2.2.1, r1.2.2.2) := rfl
set_option maxRecDepth 10000 in
theorem sgX2_add_93 (N d n : Nat)  (I : Nat → Nat → Int32) (J : Nat → Nat → Int64) (cd : Nat × Nat) : EX2_add N d (n + 1) 93 [some (rv (some 80)), none, none, none] (I, J, cd) =
  some (rv none, (wr I 80 0 ((I 80 0) + 1), J, cd)) := rfl
def EX2_listSets (N d : Nat) : Nat → Nat → LO → AH → Option RES := exec (CX2_listSets (arun N d)) [(7, [0, 1])]
theorem enX2_listSets (N d : Nat) (q0 : Nat) (A : AH) : arun N (d + 1) 20 [rv (some q0)] A = EX2_listSets N d N 0 [some (rv (some q0)), none] A := rfl
set_option maxRecDepth 10000 in
theorem sgX2_listSets_0 (N d n : Nat)  (I : Nat → Nat → Int32) (J : Nat → Nat → Int64) (cd : Nat × Nat) : EX2_listSets N d (n + 1) 0 [some (rv (some 80)), none] (I, J, cd) =
  EX2_listSets N d n 7 [some (rv (some 80)), some (iv 0)] (wr I 80 3 0, J, cd) := rfl
set_option maxRecDepth 10000 in
theorem sgX2_listSets_7 (N d n : Nat) (x1 : Int32) (I : Nat → Nat → Int32) (J : Nat → Nat → Int64) (cd : Nat × Nat) : EX2_listSets N d (n + 1) 7 [some (rv (some 80)), some (iv x1)] (I, J, cd) =
  if 64 ≤ x1 then
    some (rv none, (I, J, cd))
  else
    if 8 ≤ (I 80 3) then
      some (rv none, (I, J, cd))
    else
      (cI (arun N d) 17 [rv (some 80), iv x1] (I, J, cd)).bind fun r1 => if r1.1 = 0 then
        EX2_listSets N d n 7 [some (rv (some 80)), some (iv (x1 + 1))] r1.2
      else
        if inb (r1.2.1 80 3) 8 then (EX2_listSets N d n 7 [some (rv (some 80)), some (iv (x1 + 1))] (wr (wr r1.2.1 86 ((r1.2.1 80 3).toNatClampNeg) x1) 80 3 ((r1.2.1 80 3) + 1), r1.2.2.1, r1.2.2.2)) else none := rfl
def EX2_setByLot (N d : Nat) : Nat → Nat → LO → AH → Option RES := exec (CX2_setByLot (arun N d)) [(7, [0, 1, 2, 3, 4])]
theorem enX2_setByLot (N d : Nat) (q0 : Nat) (x1 : Int32) (A : AH) : arun N (d + 1) 21 [rv (some q0), iv x1] A = EX2_setByLot N d N 0 [some (rv (some q0)), some (iv x1), none, none, none] A := rfl
set_option maxRecDepth 10000 in
theorem sgX2_setByLot_0 (N d n : Nat) (x1 : Int32) (I : Nat → Nat → Int32) (J : Nat → Nat → Int64) (cd : Nat × Nat) : EX2_setByLot N d (n + 1) 0 [some (rv (some 73)), some (iv x1), none, none, none] (I, J, cd) =
  EX2_setByLot N d n 7 [some (rv (some 73)), some (iv x1), some (iv 0), some (iv 3), some (iv 0)] (I, J, cd) := rfl
set_option maxRecDepth 10000 in
theorem sgX2_setByLot_7 (N d n : Nat) (x1 : Int32) (x2 : Int32) (x3 : Int32) (x4 : Int32) (I : Nat → Nat → Int32) (J : Nat → Nat → Int64) (cd : Nat × Nat) : EX2_setByLot N d (n + 1) 7 [some (rv (some 73)), some (iv x1), some (iv x2), some (iv x3), some (iv x4)] (I, J, cd) =
  if (I 73 0) ≤ x4 then
    some (iv x2, (I, J, cd))
  else
    if (((I 73 1) >>> (x4 &&& 31)) &&& 1) = 0 then
      EX2_setByLot N d n 7 [some (rv (some 73)), some (iv x1), some (iv x2), some (iv x3), some (iv (x4 + 1))] (I, J, cd)
    else
      EX2_setByLot N d n 7 [some (rv (some 73)), some (iv x1), some (iv (x2 ||| (((x1 >>> (x3 &&& 31)) &&& 1) <<< (x4 &&& 31)))), some (iv (x3 + 1)), some (iv (x4 + 1))] (I, J, cd) := rfl
def EX2_letRun (N d : Nat) : Nat → Nat → LO → AH → Option RES := exec (CX2_letRun (arun N d)) [(3, [0, 1, 2, 3, 4])]
theorem enX2_letRun (N d : Nat) (q0 : Nat) (q1 : Nat) (q2 : Nat) (x3 : Int32) (A : AH) : arun N (d + 1) 22 [rv (some q0), rv (some q1), rv (some q2), iv x3] A = EX2_letRun N d N 0 [some (rv (some q0)), some (rv (some q1)), some (rv (some q2)), some (iv x3), none] A := rfl
set_option maxRecDepth 10000 in
theorem sgX2_letRun_0 (N d n : Nat) (q1 : Nat) (q2 : Nat) (x3 : Int32) (I : Nat → Nat → Int32) (J : Nat → Nat → Int64) (cd : Nat × Nat) : EX2_letRun N d (n + 1) 0 [some (rv (some 73)), some (rv (some q1)), some (rv (some q2)), some (iv x3), none] (I, J, cd) =
  EX2_letRun N d n 3 [some (rv (some 73)), some (rv (some q1)), some (rv (some q2)), some (iv x3), some (iv 0)] (I, J, cd) := rfl
set_option maxRecDepth 10000 in
theorem sgX2_letRun_3 (N d n : Nat) (q1 : Nat) (q2 : Nat) (x3 : Int32) (x4 : Int32) (I : Nat → Nat → Int32) (J : Nat → Nat → Int64) (cd : Nat × Nat) : EX2_letRun N d (n + 1) 3 [some (rv (some 73)), some (rv (some q1)), some (rv (some q2)), some (iv x3), some (iv x4)] (I, J, cd) =
  if (I 73 0) ≤ x4 then
    some (rv none, (I, J, cd))
  else
    (alO q1).bind fun n1 => if (nI n1) ≤ x4 then
      some (rv none, (I, J, cd))
    else
      (alO q2).bind fun n2 => if (nI n2) ≤ x4 then
        some (rv none, (I, J, cd))
      else
        if inb x4 6 then (if inb x4 6 then (if inb x4 (alen 0 q1) then (if ((x3 >>> (x4 &&& 31)) &&& 1) = 0 then
          (cI (arun N d) 41 [iv (I 74 x4.toNatClampNeg), iv (I 75 x4.toNatClampNeg), iv (I q1 x4.toNatClampNeg), iv 0] (I, J, cd)).bind fun r3 => if inb x4 (alen 0 q2) then (EX2_letRun N d n 3 [some (rv (some 73)), some (rv (some q1)), some (rv (some q2)), some (iv x3), some (iv (x4 + 1))] (wr r3.2.1 q2 x4.toNatClampNeg r3.1, r3.2.2.1, r3.2.2.2)) else none
        else
          (cI (arun N d) 41 [iv (I 74 x4.toNatClampNeg), iv (I 75 x4.toNatClampNeg), iv (I q1 x4.toNatClampNeg), iv 1] (I, J, cd)).bind fun r4 => if inb x4 (alen 0 q2) then (EX2_letRun N d n 3 [some (rv (some 73)), some (rv (some q1)), some (rv (some q2)), some (iv x3), some (iv (x4 + 1))] (wr r4.2.1 q2 x4.toNatClampNeg r4.1, r4.2.2.1, r4.2.2.2)) else none) else none) else none) else none := rfl
def EX2_takeIn (N d : Nat) : Nat → Nat → LO → AH → Option RES := exec (CX2_takeIn (arun N d)) [(6, [0, 1, 2, 4, 5])]
theorem enX2_takeIn (N d : Nat) (q0 : Nat) (q1 : Nat) (q2 : Nat) (x3 : Int32) (A : AH) : arun N (d + 1) 23 [rv (some q0), rv (some q1), rv (some q2), iv x3] A = EX2_takeIn N d N 0 [some (rv (some q0)), some (rv (some q1)), some (rv (some q2)), some (iv x3), none, none] A := rfl
set_option maxRecDepth 10000 in
theorem sgX2_takeIn_0 (N d n : Nat) (q1 : Nat) (q2 : Nat) (x3 : Int32) (I : Nat → Nat → Int32) (J : Nat → Nat → Int64) (cd : Nat × Nat) : EX2_takeIn N d (n + 1) 0 [some (rv (some 73)), some (rv (some q1)), some (rv (some q2)), some (iv x3), none, none] (I, J, cd) =
  EX2_takeIn N d n 6 [some (rv (some 73)), some (rv (some q1)), some (rv (some q2)), none, some (iv x3), some (iv 0)] (I, J, cd) := rfl
set_option maxRecDepth 10000 in
theorem sgX2_takeIn_6 (N d n : Nat) (q1 : Nat) (q2 : Nat) (x4 : Int32) (x5 : Int32) (I : Nat → Nat → Int32) (J : Nat → Nat → Int64) (cd : Nat × Nat) : EX2_takeIn N d (n + 1) 6 [some (rv (some 73)), some (rv (some q1)), some (rv (some q2)), none, some (iv x4), some (iv x5)] (I, J, cd) =
  if (I 73 0) ≤ x5 then
    some (rv none, (I, J, cd))
  else
    (alO q1).bind fun n1 => if (nI n1) ≤ x5 then
      some (rv none, (I, J, cd))
    else
      (alO q2).bind fun n2 => if (nI n2) ≤ x5 then
        some (rv none, (I, J, cd))
      else
        if inb x5 6 then (if inb x5 (alen 0 q1) then (if inb x5 (alen 0 q2) then ((cI (arun N d) 42 [iv (I 74 x5.toNatClampNeg), iv (((I q1 x5.toNatClampNeg) - (I q2 x5.toNatClampNeg)) + x4)] (I, J, cd)).bind fun r3 => if inb x5 (alen 0 q1) then (if inb x5 (alen 0 q2) then (EX2_takeIn N d n 6 [some (rv (some 73)), some (rv (some q1)), some (rv (some q2)), none, some (iv ((wr r3.2.1 q1 x5.toNatClampNeg r3.1) q2 x5.toNatClampNeg)), some (iv (x5 + 1))] (wr r3.2.1 q1 x5.toNatClampNeg r3.1, r3.2.2.1, r3.2.2.2)) else none) else none) else none) else none) else none := rfl
def EX2_toSea (N d : Nat) : Nat → Nat → LO → AH → Option RES := exec (CX2_toSea (arun N d)) []
theorem enX2_toSea (N d : Nat) (q0 : Nat) (q1 : Nat) (A : AH) : arun N (d + 1) 24 [rv (some q0), rv (some q1)] A = EX2_toSea N d N 0 [some (rv (some q0)), some (rv (some q1))] A := rfl
set_option maxRecDepth 10000 in
theorem sgX2_toSea_0 (N d n : Nat) (q1 : Nat) (I : Nat → Nat → Int32) (J : Nat → Nat → Int64) (cd : Nat × Nat) : EX2_toSea N d (n + 1) 0 [some (rv (some 73)), some (rv (some q1))] (I, J, cd) =
  if (I 73 0) ≤ 0 then
    some (iv 0, (I, J, cd))
  else
    (alO q1).bind fun n1 => if (nI n1) < (I 73 0) then
      some (iv 0, (I, J, cd))
    else
      if inb ((I 73 0) - 1) (alen 0 q1) then (some (iv (I q1 (((I 73 0) - 1).toNatClampNeg)), (I, J, cd))) else none := rfl
def EX2_grindingBy (N d : Nat) : Nat → Nat → LO → AH → Option RES := exec (CX2_grindingBy (arun N d)) [(4, [0, 1, 2, 3])]
theorem enX2_grindingBy (N d : Nat) (q0 : Nat) (q1 : Nat) (A : AH) : arun N (d + 1) 25 [rv (some q0), rv (some q1)] A = EX2_grindingBy N d N 0 [some (rv (some q0)), some (rv (some q1)), none, none] A := rfl
set_option maxRecDepth 10000 in
theorem sgX2_grindingBy_0 (N d n : Nat) (q1 : Nat) (I : Nat → Nat → Int32) (J : Nat → Nat → Int64) (cd : Nat × Nat) : EX2_grindingBy N d (n + 1) 0 [some (rv (some 73)), some (rv (some q1)), none, none] (I, J, cd) =
  EX2_grindingBy N d n 4 [some (rv (some 73)), some (rv (some q1)), some (iv 0), some (iv 0)] (I, J, cd) := rfl
set_option maxRecDepth 10000 in
theorem sgX2_grindingBy_4 (N d n : Nat) (q1 : Nat) (x2 : Int32) (x3 : Int32) (I : Nat → Nat → Int32) (J : Nat → Nat → Int64) (cd : Nat × Nat) : EX2_grindingBy N d (n + 1) 4 [some (rv (some 73)), some (rv (some q1)), some (iv x2), some (iv x3)] (I, J, cd) =
  if (I 73 0) ≤ x3 then
    some (iv x2, (I, J, cd))
  else
    (alO q1).bind fun n1 => if (nI n1) ≤ x3 then
      some (iv x2, (I, J, cd))
    else
      if inb x3 6 then (if inb x3 6 then (if inb x3 (alen 0 q1) then ((cI (arun N d) 43 [iv (I 74 x3.toNatClampNeg), iv (I 75 x3.toNatClampNeg), iv (I q1 x3.toNatClampNeg)] (I, J, cd)).bind fun r2 => if r2.1 = 0 then
        EX2_grindingBy N d n 4 [some (rv (some 73)), some (rv (some q1)), some (iv x2), some (iv (x3 + 1))] r2.2
      else
        EX2_grindingBy N d n 4 [some (rv (some 73)), some (rv (some q1)), some (iv (x2 ||| (1 <<< (x3 &&& 31)))), some (iv (x3 + 1))] r2.2) else none) else none) else none := rfl
def EX3_add (N d : Nat) : Nat → Nat → LO → AH → Option RES := exec (CX3_add (arun N d)) []
theorem enX3_add (N d : Nat) (q0 : Nat) (x1 : Int32) (x2 : Int32) (A : AH) : arun N (d + 1) 26 [rv (some q0), iv x1, iv x2] A = EX3_add N d N 0 [some (rv (some q0)), some (iv x1), some (iv x2)] A := rfl
set_option maxRecDepth 10000 in
theorem sgX3_add_0 (N d n : Nat) (x1 : Int32) (x2 : Int32) (I : Nat → Nat → Int32) (J : Nat → Nat → Int64) (cd : Nat × Nat) : EX3_add N d (n + 1) 0 [some (rv (some 25)), some (iv x1), some (iv x2)] (I, J, cd) =
  if 40 ≤ (I 25 0) then
    some (rv none, (I, J, cd))
  else
    if inb (I 25 0) 40 then (if inb (I 25 0) 40 then (some (rv none, (wr (wr (wr I 26 ((I 25 0).toNatClampNeg) x1) 27 ((I 25 0).toNatClampNeg) x2) 25 0 ((I 25 0) + 1), J, cd))) else none) else none := rfl
def EX3_cutTo (N d : Nat) : Nat → Nat → LO → AH → Option RES := exec (CX3_cutTo (arun N d)) []
theorem enX3_cutTo (N d : Nat) (q0 : Nat) (x1 : Int32) (A : AH) : arun N (d + 1) 27 [rv (some q0), iv x1] A = EX3_cutTo N d N 0 [some (rv (some q0)), some (iv x1)] A := rfl
set_option maxRecDepth 10000 in
theorem sgX3_cutTo_0 (N d n : Nat) (x1 : Int32) (I : Nat → Nat → Int32) (J : Nat → Nat → Int64) (cd : Nat × Nat) : EX3_cutTo N d (n + 1) 0 [some (rv (some 25)), some (iv x1)] (I, J, cd) =
  (cI (arun N d) 3 [iv x1, iv (I 25 0)] (I, J, cd)).bind fun r1 => (cI (arun N d) 2 [iv 0, iv r1.1] r1.2).bind fun r2 => some (rv none, (wr r2.2.1 25 0 r2.1, r2.2.2.1, r2.2.2.2)) := rfl
def EX3_become (N d : Nat) : Nat → Nat → LO → AH → Option RES := exec (CX3_become (arun N d)) []
theorem enX3_become (N d : Nat) (q0 : Nat) (q1 : Nat) (A : AH) : arun N (d + 1) 28 [rv (some q0), rv (some q1)] A = EX3_become N d N 0 [some (rv (some q0)), some (rv (some q1))] A := rfl
set_option maxRecDepth 10000 in
theorem sgX3_become_on_0 (N d n : Nat) (q1 : Nat) (I : Nat → Nat → Int32) (J : Nat → Nat → Int64) (cd : Nat × Nat) : EX3_become N d (n + 1) 0 [some (rv (some 25)), some (rv (some q1))] (I, J, cd) =
  if okc q1 3 then (if okc q1 3 then ((RF cd q1 1).bind fun b1 => if okcp b1 26 0 0 40 then (if okc q1 3 then ((RF cd q1 2).bind fun b2 => if okcp b2 27 0 0 40 then (some (rv none, (wrC (wrC (wr I 25 0 (I q1 0)) 26 (va_cpy ((wr I 25 0 (I q1 0)) b1) (I 26) 0 0 40)) 27 (va_cpy ((wrC (wr I 25 0 (I q1 0)) 26 (va_cpy ((wr I 25 0 (I q1 0)) b1) (I 26) 0 0 40)) b2) (I 27) 0 0 40), J, cd))) else none) else none) else none) else none) else none := rfl
set_option maxRecDepth 10000 in
theorem sgX3_become_keep_0 (N d n : Nat) (q0 : Nat) (I : Nat → Nat → Int32) (J : Nat → Nat → Int64) (cd : Nat × Nat) : EX3_become N d (n + 1) 0 [some (rv (some q0)), some (rv (some 25))] (I, J, cd) =
  if okc q0 3 then (if okc q0 3 then ((RF cd q0 1).bind fun b1 => if okcp 26 b1 0 0 40 then (if okc q0 3 then ((RF cd q0 2).bind fun b2 => if okcp 27 b2 0 0 40 then (some (rv none, (wrC (wrC (wr I q0 0 (I 25 0)) b1 (va_cpy ((wr I q0 0 (I 25 0)) 26) ((wr I q0 0 (I 25 0)) b1) 0 0 40)) b2 (va_cpy ((wrC (wr I q0 0 (I 25 0)) b1 (va_cpy ((wr I q0 0 (I 25 0)) 26) ((wr I q0 0 (I 25 0)) b1) 0 0 40)) 27) ((wrC (wr I q0 0 (I 25 0)) b1 (va_cpy ((wr I q0 0 (I 25 0)) 26) ((wr I q0 0 (I 25 0)) b1) 0 0 40)) b2) 0 0 40), J, cd))) else none) else none) else none) else none) else none := rfl
def EX4_start (N d : Nat) : Nat → Nat → LO → AH → Option RES := exec (CX4_start (arun N d)) [(2, [0, 1, 2]), (32, [0, 1, 2]), (54, [0, 2])]
theorem enX4_start (N d : Nat) (q0 : Nat) (q1 : Nat) (A : AH) : arun N (d + 1) 29 [rv (some q0), rv (some q1)] A = EX4_start N d N 0 [some (rv (some q0)), some (rv (some q1)), none] A := rfl
set_option maxRecDepth 10000 in
theorem sgX4_start_73_0 (N d n : Nat)  (I : Nat → Nat → Int32) (J : Nat → Nat → Int64) (cd : Nat × Nat) : EX4_start N d (n + 1) 0 [some (rv (some 19)), some (rv (some 73)), none] (I, J, cd) =
  EX4_start N d n 2 [some (rv (some 19)), some (rv (some 73)), some (iv 0)] (I, J, cd) := rfl
set_option maxRecDepth 10000 in
theorem sgX4_start_73_2 (N d n : Nat) (x2 : Int32) (I : Nat → Nat → Int32) (J : Nat → Nat → Int64) (cd : Nat × Nat) : EX4_start N d (n + 1) 2 [some (rv (some 19)), some (rv (some 73)), some (iv x2)] (I, J, cd) =
  if 6 ≤ x2 then
    EX4_start N d n 54 [some (rv (some 19)), none, some (iv 0)] (I, J, cd)
  else
    if (I 73 0) ≤ x2 then
      if inb x2 6 then (EX4_start N d n 32 [some (rv (some 19)), some (rv (some 73)), some (iv x2)] (wr I 20 x2.toNatClampNeg 0, J, cd)) else none
    else
      if inb x2 6 then (if inb x2 6 then (EX4_start N d n 32 [some (rv (some 19)), some (rv (some 73)), some (iv x2)] (wr I 20 x2.toNatClampNeg (I 76 x2.toNatClampNeg), J, cd)) else none) else none := rfl
set_option maxRecDepth 10000 in
theorem sgX4_start_73_32 (N d n : Nat) (x2 : Int32) (I : Nat → Nat → Int32) (J : Nat → Nat → Int64) (cd : Nat × Nat) : EX4_start N d (n + 1) 32 [some (rv (some 19)), some (rv (some 73)), some (iv x2)] (I, J, cd) =
  if inb x2 6 then (if inb x2 6 then (EX4_start N d n 2 [some (rv (some 19)), some (rv (some 73)), some (iv (x2 + 1))] (wr (wr I 21 x2.toNatClampNeg 0) 22 x2.toNatClampNeg 0, J, cd)) else none) else none := rfl
set_option maxRecDepth 10000 in
theorem sgX4_start_73_54 (N d n : Nat) (x2 : Int32) (I : Nat → Nat → Int32) (J : Nat → Nat → Int64) (cd : Nat × Nat) : EX4_start N d (n + 1) 54 [some (rv (some 19)), none, some (iv x2)] (I, J, cd) =
  if 7 ≤ x2 then
    some (rv none, (I, J, cd))
  else
    if inb x2 7 then (EX4_start N d n 54 [some (rv (some 19)), none, some (iv (x2 + 1))] (wr I 23 x2.toNatClampNeg 0, J, cd)) else none := rfl
set_option maxRecDepth 10000 in
theorem sgX4_start_80_0 (N d n : Nat)  (I : Nat → Nat → Int32) (J : Nat → Nat → Int64) (cd : Nat × Nat) : EX4_start N d (n + 1) 0 [some (rv (some 19)), some (rv (some 80)), none] (I, J, cd) =
  EX4_start N d n 2 [some (rv (some 19)), some (rv (some 80)), some (iv 0)] (I, J, cd) := rfl
set_option maxRecDepth 10000 in
theorem sgX4_start_80_2 (N d n : Nat) (x2 : Int32) (I : Nat → Nat → Int32) (J : Nat → Nat → Int64) (cd : Nat × Nat) : EX4_start N d (n + 1) 2 [some (rv (some 19)), some (rv (some 80)), some (iv x2)] (I, J, cd) =
  if 6 ≤ x2 then
    EX4_start N d n 54 [some (rv (some 19)), none, some (iv 0)] (I, J, cd)
  else
    if (I 80 0) ≤ x2 then
      if inb x2 6 then (EX4_start N d n 32 [some (rv (some 19)), some (rv (some 80)), some (iv x2)] (wr I 20 x2.toNatClampNeg 0, J, cd)) else none
    else
      if inb x2 6 then (if inb x2 6 then (EX4_start N d n 32 [some (rv (some 19)), some (rv (some 80)), some (iv x2)] (wr I 20 x2.toNatClampNeg (I 83 x2.toNatClampNeg), J, cd)) else none) else none := rfl
set_option maxRecDepth 10000 in
theorem sgX4_start_80_32 (N d n : Nat) (x2 : Int32) (I : Nat → Nat → Int32) (J : Nat → Nat → Int64) (cd : Nat × Nat) : EX4_start N d (n + 1) 32 [some (rv (some 19)), some (rv (some 80)), some (iv x2)] (I, J, cd) =
  if inb x2 6 then (if inb x2 6 then (EX4_start N d n 2 [some (rv (some 19)), some (rv (some 80)), some (iv (x2 + 1))] (wr (wr I 21 x2.toNatClampNeg 0) 22 x2.toNatClampNeg 0, J, cd)) else none) else none := rfl
set_option maxRecDepth 10000 in
theorem sgX4_start_80_54 (N d n : Nat) (x2 : Int32) (I : Nat → Nat → Int32) (J : Nat → Nat → Int64) (cd : Nat × Nat) : EX4_start N d (n + 1) 54 [some (rv (some 19)), none, some (iv x2)] (I, J, cd) =
  if 7 ≤ x2 then
    some (rv none, (I, J, cd))
  else
    if inb x2 7 then (EX4_start N d n 54 [some (rv (some 19)), none, some (iv (x2 + 1))] (wr I 23 x2.toNatClampNeg 0, J, cd)) else none := rfl
def EX4_pass (N d : Nat) : Nat → Nat → LO → AH → Option RES := exec (CX4_pass (arun N d)) [(39, [0, 1, 4, 5, 6])]
theorem enX4_pass (N d : Nat) (q0 : Nat) (q1 : Nat) (x2 : Int32) (x3 : Int32) (x4 : Int32) (A : AH) : arun N (d + 1) 30 [rv (some q0), rv (some q1), iv x2, iv x3, iv x4] A = EX4_pass N d N 0 [some (rv (some q0)), some (rv (some q1)), some (iv x2), some (iv x3), some (iv x4), none, none] A := rfl
set_option maxRecDepth 10000 in
theorem sgX4_pass_0 (N d n : Nat) (x2 : Int32) (x3 : Int32) (x4 : Int32) (I : Nat → Nat → Int32) (J : Nat → Nat → Int64) (cd : Nat × Nat) : EX4_pass N d (n + 1) 0 [some (rv (some 19)), some (rv (some 73)), some (iv x2), some (iv x3), some (iv x4), none, none] (I, J, cd) =
  (cV (arun N d) 22 [rv (some 73), rv (some 20), rv (some 24), iv x2] (I, J, cd)).bind fun r1 => (cV (arun N d) 23 [rv (some 73), rv (some 20), rv (some 24), iv x3] r1).bind fun r2 => (cI (arun N d) 25 [rv (some 73), rv (some 24)] r2).bind fun r3 => EX4_pass N d n 39 [some (rv (some 19)), some (rv (some 73)), none, none, some (iv x4), some (iv r3.1), some (iv 0)] r3.2 := rfl
set_option maxRecDepth 10000 in
theorem sgX4_pass_39 (N d n : Nat) (x4 : Int32) (x5 : Int32) (x6 : Int32) (I : Nat → Nat → Int32) (J : Nat → Nat → Int64) (cd : Nat × Nat) : EX4_pass N d (n + 1) 39 [some (rv (some 19)), some (rv (some 73)), none, none, some (iv x4), some (iv x5), some (iv x6)] (I, J, cd) =
  if (I 73 0) ≤ x6 then
    (cI (arun N d) 24 [rv (some 73), rv (some 24)] (I, J, cd)).bind fun r1 => (cI (arun N d) 125 [iv x4] r1.2).bind fun r2 => if r2.1 = 0 then
      some (iv r1.1, r2.2)
    else
      if inb x4 7 then (if inb x4 7 then (some (iv r1.1, (wr r2.2.1 23 x4.toNatClampNeg ((r2.2.1 23 x4.toNatClampNeg) + r1.1), r2.2.2.1, r2.2.2.2))) else none) else none
  else
    if inb x6 6 then (if inb x6 6 then (if inb x6 6 then (if inb x6 6 then (if inb x6 6 then (EX4_pass N d n 39 [some (rv (some 19)), some (rv (some 73)), none, none, some (iv x4), some (iv x5), some (iv (x6 + 1))] (wr (wr I 21 x6.toNatClampNeg ((I 21 x6.toNatClampNeg) + ((x5 >>> (x6 &&& 31)) &&& 1))) 22 x6.toNatClampNeg ((I 22 x6.toNatClampNeg) + (I 24 x6.toNatClampNeg)), J, cd)) else none) else none) else none) else none) else none := rfl
def EX5_seek (N d : Nat) : Nat → Nat → LO → AH → Option RES := exec (CX5_seek (arun N d)) []
theorem enX5_seek (N d : Nat) (q0 : Nat) (q1 : Nat) (q2 : Nat) (x3 : Int32) (x4 : Int32) (x5 : Int32) (A : AH) : arun N (d + 1) 31 [rv (some q0), rv (some q1), rv (some q2), iv x3, iv x4, iv x5] A = EX5_seek N d N 0 [some (rv (some q0)), some (rv (some q1)), some (rv (some q2)), some (iv x3), some (iv x4), some (iv x5)] A := rfl
set_option maxRecDepth 10000 in
theorem sgX5_seek_0 (N d n : Nat) (x3 : Int32) (x4 : Int32) (x5 : Int32) (I : Nat → Nat → Int32) (J : Nat → Nat → Int64) (cd : Nat × Nat) : EX5_seek N d (n + 1) 0 [some (rv (some 48)), some (rv (some 73)), some (rv (some 20)), some (iv x3), some (iv x4), some (iv x5)] (I, J, cd) =
  (cV (arun N d) 4 [rv (some 52), rv (some 20), iv x3] (I, J, cd)).bind fun r1 => (cI (arun N d) 3 [iv x5, iv 4] (wr r1.1 48 7 x4, r1.2.1, r1.2.2)).bind fun r2 => (cI (arun N d) 2 [iv 0, iv r2.1] r2.2).bind fun r3 => (cV (arun N d) 32 [rv (some 48), rv (some 73), iv 0, iv 0] (wr (wr (wr (wr r3.2.1 48 3 r3.1) 48 4 0) 48 5 0) 48 6 0, r3.2.2.1, r3.2.2.2)).bind fun r4 => some (rv none, r4) := rfl
def EX5_goDeeper (N d : Nat) : Nat → Nat → LO → AH → Option RES := exec (CX5_goDeeper (arun N d)) [(17, [0, 1, 2, 3, 4])]
theorem enX5_goDeeper (N d : Nat) (q0 : Nat) (q1 : Nat) (x2 : Int32) (x3 : Int32) (A : AH) : arun N (d + 1) 32 [rv (some q0), rv (some q1), iv x2, iv x3] A = EX5_goDeeper N d N 0 [some (rv (some q0)), some (rv (some q1)), some (iv x2), some (iv x3), none, none] A := rfl
set_option maxRecDepth 10000 in
theorem sgX5_goDeeper_0 (N d n : Nat) (x2 : Int32) (x3 : Int32) (I : Nat → Nat → Int32) (J : Nat → Nat → Int64) (cd : Nat × Nat) : EX5_goDeeper N d (n + 1) 0 [some (rv (some 48)), some (rv (some 73)), some (iv x2), some (iv x3), none, none] (I, J, cd) =
  if x2 < (I 48 3) then
    EX5_goDeeper N d n 17 [some (rv (some 48)), some (rv (some 73)), some (iv x2), some (iv x3), some (iv 0), none] (I, J, cd)
  else
    (cV (arun N d) 35 [rv (some 48), iv x3] (I, J, cd)).bind fun r1 => some (rv none, r1) := rfl
set_option maxRecDepth 10000 in
theorem sgX5_goDeeper_17 (N d n : Nat) (x2 : Int32) (x3 : Int32) (x4 : Int32) (I : Nat → Nat → Int32) (J : Nat → Nat → Int64) (cd : Nat × Nat) : EX5_goDeeper N d (n + 1) 17 [some (rv (some 48)), some (rv (some 73)), some (iv x2), some (iv x3), some (iv x4), none] (I, J, cd) =
  if (I 73 3) ≤ x4 then
    some (rv none, (I, J, cd))
  else
    if inb x4 8 then ((cV (arun N d) 6 [rv (some 52), rv (some 73), iv x2, iv (I 79 x4.toNatClampNeg)] (I, J, cd)).bind fun r1 => (cI (arun N d) 33 [rv (some 48), rv (some 73), iv x2] r1).bind fun r2 => if r2.1 = 0 then
      EX5_goDeeper N d n 17 [some (rv (some 48)), some (rv (some 73)), some (iv x2), some (iv x3), some (iv (x4 + 1)), none] r2.2
    else
      if inb x2 4 then ((cI (arun N d) 34 [rv (some 48), rv (some 73), iv x2] (wr r2.2.1 51 x2.toNatClampNeg (I 79 x4.toNatClampNeg), r2.2.2.1, r2.2.2.2)).bind fun r3 => (cV (arun N d) 32 [rv (some 48), rv (some 73), iv (x2 + 1), iv (x3 + r3.1)] r3.2).bind fun r4 => EX5_goDeeper N d n 17 [some (rv (some 48)), some (rv (some 73)), some (iv x2), some (iv x3), some (iv (x4 + 1)), none] r4) else none) else none := rfl
def EX5_fits (N d : Nat) : Nat → Nat → LO → AH → Option RES := exec (CX5_fits (arun N d)) []
theorem enX5_fits (N d : Nat) (q0 : Nat) (q1 : Nat) (x2 : Int32) (A : AH) : arun N (d + 1) 33 [rv (some q0), rv (some q1), iv x2] A = EX5_fits N d N 0 [some (rv (some q0)), some (rv (some q1)), some (iv x2)] A := rfl
set_option maxRecDepth 10000 in
theorem sgX5_fits_0 (N d n : Nat) (x2 : Int32) (I : Nat → Nat → Int32) (J : Nat → Nat → Int64) (cd : Nat × Nat) : EX5_fits N d (n + 1) 0 [some (rv (some 48)), some (rv (some 73)), some (iv x2)] (I, J, cd) =
  if (I 48 7) = 1 then
    if (I 52 2) = (I 73 2) then
      some (iv 1, (I, J, cd))
    else
      some (iv 0, (I, J, cd))
  else
    if (I 48 7) = 3 then
      if inb x2 4 then (if (I 52 1) = (I 49 x2.toNatClampNeg) then
        some (iv 1, (I, J, cd))
      else
        some (iv 0, (I, J, cd))) else none
    else
      some (iv 1, (I, J, cd)) := rfl
def EX5_gain (N d : Nat) : Nat → Nat → LO → AH → Option RES := exec (CX5_gain (arun N d)) []
theorem enX5_gain (N d : Nat) (q0 : Nat) (q1 : Nat) (x2 : Int32) (A : AH) : arun N (d + 1) 34 [rv (some q0), rv (some q1), iv x2] A = EX5_gain N d N 0 [some (rv (some q0)), some (rv (some q1)), some (iv x2)] A := rfl
set_option maxRecDepth 10000 in
theorem sgX5_gain_0 (N d n : Nat) (x2 : Int32) (I : Nat → Nat → Int32) (J : Nat → Nat → Int64) (cd : Nat × Nat) : EX5_gain N d (n + 1) 0 [some (rv (some 48)), some (rv (some 73)), some (iv x2)] (I, J, cd) =
  if (I 48 7) = 0 then
    (cI (arun N d) 0 [iv (I 52 2)] (I, J, cd)).bind fun r1 => some (iv r1.1, r1.2)
  else
    if (I 48 7) = 1 then
      if inb x2 4 then ((cI (arun N d) 0 [iv (I 51 x2.toNatClampNeg)] (I, J, cd)).bind fun r2 => some (iv (-r2.1), r2.2)) else none
    else
      if (I 48 7) = 2 then
        (cI (arun N d) 7 [rv (some 52), rv (some 73), iv x2] (I, J, cd)).bind fun r3 => if r3.1 = (r3.2.1 48 2) then
          some (iv (r3.2.1 52 1), r3.2)
        else
          some (iv 0, r3.2)
      else
        some (iv 0, (I, J, cd)) := rfl
def EX5_arrive (N d : Nat) : Nat → Nat → LO → AH → Option RES := exec (CX5_arrive (arun N d)) [(15, [0, 1]), (34, [0]), (65, [0])]
theorem enX5_arrive (N d : Nat) (q0 : Nat) (x1 : Int32) (A : AH) : arun N (d + 1) 35 [rv (some q0), iv x1] A = EX5_arrive N d N 0 [some (rv (some q0)), some (iv x1)] A := rfl
set_option maxRecDepth 10000 in
theorem sgX5_arrive_0 (N d n : Nat) (x1 : Int32) (I : Nat → Nat → Int32) (J : Nat → Nat → Int64) (cd : Nat × Nat) : EX5_arrive N d (n + 1) 0 [some (rv (some 48)), some (iv x1)] (I, J, cd) =
  if (I 48 4) = 0 then
    EX5_arrive N d n 15 [some (rv (some 48)), some (iv x1)] (I, J, cd)
  else
    if x1 ≤ (I 48 5) then
      EX5_arrive N d n 34 [some (rv (some 48)), none] (I, J, cd)
    else
      EX5_arrive N d n 15 [some (rv (some 48)), some (iv x1)] (I, J, cd) := rfl
set_option maxRecDepth 10000 in
theorem sgX5_arrive_15 (N d n : Nat) (x1 : Int32) (I : Nat → Nat → Int32) (J : Nat → Nat → Int64) (cd : Nat × Nat) : EX5_arrive N d (n + 1) 15 [some (rv (some 48)), some (iv x1)] (I, J, cd) =
  if okcp 51 50 0 0 4 then (EX5_arrive N d n 34 [some (rv (some 48)), none] (wrC (wr I 48 5 x1) 50 (va_cpy (I 51) (I 50) 0 0 4), J, cd)) else none := rfl
set_option maxRecDepth 10000 in
theorem sgX5_arrive_34 (N d n : Nat)  (I : Nat → Nat → Int32) (J : Nat → Nat → Int64) (cd : Nat × Nat) : EX5_arrive N d (n + 1) 34 [some (rv (some 48)), none] (I, J, cd) =
  if (I 48 4) = 0 then
    EX5_arrive N d n 65 [some (rv (some 48)), none] (wr I 48 6 (I 51 0), J, cd)
  else
    EX5_arrive N d n 65 [some (rv (some 48)), none] (wr I 48 6 ((I 48 6) &&& (I 51 0)), J, cd) := rfl
set_option maxRecDepth 10000 in
theorem sgX5_arrive_65 (N d n : Nat)  (I : Nat → Nat → Int32) (J : Nat → Nat → Int64) (cd : Nat × Nat) : EX5_arrive N d (n + 1) 65 [some (rv (some 48)), none] (I, J, cd) =
  some (rv none, (wr I 48 4 ((I 48 4) + 1), J, cd)) := rfl
def EX5_shutTogether (N d : Nat) : Nat → Nat → LO → AH → Option RES := exec (CX5_shutTogether (arun N d)) [(4, [0, 1, 2])]
theorem enX5_shutTogether (N d : Nat) (q0 : Nat) (A : AH) : arun N (d + 1) 36 [rv (some q0)] A = EX5_shutTogether N d N 0 [some (rv (some q0)), none, none] A := rfl
set_option maxRecDepth 10000 in
theorem sgX5_shutTogether_0 (N d n : Nat)  (I : Nat → Nat → Int32) (J : Nat → Nat → Int64) (cd : Nat × Nat) : EX5_shutTogether N d (n + 1) 0 [some (rv (some 48)), none, none] (I, J, cd) =
  EX5_shutTogether N d n 4 [some (rv (some 48)), some (iv 0), some (iv 0)] (I, J, cd) := rfl
set_option maxRecDepth 10000 in
theorem sgX5_shutTogether_4 (N d n : Nat) (x1 : Int32) (x2 : Int32) (I : Nat → Nat → Int32) (J : Nat → Nat → Int64) (cd : Nat × Nat) : EX5_shutTogether N d (n + 1) 4 [some (rv (some 48)), some (iv x1), some (iv x2)] (I, J, cd) =
  if (I 48 3) ≤ x2 then
    some (iv x1, (I, J, cd))
  else
    if inb x2 4 then ((cI (arun N d) 0 [iv (I 50 x2.toNatClampNeg)] (I, J, cd)).bind fun r1 => EX5_shutTogether N d n 4 [some (rv (some 48)), some (iv (x1 + r1.1)), some (iv (x2 + 1))] r1.2) else none := rfl
