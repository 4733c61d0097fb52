/-! what a run from a place to the next ones gives -/
def EX10_duel (N d : Nat) : Nat → Nat → LO → AH → Option RES := exec (CX10_duel (arun N d)) [(29, [0, 1, 2, 3]), (45, [0, 1, 2, 3, 4, 5]), (60, [0, 1, 2, 3, 4, 5, 6, 7])]
theorem enX10_duel (N d : Nat) (q0 : Nat) (x1 : Int32) (A : AH) : arun N (d + 1) 211 [rv (some q0), iv x1] A = EX10_duel N d N 0 [some (rv (some q0)), some (iv x1), none, none, none, none, none, none] A := rfl
set_option maxRecDepth 10000 in
theorem sgX10_duel_0 (N d n : Nat) (x1 : Int32) (I : Nat → Nat → Int32) (J : Nat → Nat → Int64) (cd : Nat × Nat) : EX10_duel N d (n + 1) 0 [some (rv (some 87)), some (iv x1), none, none, none, none, none, none] (I, J, cd) =
  (cI (arun N d) 137 [iv x1, iv 0, iv 3] (I, J, cd)).bind fun r1 => if r1.1 = 0 then
    some (iv ((-1)), r1.2)
  else
    if (r1.2.1 87 10) = 0 then
      some (iv ((-4)), r1.2)
    else
      (cV (arun N d) 200 [rv (some 87)] r1.2).bind fun r2 => EX10_duel N d n 29 [some (rv (some 87)), some (iv x1), some (iv ((-1))), some (iv 0), none, none, none, none] r2 := rfl
set_option maxRecDepth 10000 in
theorem sgX10_duel_29 (N d n : Nat) (x1 : Int32) (x2 : Int32) (x3 : Int32) (I : Nat → Nat → Int32) (J : Nat → Nat → Int64) (cd : Nat × Nat) : EX10_duel N d (n + 1) 29 [some (rv (some 87)), some (iv x1), some (iv x2), some (iv x3), none, none, none, none] (I, J, cd) =
  if (I 87 34) ≤ x3 then
    some (iv x2, (I, J, cd))
  else
    EX10_duel N d n 45 [some (rv (some 87)), some (iv x1), some (iv x2), some (iv x3), some (iv 1048576), some (iv 0), none, none] (I, J, cd) := rfl
set_option maxRecDepth 10000 in
theorem sgX10_duel_45 (N d n : Nat) (x1 : Int32) (x2 : Int32) (x3 : Int32) (x4 : Int32) (x5 : Int32) (I : Nat → Nat → Int32) (J : Nat → Nat → Int64) (cd : Nat × Nat) : EX10_duel N d (n + 1) 45 [some (rv (some 87)), some (iv x1), some (iv x2), some (iv x3), some (iv x4), some (iv x5), none, none] (I, J, cd) =
  if (I 87 34) ≤ x5 then
    (cI (arun N d) 141 [iv x2, iv x4] (I, J, cd)).bind fun r1 => EX10_duel N d n 29 [some (rv (some 87)), some (iv x1), some (iv r1.1), some (iv (x3 + 1)), none, none, none, none] r1.2
  else
    EX10_duel N d n 60 [some (rv (some 87)), some (iv x1), some (iv x2), some (iv x3), some (iv x4), some (iv x5), some (iv ((-1))), some (iv 0)] (I, J, cd) := rfl
set_option maxRecDepth 10000 in
theorem sgX10_duel_60 (N d n : Nat) (x1 : Int32) (x2 : Int32) (x3 : Int32) (x4 : Int32) (x5 : Int32) (x6 : Int32) (x7 : Int32) (I : Nat → Nat → Int32) (J : Nat → Nat → Int64) (cd : Nat × Nat) : EX10_duel N d (n + 1) 60 [some (rv (some 87)), some (iv x1), some (iv x2), some (iv x3), some (iv x4), some (iv x5), some (iv x6), some (iv x7)] (I, J, cd) =
  if (I 87 34) ≤ x7 then
    if x4 ≤ x6 then
      EX10_duel N d n 45 [some (rv (some 87)), some (iv x1), some (iv x2), some (iv x3), some (iv x4), some (iv (x5 + 1)), none, none] (I, J, cd)
    else
      EX10_duel N d n 45 [some (rv (some 87)), some (iv x1), some (iv x2), some (iv x3), some (iv x6), some (iv (x5 + 1)), none, none] (I, J, cd)
  else
    (cI (arun N d) 210 [rv (some 87), iv x1, iv x3, iv x5, iv x7] (I, J, cd)).bind fun r1 => (cI (arun N d) 141 [iv x6, iv r1.1] r1.2).bind fun r2 => EX10_duel N d n 60 [some (rv (some 87)), some (iv x1), some (iv x2), some (iv x3), some (iv x4), some (iv x5), some (iv r2.1), some (iv (x7 + 1))] r2.2 := rfl
def EX10_askedSea (N d : Nat) : Nat → Nat → LO → AH → Option RES := exec (CX10_askedSea (arun N d)) [(56, [0, 1, 2])]
theorem enX10_askedSea (N d : Nat) (q0 : Nat) (x1 : Int32) (A : AH) : arun N (d + 1) 212 [rv (some q0), iv x1] A = EX10_askedSea N d N 0 [some (rv (some q0)), some (iv x1), none] A := rfl
set_option maxRecDepth 10000 in
theorem sgX10_askedSea_0 (N d n : Nat) (x1 : Int32) (I : Nat → Nat → Int32) (J : Nat → Nat → Int64) (cd : Nat × Nat) : EX10_askedSea N d (n + 1) 0 [some (rv (some 87)), some (iv x1), none] (I, J, cd) =
  (cI (arun N d) 143 [iv x1] (I, J, cd)).bind fun r1 => if r1.1 = 0 then
    some (iv ((-1)), r1.2)
  else
    if (r1.2.1 87 10) = 0 then
      some (iv ((-4)), r1.2)
    else
      if inb x1 6 then (if 0 ≤ (r1.2.1 89 x1.toNatClampNeg) then
        if inb x1 6 then ((cI (arun N d) 137 [iv (r1.2.1 89 x1.toNatClampNeg), iv 1, iv 4] r1.2).bind fun r2 => if r2.1 = 0 then
          (cI (arun N d) 138 [rv (some 87), iv 5] r2.2).bind fun r3 => some (iv r3.1, r3.2)
        else
          EX10_askedSea N d n 56 [some (rv (some 87)), some (iv x1), some (iv 0)] r2.2) else none
      else
        (cI (arun N d) 138 [rv (some 87), iv 1] r1.2).bind fun r4 => some (iv r4.1, r4.2)) else none := rfl
set_option maxRecDepth 10000 in
theorem sgX10_askedSea_56 (N d n : Nat) (x1 : Int32) (x2 : Int32) (I : Nat → Nat → Int32) (J : Nat → Nat → Int64) (cd : Nat × Nat) : EX10_askedSea N d (n + 1) 56 [some (rv (some 87)), some (iv x1), some (iv x2)] (I, J, cd) =
  if inb x1 6 then (if (I 89 x1.toNatClampNeg) ≤ x2 then
    some (iv 0, (I, J, cd))
  else
    (cI (arun N d) 147 [rv (some 87), iv x1, iv x2] (I, J, cd)).bind fun r1 => (cI (arun N d) 137 [iv r1.1, iv 0, iv 999] r1.2).bind fun r2 => if r2.1 = 0 then
      (cI (arun N d) 138 [rv (some 87), iv 3] r2.2).bind fun r3 => some (iv r3.1, r3.2)
    else
      EX10_askedSea N d n 56 [some (rv (some 87)), some (iv x1), some (iv (x2 + 1))] r2.2) else none := rfl
def EX10_comesSo (N d : Nat) : Nat → Nat → LO → AH → Option RES := exec (CX10_comesSo (arun N d)) [(5, [0, 1, 2, 3, 4]), (59, [0, 3])]
theorem enX10_comesSo (N d : Nat) (q0 : Nat) (x1 : Int32) (x2 : Int32) (A : AH) : arun N (d + 1) 213 [rv (some q0), iv x1, iv x2] A = EX10_comesSo N d N 0 [some (rv (some q0)), some (iv x1), some (iv x2), none, none] A := rfl
set_option maxRecDepth 10000 in
theorem sgX10_comesSo_0 (N d n : Nat) (x1 : Int32) (x2 : Int32) (I : Nat → Nat → Int32) (J : Nat → Nat → Int64) (cd : Nat × Nat) : EX10_comesSo N d (n + 1) 0 [some (rv (some 87)), some (iv x1), some (iv x2), none, none] (I, J, cd) =
  EX10_comesSo N d n 5 [some (rv (some 87)), some (iv x1), some (iv x2), some (iv 1), some (iv 0)] (I, J, cd) := rfl
set_option maxRecDepth 10000 in
theorem sgX10_comesSo_5 (N d n : Nat) (x1 : Int32) (x2 : Int32) (x3 : Int32) (x4 : Int32) (I : Nat → Nat → Int32) (J : Nat → Nat → Int64) (cd : Nat × Nat) : EX10_comesSo N d (n + 1) 5 [some (rv (some 87)), some (iv x1), some (iv x2), some (iv x3), some (iv x4)] (I, J, cd) =
  if inb x2 6 then (if (I 89 x2.toNatClampNeg) ≤ x4 then
    EX10_comesSo N d n 59 [some (rv (some 87)), none, none, some (iv x3), none] (I, J, cd)
  else
    if x3 = 0 then
      EX10_comesSo N d n 59 [some (rv (some 87)), none, none, some (iv x3), none] (I, J, cd)
    else
      if inb x2 6 then ((cI (arun N d) 202 [rv (some 87), iv x1, iv (I 89 x2.toNatClampNeg), iv x4] (I, J, cd)).bind fun r1 => (cI (arun N d) 179 [rv (some 87), iv r1.1] r1.2).bind fun r2 => (cI (arun N d) 147 [rv (some 87), iv x2, iv x4] r2.2).bind fun r3 => if r2.1 = r3.1 then
        EX10_comesSo N d n 5 [some (rv (some 87)), some (iv x1), some (iv x2), some (iv 1), some (iv (x4 + 1))] r3.2
      else
        EX10_comesSo N d n 5 [some (rv (some 87)), some (iv x1), some (iv x2), some (iv 0), some (iv (x4 + 1))] r3.2) else none) else none := rfl
set_option maxRecDepth 10000 in
theorem sgX10_comesSo_59 (N d n : Nat) (x3 : Int32) (I : Nat → Nat → Int32) (J : Nat → Nat → Int64) (cd : Nat × Nat) : EX10_comesSo N d (n + 1) 59 [some (rv (some 87)), none, none, some (iv x3), none] (I, J, cd) =
  (cV (arun N d) 176 [rv (some 87)] (I, J, cd)).bind fun r1 => if x3 = 1 then some (iv 1, r1) else if x3 = 0 then some (iv 0, r1) else none := rfl
def EX10_ways (N d : Nat) : Nat → Nat → LO → AH → Option RES := exec (CX10_ways (arun N d)) [(31, [0, 1, 3, 4, 5])]
theorem enX10_ways (N d : Nat) (q0 : Nat) (x1 : Int32) (A : AH) : arun N (d + 1) 214 [rv (some q0), iv x1] A = EX10_ways N d N 0 [some (rv (some q0)), some (iv x1), none, none, none, none] A := rfl
set_option maxRecDepth 10000 in
theorem sgX10_ways_0 (N d n : Nat) (x1 : Int32) (I : Nat → Nat → Int32) (J : Nat → Nat → Int64) (cd : Nat × Nat) : EX10_ways N d (n + 1) 0 [some (rv (some 87)), some (iv x1), none, none, none, none] (I, J, cd) =
  (cI (arun N d) 212 [rv (some 87), iv x1] (I, J, cd)).bind fun r1 => if 0 ≤ r1.1 then
    (cV (arun N d) 200 [rv (some 87)] r1.2).bind fun r2 => (cI (arun N d) 171 [rv (some 87)] r2).bind fun r3 => (cV (arun N d) 175 [rv (some 87)] r3.2).bind fun r4 => EX10_ways N d n 31 [some (rv (some 87)), some (iv x1), none, some (iv 0), some (iv r3.1), some (iv 0)] r4
  else
    some (iv r1.1, r1.2) := rfl
set_option maxRecDepth 10000 in
theorem sgX10_ways_31 (N d n : Nat) (x1 : Int32) (x3 : Int32) (x4 : Int32) (x5 : Int32) (I : Nat → Nat → Int32) (J : Nat → Nat → Int64) (cd : Nat × Nat) : EX10_ways N d (n + 1) 31 [some (rv (some 87)), some (iv x1), none, some (iv x3), some (iv x4), some (iv x5)] (I, J, cd) =
  if inb x1 6 then ((cI (arun N d) 201 [rv (some 87), iv (I 89 x1.toNatClampNeg)] (I, J, cd)).bind fun r1 => if r1.1 ≤ x5 then
    (cI (arun N d) 142 [rv (some 87), jv (Int32.toInt64 x3), jv 1] r1.2).bind fun r2 => if x3 = 0 then
      (cI (arun N d) 139 [rv (some 87), iv 0, iv 1] r2.2).bind fun r3 => some (iv r3.1, r3.2)
    else
      (cI (arun N d) 139 [rv (some 87), iv x4, iv 1] r2.2).bind fun r4 => some (iv r4.1, r4.2)
  else
    (cI (arun N d) 213 [rv (some 87), iv x5, iv x1] r1.2).bind fun r5 => if r5.1 = 0 then
      EX10_ways N d n 31 [some (rv (some 87)), some (iv x1), none, some (iv x3), some (iv x4), some (iv (x5 + 1))] r5.2
    else
      if inb x1 6 then ((cI (arun N d) 202 [rv (some 87), iv x5, iv (r5.2.1 89 x1.toNatClampNeg), iv 0] r5.2).bind fun r6 => EX10_ways N d n 31 [some (rv (some 87)), some (iv x1), none, some (iv (x3 + 1)), some (iv (x4 &&& r6.1)), some (iv (x5 + 1))] r6.2) else none) else none := rfl
def EX10_first (N d : Nat) : Nat → Nat → LO → AH → Option RES := exec (CX10_first (arun N d)) [(40, [0, 1, 2, 4, 5]), (76, [0, 4, 5, 6, 7])]
theorem enX10_first (N d : Nat) (q0 : Nat) (x1 : Int32) (x2 : Int32) (A : AH) : arun N (d + 1) 215 [rv (some q0), iv x1, iv x2] A = EX10_first N d N 0 [some (rv (some q0)), some (iv x1), some (iv x2), none, none, none, none, none] A := rfl
set_option maxRecDepth 10000 in
theorem sgX10_first_0 (N d n : Nat) (x1 : Int32) (x2 : Int32) (I : Nat → Nat → Int32) (J : Nat → Nat → Int64) (cd : Nat × Nat) : EX10_first N d (n + 1) 0 [some (rv (some 87)), some (iv x1), some (iv x2), none, none, none, none, none] (I, J, cd) =
  (cI (arun N d) 143 [iv x2] (I, J, cd)).bind fun r1 => if r1.1 = 0 then
    some (iv ((-1)), r1.2)
  else
    (cI (arun N d) 212 [rv (some 87), iv x1] r1.2).bind fun r2 => if 0 ≤ r2.1 then
      (cV (arun N d) 200 [rv (some 87)] r2.2).bind fun r3 => if inb x1 6 then ((cV (arun N d) 175 [rv (some 87)] r3).bind fun r4 => EX10_first N d n 40 [some (rv (some 87)), some (iv x1), some (iv x2), none, some (iv (r3.1 89 x1.toNatClampNeg)), some (iv 0), none, none] r4) else none
    else
      some (iv r2.1, r2.2) := rfl
set_option maxRecDepth 10000 in
theorem sgX10_first_40 (N d n : Nat) (x1 : Int32) (x2 : Int32) (x4 : Int32) (x5 : Int32) (I : Nat → Nat → Int32) (J : Nat → Nat → Int64) (cd : Nat × Nat) : EX10_first N d (n + 1) 40 [some (rv (some 87)), some (iv x1), some (iv x2), none, some (iv x4), some (iv x5), none, none] (I, J, cd) =
  (cI (arun N d) 201 [rv (some 87), iv x4] (I, J, cd)).bind fun r1 => if r1.1 ≤ x5 then
    some (iv ((-9)), r1.2)
  else
    (cI (arun N d) 213 [rv (some 87), iv x5, iv x1] r1.2).bind fun r2 => if r2.1 = 0 then
      EX10_first N d n 40 [some (rv (some 87)), some (iv x1), some (iv x2), none, some (iv x4), some (iv (x5 + 1)), none, none] r2.2
    else
      (cV (arun N d) 203 [rv (some 87), iv x5, iv x4, iv x2] r2.2).bind fun r3 => EX10_first N d n 76 [some (rv (some 87)), none, none, none, some (iv x4), some (iv x5), some (iv 0), some (iv 0)] r3 := rfl
set_option maxRecDepth 10000 in
theorem sgX10_first_76 (N d n : Nat) (x4 : Int32) (x5 : Int32) (x6 : Int32) (x7 : Int32) (I : Nat → Nat → Int32) (J : Nat → Nat → Int64) (cd : Nat × Nat) : EX10_first N d (n + 1) 76 [some (rv (some 87)), none, none, none, some (iv x4), some (iv x5), some (iv x6), some (iv x7)] (I, J, cd) =
  if x4 ≤ x7 then
    some (iv x6, (I, J, cd))
  else
    (cI (arun N d) 202 [rv (some 87), iv x5, iv x4, iv x7] (I, J, cd)).bind fun r1 => (cI (arun N d) 204 [iv r1.1] r1.2).bind fun r2 => EX10_first N d n 76 [some (rv (some 87)), none, none, none, some (iv x4), some (iv x5), some (iv (x6 + r2.1)), some (iv (x7 + 1))] r2.2 := rfl
def EX10_askedBook (N d : Nat) : Nat → Nat → LO → AH → Option RES := exec (CX10_askedBook (arun N d)) [(18, [0, 2, 3]), (46, [0]), (55, [0, 2, 4])]
theorem enX10_askedBook (N d : Nat) (q0 : Nat) (x1 : Int32) (x2 : Int32) (A : AH) : arun N (d + 1) 216 [rv (some q0), iv x1, iv x2] A = EX10_askedBook N d N 0 [some (rv (some q0)), some (iv x1), some (iv x2), none, none] A := rfl
set_option maxRecDepth 10000 in
theorem sgX10_askedBook_0 (N d n : Nat) (x1 : Int32) (x2 : Int32) (I : Nat → Nat → Int32) (J : Nat → Nat → Int64) (cd : Nat × Nat) : EX10_askedBook N d (n + 1) 0 [some (rv (some 87)), some (iv x1), some (iv x2), none, none] (I, J, cd) =
  (cI (arun N d) 169 [rv (some 87), iv x1] (I, J, cd)).bind fun r1 => if r1.1 = 0 then
    EX10_askedBook N d n 18 [some (rv (some 87)), none, some (iv x2), some (iv ((-1))), none] r1.2
  else
    (cI (arun N d) 145 [rv (some 87), iv x2] r1.2).bind fun r2 => EX10_askedBook N d n 18 [some (rv (some 87)), none, some (iv x2), some (iv r2.1), none] r2.2 := rfl
set_option maxRecDepth 10000 in
theorem sgX10_askedBook_18 (N d n : Nat) (x2 : Int32) (x3 : Int32) (I : Nat → Nat → Int32) (J : Nat → Nat → Int64) (cd : Nat × Nat) : EX10_askedBook N d (n + 1) 18 [some (rv (some 87)), none, some (iv x2), some (iv x3), none] (I, J, cd) =
  if 0 ≤ x3 then
    if inb x2 6 then (if ((I 89 x2.toNatClampNeg) - (I 89 x2.toNatClampNeg) / 2 * 2) = 0 then
      if inb x2 6 then (if (I 89 x2.toNatClampNeg) ≤ 20 then
        EX10_askedBook N d n 55 [some (rv (some 87)), none, some (iv x2), none, some (iv 0)] (I, J, cd)
      else
        EX10_askedBook N d n 46 [some (rv (some 87)), none, none, none, none] (I, J, cd)) else none
    else
      EX10_askedBook N d n 46 [some (rv (some 87)), none, none, none, none] (I, J, cd)) else none
  else
    some (iv x3, (I, J, cd)) := rfl
set_option maxRecDepth 10000 in
theorem sgX10_askedBook_46 (N d n : Nat)  (I : Nat → Nat → Int32) (J : Nat → Nat → Int64) (cd : Nat × Nat) : EX10_askedBook N d (n + 1) 46 [some (rv (some 87)), none, none, none, none] (I, J, cd) =
  (cI (arun N d) 138 [rv (some 87), iv 5] (I, J, cd)).bind fun r1 => some (iv r1.1, r1.2) := rfl
set_option maxRecDepth 10000 in
theorem sgX10_askedBook_55 (N d n : Nat) (x2 : Int32) (x4 : Int32) (I : Nat → Nat → Int32) (J : Nat → Nat → Int64) (cd : Nat × Nat) : EX10_askedBook N d (n + 1) 55 [some (rv (some 87)), none, some (iv x2), none, some (iv x4)] (I, J, cd) =
  if inb x2 6 then (if (I 89 x2.toNatClampNeg) ≤ x4 then
    some (iv 0, (I, J, cd))
  else
    (cI (arun N d) 147 [rv (some 87), iv x2, iv x4] (I, J, cd)).bind fun r1 => (cI (arun N d) 137 [iv r1.1, iv 0, iv 99] r1.2).bind fun r2 => if r2.1 = 0 then
      (cI (arun N d) 138 [rv (some 87), iv 3] r2.2).bind fun r3 => some (iv r3.1, r3.2)
    else
      EX10_askedBook N d n 55 [some (rv (some 87)), none, some (iv x2), none, some (iv (x4 + 1))] r2.2) else none := rfl
def EX10_isSo (N d : Nat) : Nat → Nat → LO → AH → Option RES := exec (CX10_isSo (arun N d)) [(6, [0, 1, 2, 4, 5, 6]), (33, [0, 1, 2, 4, 5, 6]), (37, [0, 1, 2, 4, 5, 6, 7]), (90, [0, 1, 2, 4, 5, 6])]
theorem enX10_isSo (N d : Nat) (q0 : Nat) (x1 : Int32) (x2 : Int32) (x3 : Int32) (x4 : Int32) (A : AH) : arun N (d + 1) 217 [rv (some q0), iv x1, iv x2, iv x3, iv x4] A = EX10_isSo N d N 0 [some (rv (some q0)), some (iv x1), some (iv x2), some (iv x3), some (iv x4), none, none, none] A := rfl
set_option maxRecDepth 10000 in
theorem sgX10_isSo_0 (N d n : Nat) (x1 : Int32) (x2 : Int32) (x3 : Int32) (x4 : Int32) (I : Nat → Nat → Int32) (J : Nat → Nat → Int64) (cd : Nat × Nat) : EX10_isSo N d (n + 1) 0 [some (rv (some 87)), some (iv x1), some (iv x2), some (iv x3), some (iv x4), none, none, none] (I, J, cd) =
  EX10_isSo N d n 6 [some (rv (some 87)), some (iv x1), some (iv x2), none, some (iv x4), some (iv x3), some (iv 0), none] (I, J, cd) := rfl
set_option maxRecDepth 10000 in
theorem sgX10_isSo_6 (N d n : Nat) (x1 : Int32) (x2 : Int32) (x4 : Int32) (x5 : Int32) (x6 : Int32) (I : Nat → Nat → Int32) (J : Nat → Nat → Int64) (cd : Nat × Nat) : EX10_isSo N d (n + 1) 6 [some (rv (some 87)), some (iv x1), some (iv x2), none, some (iv x4), some (iv x5), some (iv x6), none] (I, J, cd) =
  if inb x4 6 then (if (I 89 x4.toNatClampNeg) ≤ x6 then
    some (iv 1, (I, J, cd))
  else
    if x1 = 4 then
      if x5 ≤ x2 then
        EX10_isSo N d n 33 [some (rv (some 87)), some (iv x1), some (iv x2), none, some (iv x4), some (iv x5), some (iv x6), none] (I, J, cd)
      else
        EX10_isSo N d n 37 [some (rv (some 87)), some (iv x1), some (iv x2), none, some (iv x4), some (iv x5), some (iv x6), some (iv x2)] (I, J, cd)
    else
      EX10_isSo N d n 33 [some (rv (some 87)), some (iv x1), some (iv x2), none, some (iv x4), some (iv x5), some (iv x6), none] (I, J, cd)) else none := rfl
set_option maxRecDepth 10000 in
theorem sgX10_isSo_33 (N d n : Nat) (x1 : Int32) (x2 : Int32) (x4 : Int32) (x5 : Int32) (x6 : Int32) (I : Nat → Nat → Int32) (J : Nat → Nat → Int64) (cd : Nat × Nat) : EX10_isSo N d (n + 1) 33 [some (rv (some 87)), some (iv x1), some (iv x2), none, some (iv x4), some (iv x5), some (iv x6), none] (I, J, cd) =
  EX10_isSo N d n 37 [some (rv (some 87)), some (iv x1), some (iv x2), none, some (iv x4), some (iv x5), some (iv x6), some (iv x5)] (I, J, cd) := rfl
set_option maxRecDepth 10000 in
theorem sgX10_isSo_37 (N d n : Nat) (x1 : Int32) (x2 : Int32) (x4 : Int32) (x5 : Int32) (x6 : Int32) (x7 : Int32) (I : Nat → Nat → Int32) (J : Nat → Nat → Int64) (cd : Nat × Nat) : EX10_isSo N d (n + 1) 37 [some (rv (some 87)), some (iv x1), some (iv x2), none, some (iv x4), some (iv x5), some (iv x6), some (iv x7)] (I, J, cd) =
  (cI (arun N d) 147 [rv (some 87), iv x4, iv (x6 + 1)] (I, J, cd)).bind fun r1 => if x7 = r1.1 then
    (cI (arun N d) 147 [rv (some 87), iv x4, iv x6] r1.2).bind fun r2 => if x1 = 3 then
      if (x5 + (r2.1 - x7)) ≤ 0 then
        EX10_isSo N d n 90 [some (rv (some 87)), some (iv x1), some (iv x2), none, some (iv x4), some (iv ((x5 + (r2.1 - x7)) - 0)), some (iv x6), none] r2.2
      else
        EX10_isSo N d n 90 [some (rv (some 87)), some (iv x1), some (iv x2), none, some (iv x4), some (iv ((x5 + (r2.1 - x7)) - 1)), some (iv x6), none] r2.2
    else
      EX10_isSo N d n 90 [some (rv (some 87)), some (iv x1), some (iv x2), none, some (iv x4), some (iv ((x5 + (r2.1 - x7)) - 0)), some (iv x6), none] r2.2
  else
    some (iv 0, r1.2) := rfl
set_option maxRecDepth 10000 in
theorem sgX10_isSo_90 (N d n : Nat) (x1 : Int32) (x2 : Int32) (x4 : Int32) (x5 : Int32) (x6 : Int32) (I : Nat → Nat → Int32) (J : Nat → Nat → Int64) (cd : Nat × Nat) : EX10_isSo N d (n + 1) 90 [some (rv (some 87)), some (iv x1), some (iv x2), none, some (iv x4), some (iv x5), some (iv x6), none] (I, J, cd) =
  if x5 ≤ 99 then
    EX10_isSo N d n 6 [some (rv (some 87)), some (iv x1), some (iv x2), none, some (iv x4), some (iv x5), some (iv (x6 + 2)), none] (I, J, cd)
  else
    EX10_isSo N d n 6 [some (rv (some 87)), some (iv x1), some (iv x2), none, some (iv x4), some (iv 99), some (iv (x6 + 2)), none] (I, J, cd) := rfl
def EX10_kinds (N d : Nat) : Nat → Nat → LO → AH → Option RES := exec (CX10_kinds (arun N d)) [(19, [0, 1, 2, 4, 5])]
theorem enX10_kinds (N d : Nat) (q0 : Nat) (x1 : Int32) (x2 : Int32) (A : AH) : arun N (d + 1) 218 [rv (some q0), iv x1, iv x2] A = EX10_kinds N d N 0 [some (rv (some q0)), some (iv x1), some (iv x2), none, none, none] A := rfl
set_option maxRecDepth 10000 in
theorem sgX10_kinds_0 (N d n : Nat) (x1 : Int32) (x2 : Int32) (I : Nat → Nat → Int32) (J : Nat → Nat → Int64) (cd : Nat × Nat) : EX10_kinds N d (n + 1) 0 [some (rv (some 87)), some (iv x1), some (iv x2), none, none, none] (I, J, cd) =
  (cI (arun N d) 216 [rv (some 87), iv x1, iv x2] (I, J, cd)).bind fun r1 => if 0 ≤ r1.1 then
    EX10_kinds N d n 19 [some (rv (some 87)), some (iv x1), some (iv x2), none, some (iv 0), some (iv 0)] r1.2
  else
    some (iv r1.1, r1.2) := rfl
set_option maxRecDepth 10000 in
theorem sgX10_kinds_19 (N d n : Nat) (x1 : Int32) (x2 : Int32) (x4 : Int32) (x5 : Int32) (I : Nat → Nat → Int32) (J : Nat → Nat → Int64) (cd : Nat × Nat) : EX10_kinds N d (n + 1) 19 [some (rv (some 87)), some (iv x1), some (iv x2), none, some (iv x4), some (iv x5)] (I, J, cd) =
  if 5 < x5 then
    some (iv x4, (I, J, cd))
  else
    if inb x1 6 then (if inb x1 6 then ((cI (arun N d) 217 [rv (some 87), iv x5, iv (I 97 x1.toNatClampNeg), iv (I 98 x1.toNatClampNeg), iv x2] (I, J, cd)).bind fun r1 => if r1.1 = 0 then
      EX10_kinds N d n 19 [some (rv (some 87)), some (iv x1), some (iv x2), none, some (iv (x4 ||| 0)), some (iv (x5 + 1))] r1.2
    else
      EX10_kinds N d n 19 [some (rv (some 87)), some (iv x1), some (iv x2), none, some (iv (x4 ||| (1 <<< (x5 &&& 31)))), some (iv (x5 + 1))] r1.2) else none) else none := rfl
def EX10_measures (N d : Nat) : Nat → Nat → LO → AH → Option RES := exec (CX10_measures (arun N d)) [(19, [0, 1, 2, 4, 5])]
theorem enX10_measures (N d : Nat) (q0 : Nat) (x1 : Int32) (x2 : Int32) (A : AH) : arun N (d + 1) 219 [rv (some q0), iv x1, iv x2] A = EX10_measures N d N 0 [some (rv (some q0)), some (iv x1), some (iv x2), none, none, none] A := rfl
set_option maxRecDepth 10000 in
theorem sgX10_measures_0 (N d n : Nat) (x1 : Int32) (x2 : Int32) (I : Nat → Nat → Int32) (J : Nat → Nat → Int64) (cd : Nat × Nat) : EX10_measures N d (n + 1) 0 [some (rv (some 87)), some (iv x1), some (iv x2), none, none, none] (I, J, cd) =
  (cI (arun N d) 216 [rv (some 87), iv x1, iv x2] (I, J, cd)).bind fun r1 => if 0 ≤ r1.1 then
    EX10_measures N d n 19 [some (rv (some 87)), some (iv x1), some (iv x2), none, some (iv 0), some (iv 1)] r1.2
  else
    some (iv r1.1, r1.2) := rfl
set_option maxRecDepth 10000 in
theorem sgX10_measures_19 (N d n : Nat) (x1 : Int32) (x2 : Int32) (x4 : Int32) (x5 : Int32) (I : Nat → Nat → Int32) (J : Nat → Nat → Int64) (cd : Nat × Nat) : EX10_measures N d (n + 1) 19 [some (rv (some 87)), some (iv x1), some (iv x2), none, some (iv x4), some (iv x5)] (I, J, cd) =
  if 9 < x5 then
    some (iv x4, (I, J, cd))
  else
    if inb x1 6 then (if inb x1 6 then ((cI (arun N d) 217 [rv (some 87), iv (I 96 x1.toNatClampNeg), iv x5, iv (I 98 x1.toNatClampNeg), iv x2] (I, J, cd)).bind fun r1 => if r1.1 = 0 then
      EX10_measures N d n 19 [some (rv (some 87)), some (iv x1), some (iv x2), none, some (iv (x4 ||| 0)), some (iv (x5 + 1))] r1.2
    else
      EX10_measures N d n 19 [some (rv (some 87)), some (iv x1), some (iv x2), none, some (iv (x4 ||| (1 <<< (x5 &&& 31)))), some (iv (x5 + 1))] r1.2) else none) else none := rfl
def EX10_shutMany (N d : Nat) : Nat → Nat → LO → AH → Option RES := exec (CX10_shutMany (arun N d)) [(4, [0, 1, 2, 3])]
theorem enX10_shutMany (N d : Nat) (q0 : Nat) (x1 : Int32) (A : AH) : arun N (d + 1) 220 [rv (some q0), iv x1] A = EX10_shutMany N d N 0 [some (rv (some q0)), some (iv x1), none, none] A := rfl
set_option maxRecDepth 10000 in
theorem sgX10_shutMany_0 (N d n : Nat) (x1 : Int32) (I : Nat → Nat → Int32) (J : Nat → Nat → Int64) (cd : Nat × Nat) : EX10_shutMany N d (n + 1) 0 [some (rv (some 87)), some (iv x1), none, none] (I, J, cd) =
  EX10_shutMany N d n 4 [some (rv (some 87)), some (iv x1), some (iv 0), some (iv 0)] (I, J, cd) := rfl
set_option maxRecDepth 10000 in
theorem sgX10_shutMany_4 (N d n : Nat) (x1 : Int32) (x2 : Int32) (x3 : Int32) (I : Nat → Nat → Int32) (J : Nat → Nat → Int64) (cd : Nat × Nat) : EX10_shutMany N d (n + 1) 4 [some (rv (some 87)), some (iv x1), some (iv x2), some (iv x3)] (I, J, cd) =
  if inb x1 6 then (if (I 89 x1.toNatClampNeg) ≤ x3 then
    some (iv x2, (I, J, cd))
  else
    (cI (arun N d) 147 [rv (some 87), iv x1, iv x3] (I, J, cd)).bind fun r1 => (cI (arun N d) 204 [iv r1.1] r1.2).bind fun r2 => EX10_shutMany N d n 4 [some (rv (some 87)), some (iv x1), some (iv (x2 + r2.1)), some (iv (x3 + 1))] r2.2) else none := rfl
def EX10_holds (N d : Nat) : Nat → Nat → LO → AH → Option RES := exec (CX10_holds (arun N d)) [(8, [0, 1, 3, 4, 5])]
theorem enX10_holds (N d : Nat) (x0 : Int32) (x1 : Int32) (x2 : Int32) (A : AH) : arun N (d + 1) 221 [iv x0, iv x1, iv x2] A = EX10_holds N d N 0 [some (iv x0), some (iv x1), some (iv x2), none, none, none] A := rfl
set_option maxRecDepth 10000 in
theorem sgX10_holds_0 (N d n : Nat) (x0 : Int32) (x1 : Int32) (x2 : Int32) (I : Nat → Nat → Int32) (J : Nat → Nat → Int64) (cd : Nat × Nat) : EX10_holds N d (n + 1) 0 [some (iv x0), some (iv x1), some (iv x2), none, none, none] (I, J, cd) =
  EX10_holds N d n 8 [some (iv x0), some (iv x1), none, some (iv 0), some (iv x2), some (iv 0)] (I, J, cd) := rfl
set_option maxRecDepth 10000 in
theorem sgX10_holds_8 (N d n : Nat) (x0 : Int32) (x1 : Int32) (x3 : Int32) (x4 : Int32) (x5 : Int32) (I : Nat → Nat → Int32) (J : Nat → Nat → Int64) (cd : Nat × Nat) : EX10_holds N d (n + 1) 8 [some (iv x0), some (iv x1), none, some (iv x3), some (iv x4), some (iv x5)] (I, J, cd) =
  if 6 ≤ x5 then
    some (iv x3, (I, J, cd))
  else
    (cI (arun N d) 140 [iv x0, iv x5] (I, J, cd)).bind fun r1 => if r1.1 = 0 then
      EX10_holds N d n 8 [some (iv x0), some (iv x1), none, some (iv x3), some (iv x4), some (iv (x5 + 1))] r1.2
    else
      (cI (arun N d) 140 [iv x1, iv x4] r1.2).bind fun r2 => if r2.1 = 0 then
        EX10_holds N d n 8 [some (iv x0), some (iv x1), none, some (iv (x3 ||| (1 <<< (x5 &&& 31)))), some (iv (x4 + 1)), some (iv (x5 + 1))] r2.2
      else
        EX10_holds N d n 8 [some (iv x0), some (iv x1), none, some (iv (x3 ||| 0)), some (iv (x4 + 1)), some (iv (x5 + 1))] r2.2 := rfl
def EX10_power (N d : Nat) : Nat → Nat → LO → AH → Option RES := exec (CX10_power (arun N d)) [(5, [0, 2, 3, 5])]
theorem enX10_power (N d : Nat) (y0 : Int64) (x2 : Int32) (A : AH) : arun N (d + 1) 222 [jv y0, iv x2] A = EX10_power N d N 0 [some (jv y0), none, some (iv x2), none, none, none] A := rfl
set_option maxRecDepth 10000 in
theorem sgX10_power_0 (N d n : Nat) (y0 : Int64) (x2 : Int32) (I : Nat → Nat → Int32) (J : Nat → Nat → Int64) (cd : Nat × Nat) : EX10_power N d (n + 1) 0 [some (jv y0), none, some (iv x2), none, none, none] (I, J, cd) =
  EX10_power N d n 5 [some (jv y0), none, some (iv x2), some (jv 1), none, some (iv 0)] (I, J, cd) := rfl
set_option maxRecDepth 10000 in
theorem sgX10_power_5 (N d n : Nat) (y0 : Int64) (x2 : Int32) (y3 : Int64) (x5 : Int32) (I : Nat → Nat → Int32) (J : Nat → Nat → Int64) (cd : Nat × Nat) : EX10_power N d (n + 1) 5 [some (jv y0), none, some (iv x2), some (jv y3), none, some (iv x5)] (I, J, cd) =
  if x2 ≤ x5 then
    some (jv y3, (I, J, cd))
  else
    EX10_power N d n 5 [some (jv y0), none, some (iv x2), some (jv (y3 * y0)), none, some (iv (x5 + 1))] (I, J, cd) := rfl
def EX10_sums (N d : Nat) : Nat → Nat → LO → AH → Option RES := exec (CX10_sums (arun N d)) [(23, [0, 1, 2, 3, 4, 5, 6, 8]), (44, [0, 1, 2, 3, 4, 5, 6, 8, 9, 10, 11, 13]), (103, [0, 1, 2, 3, 4, 5, 6, 8, 10, 11, 13]), (155, [0, 1, 2, 3, 4, 5, 6, 8, 10, 13])]
theorem enX10_sums (N d : Nat) (q0 : Nat) (x1 : Int32) (x2 : Int32) (x3 : Int32) (A : AH) : arun N (d + 1) 223 [rv (some q0), iv x1, iv x2, iv x3] A = EX10_sums N d N 0 [some (rv (some q0)), some (iv x1), some (iv x2), some (iv x3), none, none, none, none, none, none, none, none, none, none, none] A := rfl
set_option maxRecDepth 10000 in
theorem sgX10_sums_0 (N d n : Nat) (x1 : Int32) (x2 : Int32) (x3 : Int32) (I : Nat → Nat → Int32) (J : Nat → Nat → Int64) (cd : Nat × Nat) : EX10_sums N d (n + 1) 0 [some (rv (some 87)), some (iv x1), some (iv x2), some (iv x3), none, none, none, none, none, none, none, none, none, none, none] (I, J, cd) =
  (cI (arun N d) 220 [rv (some 87), iv x1] (I, J, cd)).bind fun r1 => (cI (arun N d) 180 [rv (some 87)] r1.2).bind fun r2 => (cV (arun N d) 175 [rv (some 87)] r2.2).bind fun r3 => EX10_sums N d n 23 [some (rv (some 87)), some (iv x1), some (iv x2), some (iv x3), some (iv r1.1), some (iv r2.1), some (jv 0), none, some (iv 0), none, none, none, none, none, none] r3 := rfl
set_option maxRecDepth 10000 in
theorem sgX10_sums_23 (N d n : Nat) (x1 : Int32) (x2 : Int32) (x3 : Int32) (x4 : Int32) (x5 : Int32) (y6 : Int64) (x8 : Int32) (I : Nat → Nat → Int32) (J : Nat → Nat → Int64) (cd : Nat × Nat) : EX10_sums N d (n + 1) 23 [some (rv (some 87)), some (iv x1), some (iv x2), some (iv x3), some (iv x4), some (iv x5), some (jv y6), none, some (iv x8), none, none, none, none, none, none] (I, J, cd) =
  if (1 <<< (x4 &&& 31)) ≤ x8 then
    (cJ (arun N d) 222 [jv 12, iv x4] (I, J, cd)).bind fun r1 => (cI (arun N d) 142 [rv (some 87), jv y6, jv r1.1] r1.2).bind fun r2 => some (iv r2.1, r2.2)
  else
    EX10_sums N d n 44 [some (rv (some 87)), some (iv x1), some (iv x2), some (iv x3), some (iv x4), some (iv x5), some (jv y6), none, some (iv x8), some (iv 0), some (iv 0), some (jv 0), none, some (iv 0), none] (I, J, cd) := rfl
set_option maxRecDepth 10000 in
theorem sgX10_sums_44 (N d n : Nat) (x1 : Int32) (x2 : Int32) (x3 : Int32) (x4 : Int32) (x5 : Int32) (y6 : Int64) (x8 : Int32) (x9 : Int32) (x10 : Int32) (y11 : Int64) (x13 : Int32) (I : Nat → Nat → Int32) (J : Nat → Nat → Int64) (cd : Nat × Nat) : EX10_sums N d (n + 1) 44 [some (rv (some 87)), some (iv x1), some (iv x2), some (iv x3), some (iv x4), some (iv x5), some (jv y6), none, some (iv x8), some (iv x9), some (iv x10), some (jv y11), none, some (iv x13), none] (I, J, cd) =
  if inb x1 6 then (if (I 89 x1.toNatClampNeg) ≤ x13 then
    EX10_sums N d n 103 [some (rv (some 87)), some (iv x1), some (iv x2), some (iv x3), some (iv x4), some (iv x5), some (jv y6), none, some (iv x8), none, some (iv x10), some (jv y11), none, some (iv 0), none] (I, J, cd)
  else
    (cI (arun N d) 147 [rv (some 87), iv x1, iv x13] (I, J, cd)).bind fun r1 => (cI (arun N d) 221 [iv r1.1, iv x8, iv x9] r1.2).bind fun r2 => (cI (arun N d) 179 [rv (some 87), iv r2.1] r2.2).bind fun r3 => (cI (arun N d) 147 [rv (some 87), iv x1, iv x13] r3.2).bind fun r4 => (cI (arun N d) 204 [iv r4.1] r4.2).bind fun r5 => EX10_sums N d n 44 [some (rv (some 87)), some (iv x1), some (iv x2), some (iv x3), some (iv x4), some (iv x5), some (jv y6), none, some (iv x8), some (iv (x9 + r5.1)), some (iv x10), some (jv (y11 + (Int32.toInt64 r3.1))), none, some (iv (x13 + 1)), none] r5.2) else none := rfl
set_option maxRecDepth 10000 in
theorem sgX10_sums_103 (N d n : Nat) (x1 : Int32) (x2 : Int32) (x3 : Int32) (x4 : Int32) (x5 : Int32) (y6 : Int64) (x8 : Int32) (x10 : Int32) (y11 : Int64) (x13 : Int32) (I : Nat → Nat → Int32) (J : Nat → Nat → Int64) (cd : Nat × Nat) : EX10_sums N d (n + 1) 103 [some (rv (some 87)), some (iv x1), some (iv x2), some (iv x3), some (iv x4), some (iv x5), some (jv y6), none, some (iv x8), none, some (iv x10), some (jv y11), none, some (iv x13), none] (I, J, cd) =
  if x4 ≤ x13 then
    if 0 ≤ x2 then
      (cI (arun N d) 180 [rv (some 87)] (I, J, cd)).bind fun r1 => if (r1.1 - x5) < x2 then
        EX10_sums N d n 155 [some (rv (some 87)), some (iv x1), some (iv x2), some (iv x3), some (iv x4), some (iv x5), some (jv y6), none, some (iv x8), none, some (iv x10), none, none, some (jv 0), none] r1.2
      else
        EX10_sums N d n 155 [some (rv (some 87)), some (iv x1), some (iv x2), some (iv x3), some (iv x4), some (iv x5), some (jv y6), none, some (iv x8), none, some (iv x10), none, none, some (jv 1), none] r1.2
    else
      EX10_sums N d n 155 [some (rv (some 87)), some (iv x1), some (iv x2), some (iv x3), some (iv x4), some (iv x5), some (jv y6), none, some (iv x8), none, some (iv x10), none, none, some (jv y11), none] (I, J, cd)
  else
    EX10_sums N d n 103 [some (rv (some 87)), some (iv x1), some (iv x2), some (iv x3), some (iv x4), some (iv x5), some (jv y6), none, some (iv x8), none, some (iv (x10 + ((x8 >>> (x13 &&& 31)) &&& 1))), some (jv y11), none, some (iv (x13 + 1)), none] (I, J, cd) := rfl
set_option maxRecDepth 10000 in
theorem sgX10_sums_155 (N d n : Nat) (x1 : Int32) (x2 : Int32) (x3 : Int32) (x4 : Int32) (x5 : Int32) (y6 : Int64) (x8 : Int32) (x10 : Int32) (y13 : Int64) (I : Nat → Nat → Int32) (J : Nat → Nat → Int64) (cd : Nat × Nat) : EX10_sums N d (n + 1) 155 [some (rv (some 87)), some (iv x1), some (iv x2), some (iv x3), some (iv x4), some (iv x5), some (jv y6), none, some (iv x8), none, some (iv x10), none, none, some (jv y13), none] (I, J, cd) =
  (cJ (arun N d) 222 [jv (Int32.toInt64 x3), iv x10] (I, J, cd)).bind fun r1 => (cJ (arun N d) 222 [jv (Int32.toInt64 (12 - x3)), iv (x4 - x10)] r1.2).bind fun r2 => (cV (arun N d) 176 [rv (some 87)] r2.2).bind fun r3 => EX10_sums N d n 23 [some (rv (some 87)), some (iv x1), some (iv x2), some (iv x3), some (iv x4), some (iv x5), some (jv (y6 + ((y13 * r1.1) * r2.1))), none, some (iv (x8 + 1)), none, none, none, none, none, none] r3 := rfl
def EX10_mid (N d : Nat) : Nat → Nat → LO → AH → Option RES := exec (CX10_mid (arun N d)) [(21, [0, 1, 2, 3])]
theorem enX10_mid (N d : Nat) (q0 : Nat) (x1 : Int32) (x2 : Int32) (A : AH) : arun N (d + 1) 224 [rv (some q0), iv x1, iv x2] A = EX10_mid N d N 0 [some (rv (some q0)), some (iv x1), some (iv x2), none] A := rfl
set_option maxRecDepth 10000 in
theorem sgX10_mid_0 (N d n : Nat) (x1 : Int32) (x2 : Int32) (I : Nat → Nat → Int32) (J : Nat → Nat → Int64) (cd : Nat × Nat) : EX10_mid N d (n + 1) 0 [some (rv (some 87)), some (iv x1), some (iv x2), none] (I, J, cd) =
  (cI (arun N d) 137 [iv x2, iv 0, iv 12] (I, J, cd)).bind fun r1 => if r1.1 = 0 then
    EX10_mid N d n 21 [some (rv (some 87)), some (iv x1), some (iv x2), some (iv ((-1)))] r1.2
  else
    (cI (arun N d) 195 [rv (some 87), iv x1, iv 4] r1.2).bind fun r2 => EX10_mid N d n 21 [some (rv (some 87)), some (iv x1), some (iv x2), some (iv r2.1)] r2.2 := rfl
set_option maxRecDepth 10000 in
theorem sgX10_mid_21 (N d n : Nat) (x1 : Int32) (x2 : Int32) (x3 : Int32) (I : Nat → Nat → Int32) (J : Nat → Nat → Int64) (cd : Nat × Nat) : EX10_mid N d (n + 1) 21 [some (rv (some 87)), some (iv x1), some (iv x2), some (iv x3)] (I, J, cd) =
  if 0 ≤ x3 then
    (cI (arun N d) 223 [rv (some 87), iv x1, iv ((-1)), iv x2] (I, J, cd)).bind fun r1 => some (iv r1.1, r1.2)
  else
    some (iv x3, (I, J, cd)) := rfl
def EX10_odds (N d : Nat) : Nat → Nat → LO → AH → Option RES := exec (CX10_odds (arun N d)) [(20, [0, 1, 2, 3]), (32, [0, 1, 2, 3, 4])]
theorem enX10_odds (N d : Nat) (q0 : Nat) (x1 : Int32) (x2 : Int32) (x3 : Int32) (A : AH) : arun N (d + 1) 225 [rv (some q0), iv x1, iv x2, iv x3] A = EX10_odds N d N 0 [some (rv (some q0)), some (iv x1), some (iv x2), some (iv x3), none] A := rfl
set_option maxRecDepth 10000 in
theorem sgX10_odds_0 (N d n : Nat) (x1 : Int32) (x2 : Int32) (x3 : Int32) (I : Nat → Nat → Int32) (J : Nat → Nat → Int64) (cd : Nat × Nat) : EX10_odds N d (n + 1) 0 [some (rv (some 87)), some (iv x1), some (iv x2), some (iv x3), none] (I, J, cd) =
  (cI (arun N d) 137 [iv x3, iv 0, iv 12] (I, J, cd)).bind fun r1 => if r1.1 = 0 then
    EX10_odds N d n 20 [some (rv (some 87)), some (iv x1), some (iv x2), some (iv x3), none] r1.2
  else
    (cI (arun N d) 137 [iv x2, iv 0, iv 99] r1.2).bind fun r2 => if r2.1 = 0 then
      EX10_odds N d n 20 [some (rv (some 87)), some (iv x1), some (iv x2), some (iv x3), none] r2.2
    else
      (cI (arun N d) 195 [rv (some 87), iv x1, iv 4] r2.2).bind fun r3 => EX10_odds N d n 32 [some (rv (some 87)), some (iv x1), some (iv x2), some (iv x3), some (iv r3.1)] r3.2 := rfl
set_option maxRecDepth 10000 in
theorem sgX10_odds_20 (N d n : Nat) (x1 : Int32) (x2 : Int32) (x3 : Int32) (I : Nat → Nat → Int32) (J : Nat → Nat → Int64) (cd : Nat × Nat) : EX10_odds N d (n + 1) 20 [some (rv (some 87)), some (iv x1), some (iv x2), some (iv x3), none] (I, J, cd) =
  EX10_odds N d n 32 [some (rv (some 87)), some (iv x1), some (iv x2), some (iv x3), some (iv ((-1)))] (I, J, cd) := rfl
set_option maxRecDepth 10000 in
theorem sgX10_odds_32 (N d n : Nat) (x1 : Int32) (x2 : Int32) (x3 : Int32) (x4 : Int32) (I : Nat → Nat → Int32) (J : Nat → Nat → Int64) (cd : Nat × Nat) : EX10_odds N d (n + 1) 32 [some (rv (some 87)), some (iv x1), some (iv x2), some (iv x3), some (iv x4)] (I, J, cd) =
  if 0 ≤ x4 then
    (cI (arun N d) 223 [rv (some 87), iv x1, iv x2, iv x3] (I, J, cd)).bind fun r1 => some (iv r1.1, r1.2)
  else
    some (iv x4, (I, J, cd)) := rfl
def EX10_lots (N d : Nat) : Nat → Nat → LO → AH → Option RES := exec (CX10_lots (arun N d)) [(56, [0, 1, 3, 5, 6]), (85, [0, 1, 3, 5, 6, 7, 8, 10]), (131, [0, 1, 3, 5, 6, 7, 8, 10])]
theorem enX10_lots (N d : Nat) (q0 : Nat) (x1 : Int32) (x2 : Int32) (A : AH) : arun N (d + 1) 226 [rv (some q0), iv x1, iv x2] A = EX10_lots N d N 0 [some (rv (some q0)), some (iv x1), some (iv x2), none, none, none, none, none, none, none, none] A := rfl
set_option maxRecDepth 10000 in
theorem sgX10_lots_0 (N d n : Nat) (x1 : Int32) (x2 : Int32) (I : Nat → Nat → Int32) (J : Nat → Nat → Int64) (cd : Nat × Nat) : EX10_lots N d (n + 1) 0 [some (rv (some 87)), some (iv x1), some (iv x2), none, none, none, none, none, none, none, none] (I, J, cd) =
  (cI (arun N d) 137 [iv x1, iv 1, iv 20] (I, J, cd)).bind fun r1 => if r1.1 = 0 then
    some (iv ((-1)), r1.2)
  else
    (cI (arun N d) 137 [iv x2, iv 1, iv 2147483646] r1.2).bind fun r2 => if r2.1 = 0 then
      some (iv ((-1)), r2.2)
    else
      if (r2.2.1 87 10) = 0 then
        some (iv ((-4)), r2.2)
      else
        if ((r2.2.1 87 25) + x1) ≤ 40 then
          EX10_lots N d n 56 [some (rv (some 87)), some (iv x1), none, some (jv (Int32.toInt64 x2)), none, some (iv 0), some (iv 0), none, none, none, none] r2.2
        else
          some (iv ((-2)), r2.2) := rfl
set_option maxRecDepth 10000 in
theorem sgX10_lots_56 (N d n : Nat) (x1 : Int32) (y3 : Int64) (x5 : Int32) (x6 : Int32) (I : Nat → Nat → Int32) (J : Nat → Nat → Int64) (cd : Nat × Nat) : EX10_lots N d (n + 1) 56 [some (rv (some 87)), some (iv x1), none, some (jv y3), none, some (iv x5), some (iv x6), none, none, none, none] (I, J, cd) =
  if x1 ≤ x6 then
    some (iv x5, (I, J, cd))
  else
    EX10_lots N d n 85 [some (rv (some 87)), some (iv x1), none, some (jv ((48271 * y3) - (48271 * y3) / 2147483647 * 2147483647)), none, some (iv x5), some (iv x6), some (iv 0), some (jv (((48271 * y3) - (48271 * y3) / 2147483647 * 2147483647) / 8)), none, some (iv 0)] (I, J, cd) := rfl
set_option maxRecDepth 10000 in
theorem sgX10_lots_85 (N d n : Nat) (x1 : Int32) (y3 : Int64) (x5 : Int32) (x6 : Int32) (x7 : Int32) (y8 : Int64) (x10 : Int32) (I : Nat → Nat → Int32) (J : Nat → Nat → Int64) (cd : Nat × Nat) : EX10_lots N d (n + 1) 85 [some (rv (some 87)), some (iv x1), none, some (jv y3), none, some (iv x5), some (iv x6), some (iv x7), some (jv y8), none, some (iv x10)] (I, J, cd) =
  if (I 87 10) ≤ x10 then
    (cI (arun N d) 181 [rv (some 87), iv x7] (I, J, cd)).bind fun r1 => EX10_lots N d n 56 [some (rv (some 87)), some (iv x1), none, some (jv y3), none, some (iv (x5 + r1.1)), some (iv (x6 + 1)), none, none, none, none] r1.2
  else
    if inb x10 6 then ((cI (arun N d) 162 [iv (I 96 x10.toNatClampNeg)] (I, J, cd)).bind fun r2 => if r2.1 = 0 then
      EX10_lots N d n 85 [some (rv (some 87)), some (iv x1), none, some (jv y3), none, some (iv x5), some (iv x6), some (iv x7), some (jv y8), none, some (iv (x10 + 1))] r2.2
    else
      if (lg_cmp (y8 - y8 / 2 * 2) 1) = 0 then
        EX10_lots N d n 131 [some (rv (some 87)), some (iv x1), none, some (jv y3), none, some (iv x5), some (iv x6), some (iv (x7 ||| (1 <<< (x10 &&& 31)))), some (jv y8), none, some (iv x10)] r2.2
      else
        EX10_lots N d n 131 [some (rv (some 87)), some (iv x1), none, some (jv y3), none, some (iv x5), some (iv x6), some (iv (x7 ||| 0)), some (jv y8), none, some (iv x10)] r2.2) else none := rfl
set_option maxRecDepth 10000 in
theorem sgX10_lots_131 (N d n : Nat) (x1 : Int32) (y3 : Int64) (x5 : Int32) (x6 : Int32) (x7 : Int32) (y8 : Int64) (x10 : Int32) (I : Nat → Nat → Int32) (J : Nat → Nat → Int64) (cd : Nat × Nat) : EX10_lots N d (n + 1) 131 [some (rv (some 87)), some (iv x1), none, some (jv y3), none, some (iv x5), some (iv x6), some (iv x7), some (jv y8), none, some (iv x10)] (I, J, cd) =
  EX10_lots N d n 85 [some (rv (some 87)), some (iv x1), none, some (jv y3), none, some (iv x5), some (iv x6), some (iv x7), some (jv (y8 / 2)), none, some (iv (x10 + 1))] (I, J, cd) := rfl
def EX10_asked (N d : Nat) : Nat → Nat → LO → AH → Option RES := exec (CX10_asked (arun N d)) []
theorem enX10_asked (N d : Nat) (q0 : Nat) (A : AH) : arun N (d + 1) 227 [rv (some q0)] A = EX10_asked N d N 0 [some (rv (some q0))] A := rfl
set_option maxRecDepth 10000 in
theorem sgX10_asked_0 (N d n : Nat)  (I : Nat → Nat → Int32) (J : Nat → Nat → Int64) (cd : Nat × Nat) : EX10_asked N d (n + 1) 0 [some (rv (some 87))] (I, J, cd) =
  some (iv (I 87 2), (I, J, cd)) := rfl
def EX10_upper (N d : Nat) : Nat → Nat → LO → AH → Option RES := exec (CX10_upper (arun N d)) []
theorem enX10_upper (N d : Nat) (q0 : Nat) (A : AH) : arun N (d + 1) 228 [rv (some q0)] A = EX10_upper N d N 0 [some (rv (some q0))] A := rfl
set_option maxRecDepth 10000 in
theorem sgX10_upper_0 (N d n : Nat)  (I : Nat → Nat → Int32) (J : Nat → Nat → Int64) (cd : Nat × Nat) : EX10_upper N d (n + 1) 0 [some (rv (some 87))] (I, J, cd) =
  some (jv (J 87 3), (I, J, cd)) := rfl
def EX10_lower (N d : Nat) : Nat → Nat → LO → AH → Option RES := exec (CX10_lower (arun N d)) []
theorem enX10_lower (N d : Nat) (q0 : Nat) (A : AH) : arun N (d + 1) 229 [rv (some q0)] A = EX10_lower N d N 0 [some (rv (some q0))] A := rfl
set_option maxRecDepth 10000 in
theorem sgX10_lower_0 (N d n : Nat)  (I : Nat → Nat → Int32) (J : Nat → Nat → Int64) (cd : Nat × Nat) : EX10_lower N d (n + 1) 0 [some (rv (some 87))] (I, J, cd) =
  some (jv (J 87 4), (I, J, cd)) := rfl
def EX10_there (N d : Nat) : Nat → Nat → LO → AH → Option RES := exec (CX10_there (arun N d)) [(4, [0, 1, 2, 3])]
theorem enX10_there (N d : Nat) (q0 : Nat) (x1 : Int32) (A : AH) : arun N (d + 1) 230 [rv (some q0), iv x1] A = EX10_there N d N 0 [some (rv (some q0)), some (iv x1), none, none] A := rfl
set_option maxRecDepth 10000 in
theorem sgX10_there_0 (N d n : Nat) (x1 : Int32) (I : Nat → Nat → Int32) (J : Nat → Nat → Int64) (cd : Nat × Nat) : EX10_there N d (n + 1) 0 [some (rv (some 87)), some (iv x1), none, none] (I, J, cd) =
  EX10_there N d n 4 [some (rv (some 87)), some (iv x1), some (iv 0), some (iv 0)] (I, J, cd) := rfl
set_option maxRecDepth 10000 in
theorem sgX10_there_4 (N d n : Nat) (x1 : Int32) (x2 : Int32) (x3 : Int32) (I : Nat → Nat → Int32) (J : Nat → Nat → Int64) (cd : Nat × Nat) : EX10_there N d (n + 1) 4 [some (rv (some 87)), some (iv x1), some (iv x2), some (iv x3)] (I, J, cd) =
  if 6 ≤ x3 then
    some (iv x2, (I, J, cd))
  else
    if x1 = 8 then
      if inb x3 6 then (if 0 ≤ (I 89 x3.toNatClampNeg) then
        EX10_there N d n 4 [some (rv (some 87)), some (iv x1), some (iv (x2 + 1)), some (iv (x3 + 1))] (I, J, cd)
      else
        if x1 = 9 then
          if 4 ≤ x3 then
            if x1 = 10 then
              if 3 ≤ x3 then
                EX10_there N d n 4 [some (rv (some 87)), some (iv x1), some (iv (x2 + 0)), some (iv (x3 + 1))] (I, J, cd)
              else
                if inb x3 3 then (if (I 105 x3.toNatClampNeg) = 1 then
                  EX10_there N d n 4 [some (rv (some 87)), some (iv x1), some (iv (x2 + 1)), some (iv (x3 + 1))] (I, J, cd)
                else
                  EX10_there N d n 4 [some (rv (some 87)), some (iv x1), some (iv (x2 + 0)), some (iv (x3 + 1))] (I, J, cd)) else none
            else
              EX10_there N d n 4 [some (rv (some 87)), some (iv x1), some (iv (x2 + 0)), some (iv (x3 + 1))] (I, J, cd)
          else
            if inb x3 4 then (if 0 ≤ (I 92 x3.toNatClampNeg) then
              EX10_there N d n 4 [some (rv (some 87)), some (iv x1), some (iv (x2 + 1)), some (iv (x3 + 1))] (I, J, cd)
            else
              if x1 = 10 then
                if 3 ≤ x3 then
                  EX10_there N d n 4 [some (rv (some 87)), some (iv x1), some (iv (x2 + 0)), some (iv (x3 + 1))] (I, J, cd)
                else
                  if inb x3 3 then (if (I 105 x3.toNatClampNeg) = 1 then
                    EX10_there N d n 4 [some (rv (some 87)), some (iv x1), some (iv (x2 + 1)), some (iv (x3 + 1))] (I, J, cd)
                  else
                    EX10_there N d n 4 [some (rv (some 87)), some (iv x1), some (iv (x2 + 0)), some (iv (x3 + 1))] (I, J, cd)) else none
              else
                EX10_there N d n 4 [some (rv (some 87)), some (iv x1), some (iv (x2 + 0)), some (iv (x3 + 1))] (I, J, cd)) else none
        else
          if x1 = 10 then
            if 3 ≤ x3 then
              EX10_there N d n 4 [some (rv (some 87)), some (iv x1), some (iv (x2 + 0)), some (iv (x3 + 1))] (I, J, cd)
            else
              if inb x3 3 then (if (I 105 x3.toNatClampNeg) = 1 then
                EX10_there N d n 4 [some (rv (some 87)), some (iv x1), some (iv (x2 + 1)), some (iv (x3 + 1))] (I, J, cd)
              else
                EX10_there N d n 4 [some (rv (some 87)), some (iv x1), some (iv (x2 + 0)), some (iv (x3 + 1))] (I, J, cd)) else none
          else
            EX10_there N d n 4 [some (rv (some 87)), some (iv x1), some (iv (x2 + 0)), some (iv (x3 + 1))] (I, J, cd)) else none
    else
      if x1 = 9 then
        if 4 ≤ x3 then
          if x1 = 10 then
            if 3 ≤ x3 then
              EX10_there N d n 4 [some (rv (some 87)), some (iv x1), some (iv (x2 + 0)), some (iv (x3 + 1))] (I, J, cd)
            else
              if inb x3 3 then (if (I 105 x3.toNatClampNeg) = 1 then
                EX10_there N d n 4 [some (rv (some 87)), some (iv x1), some (iv (x2 + 1)), some (iv (x3 + 1))] (I, J, cd)
              else
                EX10_there N d n 4 [some (rv (some 87)), some (iv x1), some (iv (x2 + 0)), some (iv (x3 + 1))] (I, J, cd)) else none
          else
            EX10_there N d n 4 [some (rv (some 87)), some (iv x1), some (iv (x2 + 0)), some (iv (x3 + 1))] (I, J, cd)
        else
          if inb x3 4 then (if 0 ≤ (I 92 x3.toNatClampNeg) then
            EX10_there N d n 4 [some (rv (some 87)), some (iv x1), some (iv (x2 + 1)), some (iv (x3 + 1))] (I, J, cd)
          else
            if x1 = 10 then
              if 3 ≤ x3 then
                EX10_there N d n 4 [some (rv (some 87)), some (iv x1), some (iv (x2 + 0)), some (iv (x3 + 1))] (I, J, cd)
              else
                if inb x3 3 then (if (I 105 x3.toNatClampNeg) = 1 then
                  EX10_there N d n 4 [some (rv (some 87)), some (iv x1), some (iv (x2 + 1)), some (iv (x3 + 1))] (I, J, cd)
                else
                  EX10_there N d n 4 [some (rv (some 87)), some (iv x1), some (iv (x2 + 0)), some (iv (x3 + 1))] (I, J, cd)) else none
            else
              EX10_there N d n 4 [some (rv (some 87)), some (iv x1), some (iv (x2 + 0)), some (iv (x3 + 1))] (I, J, cd)) else none
      else
        if x1 = 10 then
          if 3 ≤ x3 then
            EX10_there N d n 4 [some (rv (some 87)), some (iv x1), some (iv (x2 + 0)), some (iv (x3 + 1))] (I, J, cd)
          else
            if inb x3 3 then (if (I 105 x3.toNatClampNeg) = 1 then
              EX10_there N d n 4 [some (rv (some 87)), some (iv x1), some (iv (x2 + 1)), some (iv (x3 + 1))] (I, J, cd)
            else
              EX10_there N d n 4 [some (rv (some 87)), some (iv x1), some (iv (x2 + 0)), some (iv (x3 + 1))] (I, J, cd)) else none
        else
          EX10_there N d n 4 [some (rv (some 87)), some (iv x1), some (iv (x2 + 0)), some (iv (x3 + 1))] (I, J, cd) := rfl
def EX10_tells (N d : Nat) : Nat → Nat → LO → AH → Option RES := exec (CX10_tells (arun N d)) [(4, [0, 1, 2, 3])]
theorem enX10_tells (N d : Nat) (q0 : Nat) (x1 : Int32) (A : AH) : arun N (d + 1) 231 [rv (some q0), iv x1] A = EX10_tells N d N 0 [some (rv (some q0)), some (iv x1), none, none] A := rfl
set_option maxRecDepth 10000 in
theorem sgX10_tells_0 (N d n : Nat) (x1 : Int32) (I : Nat → Nat → Int32) (J : Nat → Nat → Int64) (cd : Nat × Nat) : EX10_tells N d (n + 1) 0 [some (rv (some 87)), some (iv x1), none, none] (I, J, cd) =
  EX10_tells N d n 4 [some (rv (some 87)), some (iv x1), some (iv 0), some (iv 0)] (I, J, cd) := rfl
set_option maxRecDepth 10000 in
theorem sgX10_tells_4 (N d n : Nat) (x1 : Int32) (x2 : Int32) (x3 : Int32) (I : Nat → Nat → Int32) (J : Nat → Nat → Int64) (cd : Nat × Nat) : EX10_tells N d (n + 1) 4 [some (rv (some 87)), some (iv x1), some (iv x2), some (iv x3)] (I, J, cd) =
  if (I 87 10) ≤ x3 then
    if x1 = 0 then
      some (iv (I 87 10), (I, J, cd))
    else
      if x1 = 1 then
        some (iv (I 87 25), (I, J, cd))
      else
        if x1 = 2 then
          some (iv (I 87 25), (I, J, cd))
        else
          if x1 = 3 then
            some (iv x2, (I, J, cd))
          else
            if x1 = 4 then
              some (iv (I 87 18), (I, J, cd))
            else
              if x1 = 5 then
                (cI (arun N d) 180 [rv (some 87)] (I, J, cd)).bind fun r1 => some (iv r1.1, r1.2)
              else
                if x1 = 6 then
                  (cI (arun N d) 171 [rv (some 87)] (I, J, cd)).bind fun r2 => (cI (arun N d) 204 [iv r2.1] r2.2).bind fun r3 => some (iv r3.1, r3.2)
                else
                  if x1 = 7 then
                    (cI (arun N d) 206 [rv (some 87)] (I, J, cd)).bind fun r4 => (cI (arun N d) 204 [iv r4.1] r4.2).bind fun r5 => some (iv r5.1, r5.2)
                  else
                    (cI (arun N d) 230 [rv (some 87), iv x1] (I, J, cd)).bind fun r6 => some (iv r6.1, r6.2)
  else
    if inb x3 6 then (EX10_tells N d n 4 [some (rv (some 87)), some (iv x1), some (iv (x2 + (I 98 x3.toNatClampNeg))), some (iv (x3 + 1))] (I, J, cd)) else none := rfl
def EX10_count (N d : Nat) : Nat → Nat → LO → AH → Option RES := exec (CX10_count (arun N d)) []
theorem enX10_count (N d : Nat) (q0 : Nat) (x1 : Int32) (A : AH) : arun N (d + 1) 232 [rv (some q0), iv x1] A = EX10_count N d N 0 [some (rv (some q0)), some (iv x1)] A := rfl
set_option maxRecDepth 10000 in
theorem sgX10_count_0 (N d n : Nat) (x1 : Int32) (I : Nat → Nat → Int32) (J : Nat → Nat → Int64) (cd : Nat × Nat) : EX10_count N d (n + 1) 0 [some (rv (some 87)), some (iv x1)] (I, J, cd) =
  (cI (arun N d) 137 [iv x1, iv 0, iv 10] (I, J, cd)).bind fun r1 => if r1.1 = 0 then
    some (iv ((-1)), r1.2)
  else
    (cI (arun N d) 231 [rv (some 87), iv x1] r1.2).bind fun r2 => some (iv r2.1, r2.2) := rfl
def EX10_finding (N d : Nat) : Nat → Nat → LO → AH → Option RES := exec (CX10_finding (arun N d)) []
theorem enX10_finding (N d : Nat) (q0 : Nat) (A : AH) : arun N (d + 1) 233 [rv (some q0)] A = EX10_finding N d N 0 [some (rv (some q0))] A := rfl
set_option maxRecDepth 10000 in
theorem sgX10_finding_0 (N d n : Nat)  (I : Nat → Nat → Int32) (J : Nat → Nat → Int64) (cd : Nat × Nat) : EX10_finding N d (n + 1) 0 [some (rv (some 87))] (I, J, cd) =
  some (iv (I 87 0), (I, J, cd)) := rfl
def EX10_findings (N d : Nat) : Nat → Nat → LO → AH → Option RES := exec (CX10_findings (arun N d)) []
theorem enX10_findings (N d : Nat) (q0 : Nat) (x1 : Int32) (A : AH) : arun N (d + 1) 234 [rv (some q0), iv x1] A = EX10_findings N d N 0 [some (rv (some q0)), some (iv x1)] A := rfl
set_option maxRecDepth 10000 in
theorem sgX10_findings_0 (N d n : Nat) (x1 : Int32) (I : Nat → Nat → Int32) (J : Nat → Nat → Int64) (cd : Nat × Nat) : EX10_findings N d (n + 1) 0 [some (rv (some 87)), some (iv x1)] (I, J, cd) =
  (cI (arun N d) 137 [iv x1, iv 1, iv 5] (I, J, cd)).bind fun r1 => if r1.1 = 0 then
    some (iv ((-1)), r1.2)
  else
    if inb x1 6 then (some (iv (r1.2.1 88 x1.toNatClampNeg), r1.2)) else none := rfl
def EX10_mix (N d : Nat) : Nat → Nat → LO → AH → Option RES := exec (CX10_mix (arun N d)) []
theorem enX10_mix (N d : Nat) (q0 : Nat) (x1 : Int32) (A : AH) : arun N (d + 1) 235 [rv (some q0), iv x1] A = EX10_mix N d N 0 [some (rv (some q0)), some (iv x1)] A := rfl
set_option maxRecDepth 10000 in
theorem sgX10_mix_0 (N d n : Nat) (x1 : Int32) (I : Nat → Nat → Int32) (J : Nat → Nat → Int64) (cd : Nat × Nat) : EX10_mix N d (n + 1) 0 [some (rv (some 87)), some (iv x1)] (I, J, cd) =
  some (rv none, (I, wr J 87 35 ((31 * (J 87 35)) + (Int32.toInt64 x1)), cd)) := rfl
def EX10_mixRiver (N d : Nat) : Nat → Nat → LO → AH → Option RES := exec (CX10_mixRiver (arun N d)) [(2, [0, 1]), (43, [0, 1]), (67, [0, 1]), (77, [0, 1, 2]), (106, [0, 1])]
theorem enX10_mixRiver (N d : Nat) (q0 : Nat) (A : AH) : arun N (d + 1) 236 [rv (some q0)] A = EX10_mixRiver N d N 0 [some (rv (some q0)), none, none] A := rfl
set_option maxRecDepth 10000 in
theorem sgX10_mixRiver_0 (N d n : Nat)  (I : Nat → Nat → Int32) (J : Nat → Nat → Int64) (cd : Nat × Nat) : EX10_mixRiver N d (n + 1) 0 [some (rv (some 87)), none, none] (I, J, cd) =
  EX10_mixRiver N d n 2 [some (rv (some 87)), some (iv 0), none] (I, J, cd) := rfl
set_option maxRecDepth 10000 in
theorem sgX10_mixRiver_2 (N d n : Nat) (x1 : Int32) (I : Nat → Nat → Int32) (J : Nat → Nat → Int64) (cd : Nat × Nat) : EX10_mixRiver N d (n + 1) 2 [some (rv (some 87)), some (iv x1), none] (I, J, cd) =
  if 7 ≤ x1 then
    EX10_mixRiver N d n 43 [some (rv (some 87)), some (iv 0), none] (I, J, cd)
  else
    if (I 87 10) ≤ 0 then
      EX10_mixRiver N d n 43 [some (rv (some 87)), some (iv 0), none] (I, J, cd)
    else
      if inb x1 7 then ((cV (arun N d) 235 [rv (some 87), iv (I 94 x1.toNatClampNeg)] (I, J, cd)).bind fun r1 => if inb x1 7 then ((cV (arun N d) 235 [rv (some 87), iv (r1.1 95 x1.toNatClampNeg)] r1).bind fun r2 => EX10_mixRiver N d n 2 [some (rv (some 87)), some (iv (x1 + 1)), none] r2) else none) else none := rfl
set_option maxRecDepth 10000 in
theorem sgX10_mixRiver_43 (N d n : Nat) (x1 : Int32) (I : Nat → Nat → Int32) (J : Nat → Nat → Int64) (cd : Nat × Nat) : EX10_mixRiver N d (n + 1) 43 [some (rv (some 87)), some (iv x1), none] (I, J, cd) =
  if 7 ≤ x1 then
    EX10_mixRiver N d n 67 [some (rv (some 87)), some (iv 0), none] (I, J, cd)
  else
    if inb x1 7 then ((cV (arun N d) 235 [rv (some 87), iv (I 101 x1.toNatClampNeg)] (I, J, cd)).bind fun r1 => EX10_mixRiver N d n 43 [some (rv (some 87)), some (iv (x1 + 1)), none] r1) else none := rfl
set_option maxRecDepth 10000 in
theorem sgX10_mixRiver_67 (N d n : Nat) (x1 : Int32) (I : Nat → Nat → Int32) (J : Nat → Nat → Int64) (cd : Nat × Nat) : EX10_mixRiver N d (n + 1) 67 [some (rv (some 87)), some (iv x1), none] (I, J, cd) =
  if (I 87 10) ≤ x1 then
    EX10_mixRiver N d n 106 [some (rv (some 87)), some (iv 0), none] (I, J, cd)
  else
    EX10_mixRiver N d n 77 [some (rv (some 87)), some (iv x1), some (iv 0)] (I, J, cd) := rfl
set_option maxRecDepth 10000 in
theorem sgX10_mixRiver_77 (N d n : Nat) (x1 : Int32) (x2 : Int32) (I : Nat → Nat → Int32) (J : Nat → Nat → Int64) (cd : Nat × Nat) : EX10_mixRiver N d (n + 1) 77 [some (rv (some 87)), some (iv x1), some (iv x2)] (I, J, cd) =
  if 4 < x2 then
    EX10_mixRiver N d n 67 [some (rv (some 87)), some (iv (x1 + 1)), none] (I, J, cd)
  else
    (cI (arun N d) 186 [rv (some 87), iv x1, iv x2] (I, J, cd)).bind fun r1 => (cV (arun N d) 235 [rv (some 87), iv r1.1] r1.2).bind fun r2 => EX10_mixRiver N d n 77 [some (rv (some 87)), some (iv x1), some (iv (x2 + 1))] r2 := rfl
def EX10_digest (N d : Nat) : Nat → Nat → LO → AH → Option RES := exec (CX10_digest (arun N d)) [(9, [0, 1]), (36, [0, 1]), (67, [0, 1, 2]), (101, [0, 1]), (131, [0, 1, 2])]
theorem enX10_digest (N d : Nat) (q0 : Nat) (A : AH) : arun N (d + 1) 237 [rv (some q0)] A = EX10_digest N d N 0 [some (rv (some q0)), none, none] A := rfl
set_option maxRecDepth 10000 in
theorem sgX10_digest_0 (N d n : Nat)  (I : Nat → Nat → Int32) (J : Nat → Nat → Int64) (cd : Nat × Nat) : EX10_digest N d (n + 1) 0 [some (rv (some 87)), none, none] (I, J, cd) =
  EX10_digest N d n 9 [some (rv (some 87)), some (iv 0), none] (I, wr J 87 35 17, cd) := rfl
set_option maxRecDepth 10000 in
theorem sgX10_digest_9 (N d n : Nat) (x1 : Int32) (I : Nat → Nat → Int32) (J : Nat → Nat → Int64) (cd : Nat × Nat) : EX10_digest N d (n + 1) 9 [some (rv (some 87)), some (iv x1), none] (I, J, cd) =
  if 10 < x1 then
    (cV (arun N d) 236 [rv (some 87)] (I, J, cd)).bind fun r1 => EX10_digest N d n 36 [some (rv (some 87)), some (iv 0), none] r1
  else
    (cI (arun N d) 231 [rv (some 87), iv x1] (I, J, cd)).bind fun r2 => (cV (arun N d) 235 [rv (some 87), iv r2.1] r2.2).bind fun r3 => EX10_digest N d n 9 [some (rv (some 87)), some (iv (x1 + 1)), none] r3 := rfl
set_option maxRecDepth 10000 in
theorem sgX10_digest_36 (N d n : Nat) (x1 : Int32) (I : Nat → Nat → Int32) (J : Nat → Nat → Int64) (cd : Nat × Nat) : EX10_digest N d (n + 1) 36 [some (rv (some 87)), some (iv x1), none] (I, J, cd) =
  if 6 ≤ x1 then
    EX10_digest N d n 101 [some (rv (some 87)), some (iv 0), none] (I, J, cd)
  else
    if inb x1 6 then (if 0 ≤ (I 89 x1.toNatClampNeg) then
      if inb x1 6 then ((cV (arun N d) 235 [rv (some 87), iv (I 89 x1.toNatClampNeg)] (I, J, cd)).bind fun r1 => EX10_digest N d n 67 [some (rv (some 87)), some (iv x1), some (iv 0)] r1) else none
    else
      (cV (arun N d) 235 [rv (some 87), iv ((-1))] (I, J, cd)).bind fun r2 => EX10_digest N d n 67 [some (rv (some 87)), some (iv x1), some (iv 0)] r2) else none := rfl
set_option maxRecDepth 10000 in
theorem sgX10_digest_67 (N d n : Nat) (x1 : Int32) (x2 : Int32) (I : Nat → Nat → Int32) (J : Nat → Nat → Int64) (cd : Nat × Nat) : EX10_digest N d (n + 1) 67 [some (rv (some 87)), some (iv x1), some (iv x2)] (I, J, cd) =
  if inb x1 6 then (if (I 89 x1.toNatClampNeg) ≤ x2 then
    EX10_digest N d n 36 [some (rv (some 87)), some (iv (x1 + 1)), none] (I, J, cd)
  else
    (cI (arun N d) 147 [rv (some 87), iv x1, iv x2] (I, J, cd)).bind fun r1 => (cV (arun N d) 235 [rv (some 87), iv r1.1] r1.2).bind fun r2 => EX10_digest N d n 67 [some (rv (some 87)), some (iv x1), some (iv (x2 + 1))] r2) else none := rfl
set_option maxRecDepth 10000 in
theorem sgX10_digest_101 (N d n : Nat) (x1 : Int32) (I : Nat → Nat → Int32) (J : Nat → Nat → Int64) (cd : Nat × Nat) : EX10_digest N d (n + 1) 101 [some (rv (some 87)), some (iv x1), none] (I, J, cd) =
  if 4 ≤ x1 then
    some (jv (J 87 35), (I, J, cd))
  else
    if inb x1 4 then (if 0 ≤ (I 92 x1.toNatClampNeg) then
      if inb x1 4 then ((cV (arun N d) 235 [rv (some 87), iv (I 92 x1.toNatClampNeg)] (I, J, cd)).bind fun r1 => EX10_digest N d n 131 [some (rv (some 87)), some (iv x1), some (iv 0)] r1) else none
    else
      (cV (arun N d) 235 [rv (some 87), iv ((-1))] (I, J, cd)).bind fun r2 => EX10_digest N d n 131 [some (rv (some 87)), some (iv x1), some (iv 0)] r2) else none := rfl
set_option maxRecDepth 10000 in
theorem sgX10_digest_131 (N d n : Nat) (x1 : Int32) (x2 : Int32) (I : Nat → Nat → Int32) (J : Nat → Nat → Int64) (cd : Nat × Nat) : EX10_digest N d (n + 1) 131 [some (rv (some 87)), some (iv x1), some (iv x2)] (I, J, cd) =
  if inb x1 4 then (if (I 92 x1.toNatClampNeg) ≤ x2 then
    EX10_digest N d n 101 [some (rv (some 87)), some (iv (x1 + 1)), none] (I, J, cd)
  else
    if inb ((60 * x1) + x2) 240 then ((cV (arun N d) 235 [rv (some 87), iv (I 93 (((60 * x1) + x2).toNatClampNeg))] (I, J, cd)).bind fun r1 => EX10_digest N d n 131 [some (rv (some 87)), some (iv x1), some (iv (x2 + 1))] r1) else none) else none := rfl
