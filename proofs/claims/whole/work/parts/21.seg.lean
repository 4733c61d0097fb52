/-! what a run from a place to the next ones gives -/
def EX5_contest (N d : Nat) : Nat → Nat → LO → AH → Option RES := exec (CX5_contest (arun N d)) []
theorem enX5_contest (N d : Nat) (q0 : Nat) (q1 : Nat) (q2 : Nat) (x3 : Int32) (x4 : Int32) (A : AH) : arun N (d + 1) 37 [rv (some q0), rv (some q1), rv (some q2), iv x3, iv x4] A = EX5_contest N d N 0 [some (rv (some q0)), some (rv (some q1)), some (rv (some q2)), some (iv x3), some (iv x4)] A := rfl
set_option maxRecDepth 10000 in
theorem sgX5_contest_0 (N d n : Nat) (x3 : Int32) (x4 : Int32) (I : Nat → Nat → Int32) (J : Nat → Nat → Int64) (cd : Nat × Nat) : EX5_contest N d (n + 1) 0 [some (rv (some 48)), some (rv (some 73)), some (rv (some 20)), some (iv x3), some (iv x4)] (I, J, cd) =
  (cV (arun N d) 4 [rv (some 52), rv (some 20), iv x3] (I, J, cd)).bind fun r1 => (cI (arun N d) 3 [iv x4, iv 4] r1).bind fun r2 => (cI (arun N d) 2 [iv 0, iv r2.1] r2.2).bind fun r3 => (cI (arun N d) 38 [rv (some 48), rv (some 73), iv 0] (wr r3.2.1 48 3 r3.1, r3.2.2.1, r3.2.2.2)).bind fun r4 => some (iv r4.1, r4.2) := rfl
def EX5_contend (N d : Nat) : Nat → Nat → LO → AH → Option RES := exec (CX5_contend (arun N d)) [(22, [0, 1, 2, 3]), (28, [0, 1, 2, 3, 4, 5]), (104, [0, 1, 2, 3, 5, 6])]
theorem enX5_contend (N d : Nat) (q0 : Nat) (q1 : Nat) (x2 : Int32) (A : AH) : arun N (d + 1) 38 [rv (some q0), rv (some q1), iv x2] A = EX5_contend N d N 0 [some (rv (some q0)), some (rv (some q1)), some (iv x2), none, none, none, none] A := rfl
set_option maxRecDepth 10000 in
theorem sgX5_contend_0 (N d n : Nat) (x2 : Int32) (I : Nat → Nat → Int32) (J : Nat → Nat → Int64) (cd : Nat × Nat) : EX5_contend N d (n + 1) 0 [some (rv (some 48)), some (rv (some 73)), some (iv x2), none, none, none, none] (I, J, cd) =
  if x2 < (I 48 3) then
    if (x2 - x2 / 2 * 2) = 0 then
      EX5_contend N d n 22 [some (rv (some 48)), some (rv (some 73)), some (iv x2), some (iv 1), none, none, none] (I, J, cd)
    else
      EX5_contend N d n 22 [some (rv (some 48)), some (rv (some 73)), some (iv x2), some (iv 0), none, none, none] (I, J, cd)
  else
    some (iv 0, (I, J, cd)) := rfl
set_option maxRecDepth 10000 in
theorem sgX5_contend_22 (N d n : Nat) (x2 : Int32) (x3 : Int32) (I : Nat → Nat → Int32) (J : Nat → Nat → Int64) (cd : Nat × Nat) : EX5_contend N d (n + 1) 22 [some (rv (some 48)), some (rv (some 73)), some (iv x2), some (iv x3), none, none, none] (I, J, cd) =
  EX5_contend N d n 28 [some (rv (some 48)), some (rv (some 73)), some (iv x2), some (iv x3), some (iv 0), some (iv 0), none] (I, J, cd) := rfl
set_option maxRecDepth 10000 in
theorem sgX5_contend_28 (N d n : Nat) (x2 : Int32) (x3 : Int32) (x4 : Int32) (x5 : Int32) (I : Nat → Nat → Int32) (J : Nat → Nat → Int64) (cd : Nat × Nat) : EX5_contend N d (n + 1) 28 [some (rv (some 48)), some (rv (some 73)), some (iv x2), some (iv x3), some (iv x4), some (iv x5), none] (I, J, cd) =
  if (I 73 3) ≤ x5 then
    some (iv x4, (I, J, cd))
  else
    if inb x5 8 then ((cV (arun N d) 6 [rv (some 52), rv (some 73), iv x2, iv (I 79 x5.toNatClampNeg)] (I, J, cd)).bind fun r1 => (cI (arun N d) 0 [iv (r1.1 52 2)] r1).bind fun r2 => (cI (arun N d) 38 [rv (some 48), rv (some 73), iv (x2 + 1)] r2.2).bind fun r3 => if x5 = 0 then
      EX5_contend N d n 104 [some (rv (some 48)), some (rv (some 73)), some (iv x2), some (iv x3), none, some (iv x5), some (iv (r2.1 + r3.1))] r3.2
    else
      if x3 = 0 then
        if x4 ≤ (r2.1 + r3.1) then
          EX5_contend N d n 28 [some (rv (some 48)), some (rv (some 73)), some (iv x2), some (iv x3), some (iv x4), some (iv (x5 + 1)), none] r3.2
        else
          EX5_contend N d n 104 [some (rv (some 48)), some (rv (some 73)), some (iv x2), some (iv x3), none, some (iv x5), some (iv (r2.1 + r3.1))] r3.2
      else
        if (r2.1 + r3.1) ≤ x4 then
          EX5_contend N d n 28 [some (rv (some 48)), some (rv (some 73)), some (iv x2), some (iv x3), some (iv x4), some (iv (x5 + 1)), none] r3.2
        else
          EX5_contend N d n 104 [some (rv (some 48)), some (rv (some 73)), some (iv x2), some (iv x3), none, some (iv x5), some (iv (r2.1 + r3.1))] r3.2) else none := rfl
set_option maxRecDepth 10000 in
theorem sgX5_contend_104 (N d n : Nat) (x2 : Int32) (x3 : Int32) (x5 : Int32) (x6 : Int32) (I : Nat → Nat → Int32) (J : Nat → Nat → Int64) (cd : Nat × Nat) : EX5_contend N d (n + 1) 104 [some (rv (some 48)), some (rv (some 73)), some (iv x2), some (iv x3), none, some (iv x5), some (iv x6)] (I, J, cd) =
  EX5_contend N d n 28 [some (rv (some 48)), some (rv (some 73)), some (iv x2), some (iv x3), some (iv x6), some (iv (x5 + 1)), none] (I, J, cd) := rfl
def EX6_byLetter (N d : Nat) : Nat → Nat → LO → AH → Option RES := exec (CX6_byLetter (arun N d)) []
theorem enX6_byLetter (N d : Nat) (x0 : Int32) (A : AH) : arun N (d + 1) 39 [iv x0] A = EX6_byLetter N d N 0 [some (iv x0)] A := rfl
set_option maxRecDepth 10000 in
theorem sgX6_byLetter_0 (N d n : Nat) (x0 : Int32) (I : Nat → Nat → Int32) (J : Nat → Nat → Int64) (cd : Nat × Nat) : EX6_byLetter N d (n + 1) 0 [some (iv x0)] (I, J, cd) =
  if x0 = 97 then
    some (iv 0, (I, J, cd))
  else
    if x0 = 102 then
      some (iv 5, (I, J, cd))
    else
      if x0 = 109 then
        some (iv 2, (I, J, cd))
      else
        if x0 = 112 then
          some (iv 3, (I, J, cd))
        else
          if x0 = 115 then
            some (iv 4, (I, J, cd))
          else
            if x0 = 119 then
              some (iv 1, (I, J, cd))
            else
              some (iv ((-1)), (I, J, cd)) := rfl
def EX6_isOf (N d : Nat) : Nat → Nat → LO → AH → Option RES := exec (CX6_isOf (arun N d)) []
theorem enX6_isOf (N d : Nat) (x0 : Int32) (x1 : Int32) (A : AH) : arun N (d + 1) 40 [iv x0, iv x1] A = EX6_isOf N d N 0 [some (iv x0), some (iv x1)] A := rfl
set_option maxRecDepth 10000 in
theorem sgX6_isOf_0 (N d n : Nat) (x0 : Int32) (x1 : Int32) (I : Nat → Nat → Int32) (J : Nat → Nat → Int64) (cd : Nat × Nat) : EX6_isOf N d (n + 1) 0 [some (iv x0), some (iv x1)] (I, J, cd) =
  if x1 = 0 then
    some (iv 1, (I, J, cd))
  else
    if x1 = 1 then
      if x0 = 1 then
        some (iv 1, (I, J, cd))
      else
        if x0 = 3 then
          some (iv 1, (I, J, cd))
        else
          if x0 = 4 then
            some (iv 1, (I, J, cd))
          else
            some (iv 0, (I, J, cd))
    else
      if x1 = 2 then
        if x0 = 2 then
          some (iv 1, (I, J, cd))
        else
          if x0 = 5 then
            some (iv 1, (I, J, cd))
          else
            some (iv 0, (I, J, cd))
      else
        if x0 = x1 then
          some (iv 1, (I, J, cd))
        else
          some (iv 0, (I, J, cd)) := rfl
def EX6_runFrom (N d : Nat) : Nat → Nat → LO → AH → Option RES := exec (CX6_runFrom (arun N d)) []
theorem enX6_runFrom (N d : Nat) (x0 : Int32) (x1 : Int32) (x2 : Int32) (x3 : Int32) (A : AH) : arun N (d + 1) 41 [iv x0, iv x1, iv x2, iv x3] A = EX6_runFrom N d N 0 [some (iv x0), some (iv x1), some (iv x2), some (iv x3)] A := rfl
set_option maxRecDepth 10000 in
theorem sgX6_runFrom_0 (N d n : Nat) (x0 : Int32) (x1 : Int32) (x2 : Int32) (x3 : Int32) (I : Nat → Nat → Int32) (J : Nat → Nat → Int64) (cd : Nat × Nat) : EX6_runFrom N d (n + 1) 0 [some (iv x0), some (iv x1), some (iv x2), some (iv x3)] (I, J, cd) =
  if x3 = 0 then
    if x0 = 4 then
      if x2 ≤ x1 then
        some (iv x2, (I, J, cd))
      else
        some (iv x1, (I, J, cd))
    else
      some (iv x2, (I, J, cd))
  else
    if x2 ≤ x1 then
      some (iv 0, (I, J, cd))
    else
      some (iv (x2 - x1), (I, J, cd)) := rfl
def EX6_settle (N d : Nat) : Nat → Nat → LO → AH → Option RES := exec (CX6_settle (arun N d)) [(15, [1]), (17, [2])]
theorem enX6_settle (N d : Nat) (x0 : Int32) (x1 : Int32) (A : AH) : arun N (d + 1) 42 [iv x0, iv x1] A = EX6_settle N d N 0 [some (iv x0), some (iv x1), none] A := rfl
set_option maxRecDepth 10000 in
theorem sgX6_settle_0 (N d n : Nat) (x0 : Int32) (x1 : Int32) (I : Nat → Nat → Int32) (J : Nat → Nat → Int64) (cd : Nat × Nat) : EX6_settle N d (n + 1) 0 [some (iv x0), some (iv x1), none] (I, J, cd) =
  if x0 = 3 then
    if x1 ≤ 0 then
      EX6_settle N d n 15 [none, some (iv x1), none] (I, J, cd)
    else
      EX6_settle N d n 17 [none, none, some (iv (x1 - 1))] (I, J, cd)
  else
    EX6_settle N d n 15 [none, some (iv x1), none] (I, J, cd) := rfl
set_option maxRecDepth 10000 in
theorem sgX6_settle_15 (N d n : Nat) (x1 : Int32) (I : Nat → Nat → Int32) (J : Nat → Nat → Int64) (cd : Nat × Nat) : EX6_settle N d (n + 1) 15 [none, some (iv x1), none] (I, J, cd) =
  EX6_settle N d n 17 [none, none, some (iv x1)] (I, J, cd) := rfl
set_option maxRecDepth 10000 in
theorem sgX6_settle_17 (N d n : Nat) (x2 : Int32) (I : Nat → Nat → Int32) (J : Nat → Nat → Int64) (cd : Nat × Nat) : EX6_settle N d (n + 1) 17 [none, none, some (iv x2)] (I, J, cd) =
  if x2 ≤ 99 then
    some (iv x2, (I, J, cd))
  else
    some (iv 99, (I, J, cd)) := rfl
def EX6_grindsBy (N d : Nat) : Nat → Nat → LO → AH → Option RES := exec (CX6_grindsBy (arun N d)) []
theorem enX6_grindsBy (N d : Nat) (x0 : Int32) (x1 : Int32) (x2 : Int32) (A : AH) : arun N (d + 1) 43 [iv x0, iv x1, iv x2] A = EX6_grindsBy N d N 0 [some (iv x0), some (iv x1), some (iv x2)] A := rfl
set_option maxRecDepth 10000 in
theorem sgX6_grindsBy_0 (N d n : Nat) (x0 : Int32) (x1 : Int32) (x2 : Int32) (I : Nat → Nat → Int32) (J : Nat → Nat → Int64) (cd : Nat × Nat) : EX6_grindsBy N d (n + 1) 0 [some (iv x0), some (iv x1), some (iv x2)] (I, J, cd) =
  if x0 = 2 then
    if x2 < x1 then
      some (iv 0, (I, J, cd))
    else
      some (iv 1, (I, J, cd))
  else
    if x0 = 5 then
      if x2 < x1 then
        some (iv 0, (I, J, cd))
      else
        if (x1 + 2) < x2 then
          some (iv 0, (I, J, cd))
        else
          some (iv 1, (I, J, cd))
    else
      some (iv 0, (I, J, cd)) := rfl
def EX6_signOf (N d : Nat) : Nat → Nat → LO → AH → Option RES := exec (CX6_signOf (arun N d)) []
theorem enX6_signOf (N d : Nat) (x0 : Int32) (x1 : Int32) (x2 : Int32) (A : AH) : arun N (d + 1) 44 [iv x0, iv x1, iv x2] A = EX6_signOf N d N 0 [some (iv x0), some (iv x1), some (iv x2)] A := rfl
set_option maxRecDepth 10000 in
theorem sgX6_signOf_0 (N d n : Nat) (x0 : Int32) (x1 : Int32) (x2 : Int32) (I : Nat → Nat → Int32) (J : Nat → Nat → Int64) (cd : Nat × Nat) : EX6_signOf N d (n + 1) 0 [some (iv x0), some (iv x1), some (iv x2)] (I, J, cd) =
  if x0 = 1 then
    (cI (arun N d) 3 [iv x2, iv x1] (I, J, cd)).bind fun r1 => some (iv r1.1, r1.2)
  else
    if x0 = 2 then
      (cI (arun N d) 2 [iv 0, iv (x1 - x2)] (I, J, cd)).bind fun r2 => some (iv r2.1, r2.2)
    else
      if x0 = 3 then
        some (iv x2, (I, J, cd))
      else
        if x0 = 4 then
          if 1 ≤ x1 then
            if x1 = (0 : Int32) then none else (some (iv (((x2 + x1) - 1) / x1), (I, J, cd)))
          else
            some (iv 0, (I, J, cd))
        else
          (cI (arun N d) 2 [iv 0, iv ((x2 - x1) - 2)] (I, J, cd)).bind fun r3 => some (iv r3.1, r3.2) := rfl
def EX7_read (N d : Nat) : Nat → Nat → LO → AH → Option RES := exec (CX7_read (arun N d)) [(66, [0, 3]), (72, [0, 3, 4, 5]), (96, [0, 3, 5]), (113, [0, 3, 4])]
theorem enX7_read (N d : Nat) (q0 : Nat) (q1 : Nat) (x2 : Int32) (q3 : Nat) (A : AH) : arun N (d + 1) 45 [rv (some q0), rv (some q1), iv x2, rv (some q3)] A = EX7_read N d N 0 [some (rv (some q0)), some (rv (some q1)), some (iv x2), some (rv (some q3)), none, none] A := rfl
set_option maxRecDepth 10000 in
theorem sgX7_read_0 (N d n : Nat) (x2 : Int32) (I : Nat → Nat → Int32) (J : Nat → Nat → Int64) (cd : Nat × Nat) : EX7_read N d (n + 1) 0 [some (rv (some 17)), some (rv (some 10)), some (iv x2), some (rv (some 80)), none, none] (I, J, cd) =
  (cV (arun N d) 61 [rv (some 10), iv x2, rv (some 18)] (I, J, cd)).bind fun r1 => (cI (arun N d) 54 [rv (some 10), iv x2] r1).bind fun r2 => (cI (arun N d) 3 [iv r2.1, iv 60] r2.2).bind fun r3 => (cV (arun N d) 15 [rv (some 80)] (wr (wr r3.2.1 17 1 r3.1) 17 2 0, r3.2.2.1, r3.2.2.2)).bind fun r4 => (cI (arun N d) 46 [rv (some 17), iv 121, rv (some 84), iv 9] r4).bind fun r5 => if r5.1 = 0 then
    EX7_read N d n 66 [some (rv (some 17)), none, none, some (rv (some 80)), none, none] r5.2
  else
    (cI (arun N d) 46 [rv (some 17), iv 111, rv (some 85), iv 6] r5.2).bind fun r6 => if r6.1 = 0 then
      EX7_read N d n 66 [some (rv (some 17)), none, none, some (rv (some 80)), none, none] r6.2
    else
      EX7_read N d n 72 [some (rv (some 17)), none, none, some (rv (some 80)), some (iv 1), some (iv 0)] r6.2 := rfl
set_option maxRecDepth 10000 in
theorem sgX7_read_66 (N d n : Nat)  (I : Nat → Nat → Int32) (J : Nat → Nat → Int64) (cd : Nat × Nat) : EX7_read N d (n + 1) 66 [some (rv (some 17)), none, none, some (rv (some 80)), none, none] (I, J, cd) =
  EX7_read N d n 72 [some (rv (some 17)), none, none, some (rv (some 80)), some (iv 0), some (iv 0)] (I, J, cd) := rfl
set_option maxRecDepth 10000 in
theorem sgX7_read_72 (N d n : Nat) (x4 : Int32) (x5 : Int32) (I : Nat → Nat → Int32) (J : Nat → Nat → Int64) (cd : Nat × Nat) : EX7_read N d (n + 1) 72 [some (rv (some 17)), none, none, some (rv (some 80)), some (iv x4), some (iv x5)] (I, J, cd) =
  if x4 = 0 then
    EX7_read N d n 113 [some (rv (some 17)), none, none, some (rv (some 80)), some (iv x4), none] (I, J, cd)
  else
    if 60 ≤ x5 then
      EX7_read N d n 113 [some (rv (some 17)), none, none, some (rv (some 80)), some (iv x4), none] (I, J, cd)
    else
      if x5 = 0 then
        EX7_read N d n 96 [some (rv (some 17)), none, none, some (rv (some 80)), none, some (iv x5)] (I, J, cd)
      else
        (cI (arun N d) 48 [rv (some 17)] (I, J, cd)).bind fun r1 => if r1.1 = 0 then
          EX7_read N d n 96 [some (rv (some 17)), none, none, some (rv (some 80)), none, some (iv x5)] r1.2
        else
          EX7_read N d n 113 [some (rv (some 17)), none, none, some (rv (some 80)), some (iv x4), none] r1.2 := rfl
set_option maxRecDepth 10000 in
theorem sgX7_read_96 (N d n : Nat) (x5 : Int32) (I : Nat → Nat → Int32) (J : Nat → Nat → Int64) (cd : Nat × Nat) : EX7_read N d (n + 1) 96 [some (rv (some 17)), none, none, some (rv (some 80)), none, some (iv x5)] (I, J, cd) =
  (cV (arun N d) 51 [rv (some 17)] (I, J, cd)).bind fun r1 => (cI (arun N d) 47 [rv (some 17), rv (some 80)] r1).bind fun r2 => EX7_read N d n 72 [some (rv (some 17)), none, none, some (rv (some 80)), some (iv r2.1), some (iv (x5 + 1))] r2.2 := rfl
set_option maxRecDepth 10000 in
theorem sgX7_read_113 (N d n : Nat) (x4 : Int32) (I : Nat → Nat → Int32) (J : Nat → Nat → Int64) (cd : Nat × Nat) : EX7_read N d (n + 1) 113 [some (rv (some 17)), none, none, some (rv (some 80)), some (iv x4), none] (I, J, cd) =
  (cV (arun N d) 20 [rv (some 80)] (I, J, cd)).bind fun r1 => if x4 = 0 then
    some (iv (r1.1 17 2), r1)
  else
    some (iv ((-9)), r1) := rfl
def EX7_takesWeek (N d : Nat) : Nat → Nat → LO → AH → Option RES := exec (CX7_takesWeek (arun N d)) [(27, [0, 2, 3, 4])]
theorem enX7_takesWeek (N d : Nat) (q0 : Nat) (x1 : Int32) (q2 : Nat) (x3 : Int32) (A : AH) : arun N (d + 1) 46 [rv (some q0), iv x1, rv (some q2), iv x3] A = EX7_takesWeek N d N 0 [some (rv (some q0)), some (iv x1), some (rv (some q2)), some (iv x3), none] A := rfl
set_option maxRecDepth 10000 in
theorem sgX7_takesWeek_84_0 (N d n : Nat) (x1 : Int32) (x3 : Int32) (I : Nat → Nat → Int32) (J : Nat → Nat → Int64) (cd : Nat × Nat) : EX7_takesWeek N d (n + 1) 0 [some (rv (some 17)), some (iv x1), some (rv (some 84)), some (iv x3), none] (I, J, cd) =
  (cV (arun N d) 51 [rv (some 17)] (I, J, cd)).bind fun r1 => (cI (arun N d) 49 [rv (some 17)] r1).bind fun r2 => if r2.1 = x1 then
    EX7_takesWeek N d n 27 [some (rv (some 17)), none, some (rv (some 84)), some (iv x3), some (iv 0)] (wr r2.2.1 17 2 ((r2.2.1 17 2) + 1), r2.2.2.1, r2.2.2.2)
  else
    some (iv 0, r2.2) := rfl
set_option maxRecDepth 10000 in
theorem sgX7_takesWeek_84_27 (N d n : Nat) (x3 : Int32) (x4 : Int32) (I : Nat → Nat → Int32) (J : Nat → Nat → Int64) (cd : Nat × Nat) : EX7_takesWeek N d (n + 1) 27 [some (rv (some 17)), none, some (rv (some 84)), some (iv x3), some (iv x4)] (I, J, cd) =
  if (nI 7) ≤ x4 then
    some (iv 1, (I, J, cd))
  else
    (cI (arun N d) 50 [rv (some 17), iv 0, iv x3] (I, J, cd)).bind fun r1 => if r1.1 = 0 then
      some (iv 0, r1.2)
    else
      (cI (arun N d) 49 [rv (some 17)] r1.2).bind fun r2 => if inb x4 7 then (EX7_takesWeek N d n 27 [some (rv (some 17)), none, some (rv (some 84)), some (iv x3), some (iv (x4 + 1))] (wr (wr r2.2.1 84 x4.toNatClampNeg (r2.1 - 48)) 17 2 ((r2.2.1 17 2) + 1), r2.2.2.1, r2.2.2.2)) else none := rfl
set_option maxRecDepth 10000 in
theorem sgX7_takesWeek_85_0 (N d n : Nat) (x1 : Int32) (x3 : Int32) (I : Nat → Nat → Int32) (J : Nat → Nat → Int64) (cd : Nat × Nat) : EX7_takesWeek N d (n + 1) 0 [some (rv (some 17)), some (iv x1), some (rv (some 85)), some (iv x3), none] (I, J, cd) =
  (cV (arun N d) 51 [rv (some 17)] (I, J, cd)).bind fun r1 => (cI (arun N d) 49 [rv (some 17)] r1).bind fun r2 => if r2.1 = x1 then
    EX7_takesWeek N d n 27 [some (rv (some 17)), none, some (rv (some 85)), some (iv x3), some (iv 0)] (wr r2.2.1 17 2 ((r2.2.1 17 2) + 1), r2.2.2.1, r2.2.2.2)
  else
    some (iv 0, r2.2) := rfl
set_option maxRecDepth 10000 in
theorem sgX7_takesWeek_85_27 (N d n : Nat) (x3 : Int32) (x4 : Int32) (I : Nat → Nat → Int32) (J : Nat → Nat → Int64) (cd : Nat × Nat) : EX7_takesWeek N d (n + 1) 27 [some (rv (some 17)), none, some (rv (some 85)), some (iv x3), some (iv x4)] (I, J, cd) =
  if (nI 7) ≤ x4 then
    some (iv 1, (I, J, cd))
  else
    (cI (arun N d) 50 [rv (some 17), iv 0, iv x3] (I, J, cd)).bind fun r1 => if r1.1 = 0 then
      some (iv 0, r1.2)
    else
      (cI (arun N d) 49 [rv (some 17)] r1.2).bind fun r2 => if inb x4 7 then (EX7_takesWeek N d n 27 [some (rv (some 17)), none, some (rv (some 85)), some (iv x3), some (iv (x4 + 1))] (wr (wr r2.2.1 85 x4.toNatClampNeg (r2.1 - 48)) 17 2 ((r2.2.1 17 2) + 1), r2.2.2.1, r2.2.2.2)) else none := rfl
def EX7_takesReach (N d : Nat) : Nat → Nat → LO → AH → Option RES := exec (CX7_takesReach (arun N d)) []
theorem enX7_takesReach (N d : Nat) (q0 : Nat) (q1 : Nat) (A : AH) : arun N (d + 1) 47 [rv (some q0), rv (some q1)] A = EX7_takesReach N d N 0 [some (rv (some q0)), some (rv (some q1)), none, none] A := rfl
set_option maxRecDepth 10000 in
theorem sgX7_takesReach_0 (N d n : Nat)  (I : Nat → Nat → Int32) (J : Nat → Nat → Int64) (cd : Nat × Nat) : EX7_takesReach N d (n + 1) 0 [some (rv (some 17)), some (rv (some 80)), none, none] (I, J, cd) =
  (cI (arun N d) 49 [rv (some 17)] (I, J, cd)).bind fun r1 => (cI (arun N d) 39 [iv r1.1] r1.2).bind fun r2 => if r2.1 = ((-1)) then
    some (iv 0, r2.2)
  else
    (cI (arun N d) 18 [rv (some 80), iv r2.1] r2.2).bind fun r3 => if r3.1 = 0 then
      some (iv 0, r3.2)
    else
      (cI (arun N d) 50 [rv (some 17), iv 1, iv 9] (wr r3.2.1 17 2 ((r3.2.1 17 2) + 1), r3.2.2.1, r3.2.2.2)).bind fun r4 => if r4.1 = 0 then
        some (iv 0, r4.2)
      else
        (cI (arun N d) 49 [rv (some 17)] r4.2).bind fun r5 => (cI (arun N d) 50 [rv (some 17), iv 0, iv 9] (wr r5.2.1 17 2 ((r5.2.1 17 2) + 1), r5.2.2.1, r5.2.2.2)).bind fun r6 => if r6.1 = 0 then
          some (iv 0, r6.2)
        else
          (cI (arun N d) 49 [rv (some 17)] r6.2).bind fun r7 => (cV (arun N d) 19 [rv (some 80), iv r2.1, iv (r5.1 - 48), iv (r7.1 - 48)] r7.2).bind fun r8 => some (iv 1, (wr r8.1 17 2 ((r8.1 17 2) + 1), r8.2.1, r8.2.2)) := rfl
def EX7_onlyBlanksLeft (N d : Nat) : Nat → Nat → LO → AH → Option RES := exec (CX7_onlyBlanksLeft (arun N d)) []
theorem enX7_onlyBlanksLeft (N d : Nat) (q0 : Nat) (A : AH) : arun N (d + 1) 48 [rv (some q0)] A = EX7_onlyBlanksLeft N d N 0 [some (rv (some q0))] A := rfl
set_option maxRecDepth 10000 in
theorem sgX7_onlyBlanksLeft_0 (N d n : Nat)  (I : Nat → Nat → Int32) (J : Nat → Nat → Int64) (cd : Nat × Nat) : EX7_onlyBlanksLeft N d (n + 1) 0 [some (rv (some 17))] (I, J, cd) =
  (cV (arun N d) 51 [rv (some 17)] (I, J, cd)).bind fun r1 => if (r1.1 17 2) < (r1.1 17 1) then
    some (iv 0, r1)
  else
    some (iv 1, r1) := rfl
def EX7_seen (N d : Nat) : Nat → Nat → LO → AH → Option RES := exec (CX7_seen (arun N d)) []
theorem enX7_seen (N d : Nat) (q0 : Nat) (A : AH) : arun N (d + 1) 49 [rv (some q0)] A = EX7_seen N d N 0 [some (rv (some q0))] A := rfl
set_option maxRecDepth 10000 in
theorem sgX7_seen_0 (N d n : Nat)  (I : Nat → Nat → Int32) (J : Nat → Nat → Int64) (cd : Nat × Nat) : EX7_seen N d (n + 1) 0 [some (rv (some 17))] (I, J, cd) =
  if (I 17 2) < 0 then
    some (iv ((-1000)), (I, J, cd))
  else
    if (I 17 1) ≤ (I 17 2) then
      some (iv ((-1000)), (I, J, cd))
    else
      if inb (I 17 2) 60 then (some (iv (I 18 ((I 17 2).toNatClampNeg)), (I, J, cd))) else none := rfl
def EX7_seesFigure (N d : Nat) : Nat → Nat → LO → AH → Option RES := exec (CX7_seesFigure (arun N d)) []
theorem enX7_seesFigure (N d : Nat) (q0 : Nat) (x1 : Int32) (x2 : Int32) (A : AH) : arun N (d + 1) 50 [rv (some q0), iv x1, iv x2] A = EX7_seesFigure N d N 0 [some (rv (some q0)), some (iv x1), some (iv x2)] A := rfl
set_option maxRecDepth 10000 in
theorem sgX7_seesFigure_0 (N d n : Nat) (x1 : Int32) (x2 : Int32) (I : Nat → Nat → Int32) (J : Nat → Nat → Int64) (cd : Nat × Nat) : EX7_seesFigure N d (n + 1) 0 [some (rv (some 17)), some (iv x1), some (iv x2)] (I, J, cd) =
  (cI (arun N d) 49 [rv (some 17)] (I, J, cd)).bind fun r1 => if r1.1 < (48 + x1) then
    some (iv 0, r1.2)
  else
    (cI (arun N d) 49 [rv (some 17)] r1.2).bind fun r2 => if (48 + x2) < r2.1 then
      some (iv 0, r2.2)
    else
      some (iv 1, r2.2) := rfl
def EX7_skipBlanks (N d : Nat) : Nat → Nat → LO → AH → Option RES := exec (CX7_skipBlanks (arun N d)) [(2, [0, 1])]
theorem enX7_skipBlanks (N d : Nat) (q0 : Nat) (A : AH) : arun N (d + 1) 51 [rv (some q0)] A = EX7_skipBlanks N d N 0 [some (rv (some q0)), none] A := rfl
set_option maxRecDepth 10000 in
theorem sgX7_skipBlanks_0 (N d n : Nat)  (I : Nat → Nat → Int32) (J : Nat → Nat → Int64) (cd : Nat × Nat) : EX7_skipBlanks N d (n + 1) 0 [some (rv (some 17)), none] (I, J, cd) =
  EX7_skipBlanks N d n 2 [some (rv (some 17)), some (iv 0)] (I, J, cd) := rfl
set_option maxRecDepth 10000 in
theorem sgX7_skipBlanks_2 (N d n : Nat) (x1 : Int32) (I : Nat → Nat → Int32) (J : Nat → Nat → Int64) (cd : Nat × Nat) : EX7_skipBlanks N d (n + 1) 2 [some (rv (some 17)), some (iv x1)] (I, J, cd) =
  if 60 ≤ x1 then
    some (rv none, (I, J, cd))
  else
    (cI (arun N d) 49 [rv (some 17)] (I, J, cd)).bind fun r1 => if r1.1 = 32 then
      EX7_skipBlanks N d n 2 [some (rv (some 17)), some (iv (x1 + 1))] (wr r1.2.1 17 2 ((r1.2.1 17 2) + 1), r1.2.2.1, r1.2.2.2)
    else
      some (rv none, r1.2) := rfl
def EX8_isOne (N d : Nat) : Nat → Nat → LO → AH → Option RES := exec (CX8_isOne (arun N d)) []
theorem enX8_isOne (N d : Nat) (q0 : Nat) (x1 : Int32) (A : AH) : arun N (d + 1) 52 [rv (some q0), iv x1] A = EX8_isOne N d N 0 [some (rv (some q0)), some (iv x1)] A := rfl
set_option maxRecDepth 10000 in
theorem sgX8_isOne_1_0 (N d n : Nat) (x1 : Int32) (I : Nat → Nat → Int32) (J : Nat → Nat → Int64) (cd : Nat × Nat) : EX8_isOne N d (n + 1) 0 [some (rv (some 1)), some (iv x1)] (I, J, cd) =
  if x1 < 0 then
    some (iv 0, (I, J, cd))
  else
    if (nI 6) ≤ x1 then
      some (iv 0, (I, J, cd))
    else
      some (iv 1, (I, J, cd)) := rfl
set_option maxRecDepth 10000 in
theorem sgX8_isOne_10_0 (N d n : Nat) (x1 : Int32) (I : Nat → Nat → Int32) (J : Nat → Nat → Int64) (cd : Nat × Nat) : EX8_isOne N d (n + 1) 0 [some (rv (some 10)), some (iv x1)] (I, J, cd) =
  if x1 < 0 then
    some (iv 0, (I, J, cd))
  else
    if (nI 4) ≤ x1 then
      some (iv 0, (I, J, cd))
    else
      some (iv 1, (I, J, cd)) := rfl
def EX8_isThere (N d : Nat) : Nat → Nat → LO → AH → Option RES := exec (CX8_isThere (arun N d)) []
theorem enX8_isThere (N d : Nat) (q0 : Nat) (x1 : Int32) (A : AH) : arun N (d + 1) 53 [rv (some q0), iv x1] A = EX8_isThere N d N 0 [some (rv (some q0)), some (iv x1)] A := rfl
set_option maxRecDepth 10000 in
theorem sgX8_isThere_1_0 (N d n : Nat) (x1 : Int32) (I : Nat → Nat → Int32) (J : Nat → Nat → Int64) (cd : Nat × Nat) : EX8_isThere N d (n + 1) 0 [some (rv (some 1)), some (iv x1)] (I, J, cd) =
  (cI (arun N d) 52 [rv (some 1), iv x1] (I, J, cd)).bind fun r1 => if r1.1 = 0 then
    some (iv 0, r1.2)
  else
    if inb x1 6 then (if (r1.2.1 9 x1.toNatClampNeg) = ((-1)) then
      some (iv 0, r1.2)
    else
      some (iv 1, r1.2)) else none := rfl
set_option maxRecDepth 10000 in
theorem sgX8_isThere_10_0 (N d n : Nat) (x1 : Int32) (I : Nat → Nat → Int32) (J : Nat → Nat → Int64) (cd : Nat × Nat) : EX8_isThere N d (n + 1) 0 [some (rv (some 10)), some (iv x1)] (I, J, cd) =
  (cI (arun N d) 52 [rv (some 10), iv x1] (I, J, cd)).bind fun r1 => if r1.1 = 0 then
    some (iv 0, r1.2)
  else
    if inb x1 4 then (if (r1.2.1 16 x1.toNatClampNeg) = ((-1)) then
      some (iv 0, r1.2)
    else
      some (iv 1, r1.2)) else none := rfl
def EX8_sizeOf (N d : Nat) : Nat → Nat → LO → AH → Option RES := exec (CX8_sizeOf (arun N d)) []
theorem enX8_sizeOf (N d : Nat) (q0 : Nat) (x1 : Int32) (A : AH) : arun N (d + 1) 54 [rv (some q0), iv x1] A = EX8_sizeOf N d N 0 [some (rv (some q0)), some (iv x1)] A := rfl
set_option maxRecDepth 10000 in
theorem sgX8_sizeOf_1_0 (N d n : Nat) (x1 : Int32) (I : Nat → Nat → Int32) (J : Nat → Nat → Int64) (cd : Nat × Nat) : EX8_sizeOf N d (n + 1) 0 [some (rv (some 1)), some (iv x1)] (I, J, cd) =
  (cI (arun N d) 52 [rv (some 1), iv x1] (I, J, cd)).bind fun r1 => if r1.1 = 0 then
    some (iv 0, r1.2)
  else
    if inb x1 6 then ((cI (arun N d) 2 [iv 0, iv (r1.2.1 9 x1.toNatClampNeg)] r1.2).bind fun r2 => some (iv r2.1, r2.2)) else none := rfl
set_option maxRecDepth 10000 in
theorem sgX8_sizeOf_10_0 (N d n : Nat) (x1 : Int32) (I : Nat → Nat → Int32) (J : Nat → Nat → Int64) (cd : Nat × Nat) : EX8_sizeOf N d (n + 1) 0 [some (rv (some 10)), some (iv x1)] (I, J, cd) =
  (cI (arun N d) 52 [rv (some 10), iv x1] (I, J, cd)).bind fun r1 => if r1.1 = 0 then
    some (iv 0, r1.2)
  else
    if inb x1 4 then ((cI (arun N d) 2 [iv 0, iv (r1.2.1 16 x1.toNatClampNeg)] r1.2).bind fun r2 => some (iv r2.1, r2.2)) else none := rfl
def EX8_holds (N d : Nat) : Nat → Nat → LO → AH → Option RES := exec (CX8_holds (arun N d)) []
theorem enX8_holds (N d : Nat) (q0 : Nat) (x1 : Int32) (x2 : Int32) (A : AH) : arun N (d + 1) 55 [rv (some q0), iv x1, iv x2] A = EX8_holds N d N 0 [some (rv (some q0)), some (iv x1), some (iv x2)] A := rfl
set_option maxRecDepth 10000 in
theorem sgX8_holds_1_0 (N d n : Nat) (x1 : Int32) (x2 : Int32) (I : Nat → Nat → Int32) (J : Nat → Nat → Int64) (cd : Nat × Nat) : EX8_holds N d (n + 1) 0 [some (rv (some 1)), some (iv x1), some (iv x2)] (I, J, cd) =
  (cI (arun N d) 52 [rv (some 1), iv x1] (I, J, cd)).bind fun r1 => if r1.1 = 0 then
    some (iv 0, r1.2)
  else
    if x2 < 0 then
      some (iv 0, r1.2)
    else
      if inb x1 6 then (if (r1.2.1 9 x1.toNatClampNeg) ≤ x2 then
        some (iv 0, r1.2)
      else
        some (iv 1, r1.2)) else none := rfl
set_option maxRecDepth 10000 in
theorem sgX8_holds_10_0 (N d n : Nat) (x1 : Int32) (x2 : Int32) (I : Nat → Nat → Int32) (J : Nat → Nat → Int64) (cd : Nat × Nat) : EX8_holds N d (n + 1) 0 [some (rv (some 10)), some (iv x1), some (iv x2)] (I, J, cd) =
  (cI (arun N d) 52 [rv (some 10), iv x1] (I, J, cd)).bind fun r1 => if r1.1 = 0 then
    some (iv 0, r1.2)
  else
    if x2 < 0 then
      some (iv 0, r1.2)
    else
      if inb x1 4 then (if (r1.2.1 16 x1.toNatClampNeg) ≤ x2 then
        some (iv 0, r1.2)
      else
        some (iv 1, r1.2)) else none := rfl
def EX8_holdsRun (N d : Nat) : Nat → Nat → LO → AH → Option RES := exec (CX8_holdsRun (arun N d)) []
theorem enX8_holdsRun (N d : Nat) (q0 : Nat) (x1 : Int32) (x2 : Int32) (x3 : Int32) (A : AH) : arun N (d + 1) 56 [rv (some q0), iv x1, iv x2, iv x3] A = EX8_holdsRun N d N 0 [some (rv (some q0)), some (iv x1), some (iv x2), some (iv x3)] A := rfl
set_option maxRecDepth 10000 in
theorem sgX8_holdsRun_0 (N d n : Nat) (x1 : Int32) (x2 : Int32) (x3 : Int32) (I : Nat → Nat → Int32) (J : Nat → Nat → Int64) (cd : Nat × Nat) : EX8_holdsRun N d (n + 1) 0 [some (rv (some 1)), some (iv x1), some (iv x2), some (iv x3)] (I, J, cd) =
  (cI (arun N d) 52 [rv (some 1), iv x1] (I, J, cd)).bind fun r1 => if r1.1 = 0 then
    some (iv 0, r1.2)
  else
    if x2 < 0 then
      some (iv 0, r1.2)
    else
      if x3 < 0 then
        some (iv 0, r1.2)
      else
        if inb x1 6 then (if 0 < (lg_cmp ((Int32.toInt64 x2) + (Int32.toInt64 x3)) (Int32.toInt64 (r1.2.1 9 x1.toNatClampNeg))) then
          some (iv 0, r1.2)
        else
          some (iv 1, r1.2)) else none := rfl
def EX8_valueAt (N d : Nat) : Nat → Nat → LO → AH → Option RES := exec (CX8_valueAt (arun N d)) []
theorem enX8_valueAt (N d : Nat) (q0 : Nat) (x1 : Int32) (x2 : Int32) (A : AH) : arun N (d + 1) 57 [rv (some q0), iv x1, iv x2] A = EX8_valueAt N d N 0 [some (rv (some q0)), some (iv x1), some (iv x2)] A := rfl
set_option maxRecDepth 10000 in
theorem sgX8_valueAt_1_0 (N d n : Nat) (x1 : Int32) (x2 : Int32) (I : Nat → Nat → Int32) (J : Nat → Nat → Int64) (cd : Nat × Nat) : EX8_valueAt N d (n + 1) 0 [some (rv (some 1)), some (iv x1), some (iv x2)] (I, J, cd) =
  (cI (arun N d) 55 [rv (some 1), iv x1, iv x2] (I, J, cd)).bind fun r1 => if r1.1 = 0 then
    some (iv 0, r1.2)
  else
    if inb x1 6 then ((RF r1.2.2.2 2 x1.toNatClampNeg).bind fun b2 => if inb x2 (alen 0 b2) then (some (iv (r1.2.1 b2 x2.toNatClampNeg), r1.2)) else none) else none := rfl
set_option maxRecDepth 10000 in
theorem sgX8_valueAt_10_0 (N d n : Nat) (x1 : Int32) (x2 : Int32) (I : Nat → Nat → Int32) (J : Nat → Nat → Int64) (cd : Nat × Nat) : EX8_valueAt N d (n + 1) 0 [some (rv (some 10)), some (iv x1), some (iv x2)] (I, J, cd) =
  (cI (arun N d) 55 [rv (some 10), iv x1, iv x2] (I, J, cd)).bind fun r1 => if r1.1 = 0 then
    some (iv 0, r1.2)
  else
    if inb x1 4 then ((RF r1.2.2.2 11 x1.toNatClampNeg).bind fun b2 => if inb x2 (alen 0 b2) then (some (iv (r1.2.1 b2 x2.toNatClampNeg), r1.2)) else none) else none := rfl
def EX8_change (N d : Nat) : Nat → Nat → LO → AH → Option RES := exec (CX8_change (arun N d)) []
theorem enX8_change (N d : Nat) (q0 : Nat) (x1 : Int32) (x2 : Int32) (x3 : Int32) (A : AH) : arun N (d + 1) 58 [rv (some q0), iv x1, iv x2, iv x3] A = EX8_change N d N 0 [some (rv (some q0)), some (iv x1), some (iv x2), some (iv x3)] A := rfl
set_option maxRecDepth 10000 in
theorem sgX8_change_1_0 (N d n : Nat) (x1 : Int32) (x2 : Int32) (x3 : Int32) (I : Nat → Nat → Int32) (J : Nat → Nat → Int64) (cd : Nat × Nat) : EX8_change N d (n + 1) 0 [some (rv (some 1)), some (iv x1), some (iv x2), some (iv x3)] (I, J, cd) =
  (cI (arun N d) 55 [rv (some 1), iv x1, iv x2] (I, J, cd)).bind fun r1 => if r1.1 = 0 then
    some (rv none, r1.2)
  else
    if inb x1 6 then ((RF r1.2.2.2 2 x1.toNatClampNeg).bind fun b2 => if inb x2 (alen 0 b2) then (some (rv none, (wr r1.2.1 b2 x2.toNatClampNeg x3, r1.2.2.1, r1.2.2.2))) else none) else none := rfl
set_option maxRecDepth 10000 in
theorem sgX8_change_10_0 (N d n : Nat) (x1 : Int32) (x2 : Int32) (x3 : Int32) (I : Nat → Nat → Int32) (J : Nat → Nat → Int64) (cd : Nat × Nat) : EX8_change N d (n + 1) 0 [some (rv (some 10)), some (iv x1), some (iv x2), some (iv x3)] (I, J, cd) =
  (cI (arun N d) 55 [rv (some 10), iv x1, iv x2] (I, J, cd)).bind fun r1 => if r1.1 = 0 then
    some (rv none, r1.2)
  else
    if inb x1 4 then ((RF r1.2.2.2 11 x1.toNatClampNeg).bind fun b2 => if inb x2 (alen 0 b2) then (some (rv none, (wr r1.2.1 b2 x2.toNatClampNeg x3, r1.2.2.1, r1.2.2.2))) else none) else none := rfl
def EX8_make (N d : Nat) : Nat → Nat → LO → AH → Option RES := exec (CX8_make (arun N d)) [(30, [0, 1, 2, 3, 4])]
theorem enX8_make (N d : Nat) (q0 : Nat) (x1 : Int32) (x2 : Int32) (x3 : Int32) (A : AH) : arun N (d + 1) 59 [rv (some q0), iv x1, iv x2, iv x3] A = EX8_make N d N 0 [some (rv (some q0)), some (iv x1), some (iv x2), some (iv x3), none] A := rfl
set_option maxRecDepth 10000 in
theorem sgX8_make_1_0 (N d n : Nat) (x1 : Int32) (x2 : Int32) (x3 : Int32) (I : Nat → Nat → Int32) (J : Nat → Nat → Int64) (cd : Nat × Nat) : EX8_make N d (n + 1) 0 [some (rv (some 1)), some (iv x1), some (iv x2), some (iv x3), none] (I, J, cd) =
  (cI (arun N d) 52 [rv (some 1), iv x1] (I, J, cd)).bind fun r1 => if r1.1 = 0 then
    some (rv none, r1.2)
  else
    if x2 < 0 then
      some (rv none, r1.2)
    else
      if (r1.2.1 1 0) < x2 then
        some (rv none, r1.2)
      else
        if inb x1 6 then (EX8_make N d n 30 [some (rv (some 1)), some (iv x1), some (iv x2), some (iv x3), some (iv 0)] (wr r1.2.1 9 x1.toNatClampNeg x2, r1.2.2.1, r1.2.2.2)) else none := rfl
set_option maxRecDepth 10000 in
theorem sgX8_make_1_30 (N d n : Nat) (x1 : Int32) (x2 : Int32) (x3 : Int32) (x4 : Int32) (I : Nat → Nat → Int32) (J : Nat → Nat → Int64) (cd : Nat × Nat) : EX8_make N d (n + 1) 30 [some (rv (some 1)), some (iv x1), some (iv x2), some (iv x3), some (iv x4)] (I, J, cd) =
  if x2 ≤ x4 then
    some (rv none, (I, J, cd))
  else
    if inb x1 6 then ((RF cd 2 x1.toNatClampNeg).bind fun b1 => if inb x4 (alen 0 b1) then (EX8_make N d n 30 [some (rv (some 1)), some (iv x1), some (iv x2), some (iv x3), some (iv (x4 + 1))] (wr I b1 x4.toNatClampNeg x3, J, cd)) else none) else none := rfl
set_option maxRecDepth 10000 in
theorem sgX8_make_10_0 (N d n : Nat) (x1 : Int32) (x2 : Int32) (x3 : Int32) (I : Nat → Nat → Int32) (J : Nat → Nat → Int64) (cd : Nat × Nat) : EX8_make N d (n + 1) 0 [some (rv (some 10)), some (iv x1), some (iv x2), some (iv x3), none] (I, J, cd) =
  (cI (arun N d) 52 [rv (some 10), iv x1] (I, J, cd)).bind fun r1 => if r1.1 = 0 then
    some (rv none, r1.2)
  else
    if x2 < 0 then
      some (rv none, r1.2)
    else
      if (r1.2.1 10 0) < x2 then
        some (rv none, r1.2)
      else
        if inb x1 4 then (EX8_make N d n 30 [some (rv (some 10)), some (iv x1), some (iv x2), some (iv x3), some (iv 0)] (wr r1.2.1 16 x1.toNatClampNeg x2, r1.2.2.1, r1.2.2.2)) else none := rfl
set_option maxRecDepth 10000 in
theorem sgX8_make_10_30 (N d n : Nat) (x1 : Int32) (x2 : Int32) (x3 : Int32) (x4 : Int32) (I : Nat → Nat → Int32) (J : Nat → Nat → Int64) (cd : Nat × Nat) : EX8_make N d (n + 1) 30 [some (rv (some 10)), some (iv x1), some (iv x2), some (iv x3), some (iv x4)] (I, J, cd) =
  if x2 ≤ x4 then
    some (rv none, (I, J, cd))
  else
    if inb x1 4 then ((RF cd 11 x1.toNatClampNeg).bind fun b1 => if inb x4 (alen 0 b1) then (EX8_make N d n 30 [some (rv (some 10)), some (iv x1), some (iv x2), some (iv x3), some (iv (x4 + 1))] (wr I b1 x4.toNatClampNeg x3, J, cd)) else none) else none := rfl
def EX8_take (N d : Nat) : Nat → Nat → LO → AH → Option RES := exec (CX8_take (arun N d)) [(10, [0, 1, 2, 3, 4])]
theorem enX8_take (N d : Nat) (q0 : Nat) (x1 : Int32) (q2 : Nat) (x3 : Int32) (A : AH) : arun N (d + 1) 60 [rv (some q0), iv x1, rv (some q2), iv x3] A = EX8_take N d N 0 [some (rv (some q0)), some (iv x1), some (rv (some q2)), some (iv x3), none] A := rfl
set_option maxRecDepth 10000 in
theorem sgX8_take_0 (N d n : Nat) (x1 : Int32) (x3 : Int32) (I : Nat → Nat → Int32) (J : Nat → Nat → Int64) (cd : Nat × Nat) : EX8_take N d (n + 1) 0 [some (rv (some 1)), some (iv x1), some (rv (some 50)), some (iv x3), none] (I, J, cd) =
  (cV (arun N d) 59 [rv (some 1), iv x1, iv x3, iv 0] (I, J, cd)).bind fun r1 => EX8_take N d n 10 [some (rv (some 1)), some (iv x1), some (rv (some 50)), some (iv x3), some (iv 0)] r1 := rfl
set_option maxRecDepth 10000 in
theorem sgX8_take_10 (N d n : Nat) (x1 : Int32) (x3 : Int32) (x4 : Int32) (I : Nat → Nat → Int32) (J : Nat → Nat → Int64) (cd : Nat × Nat) : EX8_take N d (n + 1) 10 [some (rv (some 1)), some (iv x1), some (rv (some 50)), some (iv x3), some (iv x4)] (I, J, cd) =
  if x3 ≤ x4 then
    some (rv none, (I, J, cd))
  else
    if (nI 4) ≤ x4 then
      some (rv none, (I, J, cd))
    else
      if inb x4 4 then ((cV (arun N d) 58 [rv (some 1), iv x1, iv x4, iv (I 50 x4.toNatClampNeg)] (I, J, cd)).bind fun r1 => EX8_take N d n 10 [some (rv (some 1)), some (iv x1), some (rv (some 50)), some (iv x3), some (iv (x4 + 1))] r1) else none := rfl
def EX8_giveTo (N d : Nat) : Nat → Nat → LO → AH → Option RES := exec (CX8_giveTo (arun N d)) [(2, [0, 1, 2, 3])]
theorem enX8_giveTo (N d : Nat) (q0 : Nat) (x1 : Int32) (q2 : Nat) (A : AH) : arun N (d + 1) 61 [rv (some q0), iv x1, rv (some q2)] A = EX8_giveTo N d N 0 [some (rv (some q0)), some (iv x1), some (rv (some q2)), none] A := rfl
set_option maxRecDepth 10000 in
theorem sgX8_giveTo_49_0 (N d n : Nat) (x1 : Int32) (I : Nat → Nat → Int32) (J : Nat → Nat → Int64) (cd : Nat × Nat) : EX8_giveTo N d (n + 1) 0 [some (rv (some 1)), some (iv x1), some (rv (some 49)), none] (I, J, cd) =
  EX8_giveTo N d n 2 [some (rv (some 1)), some (iv x1), some (rv (some 49)), some (iv 0)] (I, J, cd) := rfl
set_option maxRecDepth 10000 in
theorem sgX8_giveTo_49_2 (N d n : Nat) (x1 : Int32) (x3 : Int32) (I : Nat → Nat → Int32) (J : Nat → Nat → Int64) (cd : Nat × Nat) : EX8_giveTo N d (n + 1) 2 [some (rv (some 1)), some (iv x1), some (rv (some 49)), some (iv x3)] (I, J, cd) =
  (cI (arun N d) 54 [rv (some 1), iv x1] (I, J, cd)).bind fun r1 => if r1.1 ≤ x3 then
    some (rv none, r1.2)
  else
    if (nI 4) ≤ x3 then
      some (rv none, r1.2)
    else
      if inb x1 6 then ((RF r1.2.2.2 2 x1.toNatClampNeg).bind fun b2 => if inb x3 (alen 0 b2) then (if inb x3 4 then (EX8_giveTo N d n 2 [some (rv (some 1)), some (iv x1), some (rv (some 49)), some (iv (x3 + 1))] (wr r1.2.1 49 x3.toNatClampNeg (r1.2.1 b2 x3.toNatClampNeg), r1.2.2.1, r1.2.2.2)) else none) else none) else none := rfl
set_option maxRecDepth 10000 in
theorem sgX8_giveTo_62_0 (N d n : Nat) (x1 : Int32) (I : Nat → Nat → Int32) (J : Nat → Nat → Int64) (cd : Nat × Nat) : EX8_giveTo N d (n + 1) 0 [some (rv (some 1)), some (iv x1), some (rv (some 62)), none] (I, J, cd) =
  EX8_giveTo N d n 2 [some (rv (some 1)), some (iv x1), some (rv (some 62)), some (iv 0)] (I, J, cd) := rfl
set_option maxRecDepth 10000 in
theorem sgX8_giveTo_62_2 (N d n : Nat) (x1 : Int32) (x3 : Int32) (I : Nat → Nat → Int32) (J : Nat → Nat → Int64) (cd : Nat × Nat) : EX8_giveTo N d (n + 1) 2 [some (rv (some 1)), some (iv x1), some (rv (some 62)), some (iv x3)] (I, J, cd) =
  (cI (arun N d) 54 [rv (some 1), iv x1] (I, J, cd)).bind fun r1 => if r1.1 ≤ x3 then
    some (rv none, r1.2)
  else
    if (nI 4) ≤ x3 then
      some (rv none, r1.2)
    else
      if inb x1 6 then ((RF r1.2.2.2 2 x1.toNatClampNeg).bind fun b2 => if inb x3 (alen 0 b2) then (if inb x3 4 then (EX8_giveTo N d n 2 [some (rv (some 1)), some (iv x1), some (rv (some 62)), some (iv (x3 + 1))] (wr r1.2.1 62 x3.toNatClampNeg (r1.2.1 b2 x3.toNatClampNeg), r1.2.2.1, r1.2.2.2)) else none) else none) else none := rfl
set_option maxRecDepth 10000 in
theorem sgX8_giveTo_18_0 (N d n : Nat) (x1 : Int32) (I : Nat → Nat → Int32) (J : Nat → Nat → Int64) (cd : Nat × Nat) : EX8_giveTo N d (n + 1) 0 [some (rv (some 10)), some (iv x1), some (rv (some 18)), none] (I, J, cd) =
  EX8_giveTo N d n 2 [some (rv (some 10)), some (iv x1), some (rv (some 18)), some (iv 0)] (I, J, cd) := rfl
set_option maxRecDepth 10000 in
theorem sgX8_giveTo_18_2 (N d n : Nat) (x1 : Int32) (x3 : Int32) (I : Nat → Nat → Int32) (J : Nat → Nat → Int64) (cd : Nat × Nat) : EX8_giveTo N d (n + 1) 2 [some (rv (some 10)), some (iv x1), some (rv (some 18)), some (iv x3)] (I, J, cd) =
  (cI (arun N d) 54 [rv (some 10), iv x1] (I, J, cd)).bind fun r1 => if r1.1 ≤ x3 then
    some (rv none, r1.2)
  else
    if (nI 60) ≤ x3 then
      some (rv none, r1.2)
    else
      if inb x1 4 then ((RF r1.2.2.2 11 x1.toNatClampNeg).bind fun b2 => if inb x3 (alen 0 b2) then (if inb x3 60 then (EX8_giveTo N d n 2 [some (rv (some 10)), some (iv x1), some (rv (some 18)), some (iv (x3 + 1))] (wr r1.2.1 18 x3.toNatClampNeg (r1.2.1 b2 x3.toNatClampNeg), r1.2.2.1, r1.2.2.2)) else none) else none) else none := rfl
def EX8_drop (N d : Nat) : Nat → Nat → LO → AH → Option RES := exec (CX8_drop (arun N d)) []
theorem enX8_drop (N d : Nat) (q0 : Nat) (x1 : Int32) (A : AH) : arun N (d + 1) 62 [rv (some q0), iv x1] A = EX8_drop N d N 0 [some (rv (some q0)), some (iv x1)] A := rfl
set_option maxRecDepth 10000 in
theorem sgX8_drop_0 (N d n : Nat) (x1 : Int32) (I : Nat → Nat → Int32) (J : Nat → Nat → Int64) (cd : Nat × Nat) : EX8_drop N d (n + 1) 0 [some (rv (some 1)), some (iv x1)] (I, J, cd) =
  (cI (arun N d) 52 [rv (some 1), iv x1] (I, J, cd)).bind fun r1 => if r1.1 = 0 then
    some (rv none, r1.2)
  else
    if inb x1 6 then (some (rv none, (wr r1.2.1 9 x1.toNatClampNeg ((-1)), r1.2.2.1, r1.2.2.2))) else none := rfl
def EX8_transfer (N d : Nat) : Nat → Nat → LO → AH → Option RES := exec (CX8_transfer (arun N d)) []
theorem enX8_transfer (N d : Nat) (q0 : Nat) (x1 : Int32) (x2 : Int32) (x3 : Int32) (x4 : Int32) (x5 : Int32) (A : AH) : arun N (d + 1) 63 [rv (some q0), iv x1, iv x2, iv x3, iv x4, iv x5] A = EX8_transfer N d N 0 [some (rv (some q0)), some (iv x1), some (iv x2), some (iv x3), some (iv x4), some (iv x5)] A := rfl
set_option maxRecDepth 10000 in
theorem sgX8_transfer_0 (N d n : Nat) (x1 : Int32) (x2 : Int32) (x3 : Int32) (x4 : Int32) (x5 : Int32) (I : Nat → Nat → Int32) (J : Nat → Nat → Int64) (cd : Nat × Nat) : EX8_transfer N d (n + 1) 0 [some (rv (some 1)), some (iv x1), some (iv x2), some (iv x3), some (iv x4), some (iv x5)] (I, J, cd) =
  (cI (arun N d) 56 [rv (some 1), iv x1, iv x2, iv x5] (I, J, cd)).bind fun r1 => if r1.1 = 0 then
    some (rv none, r1.2)
  else
    (cI (arun N d) 56 [rv (some 1), iv x3, iv x4, iv x5] r1.2).bind fun r2 => if r2.1 = 0 then
      some (rv none, r2.2)
    else
      if inb x1 6 then (if inb x3 6 then ((RF r2.2.2.2 2 x1.toNatClampNeg).bind fun b3 => (RF r2.2.2.2 2 x3.toNatClampNeg).bind fun b4 => if okcp b3 b4 x2 x4 x5 then (some (rv none, (wrC r2.2.1 b4 (va_cpy (r2.2.1 b3) (r2.2.1 b4) x2.toNatClampNeg x4.toNatClampNeg x5.toNatClampNeg), r2.2.2.1, r2.2.2.2))) else none) else none) else none := rfl
def EX8_sumOf (N d : Nat) : Nat → Nat → LO → AH → Option RES := exec (CX8_sumOf (arun N d)) [(5, [0, 1, 2, 4])]
theorem enX8_sumOf (N d : Nat) (q0 : Nat) (x1 : Int32) (A : AH) : arun N (d + 1) 64 [rv (some q0), iv x1] A = EX8_sumOf N d N 0 [some (rv (some q0)), some (iv x1), none, none, none] A := rfl
set_option maxRecDepth 10000 in
theorem sgX8_sumOf_0 (N d n : Nat) (x1 : Int32) (I : Nat → Nat → Int32) (J : Nat → Nat → Int64) (cd : Nat × Nat) : EX8_sumOf N d (n + 1) 0 [some (rv (some 1)), some (iv x1), none, none, none] (I, J, cd) =
  EX8_sumOf N d n 5 [some (rv (some 1)), some (iv x1), some (jv 0), none, some (iv 0)] (I, J, cd) := rfl
set_option maxRecDepth 10000 in
theorem sgX8_sumOf_5 (N d n : Nat) (x1 : Int32) (y2 : Int64) (x4 : Int32) (I : Nat → Nat → Int32) (J : Nat → Nat → Int64) (cd : Nat × Nat) : EX8_sumOf N d (n + 1) 5 [some (rv (some 1)), some (iv x1), some (jv y2), none, some (iv x4)] (I, J, cd) =
  (cI (arun N d) 54 [rv (some 1), iv x1] (I, J, cd)).bind fun r1 => if r1.1 ≤ x4 then
    some (jv y2, r1.2)
  else
    if inb x1 6 then ((RF r1.2.2.2 2 x1.toNatClampNeg).bind fun b2 => if inb x4 (alen 0 b2) then (EX8_sumOf N d n 5 [some (rv (some 1)), some (iv x1), some (jv (y2 + (Int32.toInt64 (r1.2.1 b2 x4.toNatClampNeg)))), none, some (iv (x4 + 1))] r1.2) else none) else none := rfl
def EX8_allWithin (N d : Nat) : Nat → Nat → LO → AH → Option RES := exec (CX8_allWithin (arun N d)) [(2, [0, 1, 2, 3])]
theorem enX8_allWithin (N d : Nat) (q0 : Nat) (x1 : Int32) (x2 : Int32) (A : AH) : arun N (d + 1) 65 [rv (some q0), iv x1, iv x2] A = EX8_allWithin N d N 0 [some (rv (some q0)), some (iv x1), some (iv x2), none] A := rfl
set_option maxRecDepth 10000 in
theorem sgX8_allWithin_0 (N d n : Nat) (x1 : Int32) (x2 : Int32) (I : Nat → Nat → Int32) (J : Nat → Nat → Int64) (cd : Nat × Nat) : EX8_allWithin N d (n + 1) 0 [some (rv (some 1)), some (iv x1), some (iv x2), none] (I, J, cd) =
  EX8_allWithin N d n 2 [some (rv (some 1)), some (iv x1), some (iv x2), some (iv 0)] (I, J, cd) := rfl
set_option maxRecDepth 10000 in
theorem sgX8_allWithin_2 (N d n : Nat) (x1 : Int32) (x2 : Int32) (x3 : Int32) (I : Nat → Nat → Int32) (J : Nat → Nat → Int64) (cd : Nat × Nat) : EX8_allWithin N d (n + 1) 2 [some (rv (some 1)), some (iv x1), some (iv x2), some (iv x3)] (I, J, cd) =
  (cI (arun N d) 54 [rv (some 1), iv x1] (I, J, cd)).bind fun r1 => if r1.1 ≤ x3 then
    some (iv 1, r1.2)
  else
    if inb x1 6 then ((RF r1.2.2.2 2 x1.toNatClampNeg).bind fun b2 => if inb x3 (alen 0 b2) then (if (r1.2.1 b2 x3.toNatClampNeg) < 0 then
      some (iv 0, r1.2)
    else
      if inb x1 6 then ((RF r1.2.2.2 2 x1.toNatClampNeg).bind fun b3 => if inb x3 (alen 0 b3) then (if (r1.2.1 b3 x3.toNatClampNeg) ≤ x2 then
        EX8_allWithin N d n 2 [some (rv (some 1)), some (iv x1), some (iv x2), some (iv (x3 + 1))] r1.2
      else
        some (iv 0, r1.2)) else none) else none) else none) else none := rfl
def EX8_howMany (N d : Nat) : Nat → Nat → LO → AH → Option RES := exec (CX8_howMany (arun N d)) [(4, [0, 1, 2])]
theorem enX8_howMany (N d : Nat) (q0 : Nat) (A : AH) : arun N (d + 1) 66 [rv (some q0)] A = EX8_howMany N d N 0 [some (rv (some q0)), none, none] A := rfl
set_option maxRecDepth 10000 in
theorem sgX8_howMany_1_0 (N d n : Nat)  (I : Nat → Nat → Int32) (J : Nat → Nat → Int64) (cd : Nat × Nat) : EX8_howMany N d (n + 1) 0 [some (rv (some 1)), none, none] (I, J, cd) =
  EX8_howMany N d n 4 [some (rv (some 1)), some (iv 0), some (iv 0)] (I, J, cd) := rfl
set_option maxRecDepth 10000 in
theorem sgX8_howMany_1_4 (N d n : Nat) (x1 : Int32) (x2 : Int32) (I : Nat → Nat → Int32) (J : Nat → Nat → Int64) (cd : Nat × Nat) : EX8_howMany N d (n + 1) 4 [some (rv (some 1)), some (iv x1), some (iv x2)] (I, J, cd) =
  if (nI 6) ≤ x2 then
    some (iv x1, (I, J, cd))
  else
    (cI (arun N d) 53 [rv (some 1), iv x2] (I, J, cd)).bind fun r1 => if r1.1 = 0 then
      EX8_howMany N d n 4 [some (rv (some 1)), some (iv (x1 + 0)), some (iv (x2 + 1))] r1.2
    else
      EX8_howMany N d n 4 [some (rv (some 1)), some (iv (x1 + 1)), some (iv (x2 + 1))] r1.2 := rfl
set_option maxRecDepth 10000 in
theorem sgX8_howMany_10_0 (N d n : Nat)  (I : Nat → Nat → Int32) (J : Nat → Nat → Int64) (cd : Nat × Nat) : EX8_howMany N d (n + 1) 0 [some (rv (some 10)), none, none] (I, J, cd) =
  EX8_howMany N d n 4 [some (rv (some 10)), some (iv 0), some (iv 0)] (I, J, cd) := rfl
set_option maxRecDepth 10000 in
theorem sgX8_howMany_10_4 (N d n : Nat) (x1 : Int32) (x2 : Int32) (I : Nat → Nat → Int32) (J : Nat → Nat → Int64) (cd : Nat × Nat) : EX8_howMany N d (n + 1) 4 [some (rv (some 10)), some (iv x1), some (iv x2)] (I, J, cd) =
  if (nI 4) ≤ x2 then
    some (iv x1, (I, J, cd))
  else
    (cI (arun N d) 53 [rv (some 10), iv x2] (I, J, cd)).bind fun r1 => if r1.1 = 0 then
      EX8_howMany N d n 4 [some (rv (some 10)), some (iv (x1 + 0)), some (iv (x2 + 1))] r1.2
    else
      EX8_howMany N d n 4 [some (rv (some 10)), some (iv (x1 + 1)), some (iv (x2 + 1))] r1.2 := rfl
def EX8_mixInto (N d : Nat) : Nat → Nat → LO → AH → Option RES := exec (CX8_mixInto (arun N d)) [(2, [0, 1, 3]), (28, [0, 1, 3, 4])]
theorem enX8_mixInto (N d : Nat) (q0 : Nat) (y1 : Int64) (A : AH) : arun N (d + 1) 67 [rv (some q0), jv y1] A = EX8_mixInto N d N 0 [some (rv (some q0)), some (jv y1), none, none, none] A := rfl
set_option maxRecDepth 10000 in
theorem sgX8_mixInto_1_0 (N d n : Nat) (y1 : Int64) (I : Nat → Nat → Int32) (J : Nat → Nat → Int64) (cd : Nat × Nat) : EX8_mixInto N d (n + 1) 0 [some (rv (some 1)), some (jv y1), none, none, none] (I, J, cd) =
  EX8_mixInto N d n 2 [some (rv (some 1)), some (jv y1), none, some (iv 0), none] (I, J, cd) := rfl
set_option maxRecDepth 10000 in
theorem sgX8_mixInto_1_2 (N d n : Nat) (y1 : Int64) (x3 : Int32) (I : Nat → Nat → Int32) (J : Nat → Nat → Int64) (cd : Nat × Nat) : EX8_mixInto N d (n + 1) 2 [some (rv (some 1)), some (jv y1), none, some (iv x3), none] (I, J, cd) =
  if (nI 6) ≤ x3 then
    some (jv y1, (I, J, cd))
  else
    if inb x3 6 then (EX8_mixInto N d n 28 [some (rv (some 1)), some (jv ((31 * y1) + (Int32.toInt64 (I 9 x3.toNatClampNeg)))), none, some (iv x3), some (iv 0)] (I, J, cd)) else none := rfl
set_option maxRecDepth 10000 in
theorem sgX8_mixInto_1_28 (N d n : Nat) (y1 : Int64) (x3 : Int32) (x4 : Int32) (I : Nat → Nat → Int32) (J : Nat → Nat → Int64) (cd : Nat × Nat) : EX8_mixInto N d (n + 1) 28 [some (rv (some 1)), some (jv y1), none, some (iv x3), some (iv x4)] (I, J, cd) =
  (cI (arun N d) 54 [rv (some 1), iv x3] (I, J, cd)).bind fun r1 => if r1.1 ≤ x4 then
    EX8_mixInto N d n 2 [some (rv (some 1)), some (jv y1), none, some (iv (x3 + 1)), none] r1.2
  else
    if inb x3 6 then ((RF r1.2.2.2 2 x3.toNatClampNeg).bind fun b2 => if inb x4 (alen 0 b2) then (EX8_mixInto N d n 28 [some (rv (some 1)), some (jv ((31 * y1) + (Int32.toInt64 (r1.2.1 b2 x4.toNatClampNeg)))), none, some (iv x3), some (iv (x4 + 1))] r1.2) else none) else none := rfl
set_option maxRecDepth 10000 in
theorem sgX8_mixInto_10_0 (N d n : Nat) (y1 : Int64) (I : Nat → Nat → Int32) (J : Nat → Nat → Int64) (cd : Nat × Nat) : EX8_mixInto N d (n + 1) 0 [some (rv (some 10)), some (jv y1), none, none, none] (I, J, cd) =
  EX8_mixInto N d n 2 [some (rv (some 10)), some (jv y1), none, some (iv 0), none] (I, J, cd) := rfl
set_option maxRecDepth 10000 in
theorem sgX8_mixInto_10_2 (N d n : Nat) (y1 : Int64) (x3 : Int32) (I : Nat → Nat → Int32) (J : Nat → Nat → Int64) (cd : Nat × Nat) : EX8_mixInto N d (n + 1) 2 [some (rv (some 10)), some (jv y1), none, some (iv x3), none] (I, J, cd) =
  if (nI 4) ≤ x3 then
    some (jv y1, (I, J, cd))
  else
    if inb x3 4 then (EX8_mixInto N d n 28 [some (rv (some 10)), some (jv ((31 * y1) + (Int32.toInt64 (I 16 x3.toNatClampNeg)))), none, some (iv x3), some (iv 0)] (I, J, cd)) else none := rfl
set_option maxRecDepth 10000 in
theorem sgX8_mixInto_10_28 (N d n : Nat) (y1 : Int64) (x3 : Int32) (x4 : Int32) (I : Nat → Nat → Int32) (J : Nat → Nat → Int64) (cd : Nat × Nat) : EX8_mixInto N d (n + 1) 28 [some (rv (some 10)), some (jv y1), none, some (iv x3), some (iv x4)] (I, J, cd) =
  (cI (arun N d) 54 [rv (some 10), iv x3] (I, J, cd)).bind fun r1 => if r1.1 ≤ x4 then
    EX8_mixInto N d n 2 [some (rv (some 10)), some (jv y1), none, some (iv (x3 + 1)), none] r1.2
  else
    if inb x3 4 then ((RF r1.2.2.2 11 x3.toNatClampNeg).bind fun b2 => if inb x4 (alen 0 b2) then (EX8_mixInto N d n 28 [some (rv (some 10)), some (jv ((31 * y1) + (Int32.toInt64 (r1.2.1 b2 x4.toNatClampNeg)))), none, some (iv x3), some (iv (x4 + 1))] r1.2) else none) else none := rfl
def EX9_row (N d : Nat) : Nat → Nat → LO → AH → Option RES := exec (CX9_row (arun N d)) []
theorem enX9_row (N d : Nat) (q0 : Nat) (x1 : Int32) (x2 : Int32) (A : AH) : arun N (d + 1) 68 [rv (some q0), iv x1, iv x2] A = EX9_row N d N 0 [some (rv (some q0)), some (iv x1), some (iv x2)] A := rfl
set_option maxRecDepth 10000 in
theorem sgX9_row_0 (N d n : Nat) (x1 : Int32) (x2 : Int32) (I : Nat → Nat → Int32) (J : Nat → Nat → Int64) : EX9_row N d (n + 1) 0 [some (rv (some 0)), some (iv x1), some (iv x2)] (I, J, 73, 80) =
  (cI (arun N d) 116 [rv (some 0), rv (some 1), iv x1, iv x2, iv 0] (I, J, 73, 80)).bind fun r1 => some (iv r1.1, r1.2) := rfl
def EX9_lay (N d : Nat) : Nat → Nat → LO → AH → Option RES := exec (CX9_lay (arun N d)) []
theorem enX9_lay (N d : Nat) (q0 : Nat) (x1 : Int32) (x2 : Int32) (x3 : Int32) (A : AH) : arun N (d + 1) 69 [rv (some q0), iv x1, iv x2, iv x3] A = EX9_lay N d N 0 [some (rv (some q0)), some (iv x1), some (iv x2), some (iv x3), none, none] A := rfl
set_option maxRecDepth 10000 in
theorem sgX9_lay_0 (N d n : Nat) (x1 : Int32) (x2 : Int32) (x3 : Int32) (I : Nat → Nat → Int32) (J : Nat → Nat → Int64) : EX9_lay N d (n + 1) 0 [some (rv (some 0)), some (iv x1), some (iv x2), some (iv x3), none, none] (I, J, 73, 80) =
  (cI (arun N d) 118 [rv (some 0), rv (some 1), iv x1, iv x2] (I, J, 73, 80)).bind fun r1 => if r1.1 = 0 then
    (cI (arun N d) 57 [rv (some 1), iv x1, iv x2] r1.2).bind fun r2 => (cV (arun N d) 58 [rv (some 1), iv x1, iv x2, iv x3] r2.2).bind fun r3 => (cI (arun N d) 112 [rv (some 0), iv r2.1] r3).bind fun r4 => some (iv r4.1, r4.2)
  else
    some (iv r1.1, r1.2) := rfl
def EX9_at (N d : Nat) : Nat → Nat → LO → AH → Option RES := exec (CX9_at (arun N d)) []
theorem enX9_at (N d : Nat) (q0 : Nat) (x1 : Int32) (x2 : Int32) (A : AH) : arun N (d + 1) 70 [rv (some q0), iv x1, iv x2] A = EX9_at N d N 0 [some (rv (some q0)), some (iv x1), some (iv x2), none] A := rfl
set_option maxRecDepth 10000 in
theorem sgX9_at_0 (N d n : Nat) (x1 : Int32) (x2 : Int32) (I : Nat → Nat → Int32) (J : Nat → Nat → Int64) : EX9_at N d (n + 1) 0 [some (rv (some 0)), some (iv x1), some (iv x2), none] (I, J, 73, 80) =
  (cI (arun N d) 118 [rv (some 0), rv (some 1), iv x1, iv x2] (I, J, 73, 80)).bind fun r1 => if r1.1 = 0 then
    (cI (arun N d) 57 [rv (some 1), iv x1, iv x2] r1.2).bind fun r2 => (cI (arun N d) 112 [rv (some 0), iv r2.1] r2.2).bind fun r3 => some (iv r3.1, r3.2)
  else
    some (iv r1.1, r1.2) := rfl
def EX9_tear (N d : Nat) : Nat → Nat → LO → AH → Option RES := exec (CX9_tear (arun N d)) []
theorem enX9_tear (N d : Nat) (q0 : Nat) (x1 : Int32) (A : AH) : arun N (d + 1) 71 [rv (some q0), iv x1] A = EX9_tear N d N 0 [some (rv (some q0)), some (iv x1), none] A := rfl
set_option maxRecDepth 10000 in
theorem sgX9_tear_0 (N d n : Nat) (x1 : Int32) (I : Nat → Nat → Int32) (J : Nat → Nat → Int64) : EX9_tear N d (n + 1) 0 [some (rv (some 0)), some (iv x1), none] (I, J, 73, 80) =
  (cI (arun N d) 117 [rv (some 0), rv (some 1), iv x1] (I, J, 73, 80)).bind fun r1 => if r1.1 = 0 then
    (cV (arun N d) 62 [rv (some 1), iv x1] r1.2).bind fun r2 => some (iv 1, r2)
  else
    some (iv r1.1, r1.2) := rfl
def EX9_copy (N d : Nat) : Nat → Nat → LO → AH → Option RES := exec (CX9_copy (arun N d)) [(57, [0]), (92, [0])]
theorem enX9_copy (N d : Nat) (q0 : Nat) (x1 : Int32) (x2 : Int32) (x3 : Int32) (x4 : Int32) (x5 : Int32) (A : AH) : arun N (d + 1) 72 [rv (some q0), iv x1, iv x2, iv x3, iv x4, iv x5] A = EX9_copy N d N 0 [some (rv (some q0)), some (iv x1), some (iv x2), some (iv x3), some (iv x4), some (iv x5)] A := rfl
set_option maxRecDepth 10000 in
theorem sgX9_copy_0 (N d n : Nat) (x1 : Int32) (x2 : Int32) (x3 : Int32) (x4 : Int32) (x5 : Int32) (I : Nat → Nat → Int32) (J : Nat → Nat → Int64) : EX9_copy N d (n + 1) 0 [some (rv (some 0)), some (iv x1), some (iv x2), some (iv x3), some (iv x4), some (iv x5)] (I, J, 73, 80) =
  (cI (arun N d) 52 [rv (some 1), iv x1] (I, J, 73, 80)).bind fun r1 => if r1.1 = 0 then
    some (iv ((-1)), r1.2)
  else
    (cI (arun N d) 52 [rv (some 1), iv x3] r1.2).bind fun r2 => if r2.1 = 0 then
      some (iv ((-1)), r2.2)
    else
      if 0 ≤ x5 then
        (cI (arun N d) 53 [rv (some 1), iv x1] r2.2).bind fun r3 => if r3.1 = 0 then
          EX9_copy N d n 57 [some (rv (some 0)), none, none, none, none, none] r3.2
        else
          (cI (arun N d) 53 [rv (some 1), iv x3] r3.2).bind fun r4 => if r4.1 = 0 then
            EX9_copy N d n 57 [some (rv (some 0)), none, none, none, none, none] r4.2
          else
            (cI (arun N d) 56 [rv (some 1), iv x1, iv x2, iv x5] r4.2).bind fun r5 => if r5.1 = 0 then
              EX9_copy N d n 92 [some (rv (some 0)), none, none, none, none, none] r5.2
            else
              (cI (arun N d) 56 [rv (some 1), iv x3, iv x4, iv x5] r5.2).bind fun r6 => if r6.1 = 0 then
                EX9_copy N d n 92 [some (rv (some 0)), none, none, none, none, none] r6.2
              else
                (cV (arun N d) 63 [rv (some 1), iv x1, iv x2, iv x3, iv x4, iv x5] r6.2).bind fun r7 => some (iv 1, r7)
      else
        (cI (arun N d) 115 [rv (some 0), iv 5] r2.2).bind fun r8 => some (iv r8.1, r8.2) := rfl
set_option maxRecDepth 10000 in
theorem sgX9_copy_57 (N d n : Nat)  (I : Nat → Nat → Int32) (J : Nat → Nat → Int64) : EX9_copy N d (n + 1) 57 [some (rv (some 0)), none, none, none, none, none] (I, J, 73, 80) =
  (cI (arun N d) 115 [rv (some 0), iv 1] (I, J, 73, 80)).bind fun r1 => some (iv r1.1, r1.2) := rfl
set_option maxRecDepth 10000 in
theorem sgX9_copy_92 (N d n : Nat)  (I : Nat → Nat → Int32) (J : Nat → Nat → Int64) : EX9_copy N d (n + 1) 92 [some (rv (some 0)), none, none, none, none, none] (I, J, 73, 80) =
  (cI (arun N d) 115 [rv (some 0), iv 2] (I, J, 73, 80)).bind fun r1 => some (iv r1.1, r1.2) := rfl
def EX9_mean (N d : Nat) : Nat → Nat → LO → AH → Option RES := exec (CX9_mean (arun N d)) []
theorem enX9_mean (N d : Nat) (q0 : Nat) (x1 : Int32) (A : AH) : arun N (d + 1) 73 [rv (some q0), iv x1] A = EX9_mean N d N 0 [some (rv (some q0)), some (iv x1), none, none] A := rfl
set_option maxRecDepth 10000 in
theorem sgX9_mean_0 (N d n : Nat) (x1 : Int32) (I : Nat → Nat → Int32) (J : Nat → Nat → Int64) : EX9_mean N d (n + 1) 0 [some (rv (some 0)), some (iv x1), none, none] (I, J, 73, 80) =
  (cI (arun N d) 117 [rv (some 0), rv (some 1), iv x1] (I, J, 73, 80)).bind fun r1 => if r1.1 = 0 then
    (cI (arun N d) 54 [rv (some 1), iv x1] r1.2).bind fun r2 => if 1 ≤ r2.1 then
      (cJ (arun N d) 64 [rv (some 1), iv x1] r2.2).bind fun r3 => if (Int32.toInt64 r2.1) = (0 : Int64) then none else ((cI (arun N d) 112 [rv (some 0), iv (Int64.toInt32 (r3.1 / (Int32.toInt64 r2.1)))] r3.2).bind fun r4 => some (iv r4.1, r4.2))
    else
      (cI (arun N d) 115 [rv (some 0), iv 4] r2.2).bind fun r5 => some (iv r5.1, r5.2)
  else
    some (iv r1.1, r1.2) := rfl
def EX9_text (N d : Nat) : Nat → Nat → LO → AH → Option RES := exec (CX9_text (arun N d)) []
theorem enX9_text (N d : Nat) (q0 : Nat) (x1 : Int32) (x2 : Int32) (A : AH) : arun N (d + 1) 74 [rv (some q0), iv x1, iv x2] A = EX9_text N d N 0 [some (rv (some q0)), some (iv x1), some (iv x2)] A := rfl
set_option maxRecDepth 10000 in
theorem sgX9_text_0 (N d n : Nat) (x1 : Int32) (x2 : Int32) (I : Nat → Nat → Int32) (J : Nat → Nat → Int64) : EX9_text N d (n + 1) 0 [some (rv (some 0)), some (iv x1), some (iv x2)] (I, J, 73, 80) =
  (cI (arun N d) 116 [rv (some 0), rv (some 10), iv x1, iv x2, iv 32] (I, J, 73, 80)).bind fun r1 => some (iv r1.1, r1.2) := rfl
def EX9_put (N d : Nat) : Nat → Nat → LO → AH → Option RES := exec (CX9_put (arun N d)) []
theorem enX9_put (N d : Nat) (q0 : Nat) (x1 : Int32) (x2 : Int32) (x3 : Int32) (A : AH) : arun N (d + 1) 75 [rv (some q0), iv x1, iv x2, iv x3] A = EX9_put N d N 0 [some (rv (some q0)), some (iv x1), some (iv x2), some (iv x3), none, none] A := rfl
set_option maxRecDepth 10000 in
theorem sgX9_put_0 (N d n : Nat) (x1 : Int32) (x2 : Int32) (x3 : Int32) (I : Nat → Nat → Int32) (J : Nat → Nat → Int64) : EX9_put N d (n + 1) 0 [some (rv (some 0)), some (iv x1), some (iv x2), some (iv x3), none, none] (I, J, 73, 80) =
  (cI (arun N d) 118 [rv (some 0), rv (some 10), iv x1, iv x2] (I, J, 73, 80)).bind fun r1 => if r1.1 = 0 then
    (cI (arun N d) 57 [rv (some 10), iv x1, iv x2] r1.2).bind fun r2 => (cV (arun N d) 58 [rv (some 10), iv x1, iv x2, iv x3.toInt8.toInt32] r2.2).bind fun r3 => some (iv (r2.1 + 1000), r3)
  else
    some (iv r1.1, r1.2) := rfl
def EX9_fault (N d : Nat) : Nat → Nat → LO → AH → Option RES := exec (CX9_fault (arun N d)) []
theorem enX9_fault (N d : Nat) (q0 : Nat) (x1 : Int32) (A : AH) : arun N (d + 1) 76 [rv (some q0), iv x1] A = EX9_fault N d N 0 [some (rv (some q0)), some (iv x1), none] A := rfl
set_option maxRecDepth 10000 in
theorem sgX9_fault_0 (N d n : Nat) (x1 : Int32) (I : Nat → Nat → Int32) (J : Nat → Nat → Int64) : EX9_fault N d (n + 1) 0 [some (rv (some 0)), some (iv x1), none] (I, J, 73, 80) =
  (cI (arun N d) 117 [rv (some 0), rv (some 10), iv x1] (I, J, 73, 80)).bind fun r1 => if r1.1 = 0 then
    (cI (arun N d) 129 [rv (some 0), iv x1] r1.2).bind fun r2 => some (iv r2.1, r2.2)
  else
    some (iv r1.1, r1.2) := rfl
def EX9_river (N d : Nat) : Nat → Nat → LO → AH → Option RES := exec (CX9_river (arun N d)) [(58, [0, 4])]
theorem enX9_river (N d : Nat) (q0 : Nat) (x1 : Int32) (A : AH) : arun N (d + 1) 77 [rv (some q0), iv x1] A = EX9_river N d N 0 [some (rv (some q0)), some (iv x1), none, none, none] A := rfl
set_option maxRecDepth 10000 in
theorem sgX9_river_0 (N d n : Nat) (x1 : Int32) (I : Nat → Nat → Int32) (J : Nat → Nat → Int64) : EX9_river N d (n + 1) 0 [some (rv (some 0)), some (iv x1), none, none, none] (I, J, 73, 80) =
  (cI (arun N d) 117 [rv (some 0), rv (some 10), iv x1] (I, J, 73, 80)).bind fun r1 => if r1.1 = 0 then
    (cI (arun N d) 129 [rv (some 0), iv x1] r1.2).bind fun r2 => if r2.1 = ((-9)) then
      (cV (arun N d) 27 [rv (some 25), iv 0] (r2.2.1, r2.2.2.1, r2.2.2.2.2, r2.2.2.2.1)).bind fun r3 => EX9_river N d n 58 [some (rv (some 0)), none, none, none, some (iv 0)] r3
    else
      some (iv ((-4)), r2.2)
  else
    some (iv r1.1, r1.2) := rfl
set_option maxRecDepth 10000 in
theorem sgX9_river_58 (N d n : Nat) (x4 : Int32) (I : Nat → Nat → Int32) (J : Nat → Nat → Int64) : EX9_river N d (n + 1) 58 [some (rv (some 0)), none, none, none, some (iv x4)] (I, J, 80, 73) =
  if 3 ≤ x4 then
    (cV (arun N d) 128 [rv (some 0)] (I, J, 80, 73)).bind fun r1 => if okc r1.2.2.1 2 then (some (iv (r1.1 r1.2.2.1 0), r1)) else none
  else
    if inb x4 3 then (EX9_river N d n 58 [some (rv (some 0)), none, none, none, some (iv (x4 + 1))] (wr I 38 x4.toNatClampNeg (vp_nar .boolean 0), J, 80, 73)) else none := rfl
