/-! what a run from a place to the next ones gives -/
def EX10_begin (N d : Nat) : Nat → Nat → LO → AH → Option RES := exec (CX10_begin (arun N d)) []
theorem enX10_begin (N d : Nat) (q0 : Nat) (A : AH) : arun N (d + 1) 175 [rv (some q0)] A = EX10_begin N d N 0 [some (rv (some q0))] A := rfl
set_option maxRecDepth 10000 in
theorem sgX10_begin_0 (N d n : Nat)  (I : Nat → Nat → Int32) (J : Nat → Nat → Int64) (cd : Nat × Nat) : EX10_begin N d (n + 1) 0 [some (rv (some 87))] (I, J, cd) =
  (cV (arun N d) 173 [rv (some 87), rv (some 107), iv 0] (I, J, cd)).bind fun r1 => some (rv none, r1) := rfl
def EX10_back (N d : Nat) : Nat → Nat → LO → AH → Option RES := exec (CX10_back (arun N d)) []
theorem enX10_back (N d : Nat) (q0 : Nat) (A : AH) : arun N (d + 1) 176 [rv (some q0)] A = EX10_back N d N 0 [some (rv (some q0))] A := rfl
set_option maxRecDepth 10000 in
theorem sgX10_back_0 (N d n : Nat)  (I : Nat → Nat → Int32) (J : Nat → Nat → Int64) (cd : Nat × Nat) : EX10_back N d (n + 1) 0 [some (rv (some 87))] (I, J, cd) =
  (cV (arun N d) 174 [rv (some 87), rv (some 107), iv 0] (I, J, cd)).bind fun r1 => some (rv none, r1) := rfl
def EX10_runsFrom (N d : Nat) : Nat → Nat → LO → AH → Option RES := exec (CX10_runsFrom (arun N d)) [(40, [0, 1, 3])]
theorem enX10_runsFrom (N d : Nat) (q0 : Nat) (x1 : Int32) (x2 : Int32) (A : AH) : arun N (d + 1) 177 [rv (some q0), iv x1, iv x2] A = EX10_runsFrom N d N 0 [some (rv (some q0)), some (iv x1), some (iv x2), none] A := rfl
set_option maxRecDepth 10000 in
theorem sgX10_runsFrom_0 (N d n : Nat) (x1 : Int32) (x2 : Int32) (I : Nat → Nat → Int32) (J : Nat → Nat → Int64) (cd : Nat × Nat) : EX10_runsFrom N d (n + 1) 0 [some (rv (some 87)), some (iv x1), some (iv x2), none] (I, J, cd) =
  if inb x1 6 then (if inb x1 6 then ((cI (arun N d) 162 [iv (I 96 x1.toNatClampNeg)] (I, J, cd)).bind fun r1 => if r1.1 = 0 then
    EX10_runsFrom N d n 40 [some (rv (some 87)), some (iv x1), none, some (iv (I 98 x1.toNatClampNeg))] r1.2
  else
    (cI (arun N d) 140 [iv x2, iv x1] r1.2).bind fun r2 => if r2.1 = 0 then
      EX10_runsFrom N d n 40 [some (rv (some 87)), some (iv x1), none, some (iv (I 98 x1.toNatClampNeg))] r2.2
    else
      if inb x1 6 then ((cI (arun N d) 141 [iv 0, iv ((I 98 x1.toNatClampNeg) - (r2.2.1 97 x1.toNatClampNeg))] r2.2).bind fun r3 => some (iv r3.1, r3.2)) else none) else none) else none := rfl
set_option maxRecDepth 10000 in
theorem sgX10_runsFrom_40 (N d n : Nat) (x1 : Int32) (x3 : Int32) (I : Nat → Nat → Int32) (J : Nat → Nat → Int64) (cd : Nat × Nat) : EX10_runsFrom N d (n + 1) 40 [some (rv (some 87)), some (iv x1), none, some (iv x3)] (I, J, cd) =
  if inb x1 6 then (if (I 96 x1.toNatClampNeg) = 4 then
    if inb x1 6 then (if x3 ≤ (I 97 x1.toNatClampNeg) then
      some (iv x3, (I, J, cd))
    else
      if inb x1 6 then (some (iv (I 97 x1.toNatClampNeg), (I, J, cd))) else none) else none
  else
    some (iv x3, (I, J, cd))) else none := rfl
def EX10_grindsBy (N d : Nat) : Nat → Nat → LO → AH → Option RES := exec (CX10_grindsBy (arun N d)) []
theorem enX10_grindsBy (N d : Nat) (q0 : Nat) (x1 : Int32) (x2 : Int32) (A : AH) : arun N (d + 1) 178 [rv (some q0), iv x1, iv x2] A = EX10_grindsBy N d N 0 [some (rv (some q0)), some (iv x1), some (iv x2)] A := rfl
set_option maxRecDepth 10000 in
theorem sgX10_grindsBy_0 (N d n : Nat) (x1 : Int32) (x2 : Int32) (I : Nat → Nat → Int32) (J : Nat → Nat → Int64) (cd : Nat × Nat) : EX10_grindsBy N d (n + 1) 0 [some (rv (some 87)), some (iv x1), some (iv x2)] (I, J, cd) =
  if inb x1 6 then ((cI (arun N d) 163 [iv (I 96 x1.toNatClampNeg)] (I, J, cd)).bind fun r1 => if r1.1 = 0 then
    some (iv 0, r1.2)
  else
    if inb x1 6 then (if x2 < (r1.2.1 97 x1.toNatClampNeg) then
      some (iv 0, r1.2)
    else
      if inb x1 6 then (if (r1.2.1 96 x1.toNatClampNeg) = 2 then
        some (iv 1, r1.2)
      else
        if inb x1 6 then (if ((r1.2.1 97 x1.toNatClampNeg) + 2) < x2 then
          some (iv 0, r1.2)
        else
          some (iv 1, r1.2)) else none) else none) else none) else none := rfl
def EX10_pass (N d : Nat) : Nat → Nat → LO → AH → Option RES := exec (CX10_pass (arun N d)) [(7, [0, 1, 2]), (73, [0, 2, 3]), (130, [0, 2, 3, 4]), (155, [0, 2, 3, 4]), (175, [0, 2, 3])]
theorem enX10_pass (N d : Nat) (q0 : Nat) (x1 : Int32) (A : AH) : arun N (d + 1) 179 [rv (some q0), iv x1] A = EX10_pass N d N 0 [some (rv (some q0)), some (iv x1), none, none, none] A := rfl
set_option maxRecDepth 10000 in
theorem sgX10_pass_0 (N d n : Nat) (x1 : Int32) (I : Nat → Nat → Int32) (J : Nat → Nat → Int64) (cd : Nat × Nat) : EX10_pass N d (n + 1) 0 [some (rv (some 87)), some (iv x1), none, none, none] (I, J, cd) =
  EX10_pass N d n 7 [some (rv (some 87)), some (iv x1), some (iv 0), none, none] (wr I 87 31 0, J, cd) := rfl
set_option maxRecDepth 10000 in
theorem sgX10_pass_7 (N d n : Nat) (x1 : Int32) (x2 : Int32) (I : Nat → Nat → Int32) (J : Nat → Nat → Int64) (cd : Nat × Nat) : EX10_pass N d (n + 1) 7 [some (rv (some 87)), some (iv x1), some (iv x2), none, none] (I, J, cd) =
  if (I 87 10) ≤ x2 then
    EX10_pass N d n 73 [some (rv (some 87)), none, some (iv ((I 87 25) - (I 87 25) / 7 * 7)), some (iv 0), none] (I, J, cd)
  else
    (cI (arun N d) 177 [rv (some 87), iv x2, iv x1] (I, J, cd)).bind fun r1 => if inb x2 6 then (if inb x2 6 then ((cI (arun N d) 178 [rv (some 87), iv x2, iv ((wr r1.2.1 108 x2.toNatClampNeg r1.1) 108 x2.toNatClampNeg)] (wr r1.2.1 108 x2.toNatClampNeg r1.1, r1.2.2.1, r1.2.2.2)).bind fun r2 => if r2.1 = 0 then
      EX10_pass N d n 7 [some (rv (some 87)), some (iv x1), some (iv (x2 + 1)), none, none] (wr r2.2.1 87 31 ((r1.2.1 87 31) ||| 0), r2.2.2.1, r2.2.2.2)
    else
      EX10_pass N d n 7 [some (rv (some 87)), some (iv x1), some (iv (x2 + 1)), none, none] (wr r2.2.1 87 31 ((r1.2.1 87 31) ||| (1 <<< (x2 &&& 31))), r2.2.2.1, r2.2.2.2)) else none) else none := rfl
set_option maxRecDepth 10000 in
theorem sgX10_pass_73 (N d n : Nat) (x2 : Int32) (x3 : Int32) (I : Nat → Nat → Int32) (J : Nat → Nat → Int64) (cd : Nat × Nat) : EX10_pass N d (n + 1) 73 [some (rv (some 87)), none, some (iv x2), some (iv x3), none] (I, J, cd) =
  if (I 87 10) ≤ x3 then
    if inb ((I 87 10) - 1) 6 then (if inb x2 7 then (if inb (I 95 x2.toNatClampNeg) 7 then (if inb ((I 87 10) - 1) 6 then (if inb (I 95 x2.toNatClampNeg) 7 then (if inb ((I 87 10) - 1) 6 then (some (iv (I 108 (((I 87 10) - 1).toNatClampNeg)), (wr (wr (wr I 87 18 ((I 87 18) + (I 108 (((I 87 10) - 1).toNatClampNeg)))) 101 ((I 95 x2.toNatClampNeg).toNatClampNeg) ((I 101 ((I 95 x2.toNatClampNeg).toNatClampNeg)) + (I 108 (((I 87 10) - 1).toNatClampNeg)))) 87 25 ((I 87 25) + 1), J, cd))) else none) else none) else none) else none) else none) else none
  else
    if inb x3 6 then (if inb x3 6 then (if x3 ≤ 0 then
      if x2 = (I 87 32) then
        EX10_pass N d n 130 [some (rv (some 87)), none, some (iv x2), some (iv x3), some (iv (((I 98 x3.toNatClampNeg) - (I 108 x3.toNatClampNeg)) + 0))] (I, J, cd)
      else
        if inb x2 7 then (EX10_pass N d n 130 [some (rv (some 87)), none, some (iv x2), some (iv x3), some (iv (((I 98 x3.toNatClampNeg) - (I 108 x3.toNatClampNeg)) + (I 94 x2.toNatClampNeg)))] (I, J, cd)) else none
    else
      if inb (x3 - 1) 6 then (EX10_pass N d n 130 [some (rv (some 87)), none, some (iv x2), some (iv x3), some (iv (((I 98 x3.toNatClampNeg) - (I 108 x3.toNatClampNeg)) + (I 108 ((x3 - 1).toNatClampNeg))))] (I, J, cd)) else none) else none) else none := rfl
set_option maxRecDepth 10000 in
theorem sgX10_pass_130 (N d n : Nat) (x2 : Int32) (x3 : Int32) (x4 : Int32) (I : Nat → Nat → Int32) (J : Nat → Nat → Int64) (cd : Nat × Nat) : EX10_pass N d (n + 1) 130 [some (rv (some 87)), none, some (iv x2), some (iv x3), some (iv x4)] (I, J, cd) =
  if inb x3 6 then (if (I 96 x3.toNatClampNeg) = 3 then
    if x4 ≤ 0 then
      EX10_pass N d n 155 [some (rv (some 87)), none, some (iv x2), some (iv x3), some (iv (x4 - 0))] (I, J, cd)
    else
      EX10_pass N d n 155 [some (rv (some 87)), none, some (iv x2), some (iv x3), some (iv (x4 - 1))] (I, J, cd)
  else
    EX10_pass N d n 155 [some (rv (some 87)), none, some (iv x2), some (iv x3), some (iv (x4 - 0))] (I, J, cd)) else none := rfl
set_option maxRecDepth 10000 in
theorem sgX10_pass_155 (N d n : Nat) (x2 : Int32) (x3 : Int32) (x4 : Int32) (I : Nat → Nat → Int32) (J : Nat → Nat → Int64) (cd : Nat × Nat) : EX10_pass N d (n + 1) 155 [some (rv (some 87)), none, some (iv x2), some (iv x3), some (iv x4)] (I, J, cd) =
  if x4 ≤ 99 then
    if inb x3 6 then (EX10_pass N d n 175 [some (rv (some 87)), none, some (iv x2), some (iv x3), none] (wr I 98 x3.toNatClampNeg x4, J, cd)) else none
  else
    if inb x3 6 then (EX10_pass N d n 175 [some (rv (some 87)), none, some (iv x2), some (iv x3), none] (wr I 98 x3.toNatClampNeg 99, J, cd)) else none := rfl
set_option maxRecDepth 10000 in
theorem sgX10_pass_175 (N d n : Nat) (x2 : Int32) (x3 : Int32) (I : Nat → Nat → Int32) (J : Nat → Nat → Int64) (cd : Nat × Nat) : EX10_pass N d (n + 1) 175 [some (rv (some 87)), none, some (iv x2), some (iv x3), none] (I, J, cd) =
  if inb x3 6 then (if inb x3 6 then (if inb x3 6 then (if inb x3 6 then (if inb x3 6 then (EX10_pass N d n 73 [some (rv (some 87)), none, some (iv x2), some (iv (x3 + 1)), none] (wr (wr I 99 x3.toNatClampNeg ((I 99 x3.toNatClampNeg) + (((I 87 31) >>> (x3 &&& 31)) &&& 1))) 100 x3.toNatClampNeg ((I 100 x3.toNatClampNeg) + (I 108 x3.toNatClampNeg)), J, cd)) else none) else none) else none) else none) else none := rfl
def EX10_groundMany (N d : Nat) : Nat → Nat → LO → AH → Option RES := exec (CX10_groundMany (arun N d)) [(4, [0, 1, 2])]
theorem enX10_groundMany (N d : Nat) (q0 : Nat) (A : AH) : arun N (d + 1) 180 [rv (some q0)] A = EX10_groundMany N d N 0 [some (rv (some q0)), none, none] A := rfl
set_option maxRecDepth 10000 in
theorem sgX10_groundMany_0 (N d n : Nat)  (I : Nat → Nat → Int32) (J : Nat → Nat → Int64) (cd : Nat × Nat) : EX10_groundMany N d (n + 1) 0 [some (rv (some 87)), none, none] (I, J, cd) =
  EX10_groundMany N d n 4 [some (rv (some 87)), some (iv 0), some (iv 0)] (I, J, cd) := rfl
set_option maxRecDepth 10000 in
theorem sgX10_groundMany_4 (N d n : Nat) (x1 : Int32) (x2 : Int32) (I : Nat → Nat → Int32) (J : Nat → Nat → Int64) (cd : Nat × Nat) : EX10_groundMany N d (n + 1) 4 [some (rv (some 87)), some (iv x1), some (iv x2)] (I, J, cd) =
  if (I 87 10) ≤ x2 then
    some (iv x1, (I, J, cd))
  else
    if inb x2 6 then (EX10_groundMany N d n 4 [some (rv (some 87)), some (iv (x1 + (I 99 x2.toNatClampNeg))), some (iv (x2 + 1))] (I, J, cd)) else none := rfl
def EX10_dayTruly (N d : Nat) : Nat → Nat → LO → AH → Option RES := exec (CX10_dayTruly (arun N d)) []
theorem enX10_dayTruly (N d : Nat) (q0 : Nat) (x1 : Int32) (A : AH) : arun N (d + 1) 181 [rv (some q0), iv x1] A = EX10_dayTruly N d N 0 [some (rv (some q0)), some (iv x1)] A := rfl
set_option maxRecDepth 10000 in
theorem sgX10_dayTruly_0 (N d n : Nat) (x1 : Int32) (I : Nat → Nat → Int32) (J : Nat → Nat → Int64) (cd : Nat × Nat) : EX10_dayTruly N d (n + 1) 0 [some (rv (some 87)), some (iv x1)] (I, J, cd) =
  (cV (arun N d) 173 [rv (some 87), rv (some 104), iv (27 * (I 87 25))] (I, J, cd)).bind fun r1 => (cI (arun N d) 179 [rv (some 87), iv x1] r1).bind fun r2 => some (iv r2.1, r2.2) := rfl
def EX10_day (N d : Nat) : Nat → Nat → LO → AH → Option RES := exec (CX10_day (arun N d)) []
theorem enX10_day (N d : Nat) (q0 : Nat) (x1 : Int32) (A : AH) : arun N (d + 1) 182 [rv (some q0), iv x1] A = EX10_day N d N 0 [some (rv (some q0)), some (iv x1)] A := rfl
set_option maxRecDepth 10000 in
theorem sgX10_day_0 (N d n : Nat) (x1 : Int32) (I : Nat → Nat → Int32) (J : Nat → Nat → Int64) (cd : Nat × Nat) : EX10_day N d (n + 1) 0 [some (rv (some 87)), some (iv x1)] (I, J, cd) =
  (cI (arun N d) 172 [rv (some 87), iv x1] (I, J, cd)).bind fun r1 => if r1.1 = 0 then
    some (iv ((-1)), r1.2)
  else
    if (r1.2.1 87 10) = 0 then
      some (iv ((-4)), r1.2)
    else
      if (r1.2.1 87 25) = 40 then
        some (iv ((-2)), r1.2)
      else
        (cI (arun N d) 181 [rv (some 87), iv x1] r1.2).bind fun r2 => some (iv r2.1, r2.2) := rfl
def EX10_undo (N d : Nat) : Nat → Nat → LO → AH → Option RES := exec (CX10_undo (arun N d)) []
theorem enX10_undo (N d : Nat) (q0 : Nat) (x1 : Int32) (A : AH) : arun N (d + 1) 183 [rv (some q0), iv x1] A = EX10_undo N d N 0 [some (rv (some q0)), some (iv x1), none] A := rfl
set_option maxRecDepth 10000 in
theorem sgX10_undo_0 (N d n : Nat) (x1 : Int32) (I : Nat → Nat → Int32) (J : Nat → Nat → Int64) (cd : Nat × Nat) : EX10_undo N d (n + 1) 0 [some (rv (some 87)), some (iv x1), none] (I, J, cd) =
  (cI (arun N d) 137 [iv x1, iv 0, iv (I 87 25)] (I, J, cd)).bind fun r1 => if r1.1 = 0 then
    some (iv ((-1)), r1.2)
  else
    if ((r1.2.1 87 25) - x1) ≤ 0 then
      some (iv ((r1.2.1 87 25) - x1), r1.2)
    else
      (cV (arun N d) 174 [rv (some 87), rv (some 104), iv (27 * x1)] r1.2).bind fun r2 => some (iv ((r1.2.1 87 25) - x1), r2) := rfl
def EX10_keep (N d : Nat) : Nat → Nat → LO → AH → Option RES := exec (CX10_keep (arun N d)) [(29, [0, 1, 2, 3])]
theorem enX10_keep (N d : Nat) (q0 : Nat) (x1 : Int32) (A : AH) : arun N (d + 1) 184 [rv (some q0), iv x1] A = EX10_keep N d N 0 [some (rv (some q0)), some (iv x1), none, none] A := rfl
set_option maxRecDepth 10000 in
theorem sgX10_keep_0 (N d n : Nat) (x1 : Int32) (I : Nat → Nat → Int32) (J : Nat → Nat → Int64) (cd : Nat × Nat) : EX10_keep N d (n + 1) 0 [some (rv (some 87)), some (iv x1), none, none] (I, J, cd) =
  (cI (arun N d) 137 [iv x1, iv 0, iv 2] (I, J, cd)).bind fun r1 => if r1.1 = 0 then
    some (iv ((-1)), r1.2)
  else
    if (r1.2.1 87 10) = 0 then
      some (iv ((-4)), r1.2)
    else
      EX10_keep N d n 29 [some (rv (some 87)), some (iv x1), some (iv (1107 * x1)), some (iv 0)] r1.2 := rfl
set_option maxRecDepth 10000 in
theorem sgX10_keep_29 (N d n : Nat) (x1 : Int32) (x2 : Int32) (x3 : Int32) (I : Nat → Nat → Int32) (J : Nat → Nat → Int64) (cd : Nat × Nat) : EX10_keep N d (n + 1) 29 [some (rv (some 87)), some (iv x1), some (iv x2), some (iv x3)] (I, J, cd) =
  if (27 * (I 87 25)) ≤ x3 then
    (cV (arun N d) 173 [rv (some 87), rv (some 106), iv (x2 + 1080)] (I, J, cd)).bind fun r1 => if inb x1 3 then (some (iv (r1.1 87 25), (wr r1.1 105 x1.toNatClampNeg 1, r1.2.1, r1.2.2))) else none
  else
    if inb x3 1080 then (if inb (x2 + x3) 3321 then (EX10_keep N d n 29 [some (rv (some 87)), some (iv x1), some (iv x2), some (iv (x3 + 1))] (wr I 106 ((x2 + x3).toNatClampNeg) (I 104 x3.toNatClampNeg), J, cd)) else none) else none := rfl
def EX10_on (N d : Nat) : Nat → Nat → LO → AH → Option RES := exec (CX10_on (arun N d)) [(47, [0, 2, 3])]
theorem enX10_on (N d : Nat) (q0 : Nat) (x1 : Int32) (A : AH) : arun N (d + 1) 185 [rv (some q0), iv x1] A = EX10_on N d N 0 [some (rv (some q0)), some (iv x1), none, none] A := rfl
set_option maxRecDepth 10000 in
theorem sgX10_on_0 (N d n : Nat) (x1 : Int32) (I : Nat → Nat → Int32) (J : Nat → Nat → Int64) (cd : Nat × Nat) : EX10_on N d (n + 1) 0 [some (rv (some 87)), some (iv x1), none, none] (I, J, cd) =
  (cI (arun N d) 137 [iv x1, iv 0, iv 2] (I, J, cd)).bind fun r1 => if r1.1 = 0 then
    some (iv ((-1)), r1.2)
  else
    if inb x1 3 then (if (r1.2.1 105 x1.toNatClampNeg) = 0 then
      (cI (arun N d) 138 [rv (some 87), iv 1] r1.2).bind fun r2 => some (iv r2.1, r2.2)
    else
      (cV (arun N d) 174 [rv (some 87), rv (some 106), iv ((1107 * x1) + 1080)] r1.2).bind fun r3 => EX10_on N d n 47 [some (rv (some 87)), none, some (iv (1107 * x1)), some (iv 0)] r3) else none := rfl
set_option maxRecDepth 10000 in
theorem sgX10_on_47 (N d n : Nat) (x2 : Int32) (x3 : Int32) (I : Nat → Nat → Int32) (J : Nat → Nat → Int64) (cd : Nat × Nat) : EX10_on N d (n + 1) 47 [some (rv (some 87)), none, some (iv x2), some (iv x3)] (I, J, cd) =
  if (27 * (I 87 25)) ≤ x3 then
    some (iv (I 87 25), (I, J, cd))
  else
    if inb (x2 + x3) 3321 then (if inb x3 1080 then (EX10_on N d n 47 [some (rv (some 87)), none, some (iv x2), some (iv (x3 + 1))] (wr I 104 x3.toNatClampNeg (I 106 ((x2 + x3).toNatClampNeg)), J, cd)) else none) else none := rfl
def EX10_reachOf (N d : Nat) : Nat → Nat → LO → AH → Option RES := exec (CX10_reachOf (arun N d)) []
theorem enX10_reachOf (N d : Nat) (q0 : Nat) (x1 : Int32) (x2 : Int32) (A : AH) : arun N (d + 1) 186 [rv (some q0), iv x1, iv x2] A = EX10_reachOf N d N 0 [some (rv (some q0)), some (iv x1), some (iv x2)] A := rfl
set_option maxRecDepth 10000 in
theorem sgX10_reachOf_0 (N d n : Nat) (x1 : Int32) (x2 : Int32) (I : Nat → Nat → Int32) (J : Nat → Nat → Int64) (cd : Nat × Nat) : EX10_reachOf N d (n + 1) 0 [some (rv (some 87)), some (iv x1), some (iv x2)] (I, J, cd) =
  if x2 = 0 then
    if inb x1 6 then (some (iv (I 96 x1.toNatClampNeg), (I, J, cd))) else none
  else
    if x2 = 1 then
      if inb x1 6 then (some (iv (I 97 x1.toNatClampNeg), (I, J, cd))) else none
    else
      if x2 = 2 then
        if inb x1 6 then (some (iv (I 98 x1.toNatClampNeg), (I, J, cd))) else none
      else
        if x2 = 3 then
          if inb x1 6 then (some (iv (I 99 x1.toNatClampNeg), (I, J, cd))) else none
        else
          if inb x1 6 then (some (iv (I 100 x1.toNatClampNeg), (I, J, cd))) else none := rfl
def EX10_reach (N d : Nat) : Nat → Nat → LO → AH → Option RES := exec (CX10_reach (arun N d)) []
theorem enX10_reach (N d : Nat) (q0 : Nat) (x1 : Int32) (x2 : Int32) (A : AH) : arun N (d + 1) 187 [rv (some q0), iv x1, iv x2] A = EX10_reach N d N 0 [some (rv (some q0)), some (iv x1), some (iv x2)] A := rfl
set_option maxRecDepth 10000 in
theorem sgX10_reach_0 (N d n : Nat) (x1 : Int32) (x2 : Int32) (I : Nat → Nat → Int32) (J : Nat → Nat → Int64) (cd : Nat × Nat) : EX10_reach N d (n + 1) 0 [some (rv (some 87)), some (iv x1), some (iv x2)] (I, J, cd) =
  (cI (arun N d) 169 [rv (some 87), iv x1] (I, J, cd)).bind fun r1 => if r1.1 = 0 then
    some (iv ((-1)), r1.2)
  else
    (cI (arun N d) 137 [iv x2, iv 0, iv 4] r1.2).bind fun r2 => if r2.1 = 0 then
      some (iv ((-1)), r2.2)
    else
      (cI (arun N d) 186 [rv (some 87), iv x1, iv x2] r2.2).bind fun r3 => (cI (arun N d) 139 [rv (some 87), iv r3.1, iv 1] r3.2).bind fun r4 => some (iv r4.1, r4.2) := rfl
def EX10_isA (N d : Nat) : Nat → Nat → LO → AH → Option RES := exec (CX10_isA (arun N d)) [(27, [0, 1, 2])]
theorem enX10_isA (N d : Nat) (q0 : Nat) (x1 : Int32) (x2 : Int32) (A : AH) : arun N (d + 1) 188 [rv (some q0), iv x1, iv x2] A = EX10_isA N d N 0 [some (rv (some q0)), some (iv x1), some (iv x2)] A := rfl
set_option maxRecDepth 10000 in
theorem sgX10_isA_0 (N d n : Nat) (x1 : Int32) (x2 : Int32) (I : Nat → Nat → Int32) (J : Nat → Nat → Int64) (cd : Nat × Nat) : EX10_isA N d (n + 1) 0 [some (rv (some 87)), some (iv x1), some (iv x2)] (I, J, cd) =
  if inb x1 6 then (if (I 96 x1.toNatClampNeg) = x2 then
    some (iv 1, (I, J, cd))
  else
    if x2 = 1 then
      if inb x1 6 then ((cI (arun N d) 162 [iv (I 96 x1.toNatClampNeg)] (I, J, cd)).bind fun r1 => if r1.1 = 0 then
        EX10_isA N d n 27 [some (rv (some 87)), some (iv x1), some (iv x2)] r1.2
      else
        some (iv 1, r1.2)) else none
    else
      EX10_isA N d n 27 [some (rv (some 87)), some (iv x1), some (iv x2)] (I, J, cd)) else none := rfl
set_option maxRecDepth 10000 in
theorem sgX10_isA_27 (N d n : Nat) (x1 : Int32) (x2 : Int32) (I : Nat → Nat → Int32) (J : Nat → Nat → Int64) (cd : Nat × Nat) : EX10_isA N d (n + 1) 27 [some (rv (some 87)), some (iv x1), some (iv x2)] (I, J, cd) =
  if x2 = 2 then
    if inb x1 6 then ((cI (arun N d) 163 [iv (I 96 x1.toNatClampNeg)] (I, J, cd)).bind fun r1 => if r1.1 = 0 then
      some (iv 0, r1.2)
    else
      some (iv 1, r1.2)) else none
  else
    some (iv 0, (I, J, cd)) := rfl
def EX10_mark (N d : Nat) : Nat → Nat → LO → AH → Option RES := exec (CX10_mark (arun N d)) []
theorem enX10_mark (N d : Nat) (q0 : Nat) (x1 : Int32) (x2 : Int32) (A : AH) : arun N (d + 1) 189 [rv (some q0), iv x1, iv x2] A = EX10_mark N d N 0 [some (rv (some q0)), some (iv x1), some (iv x2), none, none] A := rfl
set_option maxRecDepth 10000 in
theorem sgX10_mark_0 (N d n : Nat) (x1 : Int32) (x2 : Int32) (I : Nat → Nat → Int32) (J : Nat → Nat → Int64) (cd : Nat × Nat) : EX10_mark N d (n + 1) 0 [some (rv (some 87)), some (iv x1), some (iv x2), none, none] (I, J, cd) =
  (cI (arun N d) 169 [rv (some 87), iv x1] (I, J, cd)).bind fun r1 => if r1.1 = 0 then
    some (iv ((-1)), r1.2)
  else
    (cI (arun N d) 137 [iv x2, iv 1, iv 5] r1.2).bind fun r2 => if r2.1 = 0 then
      some (iv ((-1)), r2.2)
    else
      (cI (arun N d) 188 [rv (some 87), iv x1, iv x2] r2.2).bind fun r3 => if r3.1 = 0 then
        (cI (arun N d) 138 [rv (some 87), iv 3] r3.2).bind fun r4 => some (iv r4.1, r4.2)
      else
        if inb x1 6 then (if inb x1 6 then (if x2 = 1 then
          if (r3.2.1 97 x1.toNatClampNeg) ≤ (r3.2.1 98 x1.toNatClampNeg) then
            some (iv (r3.2.1 97 x1.toNatClampNeg), r3.2)
          else
            some (iv (r3.2.1 98 x1.toNatClampNeg), r3.2)
        else
          if x2 = 2 then
            (cI (arun N d) 141 [iv 0, iv ((r3.2.1 97 x1.toNatClampNeg) - (r3.2.1 98 x1.toNatClampNeg))] r3.2).bind fun r5 => some (iv r5.1, r5.2)
          else
            if x2 = 3 then
              some (iv (r3.2.1 98 x1.toNatClampNeg), r3.2)
            else
              if x2 = 4 then
                if (r3.2.1 97 x1.toNatClampNeg) = (0 : Int32) then none else (some (iv ((((r3.2.1 98 x1.toNatClampNeg) + (r3.2.1 97 x1.toNatClampNeg)) - 1) / (r3.2.1 97 x1.toNatClampNeg)), r3.2))
              else
                (cI (arun N d) 141 [iv 0, iv (((r3.2.1 98 x1.toNatClampNeg) - (r3.2.1 97 x1.toNatClampNeg)) - 2)] r3.2).bind fun r6 => some (iv r6.1, r6.2)) else none) else none := rfl
def EX10_weekday (N d : Nat) : Nat → Nat → LO → AH → Option RES := exec (CX10_weekday (arun N d)) []
theorem enX10_weekday (N d : Nat) (q0 : Nat) (x1 : Int32) (x2 : Int32) (A : AH) : arun N (d + 1) 190 [rv (some q0), iv x1, iv x2] A = EX10_weekday N d N 0 [some (rv (some q0)), some (iv x1), some (iv x2)] A := rfl
set_option maxRecDepth 10000 in
theorem sgX10_weekday_0 (N d n : Nat) (x1 : Int32) (x2 : Int32) (I : Nat → Nat → Int32) (J : Nat → Nat → Int64) (cd : Nat × Nat) : EX10_weekday N d (n + 1) 0 [some (rv (some 87)), some (iv x1), some (iv x2)] (I, J, cd) =
  (cI (arun N d) 170 [iv x1] (I, J, cd)).bind fun r1 => if r1.1 = 0 then
    some (iv ((-1)), r1.2)
  else
    (cI (arun N d) 137 [iv x2, iv 0, iv 1] r1.2).bind fun r2 => if r2.1 = 0 then
      some (iv ((-1)), r2.2)
    else
      if (r2.2.1 87 10) = 0 then
        some (iv ((-4)), r2.2)
      else
        if x2 = 0 then
          if inb x1 7 then (some (iv (r2.2.1 94 x1.toNatClampNeg), r2.2)) else none
        else
          if inb x1 7 then (some (iv (r2.2.1 95 x1.toNatClampNeg), r2.2)) else none := rfl
def EX10_swap (N d : Nat) : Nat → Nat → LO → AH → Option RES := exec (CX10_swap (arun N d)) []
theorem enX10_swap (N d : Nat) (q0 : Nat) (x1 : Int32) (x2 : Int32) (A : AH) : arun N (d + 1) 191 [rv (some q0), iv x1, iv x2] A = EX10_swap N d N 0 [some (rv (some q0)), some (iv x1), some (iv x2), none] A := rfl
set_option maxRecDepth 10000 in
theorem sgX10_swap_0 (N d n : Nat) (x1 : Int32) (x2 : Int32) (I : Nat → Nat → Int32) (J : Nat → Nat → Int64) (cd : Nat × Nat) : EX10_swap N d (n + 1) 0 [some (rv (some 87)), some (iv x1), some (iv x2), none] (I, J, cd) =
  (cI (arun N d) 170 [iv x1] (I, J, cd)).bind fun r1 => if r1.1 = 0 then
    some (iv ((-1)), r1.2)
  else
    (cI (arun N d) 170 [iv x2] r1.2).bind fun r2 => if r2.1 = 0 then
      some (iv ((-1)), r2.2)
    else
      if x1 = x2 then
        some (iv ((-1)), r2.2)
      else
        if (r2.2.1 87 10) = 0 then
          some (iv ((-4)), r2.2)
        else
          if inb x1 7 then (if inb x2 7 then (if inb x1 7 then (if inb x2 7 then (some (iv 1, (wr (wr r2.2.1 95 x1.toNatClampNeg (r2.2.1 95 x2.toNatClampNeg)) 95 x2.toNatClampNeg (r2.2.1 95 x1.toNatClampNeg), r2.2.2.1, r2.2.2.2))) else none) else none) else none) else none := rfl
def EX10_owns (N d : Nat) : Nat → Nat → LO → AH → Option RES := exec (CX10_owns (arun N d)) []
theorem enX10_owns (N d : Nat) (q0 : Nat) (x1 : Int32) (A : AH) : arun N (d + 1) 192 [rv (some q0), iv x1] A = EX10_owns N d N 0 [some (rv (some q0)), some (iv x1)] A := rfl
set_option maxRecDepth 10000 in
theorem sgX10_owns_0 (N d n : Nat) (x1 : Int32) (I : Nat → Nat → Int32) (J : Nat → Nat → Int64) (cd : Nat × Nat) : EX10_owns N d (n + 1) 0 [some (rv (some 87)), some (iv x1)] (I, J, cd) =
  (cI (arun N d) 170 [iv x1] (I, J, cd)).bind fun r1 => if r1.1 = 0 then
    some (iv ((-1)), r1.2)
  else
    if inb x1 7 then (some (iv (r1.2.1 101 x1.toNatClampNeg), r1.2)) else none := rfl
def EX10_gates (N d : Nat) : Nat → Nat → LO → AH → Option RES := exec (CX10_gates (arun N d)) []
theorem enX10_gates (N d : Nat) (q0 : Nat) (A : AH) : arun N (d + 1) 193 [rv (some q0)] A = EX10_gates N d N 0 [some (rv (some q0))] A := rfl
set_option maxRecDepth 10000 in
theorem sgX10_gates_0 (N d n : Nat)  (I : Nat → Nat → Int32) (J : Nat → Nat → Int64) (cd : Nat × Nat) : EX10_gates N d (n + 1) 0 [some (rv (some 87))] (I, J, cd) =
  (cI (arun N d) 171 [rv (some 87)] (I, J, cd)).bind fun r1 => some (iv r1.1, r1.2) := rfl
def EX10_runs (N d : Nat) : Nat → Nat → LO → AH → Option RES := exec (CX10_runs (arun N d)) []
theorem enX10_runs (N d : Nat) (q0 : Nat) (x1 : Int32) (A : AH) : arun N (d + 1) 194 [rv (some q0), iv x1] A = EX10_runs N d N 0 [some (rv (some q0)), some (iv x1), none] A := rfl
set_option maxRecDepth 10000 in
theorem sgX10_runs_0 (N d n : Nat) (x1 : Int32) (I : Nat → Nat → Int32) (J : Nat → Nat → Int64) (cd : Nat × Nat) : EX10_runs N d (n + 1) 0 [some (rv (some 87)), some (iv x1), none] (I, J, cd) =
  (cI (arun N d) 172 [rv (some 87), iv x1] (I, J, cd)).bind fun r1 => if r1.1 = 0 then
    some (iv ((-1)), r1.2)
  else
    if (r1.2.1 87 10) = 0 then
      some (iv ((-4)), r1.2)
    else
      (cV (arun N d) 175 [rv (some 87)] r1.2).bind fun r2 => (cI (arun N d) 179 [rv (some 87), iv x1] r2).bind fun r3 => (cV (arun N d) 176 [rv (some 87)] r3.2).bind fun r4 => (cI (arun N d) 139 [rv (some 87), iv (r4.1 87 31), iv r3.1] r4).bind fun r5 => some (iv r5.1, r5.2) := rfl
def EX10_askedPlan (N d : Nat) : Nat → Nat → LO → AH → Option RES := exec (CX10_askedPlan (arun N d)) [(52, [0, 1, 3])]
theorem enX10_askedPlan (N d : Nat) (q0 : Nat) (x1 : Int32) (x2 : Int32) (A : AH) : arun N (d + 1) 195 [rv (some q0), iv x1, iv x2] A = EX10_askedPlan N d N 0 [some (rv (some q0)), some (iv x1), some (iv x2), none] A := rfl
set_option maxRecDepth 10000 in
theorem sgX10_askedPlan_0 (N d n : Nat) (x1 : Int32) (x2 : Int32) (I : Nat → Nat → Int32) (J : Nat → Nat → Int64) (cd : Nat × Nat) : EX10_askedPlan N d (n + 1) 0 [some (rv (some 87)), some (iv x1), some (iv x2), none] (I, J, cd) =
  (cI (arun N d) 143 [iv x1] (I, J, cd)).bind fun r1 => if r1.1 = 0 then
    some (iv ((-1)), r1.2)
  else
    if (r1.2.1 87 10) = 0 then
      some (iv ((-4)), r1.2)
    else
      if inb x1 6 then (if 0 ≤ (r1.2.1 89 x1.toNatClampNeg) then
        if inb x1 6 then (if (r1.2.1 89 x1.toNatClampNeg) ≤ x2 then
          EX10_askedPlan N d n 52 [some (rv (some 87)), some (iv x1), none, some (iv 0)] r1.2
        else
          (cI (arun N d) 138 [rv (some 87), iv 5] r1.2).bind fun r2 => some (iv r2.1, r2.2)) else none
      else
        (cI (arun N d) 138 [rv (some 87), iv 1] r1.2).bind fun r3 => some (iv r3.1, r3.2)) else none := rfl
set_option maxRecDepth 10000 in
theorem sgX10_askedPlan_52 (N d n : Nat) (x1 : Int32) (x3 : Int32) (I : Nat → Nat → Int32) (J : Nat → Nat → Int64) (cd : Nat × Nat) : EX10_askedPlan N d (n + 1) 52 [some (rv (some 87)), some (iv x1), none, some (iv x3)] (I, J, cd) =
  if inb x1 6 then (if (I 89 x1.toNatClampNeg) ≤ x3 then
    some (iv 0, (I, J, cd))
  else
    (cI (arun N d) 147 [rv (some 87), iv x1, iv x3] (I, J, cd)).bind fun r1 => (cI (arun N d) 172 [rv (some 87), iv r1.1] r1.2).bind fun r2 => if r2.1 = 0 then
      (cI (arun N d) 138 [rv (some 87), iv 3] r2.2).bind fun r3 => some (iv r3.1, r3.2)
    else
      EX10_askedPlan N d n 52 [some (rv (some 87)), some (iv x1), none, some (iv (x3 + 1))] r2.2) else none := rfl
def EX10_sea (N d : Nat) : Nat → Nat → LO → AH → Option RES := exec (CX10_sea (arun N d)) [(29, [0, 1, 3, 4, 5])]
theorem enX10_sea (N d : Nat) (q0 : Nat) (x1 : Int32) (A : AH) : arun N (d + 1) 196 [rv (some q0), iv x1] A = EX10_sea N d N 0 [some (rv (some q0)), some (iv x1), none, none, none, none] A := rfl
set_option maxRecDepth 10000 in
theorem sgX10_sea_0 (N d n : Nat) (x1 : Int32) (I : Nat → Nat → Int32) (J : Nat → Nat → Int64) (cd : Nat × Nat) : EX10_sea N d (n + 1) 0 [some (rv (some 87)), some (iv x1), none, none, none, none] (I, J, cd) =
  (cI (arun N d) 195 [rv (some 87), iv x1, iv 12] (I, J, cd)).bind fun r1 => if 0 ≤ r1.1 then
    (cI (arun N d) 180 [rv (some 87)] r1.2).bind fun r2 => (cV (arun N d) 175 [rv (some 87)] r2.2).bind fun r3 => EX10_sea N d n 29 [some (rv (some 87)), some (iv x1), none, some (iv r2.1), some (iv 0), some (iv 0)] r3
  else
    some (iv r1.1, r1.2) := rfl
set_option maxRecDepth 10000 in
theorem sgX10_sea_29 (N d n : Nat) (x1 : Int32) (x3 : Int32) (x4 : Int32) (x5 : Int32) (I : Nat → Nat → Int32) (J : Nat → Nat → Int64) (cd : Nat × Nat) : EX10_sea N d (n + 1) 29 [some (rv (some 87)), some (iv x1), none, some (iv x3), some (iv x4), some (iv x5)] (I, J, cd) =
  if inb x1 6 then (if (I 89 x1.toNatClampNeg) ≤ x5 then
    (cI (arun N d) 180 [rv (some 87)] (I, J, cd)).bind fun r1 => (cV (arun N d) 176 [rv (some 87)] r1.2).bind fun r2 => (cI (arun N d) 139 [rv (some 87), iv (r1.1 - x3), iv x4] r2).bind fun r3 => some (iv r3.1, r3.2)
  else
    (cI (arun N d) 147 [rv (some 87), iv x1, iv x5] (I, J, cd)).bind fun r4 => (cI (arun N d) 179 [rv (some 87), iv r4.1] r4.2).bind fun r5 => EX10_sea N d n 29 [some (rv (some 87)), some (iv x1), none, some (iv x3), some (iv (x4 + r5.1)), some (iv (x5 + 1))] r5.2) else none := rfl
def EX10_water (N d : Nat) : Nat → Nat → LO → AH → Option RES := exec (CX10_water (arun N d)) [(38, [0, 1, 2, 4])]
theorem enX10_water (N d : Nat) (q0 : Nat) (x1 : Int32) (x2 : Int32) (A : AH) : arun N (d + 1) 197 [rv (some q0), iv x1, iv x2] A = EX10_water N d N 0 [some (rv (some q0)), some (iv x1), some (iv x2), none, none] A := rfl
set_option maxRecDepth 10000 in
theorem sgX10_water_0 (N d n : Nat) (x1 : Int32) (x2 : Int32) (I : Nat → Nat → Int32) (J : Nat → Nat → Int64) (cd : Nat × Nat) : EX10_water N d (n + 1) 0 [some (rv (some 87)), some (iv x1), some (iv x2), none, none] (I, J, cd) =
  (cI (arun N d) 143 [iv x2] (I, J, cd)).bind fun r1 => if r1.1 = 0 then
    some (iv ((-1)), r1.2)
  else
    (cI (arun N d) 169 [rv (some 87), iv x1] r1.2).bind fun r2 => if r2.1 = 0 then
      some (iv ((-1)), r2.2)
    else
      (cI (arun N d) 195 [rv (some 87), iv x2, iv 12] r2.2).bind fun r3 => if 0 ≤ r3.1 then
        (cV (arun N d) 175 [rv (some 87)] r3.2).bind fun r4 => EX10_water N d n 38 [some (rv (some 87)), some (iv x1), some (iv x2), none, some (iv 0)] r4
      else
        some (iv r3.1, r3.2) := rfl
set_option maxRecDepth 10000 in
theorem sgX10_water_38 (N d n : Nat) (x1 : Int32) (x2 : Int32) (x4 : Int32) (I : Nat → Nat → Int32) (J : Nat → Nat → Int64) (cd : Nat × Nat) : EX10_water N d (n + 1) 38 [some (rv (some 87)), some (iv x1), some (iv x2), none, some (iv x4)] (I, J, cd) =
  if inb x2 6 then (if (I 89 x2.toNatClampNeg) ≤ x4 then
    if inb x1 6 then ((cV (arun N d) 176 [rv (some 87)] (I, J, cd)).bind fun r1 => some (iv (I 98 x1.toNatClampNeg), r1)) else none
  else
    (cI (arun N d) 147 [rv (some 87), iv x2, iv x4] (I, J, cd)).bind fun r2 => (cI (arun N d) 179 [rv (some 87), iv r2.1] r2.2).bind fun r3 => EX10_water N d n 38 [some (rv (some 87)), some (iv x1), some (iv x2), none, some (iv (x4 + 1))] r3.2) else none := rfl
def EX10_share (N d : Nat) : Nat → Nat → LO → AH → Option RES := exec (CX10_share (arun N d)) [(38, [0, 1, 2, 4, 5])]
theorem enX10_share (N d : Nat) (q0 : Nat) (x1 : Int32) (x2 : Int32) (A : AH) : arun N (d + 1) 198 [rv (some q0), iv x1, iv x2] A = EX10_share N d N 0 [some (rv (some q0)), some (iv x1), some (iv x2), none, none, none] A := rfl
set_option maxRecDepth 10000 in
theorem sgX10_share_0 (N d n : Nat) (x1 : Int32) (x2 : Int32) (I : Nat → Nat → Int32) (J : Nat → Nat → Int64) (cd : Nat × Nat) : EX10_share N d (n + 1) 0 [some (rv (some 87)), some (iv x1), some (iv x2), none, none, none] (I, J, cd) =
  (cI (arun N d) 170 [iv x1] (I, J, cd)).bind fun r1 => if r1.1 = 0 then
    some (iv ((-1)), r1.2)
  else
    (cI (arun N d) 195 [rv (some 87), iv x2, iv 12] r1.2).bind fun r2 => if 0 ≤ r2.1 then
      if inb x1 7 then ((cV (arun N d) 175 [rv (some 87)] r2.2).bind fun r3 => EX10_share N d n 38 [some (rv (some 87)), some (iv x1), some (iv x2), none, some (iv (r2.2.1 101 x1.toNatClampNeg)), some (iv 0)] r3) else none
    else
      some (iv r2.1, r2.2) := rfl
set_option maxRecDepth 10000 in
theorem sgX10_share_38 (N d n : Nat) (x1 : Int32) (x2 : Int32) (x4 : Int32) (x5 : Int32) (I : Nat → Nat → Int32) (J : Nat → Nat → Int64) (cd : Nat × Nat) : EX10_share N d (n + 1) 38 [some (rv (some 87)), some (iv x1), some (iv x2), none, some (iv x4), some (iv x5)] (I, J, cd) =
  if inb x2 6 then (if (I 89 x2.toNatClampNeg) ≤ x5 then
    if inb x1 7 then ((cV (arun N d) 176 [rv (some 87)] (I, J, cd)).bind fun r1 => some (iv ((I 101 x1.toNatClampNeg) - x4), r1)) else none
  else
    (cI (arun N d) 147 [rv (some 87), iv x2, iv x5] (I, J, cd)).bind fun r2 => (cI (arun N d) 179 [rv (some 87), iv r2.1] r2.2).bind fun r3 => EX10_share N d n 38 [some (rv (some 87)), some (iv x1), some (iv x2), none, some (iv x4), some (iv (x5 + 1))] r3.2) else none := rfl
def EX10_grinds (N d : Nat) : Nat → Nat → LO → AH → Option RES := exec (CX10_grinds (arun N d)) [(18, [0, 1, 2, 3]), (49, [0, 2, 3])]
theorem enX10_grinds (N d : Nat) (q0 : Nat) (x1 : Int32) (A : AH) : arun N (d + 1) 199 [rv (some q0), iv x1] A = EX10_grinds N d N 0 [some (rv (some q0)), some (iv x1), none, none] A := rfl
set_option maxRecDepth 10000 in
theorem sgX10_grinds_0 (N d n : Nat) (x1 : Int32) (I : Nat → Nat → Int32) (J : Nat → Nat → Int64) (cd : Nat × Nat) : EX10_grinds N d (n + 1) 0 [some (rv (some 87)), some (iv x1), none, none] (I, J, cd) =
  (cI (arun N d) 169 [rv (some 87), iv x1] (I, J, cd)).bind fun r1 => if r1.1 = 0 then
    some (iv ((-1)), r1.2)
  else
    (cV (arun N d) 175 [rv (some 87)] r1.2).bind fun r2 => EX10_grinds N d n 18 [some (rv (some 87)), some (iv x1), some (iv 0), some (iv 0)] r2 := rfl
set_option maxRecDepth 10000 in
theorem sgX10_grinds_18 (N d n : Nat) (x1 : Int32) (x2 : Int32) (x3 : Int32) (I : Nat → Nat → Int32) (J : Nat → Nat → Int64) (cd : Nat × Nat) : EX10_grinds N d (n + 1) 18 [some (rv (some 87)), some (iv x1), some (iv x2), some (iv x3)] (I, J, cd) =
  if x3 = 0 then
    if 40 ≤ x2 then
      EX10_grinds N d n 49 [some (rv (some 87)), none, some (iv x2), some (iv x3)] (I, J, cd)
    else
      (cI (arun N d) 179 [rv (some 87), iv 0] (I, J, cd)).bind fun r1 => (cI (arun N d) 140 [iv (r1.2.1 87 31), iv x1] r1.2).bind fun r2 => EX10_grinds N d n 18 [some (rv (some 87)), some (iv x1), some (iv (x2 + 1)), some (iv r2.1)] r2.2
  else
    EX10_grinds N d n 49 [some (rv (some 87)), none, some (iv x2), some (iv x3)] (I, J, cd) := rfl
set_option maxRecDepth 10000 in
theorem sgX10_grinds_49 (N d n : Nat) (x2 : Int32) (x3 : Int32) (I : Nat → Nat → Int32) (J : Nat → Nat → Int64) (cd : Nat × Nat) : EX10_grinds N d (n + 1) 49 [some (rv (some 87)), none, some (iv x2), some (iv x3)] (I, J, cd) =
  (cV (arun N d) 176 [rv (some 87)] (I, J, cd)).bind fun r1 => if x3 = 0 then
    some (iv ((-9)), r1)
  else
    some (iv x2, r1) := rfl
def EX10_setSets (N d : Nat) : Nat → Nat → LO → AH → Option RES := exec (CX10_setSets (arun N d)) [(12, [0, 1, 2])]
theorem enX10_setSets (N d : Nat) (q0 : Nat) (A : AH) : arun N (d + 1) 200 [rv (some q0)] A = EX10_setSets N d N 0 [some (rv (some q0)), none, none] A := rfl
set_option maxRecDepth 10000 in
theorem sgX10_setSets_0 (N d n : Nat)  (I : Nat → Nat → Int32) (J : Nat → Nat → Int64) (cd : Nat × Nat) : EX10_setSets N d (n + 1) 0 [some (rv (some 87)), none, none] (I, J, cd) =
  (cI (arun N d) 171 [rv (some 87)] (I, J, cd)).bind fun r1 => EX10_setSets N d n 12 [some (rv (some 87)), some (iv r1.1), some (iv 0)] (wr r1.2.1 87 34 0, r1.2.2.1, r1.2.2.2) := rfl
set_option maxRecDepth 10000 in
theorem sgX10_setSets_12 (N d n : Nat) (x1 : Int32) (x2 : Int32) (I : Nat → Nat → Int32) (J : Nat → Nat → Int64) (cd : Nat × Nat) : EX10_setSets N d (n + 1) 12 [some (rv (some 87)), some (iv x1), some (iv x2)] (I, J, cd) =
  if x1 < x2 then
    some (rv none, (I, J, cd))
  else
    if (x2 &&& (x1 ^^^ ((-1)))) = 0 then
      if inb (I 87 34) 8 then (EX10_setSets N d n 12 [some (rv (some 87)), some (iv x1), some (iv (x2 + 1))] (wr (wr I 109 ((I 87 34).toNatClampNeg) x2) 87 34 ((I 87 34) + 1), J, cd)) else none
    else
      EX10_setSets N d n 12 [some (rv (some 87)), some (iv x1), some (iv (x2 + 1))] (I, J, cd) := rfl
def EX10_plans (N d : Nat) : Nat → Nat → LO → AH → Option RES := exec (CX10_plans (arun N d)) [(4, [0, 1, 2, 3])]
theorem enX10_plans (N d : Nat) (q0 : Nat) (x1 : Int32) (A : AH) : arun N (d + 1) 201 [rv (some q0), iv x1] A = EX10_plans N d N 0 [some (rv (some q0)), some (iv x1), none, none] A := rfl
set_option maxRecDepth 10000 in
theorem sgX10_plans_0 (N d n : Nat) (x1 : Int32) (I : Nat → Nat → Int32) (J : Nat → Nat → Int64) (cd : Nat × Nat) : EX10_plans N d (n + 1) 0 [some (rv (some 87)), some (iv x1), none, none] (I, J, cd) =
  EX10_plans N d n 4 [some (rv (some 87)), some (iv x1), some (iv 1), some (iv 0)] (I, J, cd) := rfl
set_option maxRecDepth 10000 in
theorem sgX10_plans_4 (N d n : Nat) (x1 : Int32) (x2 : Int32) (x3 : Int32) (I : Nat → Nat → Int32) (J : Nat → Nat → Int64) (cd : Nat × Nat) : EX10_plans N d (n + 1) 4 [some (rv (some 87)), some (iv x1), some (iv x2), some (iv x3)] (I, J, cd) =
  if x1 ≤ x3 then
    some (iv x2, (I, J, cd))
  else
    EX10_plans N d n 4 [some (rv (some 87)), some (iv x1), some (iv (x2 * (I 87 34))), some (iv (x3 + 1))] (I, J, cd) := rfl
def EX10_setOf (N d : Nat) : Nat → Nat → LO → AH → Option RES := exec (CX10_setOf (arun N d)) [(8, [0, 3, 4, 5])]
theorem enX10_setOf (N d : Nat) (q0 : Nat) (x1 : Int32) (x2 : Int32) (x3 : Int32) (A : AH) : arun N (d + 1) 202 [rv (some q0), iv x1, iv x2, iv x3] A = EX10_setOf N d N 0 [some (rv (some q0)), some (iv x1), some (iv x2), some (iv x3), none, none] A := rfl
set_option maxRecDepth 10000 in
theorem sgX10_setOf_0 (N d n : Nat) (x1 : Int32) (x2 : Int32) (x3 : Int32) (I : Nat → Nat → Int32) (J : Nat → Nat → Int64) (cd : Nat × Nat) : EX10_setOf N d (n + 1) 0 [some (rv (some 87)), some (iv x1), some (iv x2), some (iv x3), none, none] (I, J, cd) =
  EX10_setOf N d n 8 [some (rv (some 87)), none, none, some (iv x3), some (iv x1), some (iv (x2 - 1))] (I, J, cd) := rfl
set_option maxRecDepth 10000 in
theorem sgX10_setOf_8 (N d n : Nat) (x3 : Int32) (x4 : Int32) (x5 : Int32) (I : Nat → Nat → Int32) (J : Nat → Nat → Int64) (cd : Nat × Nat) : EX10_setOf N d (n + 1) 8 [some (rv (some 87)), none, none, some (iv x3), some (iv x4), some (iv x5)] (I, J, cd) =
  if x5 ≤ x3 then
    if (I 87 34) = (0 : Int32) then none else (if inb (x4 - x4 / (I 87 34) * (I 87 34)) 8 then (some (iv (I 109 ((x4 - x4 / (I 87 34) * (I 87 34)).toNatClampNeg)), (I, J, cd))) else none)
  else
    if (I 87 34) = (0 : Int32) then none else (EX10_setOf N d n 8 [some (rv (some 87)), none, none, some (iv x3), some (iv (x4 / (I 87 34))), some (iv (x5 + (-1)))] (I, J, cd)) := rfl
def EX10_layPlan (N d : Nat) : Nat → Nat → LO → AH → Option RES := exec (CX10_layPlan (arun N d)) [(10, [0, 1, 2, 3, 4])]
theorem enX10_layPlan (N d : Nat) (q0 : Nat) (x1 : Int32) (x2 : Int32) (x3 : Int32) (A : AH) : arun N (d + 1) 203 [rv (some q0), iv x1, iv x2, iv x3] A = EX10_layPlan N d N 0 [some (rv (some q0)), some (iv x1), some (iv x2), some (iv x3), none] A := rfl
set_option maxRecDepth 10000 in
theorem sgX10_layPlan_0 (N d n : Nat) (x1 : Int32) (x2 : Int32) (x3 : Int32) (I : Nat → Nat → Int32) (J : Nat → Nat → Int64) (cd : Nat × Nat) : EX10_layPlan N d (n + 1) 0 [some (rv (some 87)), some (iv x1), some (iv x2), some (iv x3), none] (I, J, cd) =
  if inb x3 6 then (EX10_layPlan N d n 10 [some (rv (some 87)), some (iv x1), some (iv x2), some (iv x3), some (iv 0)] (wr I 89 x3.toNatClampNeg x2, J, cd)) else none := rfl
set_option maxRecDepth 10000 in
theorem sgX10_layPlan_10 (N d n : Nat) (x1 : Int32) (x2 : Int32) (x3 : Int32) (x4 : Int32) (I : Nat → Nat → Int32) (J : Nat → Nat → Int64) (cd : Nat × Nat) : EX10_layPlan N d (n + 1) 10 [some (rv (some 87)), some (iv x1), some (iv x2), some (iv x3), some (iv x4)] (I, J, cd) =
  if 40 ≤ x4 then
    some (rv none, (I, J, cd))
  else
    if x2 ≤ x4 then
      (cV (arun N d) 148 [rv (some 87), iv x3, iv x4, iv 0] (I, J, cd)).bind fun r1 => EX10_layPlan N d n 10 [some (rv (some 87)), some (iv x1), some (iv x2), some (iv x3), some (iv (x4 + 1))] r1
    else
      (cI (arun N d) 202 [rv (some 87), iv x1, iv x2, iv x4] (I, J, cd)).bind fun r2 => (cV (arun N d) 148 [rv (some 87), iv x3, iv x4, iv r2.1] r2.2).bind fun r3 => EX10_layPlan N d n 10 [some (rv (some 87)), some (iv x1), some (iv x2), some (iv x3), some (iv (x4 + 1))] r3 := rfl
def EX10_bits (N d : Nat) : Nat → Nat → LO → AH → Option RES := exec (CX10_bits (arun N d)) [(4, [0, 1, 2])]
theorem enX10_bits (N d : Nat) (x0 : Int32) (A : AH) : arun N (d + 1) 204 [iv x0] A = EX10_bits N d N 0 [some (iv x0), none, none] A := rfl
set_option maxRecDepth 10000 in
theorem sgX10_bits_0 (N d n : Nat) (x0 : Int32) (I : Nat → Nat → Int32) (J : Nat → Nat → Int64) (cd : Nat × Nat) : EX10_bits N d (n + 1) 0 [some (iv x0), none, none] (I, J, cd) =
  EX10_bits N d n 4 [some (iv x0), some (iv 0), some (iv 0)] (I, J, cd) := rfl
set_option maxRecDepth 10000 in
theorem sgX10_bits_4 (N d n : Nat) (x0 : Int32) (x1 : Int32) (x2 : Int32) (I : Nat → Nat → Int32) (J : Nat → Nat → Int64) (cd : Nat × Nat) : EX10_bits N d (n + 1) 4 [some (iv x0), some (iv x1), some (iv x2)] (I, J, cd) =
  if 6 ≤ x2 then
    some (iv x1, (I, J, cd))
  else
    EX10_bits N d n 4 [some (iv x0), some (iv (x1 + ((x0 >>> (x2 &&& 31)) &&& 1))), some (iv (x2 + 1))] (I, J, cd) := rfl
def EX10_best (N d : Nat) : Nat → Nat → LO → AH → Option RES := exec (CX10_best (arun N d)) [(50, [0, 1, 2, 3, 4, 5, 6]), (63, [0, 1, 2, 3, 4, 5, 6, 7]), (113, [0, 1, 2, 3, 4, 5, 6, 7])]
theorem enX10_best (N d : Nat) (q0 : Nat) (x1 : Int32) (x2 : Int32) (A : AH) : arun N (d + 1) 205 [rv (some q0), iv x1, iv x2] A = EX10_best N d N 0 [some (rv (some q0)), some (iv x1), some (iv x2), none, none, none, none, none] A := rfl
set_option maxRecDepth 10000 in
theorem sgX10_best_0 (N d n : Nat) (x1 : Int32) (x2 : Int32) (I : Nat → Nat → Int32) (J : Nat → Nat → Int64) (cd : Nat × Nat) : EX10_best N d (n + 1) 0 [some (rv (some 87)), some (iv x1), some (iv x2), none, none, none, none, none] (I, J, cd) =
  (cI (arun N d) 137 [iv x1, iv 0, iv 4] (I, J, cd)).bind fun r1 => if r1.1 = 0 then
    some (iv ((-1)), r1.2)
  else
    (cI (arun N d) 143 [iv x2] r1.2).bind fun r2 => if r2.1 = 0 then
      some (iv ((-1)), r2.2)
    else
      if (r2.2.1 87 10) = 0 then
        some (iv ((-4)), r2.2)
      else
        (cV (arun N d) 200 [rv (some 87)] r2.2).bind fun r3 => (cI (arun N d) 180 [rv (some 87)] r3).bind fun r4 => (cV (arun N d) 175 [rv (some 87)] r4.2).bind fun r5 => EX10_best N d n 50 [some (rv (some 87)), some (iv x1), some (iv x2), some (iv r4.1), some (iv 0), some (iv ((-1))), some (iv 0), none] r5 := rfl
set_option maxRecDepth 10000 in
theorem sgX10_best_50 (N d n : Nat) (x1 : Int32) (x2 : Int32) (x3 : Int32) (x4 : Int32) (x5 : Int32) (x6 : Int32) (I : Nat → Nat → Int32) (J : Nat → Nat → Int64) (cd : Nat × Nat) : EX10_best N d (n + 1) 50 [some (rv (some 87)), some (iv x1), some (iv x2), some (iv x3), some (iv x4), some (iv x5), some (iv x6), none] (I, J, cd) =
  (cI (arun N d) 201 [rv (some 87), iv x1] (I, J, cd)).bind fun r1 => if r1.1 ≤ x6 then
    (cV (arun N d) 203 [rv (some 87), iv x4, iv x1, iv x2] r1.2).bind fun r2 => some (iv x5, r2)
  else
    EX10_best N d n 63 [some (rv (some 87)), some (iv x1), some (iv x2), some (iv x3), some (iv x4), some (iv x5), some (iv x6), some (iv 0)] r1.2 := rfl
set_option maxRecDepth 10000 in
theorem sgX10_best_63 (N d n : Nat) (x1 : Int32) (x2 : Int32) (x3 : Int32) (x4 : Int32) (x5 : Int32) (x6 : Int32) (x7 : Int32) (I : Nat → Nat → Int32) (J : Nat → Nat → Int64) (cd : Nat × Nat) : EX10_best N d (n + 1) 63 [some (rv (some 87)), some (iv x1), some (iv x2), some (iv x3), some (iv x4), some (iv x5), some (iv x6), some (iv x7)] (I, J, cd) =
  if x1 ≤ x7 then
    (cI (arun N d) 180 [rv (some 87)] (I, J, cd)).bind fun r1 => if (r1.1 - x3) ≤ x5 then
      EX10_best N d n 113 [some (rv (some 87)), some (iv x1), some (iv x2), some (iv x3), some (iv x4), some (iv x5), some (iv x6), some (iv (r1.1 - x3))] r1.2
    else
      EX10_best N d n 113 [some (rv (some 87)), some (iv x1), some (iv x2), some (iv x3), some (iv x6), some (iv x5), some (iv x6), some (iv (r1.1 - x3))] r1.2
  else
    (cI (arun N d) 202 [rv (some 87), iv x6, iv x1, iv x7] (I, J, cd)).bind fun r2 => (cI (arun N d) 179 [rv (some 87), iv r2.1] r2.2).bind fun r3 => EX10_best N d n 63 [some (rv (some 87)), some (iv x1), some (iv x2), some (iv x3), some (iv x4), some (iv x5), some (iv x6), some (iv (x7 + 1))] r3.2 := rfl
set_option maxRecDepth 10000 in
theorem sgX10_best_113 (N d n : Nat) (x1 : Int32) (x2 : Int32) (x3 : Int32) (x4 : Int32) (x5 : Int32) (x6 : Int32) (x7 : Int32) (I : Nat → Nat → Int32) (J : Nat → Nat → Int64) (cd : Nat × Nat) : EX10_best N d (n + 1) 113 [some (rv (some 87)), some (iv x1), some (iv x2), some (iv x3), some (iv x4), some (iv x5), some (iv x6), some (iv x7)] (I, J, cd) =
  (cI (arun N d) 141 [iv x5, iv x7] (I, J, cd)).bind fun r1 => (cV (arun N d) 176 [rv (some 87)] r1.2).bind fun r2 => EX10_best N d n 50 [some (rv (some 87)), some (iv x1), some (iv x2), some (iv x3), some (iv x4), some (iv r1.1), some (iv (x6 + 1)), none] r2 := rfl
def EX10_millSet (N d : Nat) : Nat → Nat → LO → AH → Option RES := exec (CX10_millSet (arun N d)) [(4, [0, 1, 2])]
theorem enX10_millSet (N d : Nat) (q0 : Nat) (A : AH) : arun N (d + 1) 206 [rv (some q0)] A = EX10_millSet N d N 0 [some (rv (some q0)), none, none] A := rfl
set_option maxRecDepth 10000 in
theorem sgX10_millSet_0 (N d n : Nat)  (I : Nat → Nat → Int32) (J : Nat → Nat → Int64) (cd : Nat × Nat) : EX10_millSet N d (n + 1) 0 [some (rv (some 87)), none, none] (I, J, cd) =
  EX10_millSet N d n 4 [some (rv (some 87)), some (iv 0), some (iv 0)] (I, J, cd) := rfl
set_option maxRecDepth 10000 in
theorem sgX10_millSet_4 (N d n : Nat) (x1 : Int32) (x2 : Int32) (I : Nat → Nat → Int32) (J : Nat → Nat → Int64) (cd : Nat × Nat) : EX10_millSet N d (n + 1) 4 [some (rv (some 87)), some (iv x1), some (iv x2)] (I, J, cd) =
  if (I 87 10) ≤ x2 then
    some (iv x1, (I, J, cd))
  else
    if inb x2 6 then ((cI (arun N d) 163 [iv (I 96 x2.toNatClampNeg)] (I, J, cd)).bind fun r1 => if r1.1 = 0 then
      EX10_millSet N d n 4 [some (rv (some 87)), some (iv (x1 ||| 0)), some (iv (x2 + 1))] r1.2
    else
      EX10_millSet N d n 4 [some (rv (some 87)), some (iv (x1 ||| (1 <<< (x2 &&& 31)))), some (iv (x2 + 1))] r1.2) else none := rfl
def EX10_all (N d : Nat) : Nat → Nat → LO → AH → Option RES := exec (CX10_all (arun N d)) [(53, [0, 1, 2, 3, 4, 5, 6]), (72, [0, 1, 2, 3, 4, 5, 6, 7, 8, 9]), (135, [0, 1, 2, 3, 4, 5, 6, 7, 8]), (155, [0, 1, 2, 3, 4, 5, 6])]
theorem enX10_all (N d : Nat) (q0 : Nat) (x1 : Int32) (x2 : Int32) (A : AH) : arun N (d + 1) 207 [rv (some q0), iv x1, iv x2] A = EX10_all N d N 0 [some (rv (some q0)), some (iv x1), some (iv x2), none, none, none, none, none, none, none] A := rfl
set_option maxRecDepth 10000 in
theorem sgX10_all_0 (N d n : Nat) (x1 : Int32) (x2 : Int32) (I : Nat → Nat → Int32) (J : Nat → Nat → Int64) (cd : Nat × Nat) : EX10_all N d (n + 1) 0 [some (rv (some 87)), some (iv x1), some (iv x2), none, none, none, none, none, none, none] (I, J, cd) =
  (cI (arun N d) 137 [iv x1, iv 0, iv 4] (I, J, cd)).bind fun r1 => if r1.1 = 0 then
    some (iv ((-1)), r1.2)
  else
    (cI (arun N d) 143 [iv x2] r1.2).bind fun r2 => if r2.1 = 0 then
      some (iv ((-1)), r2.2)
    else
      if (r2.2.1 87 10) = 0 then
        some (iv ((-4)), r2.2)
      else
        (cV (arun N d) 200 [rv (some 87)] r2.2).bind fun r3 => (cI (arun N d) 206 [rv (some 87)] r3).bind fun r4 => (cV (arun N d) 175 [rv (some 87)] r4.2).bind fun r5 => EX10_all N d n 53 [some (rv (some 87)), some (iv x1), some (iv x2), some (iv r4.1), some (iv ((-9))), some (iv 1048576), some (iv 0), none, none, none] r5 := rfl
set_option maxRecDepth 10000 in
theorem sgX10_all_53 (N d n : Nat) (x1 : Int32) (x2 : Int32) (x3 : Int32) (x4 : Int32) (x5 : Int32) (x6 : Int32) (I : Nat → Nat → Int32) (J : Nat → Nat → Int64) (cd : Nat × Nat) : EX10_all N d (n + 1) 53 [some (rv (some 87)), some (iv x1), some (iv x2), some (iv x3), some (iv x4), some (iv x5), some (iv x6), none, none, none] (I, J, cd) =
  (cI (arun N d) 201 [rv (some 87), iv x1] (I, J, cd)).bind fun r1 => if r1.1 ≤ x6 then
    if x4 = ((-9)) then
      some (iv ((-9)), r1.2)
    else
      (cV (arun N d) 203 [rv (some 87), iv x4, iv x1, iv x2] r1.2).bind fun r2 => some (iv x5, r2)
  else
    EX10_all N d n 72 [some (rv (some 87)), some (iv x1), some (iv x2), some (iv x3), some (iv x4), some (iv x5), some (iv x6), some (iv 0), some (iv 1), some (iv 0)] r1.2 := rfl
set_option maxRecDepth 10000 in
theorem sgX10_all_72 (N d n : Nat) (x1 : Int32) (x2 : Int32) (x3 : Int32) (x4 : Int32) (x5 : Int32) (x6 : Int32) (x7 : Int32) (x8 : Int32) (x9 : Int32) (I : Nat → Nat → Int32) (J : Nat → Nat → Int64) (cd : Nat × Nat) : EX10_all N d (n + 1) 72 [some (rv (some 87)), some (iv x1), some (iv x2), some (iv x3), some (iv x4), some (iv x5), some (iv x6), some (iv x7), some (iv x8), some (iv x9)] (I, J, cd) =
  if x1 ≤ x9 then
    EX10_all N d n 135 [some (rv (some 87)), some (iv x1), some (iv x2), some (iv x3), some (iv x4), some (iv x5), some (iv x6), some (iv x7), some (iv x8), none] (I, J, cd)
  else
    if x8 = 0 then
      EX10_all N d n 135 [some (rv (some 87)), some (iv x1), some (iv x2), some (iv x3), some (iv x4), some (iv x5), some (iv x6), some (iv x7), some (iv x8), none] (I, J, cd)
    else
      (cI (arun N d) 202 [rv (some 87), iv x6, iv x1, iv x9] (I, J, cd)).bind fun r1 => (cI (arun N d) 179 [rv (some 87), iv r1.1] r1.2).bind fun r2 => (cI (arun N d) 202 [rv (some 87), iv x6, iv x1, iv x9] r2.2).bind fun r3 => (cI (arun N d) 204 [iv r3.1] r3.2).bind fun r4 => if (r4.2.1 87 31) = x3 then
        EX10_all N d n 72 [some (rv (some 87)), some (iv x1), some (iv x2), some (iv x3), some (iv x4), some (iv x5), some (iv x6), some (iv (x7 + r4.1)), some (iv 1), some (iv (x9 + 1))] r4.2
      else
        EX10_all N d n 72 [some (rv (some 87)), some (iv x1), some (iv x2), some (iv x3), some (iv x4), some (iv x5), some (iv x6), some (iv (x7 + r4.1)), some (iv 0), some (iv (x9 + 1))] r4.2 := rfl
set_option maxRecDepth 10000 in
theorem sgX10_all_135 (N d n : Nat) (x1 : Int32) (x2 : Int32) (x3 : Int32) (x4 : Int32) (x5 : Int32) (x6 : Int32) (x7 : Int32) (x8 : Int32) (I : Nat → Nat → Int32) (J : Nat → Nat → Int64) (cd : Nat × Nat) : EX10_all N d (n + 1) 135 [some (rv (some 87)), some (iv x1), some (iv x2), some (iv x3), some (iv x4), some (iv x5), some (iv x6), some (iv x7), some (iv x8), none] (I, J, cd) =
  if x8 = 0 then
    EX10_all N d n 155 [some (rv (some 87)), some (iv x1), some (iv x2), some (iv x3), some (iv x4), some (iv x5), some (iv x6), none, none, none] (I, J, cd)
  else
    if x5 ≤ x7 then
      EX10_all N d n 155 [some (rv (some 87)), some (iv x1), some (iv x2), some (iv x3), some (iv x4), some (iv x5), some (iv x6), none, none, none] (I, J, cd)
    else
      EX10_all N d n 155 [some (rv (some 87)), some (iv x1), some (iv x2), some (iv x3), some (iv x6), some (iv x7), some (iv x6), none, none, none] (I, J, cd) := rfl
set_option maxRecDepth 10000 in
theorem sgX10_all_155 (N d n : Nat) (x1 : Int32) (x2 : Int32) (x3 : Int32) (x4 : Int32) (x5 : Int32) (x6 : Int32) (I : Nat → Nat → Int32) (J : Nat → Nat → Int64) (cd : Nat × Nat) : EX10_all N d (n + 1) 155 [some (rv (some 87)), some (iv x1), some (iv x2), some (iv x3), some (iv x4), some (iv x5), some (iv x6), none, none, none] (I, J, cd) =
  (cV (arun N d) 176 [rv (some 87)] (I, J, cd)).bind fun r1 => EX10_all N d n 53 [some (rv (some 87)), some (iv x1), some (iv x2), some (iv x3), some (iv x4), some (iv x5), some (iv (x6 + 1)), none, none, none] r1 := rfl
def EX10_most (N d : Nat) : Nat → Nat → LO → AH → Option RES := exec (CX10_most (arun N d)) [(49, [0, 1, 2, 3, 4, 5]), (62, [0, 1, 2, 3, 4, 5, 6])]
theorem enX10_most (N d : Nat) (q0 : Nat) (x1 : Int32) (x2 : Int32) (A : AH) : arun N (d + 1) 208 [rv (some q0), iv x1, iv x2] A = EX10_most N d N 0 [some (rv (some q0)), some (iv x1), some (iv x2), none, none, none, none] A := rfl
set_option maxRecDepth 10000 in
theorem sgX10_most_0 (N d n : Nat) (x1 : Int32) (x2 : Int32) (I : Nat → Nat → Int32) (J : Nat → Nat → Int64) (cd : Nat × Nat) : EX10_most N d (n + 1) 0 [some (rv (some 87)), some (iv x1), some (iv x2), none, none, none, none] (I, J, cd) =
  (cI (arun N d) 170 [iv x1] (I, J, cd)).bind fun r1 => if r1.1 = 0 then
    some (iv ((-1)), r1.2)
  else
    (cI (arun N d) 137 [iv x2, iv 0, iv 4] r1.2).bind fun r2 => if r2.1 = 0 then
      some (iv ((-1)), r2.2)
    else
      if (r2.2.1 87 10) = 0 then
        some (iv ((-4)), r2.2)
      else
        (cV (arun N d) 200 [rv (some 87)] r2.2).bind fun r3 => if inb x1 7 then ((cV (arun N d) 175 [rv (some 87)] r3).bind fun r4 => EX10_most N d n 49 [some (rv (some 87)), some (iv x1), some (iv x2), some (iv (r3.1 101 x1.toNatClampNeg)), some (iv 0), some (iv 0), none] r4) else none := rfl
set_option maxRecDepth 10000 in
theorem sgX10_most_49 (N d n : Nat) (x1 : Int32) (x2 : Int32) (x3 : Int32) (x4 : Int32) (x5 : Int32) (I : Nat → Nat → Int32) (J : Nat → Nat → Int64) (cd : Nat × Nat) : EX10_most N d (n + 1) 49 [some (rv (some 87)), some (iv x1), some (iv x2), some (iv x3), some (iv x4), some (iv x5), none] (I, J, cd) =
  (cI (arun N d) 201 [rv (some 87), iv x2] (I, J, cd)).bind fun r1 => if r1.1 ≤ x5 then
    some (iv x4, r1.2)
  else
    EX10_most N d n 62 [some (rv (some 87)), some (iv x1), some (iv x2), some (iv x3), some (iv x4), some (iv x5), some (iv 0)] r1.2 := rfl
set_option maxRecDepth 10000 in
theorem sgX10_most_62 (N d n : Nat) (x1 : Int32) (x2 : Int32) (x3 : Int32) (x4 : Int32) (x5 : Int32) (x6 : Int32) (I : Nat → Nat → Int32) (J : Nat → Nat → Int64) (cd : Nat × Nat) : EX10_most N d (n + 1) 62 [some (rv (some 87)), some (iv x1), some (iv x2), some (iv x3), some (iv x4), some (iv x5), some (iv x6)] (I, J, cd) =
  if x2 ≤ x6 then
    if inb x1 7 then ((cI (arun N d) 141 [iv x4, iv ((I 101 x1.toNatClampNeg) - x3)] (I, J, cd)).bind fun r1 => (cV (arun N d) 176 [rv (some 87)] r1.2).bind fun r2 => EX10_most N d n 49 [some (rv (some 87)), some (iv x1), some (iv x2), some (iv x3), some (iv r1.1), some (iv (x5 + 1)), none] r2) else none
  else
    (cI (arun N d) 202 [rv (some 87), iv x5, iv x2, iv x6] (I, J, cd)).bind fun r3 => (cI (arun N d) 179 [rv (some 87), iv r3.1] r3.2).bind fun r4 => EX10_most N d n 62 [some (rv (some 87)), some (iv x1), some (iv x2), some (iv x3), some (iv x4), some (iv x5), some (iv (x6 + 1))] r4.2 := rfl
def EX10_worth (N d : Nat) : Nat → Nat → LO → AH → Option RES := exec (CX10_worth (arun N d)) [(41, [0, 1, 2, 3, 4, 5]), (57, [0, 1, 2, 3, 4, 5, 6]), (97, [0, 1, 2, 3, 4, 5, 6]), (113, [0, 1, 2, 3, 4, 5])]
theorem enX10_worth (N d : Nat) (q0 : Nat) (x1 : Int32) (A : AH) : arun N (d + 1) 209 [rv (some q0), iv x1] A = EX10_worth N d N 0 [some (rv (some q0)), some (iv x1), none, none, none, none, none] A := rfl
set_option maxRecDepth 10000 in
theorem sgX10_worth_0 (N d n : Nat) (x1 : Int32) (I : Nat → Nat → Int32) (J : Nat → Nat → Int64) (cd : Nat × Nat) : EX10_worth N d (n + 1) 0 [some (rv (some 87)), some (iv x1), none, none, none, none, none] (I, J, cd) =
  (cI (arun N d) 137 [iv x1, iv 0, iv 20] (I, J, cd)).bind fun r1 => if r1.1 = 0 then
    some (iv ((-1)), r1.2)
  else
    if (r1.2.1 87 10) = 0 then
      some (iv ((-4)), r1.2)
    else
      (cI (arun N d) 180 [rv (some 87)] r1.2).bind fun r2 => (cV (arun N d) 175 [rv (some 87)] r2.2).bind fun r3 => EX10_worth N d n 41 [some (rv (some 87)), some (iv x1), some (iv r2.1), some (iv 0), some (iv 1048576), some (iv 0), none] r3 := rfl
set_option maxRecDepth 10000 in
theorem sgX10_worth_41 (N d n : Nat) (x1 : Int32) (x2 : Int32) (x3 : Int32) (x4 : Int32) (x5 : Int32) (I : Nat → Nat → Int32) (J : Nat → Nat → Int64) (cd : Nat × Nat) : EX10_worth N d (n + 1) 41 [some (rv (some 87)), some (iv x1), some (iv x2), some (iv x3), some (iv x4), some (iv x5), none] (I, J, cd) =
  if 7 ≤ x5 then
    (cI (arun N d) 139 [rv (some 87), iv x4, iv x3] (wr I 87 32 ((-9)), J, cd)).bind fun r1 => some (iv r1.1, r1.2)
  else
    EX10_worth N d n 57 [some (rv (some 87)), some (iv x1), some (iv x2), some (iv x3), some (iv x4), some (iv x5), some (iv 0)] (wr I 87 32 x5, J, cd) := rfl
set_option maxRecDepth 10000 in
theorem sgX10_worth_57 (N d n : Nat) (x1 : Int32) (x2 : Int32) (x3 : Int32) (x4 : Int32) (x5 : Int32) (x6 : Int32) (I : Nat → Nat → Int32) (J : Nat → Nat → Int64) (cd : Nat × Nat) : EX10_worth N d (n + 1) 57 [some (rv (some 87)), some (iv x1), some (iv x2), some (iv x3), some (iv x4), some (iv x5), some (iv x6)] (I, J, cd) =
  if x1 ≤ x6 then
    (cI (arun N d) 180 [rv (some 87)] (I, J, cd)).bind fun r1 => if x4 ≤ (r1.1 - x2) then
      EX10_worth N d n 97 [some (rv (some 87)), some (iv x1), some (iv x2), some (iv x3), some (iv x4), some (iv x5), some (iv (r1.1 - x2))] r1.2
    else
      EX10_worth N d n 97 [some (rv (some 87)), some (iv x1), some (iv x2), some (iv x5), some (iv x4), some (iv x5), some (iv (r1.1 - x2))] r1.2
  else
    (cI (arun N d) 179 [rv (some 87), iv 0] (I, J, cd)).bind fun r2 => EX10_worth N d n 57 [some (rv (some 87)), some (iv x1), some (iv x2), some (iv x3), some (iv x4), some (iv x5), some (iv (x6 + 1))] r2.2 := rfl
set_option maxRecDepth 10000 in
theorem sgX10_worth_97 (N d n : Nat) (x1 : Int32) (x2 : Int32) (x3 : Int32) (x4 : Int32) (x5 : Int32) (x6 : Int32) (I : Nat → Nat → Int32) (J : Nat → Nat → Int64) (cd : Nat × Nat) : EX10_worth N d (n + 1) 97 [some (rv (some 87)), some (iv x1), some (iv x2), some (iv x3), some (iv x4), some (iv x5), some (iv x6)] (I, J, cd) =
  if x4 ≤ x6 then
    EX10_worth N d n 113 [some (rv (some 87)), some (iv x1), some (iv x2), some (iv x3), some (iv x4), some (iv x5), none] (I, J, cd)
  else
    EX10_worth N d n 113 [some (rv (some 87)), some (iv x1), some (iv x2), some (iv x3), some (iv x6), some (iv x5), none] (I, J, cd) := rfl
set_option maxRecDepth 10000 in
theorem sgX10_worth_113 (N d n : Nat) (x1 : Int32) (x2 : Int32) (x3 : Int32) (x4 : Int32) (x5 : Int32) (I : Nat → Nat → Int32) (J : Nat → Nat → Int64) (cd : Nat × Nat) : EX10_worth N d (n + 1) 113 [some (rv (some 87)), some (iv x1), some (iv x2), some (iv x3), some (iv x4), some (iv x5), none] (I, J, cd) =
  (cV (arun N d) 176 [rv (some 87)] (I, J, cd)).bind fun r1 => EX10_worth N d n 41 [some (rv (some 87)), some (iv x1), some (iv x2), some (iv x3), some (iv x4), some (iv (x5 + 1)), none] r1 := rfl
def EX10_groundBy (N d : Nat) : Nat → Nat → LO → AH → Option RES := exec (CX10_groundBy (arun N d)) [(13, [0, 1, 2, 3, 4, 5, 6])]
theorem enX10_groundBy (N d : Nat) (q0 : Nat) (x1 : Int32) (x2 : Int32) (x3 : Int32) (x4 : Int32) (A : AH) : arun N (d + 1) 210 [rv (some q0), iv x1, iv x2, iv x3, iv x4] A = EX10_groundBy N d N 0 [some (rv (some q0)), some (iv x1), some (iv x2), some (iv x3), some (iv x4), none, none] A := rfl
set_option maxRecDepth 10000 in
theorem sgX10_groundBy_0 (N d n : Nat) (x1 : Int32) (x2 : Int32) (x3 : Int32) (x4 : Int32) (I : Nat → Nat → Int32) (J : Nat → Nat → Int64) (cd : Nat × Nat) : EX10_groundBy N d (n + 1) 0 [some (rv (some 87)), some (iv x1), some (iv x2), some (iv x3), some (iv x4), none, none] (I, J, cd) =
  (cI (arun N d) 180 [rv (some 87)] (I, J, cd)).bind fun r1 => (cV (arun N d) 175 [rv (some 87)] r1.2).bind fun r2 => EX10_groundBy N d n 13 [some (rv (some 87)), some (iv x1), some (iv x2), some (iv x3), some (iv x4), some (iv r1.1), some (iv 0)] r2 := rfl
set_option maxRecDepth 10000 in
theorem sgX10_groundBy_13 (N d n : Nat) (x1 : Int32) (x2 : Int32) (x3 : Int32) (x4 : Int32) (x5 : Int32) (x6 : Int32) (I : Nat → Nat → Int32) (J : Nat → Nat → Int64) (cd : Nat × Nat) : EX10_groundBy N d (n + 1) 13 [some (rv (some 87)), some (iv x1), some (iv x2), some (iv x3), some (iv x4), some (iv x5), some (iv x6)] (I, J, cd) =
  if x1 ≤ x6 then
    (cI (arun N d) 180 [rv (some 87)] (I, J, cd)).bind fun r1 => (cV (arun N d) 176 [rv (some 87)] r1.2).bind fun r2 => some (iv (r1.1 - x5), r2)
  else
    if x6 = 0 then
      if inb x2 8 then ((cI (arun N d) 179 [rv (some 87), iv (I 109 x2.toNatClampNeg)] (I, J, cd)).bind fun r3 => EX10_groundBy N d n 13 [some (rv (some 87)), some (iv x1), some (iv x2), some (iv x3), some (iv x4), some (iv x5), some (iv (x6 + 1))] r3.2) else none
    else
      if x6 = 1 then
        if inb x3 8 then ((cI (arun N d) 179 [rv (some 87), iv (I 109 x3.toNatClampNeg)] (I, J, cd)).bind fun r4 => EX10_groundBy N d n 13 [some (rv (some 87)), some (iv x1), some (iv x2), some (iv x3), some (iv x4), some (iv x5), some (iv (x6 + 1))] r4.2) else none
      else
        if inb x4 8 then ((cI (arun N d) 179 [rv (some 87), iv (I 109 x4.toNatClampNeg)] (I, J, cd)).bind fun r5 => EX10_groundBy N d n 13 [some (rv (some 87)), some (iv x1), some (iv x2), some (iv x3), some (iv x4), some (iv x5), some (iv (x6 + 1))] r5.2) else none := rfl
