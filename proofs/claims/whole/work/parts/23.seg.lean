/-! what a run from a place to the next ones gives -/
def EX9_followPlan (N d : Nat) : Nat → Nat → LO → AH → Option RES := exec (CX9_followPlan (arun N d)) [(23, [0, 1, 2])]
theorem enX9_followPlan (N d : Nat) (q0 : Nat) (x1 : Int32) (A : AH) : arun N (d + 1) 130 [rv (some q0), iv x1] A = EX9_followPlan N d N 0 [some (rv (some q0)), some (iv x1), none] A := rfl
set_option maxRecDepth 10000 in
theorem sgX9_followPlan_0 (N d n : Nat) (x1 : Int32) (I : Nat → Nat → Int32) (J : Nat → Nat → Int64) : EX9_followPlan N d (n + 1) 0 [some (rv (some 0)), some (iv x1), none] (I, J, 73, 80) =
  (cV (arun N d) 4 [rv (some 39), rv (some 20), iv (I 25 0)] (I, J, 73, 80)).bind fun r1 => EX9_followPlan N d n 23 [some (rv (some 0)), some (iv x1), some (iv 0)] r1 := rfl
set_option maxRecDepth 10000 in
theorem sgX9_followPlan_23 (N d n : Nat) (x1 : Int32) (x2 : Int32) (I : Nat → Nat → Int32) (J : Nat → Nat → Int64) : EX9_followPlan N d (n + 1) 23 [some (rv (some 0)), some (iv x1), some (iv x2)] (I, J, 73, 80) =
  (cI (arun N d) 54 [rv (some 1), iv x1] (I, J, 73, 80)).bind fun r1 => if r1.1 ≤ x2 then
    some (rv none, r1.2)
  else
    (cI (arun N d) 57 [rv (some 1), iv x1, iv x2] r1.2).bind fun r2 => (cV (arun N d) 5 [rv (some 39), rv (some r1.2.2.2.1), iv x2, iv r2.1] r2.2).bind fun r3 => EX9_followPlan N d n 23 [some (rv (some 0)), some (iv x1), some (iv (x2 + 1))] r3 := rfl
def EX9_groundWithout (N d : Nat) : Nat → Nat → LO → AH → Option RES := exec (CX9_groundWithout (arun N d)) [(31, [0, 2, 3])]
theorem enX9_groundWithout (N d : Nat) (q0 : Nat) (x1 : Int32) (x2 : Int32) (A : AH) : arun N (d + 1) 131 [rv (some q0), iv x1, iv x2] A = EX9_groundWithout N d N 0 [some (rv (some q0)), some (iv x1), some (iv x2), none] A := rfl
set_option maxRecDepth 10000 in
theorem sgX9_groundWithout_0 (N d n : Nat) (x1 : Int32) (x2 : Int32) (I : Nat → Nat → Int32) (J : Nat → Nat → Int64) : EX9_groundWithout N d (n + 1) 0 [some (rv (some 0)), some (iv x1), some (iv x2), none] (I, J, 73, 80) =
  (cV (arun N d) 4 [rv (some 39), rv (some 20), iv (I 25 0)] (I, J, 73, 80)).bind fun r1 => EX9_groundWithout N d n 31 [some (rv (some 0)), none, some (iv x2), some (iv 0)] (wr r1.1 39 0 x1, r1.2.1, r1.2.2) := rfl
set_option maxRecDepth 10000 in
theorem sgX9_groundWithout_31 (N d n : Nat) (x2 : Int32) (x3 : Int32) (I : Nat → Nat → Int32) (J : Nat → Nat → Int64) : EX9_groundWithout N d (n + 1) 31 [some (rv (some 0)), none, some (iv x2), some (iv x3)] (I, J, 73, 80) =
  if x2 ≤ x3 then
    some (iv (I 39 4), (I, J, 73, 80))
  else
    (cV (arun N d) 5 [rv (some 39), rv (some 73), iv x3, iv 0] (I, J, 73, 80)).bind fun r1 => EX9_groundWithout N d n 31 [some (rv (some 0)), none, some (iv x2), some (iv (x3 + 1))] r1 := rfl
def EX9_agrees (N d : Nat) : Nat → Nat → LO → AH → Option RES := exec (CX9_agrees (arun N d)) [(6, [0, 1, 2, 4, 5, 6])]
theorem enX9_agrees (N d : Nat) (q0 : Nat) (x1 : Int32) (x2 : Int32) (x3 : Int32) (x4 : Int32) (A : AH) : arun N (d + 1) 132 [rv (some q0), iv x1, iv x2, iv x3, iv x4] A = EX9_agrees N d N 0 [some (rv (some q0)), some (iv x1), some (iv x2), some (iv x3), some (iv x4), none, none, none] A := rfl
set_option maxRecDepth 10000 in
theorem sgX9_agrees_0 (N d n : Nat) (x1 : Int32) (x2 : Int32) (x3 : Int32) (x4 : Int32) (I : Nat → Nat → Int32) (J : Nat → Nat → Int64) : EX9_agrees N d (n + 1) 0 [some (rv (some 0)), some (iv x1), some (iv x2), some (iv x3), some (iv x4), none, none, none] (I, J, 73, 80) =
  EX9_agrees N d n 6 [some (rv (some 0)), some (iv x1), some (iv x2), none, some (iv x4), some (iv x3), some (iv 0), none] (I, J, 73, 80) := rfl
set_option maxRecDepth 10000 in
theorem sgX9_agrees_6 (N d n : Nat) (x1 : Int32) (x2 : Int32) (x4 : Int32) (x5 : Int32) (x6 : Int32) (I : Nat → Nat → Int32) (J : Nat → Nat → Int64) : EX9_agrees N d (n + 1) 6 [some (rv (some 0)), some (iv x1), some (iv x2), none, some (iv x4), some (iv x5), some (iv x6), none] (I, J, 73, 80) =
  (cI (arun N d) 54 [rv (some 1), iv x4] (I, J, 73, 80)).bind fun r1 => if r1.1 ≤ (x6 + 1) then
    some (iv 1, r1.2)
  else
    (cI (arun N d) 41 [iv x1, iv x2, iv x5, iv 0] r1.2).bind fun r2 => (cI (arun N d) 57 [rv (some 1), iv x4, iv (x6 + 1)] r2.2).bind fun r3 => if r2.1 = r3.1 then
      (cI (arun N d) 57 [rv (some 1), iv x4, iv x6] r3.2).bind fun r4 => (cI (arun N d) 42 [iv x1, iv ((x5 - r2.1) + r4.1)] r4.2).bind fun r5 => EX9_agrees N d n 6 [some (rv (some 0)), some (iv x1), some (iv x2), none, some (iv x4), some (iv r5.1), some (iv (x6 + 2)), none] r5.2
    else
      some (iv 0, r3.2) := rfl
def EX9_ofReach (N d : Nat) : Nat → Nat → LO → AH → Option RES := exec (CX9_ofReach (arun N d)) []
theorem enX9_ofReach (N d : Nat) (q0 : Nat) (x1 : Int32) (x2 : Int32) (A : AH) : arun N (d + 1) 133 [rv (some q0), iv x1, iv x2] A = EX9_ofReach N d N 0 [some (rv (some q0)), some (iv x1), some (iv x2)] A := rfl
set_option maxRecDepth 10000 in
theorem sgX9_ofReach_0 (N d n : Nat) (x1 : Int32) (x2 : Int32) (I : Nat → Nat → Int32) (J : Nat → Nat → Int64) : EX9_ofReach N d (n + 1) 0 [some (rv (some 0)), some (iv x1), some (iv x2)] (I, J, 73, 80) =
  if x2 = 0 then
    if inb x1 6 then (some (iv (I 74 x1.toNatClampNeg), (I, J, 73, 80))) else none
  else
    if x2 = 1 then
      if inb x1 6 then (some (iv (I 75 x1.toNatClampNeg), (I, J, 73, 80))) else none
    else
      if x2 = 2 then
        if inb x1 6 then (some (iv (I 20 x1.toNatClampNeg), (I, J, 73, 80))) else none
      else
        if x2 = 3 then
          if inb x1 6 then (some (iv (I 21 x1.toNatClampNeg), (I, J, 73, 80))) else none
        else
          if inb x1 6 then (some (iv (I 22 x1.toNatClampNeg), (I, J, 73, 80))) else none := rfl
def EX9_counted (N d : Nat) : Nat → Nat → LO → AH → Option RES := exec (CX9_counted (arun N d)) []
theorem enX9_counted (N d : Nat) (q0 : Nat) (x1 : Int32) (A : AH) : arun N (d + 1) 134 [rv (some q0), iv x1] A = EX9_counted N d N 0 [some (rv (some q0)), some (iv x1)] A := rfl
set_option maxRecDepth 10000 in
theorem sgX9_counted_0 (N d n : Nat) (x1 : Int32) (I : Nat → Nat → Int32) (J : Nat → Nat → Int64) : EX9_counted N d (n + 1) 0 [some (rv (some 0)), some (iv x1)] (I, J, 73, 80) =
  if x1 = 0 then
    some (iv (I 73 0), (I, J, 73, 80))
  else
    if x1 = 1 then
      some (iv (I 25 0), (I, J, 73, 80))
    else
      if x1 = 2 then
        some (iv (I 25 0), (I, J, 73, 80))
      else
        if x1 = 3 then
          (cI (arun N d) 136 [rv (some 20)] (I, J, 73, 80)).bind fun r1 => some (iv r1.1, r1.2)
        else
          if x1 = 4 then
            (cI (arun N d) 136 [rv (some 23)] (I, J, 73, 80)).bind fun r2 => some (iv r2.1, r2.2)
          else
            if x1 = 5 then
              (cI (arun N d) 136 [rv (some 21)] (I, J, 73, 80)).bind fun r3 => some (iv r3.1, r3.2)
            else
              if x1 = 6 then
                (cI (arun N d) 0 [iv (I 73 1)] (I, J, 73, 80)).bind fun r4 => some (iv r4.1, r4.2)
              else
                if x1 = 7 then
                  (cI (arun N d) 0 [iv (I 73 2)] (I, J, 73, 80)).bind fun r5 => some (iv r5.1, r5.2)
                else
                  if x1 = 8 then
                    (cI (arun N d) 66 [rv (some 1)] (I, J, 73, 80)).bind fun r6 => some (iv r6.1, r6.2)
                  else
                    if x1 = 9 then
                      (cI (arun N d) 66 [rv (some 10)] (I, J, 73, 80)).bind fun r7 => some (iv r7.1, r7.2)
                    else
                      (cI (arun N d) 135 [rv (some 0)] (I, J, 73, 80)).bind fun r8 => some (iv r8.1, r8.2) := rfl
def EX9_keptRivers (N d : Nat) : Nat → Nat → LO → AH → Option RES := exec (CX9_keptRivers (arun N d)) [(4, [0, 1, 2])]
theorem enX9_keptRivers (N d : Nat) (q0 : Nat) (A : AH) : arun N (d + 1) 135 [rv (some q0)] A = EX9_keptRivers N d N 0 [some (rv (some q0)), none, none] A := rfl
set_option maxRecDepth 10000 in
theorem sgX9_keptRivers_0 (N d n : Nat)  (I : Nat → Nat → Int32) (J : Nat → Nat → Int64) : EX9_keptRivers N d (n + 1) 0 [some (rv (some 0)), none, none] (I, J, 73, 80) =
  EX9_keptRivers N d n 4 [some (rv (some 0)), some (iv 0), some (iv 0)] (I, J, 73, 80) := rfl
set_option maxRecDepth 10000 in
theorem sgX9_keptRivers_4 (N d n : Nat) (x1 : Int32) (x2 : Int32) (I : Nat → Nat → Int32) (J : Nat → Nat → Int64) : EX9_keptRivers N d (n + 1) 4 [some (rv (some 0)), some (iv x1), some (iv x2)] (I, J, 73, 80) =
  if 3 ≤ x2 then
    some (iv x1, (I, J, 73, 80))
  else
    if inb x2 3 then (if (I 38 x2.toNatClampNeg) = 0 then
      EX9_keptRivers N d n 4 [some (rv (some 0)), some (iv (x1 + 0)), some (iv (x2 + 1))] (I, J, 73, 80)
    else
      EX9_keptRivers N d n 4 [some (rv (some 0)), some (iv (x1 + 1)), some (iv (x2 + 1))] (I, J, 73, 80)) else none := rfl
def EX9_sum (N d : Nat) : Nat → Nat → LO → AH → Option RES := exec (CX9_sum (arun N d)) [(10, [1, 2, 3, 4])]
theorem enX9_sum (N d : Nat) (q0 : Nat) (A : AH) : arun N (d + 1) 136 [rv (some q0)] A = EX9_sum N d N 0 [some (rv (some q0)), none, none, none, none, none] A := rfl
set_option maxRecDepth 10000 in
theorem sgX9_sum_20_0 (N d n : Nat)  (I : Nat → Nat → Int32) (J : Nat → Nat → Int64) (cd : Nat × Nat) : EX9_sum N d (n + 1) 0 [some (rv (some 20)), none, none, none, none, none] (I, J, cd) =
  EX9_sum N d n 10 [none, some (iv 0), some (rv (some 20)), some (iv (nI 6)), some (iv 0), none] (I, J, cd) := rfl
set_option maxRecDepth 10000 in
theorem sgX9_sum_20_10 (N d n : Nat) (x1 : Int32) (x3 : Int32) (x4 : Int32) (I : Nat → Nat → Int32) (J : Nat → Nat → Int64) (cd : Nat × Nat) : EX9_sum N d (n + 1) 10 [none, some (iv x1), some (rv (some 20)), some (iv x3), some (iv x4), none] (I, J, cd) =
  if x3 ≤ x4 then
    some (iv x1, (I, J, cd))
  else
    if inb x4 6 then (EX9_sum N d n 10 [none, some (iv (x1 + (I 20 x4.toNatClampNeg))), some (rv (some 20)), some (iv x3), some (iv (x4 + 1)), none] (I, J, cd)) else none := rfl
set_option maxRecDepth 10000 in
theorem sgX9_sum_21_0 (N d n : Nat)  (I : Nat → Nat → Int32) (J : Nat → Nat → Int64) (cd : Nat × Nat) : EX9_sum N d (n + 1) 0 [some (rv (some 21)), none, none, none, none, none] (I, J, cd) =
  EX9_sum N d n 10 [none, some (iv 0), some (rv (some 21)), some (iv (nI 6)), some (iv 0), none] (I, J, cd) := rfl
set_option maxRecDepth 10000 in
theorem sgX9_sum_21_10 (N d n : Nat) (x1 : Int32) (x3 : Int32) (x4 : Int32) (I : Nat → Nat → Int32) (J : Nat → Nat → Int64) (cd : Nat × Nat) : EX9_sum N d (n + 1) 10 [none, some (iv x1), some (rv (some 21)), some (iv x3), some (iv x4), none] (I, J, cd) =
  if x3 ≤ x4 then
    some (iv x1, (I, J, cd))
  else
    if inb x4 6 then (EX9_sum N d n 10 [none, some (iv (x1 + (I 21 x4.toNatClampNeg))), some (rv (some 21)), some (iv x3), some (iv (x4 + 1)), none] (I, J, cd)) else none := rfl
set_option maxRecDepth 10000 in
theorem sgX9_sum_23_0 (N d n : Nat)  (I : Nat → Nat → Int32) (J : Nat → Nat → Int64) (cd : Nat × Nat) : EX9_sum N d (n + 1) 0 [some (rv (some 23)), none, none, none, none, none] (I, J, cd) =
  EX9_sum N d n 10 [none, some (iv 0), some (rv (some 23)), some (iv (nI 7)), some (iv 0), none] (I, J, cd) := rfl
set_option maxRecDepth 10000 in
theorem sgX9_sum_23_10 (N d n : Nat) (x1 : Int32) (x3 : Int32) (x4 : Int32) (I : Nat → Nat → Int32) (J : Nat → Nat → Int64) (cd : Nat × Nat) : EX9_sum N d (n + 1) 10 [none, some (iv x1), some (rv (some 23)), some (iv x3), some (iv x4), none] (I, J, cd) =
  if x3 ≤ x4 then
    some (iv x1, (I, J, cd))
  else
    if inb x4 7 then (EX9_sum N d n 10 [none, some (iv (x1 + (I 23 x4.toNatClampNeg))), some (rv (some 23)), some (iv x3), some (iv (x4 + 1)), none] (I, J, cd)) else none := rfl
def EX10_in (N d : Nat) : Nat → Nat → LO → AH → Option RES := exec (CX10_in (arun N d)) []
theorem enX10_in (N d : Nat) (x0 : Int32) (x1 : Int32) (x2 : Int32) (A : AH) : arun N (d + 1) 137 [iv x0, iv x1, iv x2] A = EX10_in N d N 0 [some (iv x0), some (iv x1), some (iv x2)] A := rfl
set_option maxRecDepth 10000 in
theorem sgX10_in_0 (N d n : Nat) (x0 : Int32) (x1 : Int32) (x2 : Int32) (I : Nat → Nat → Int32) (J : Nat → Nat → Int64) (cd : Nat × Nat) : EX10_in N d (n + 1) 0 [some (iv x0), some (iv x1), some (iv x2)] (I, J, cd) =
  if x0 < x1 then
    some (iv 0, (I, J, cd))
  else
    if x2 < x0 then
      some (iv 0, (I, J, cd))
    else
      some (iv 1, (I, J, cd)) := rfl
def EX10_meet (N d : Nat) : Nat → Nat → LO → AH → Option RES := exec (CX10_meet (arun N d)) []
theorem enX10_meet (N d : Nat) (q0 : Nat) (x1 : Int32) (A : AH) : arun N (d + 1) 138 [rv (some q0), iv x1] A = EX10_meet N d N 0 [some (rv (some q0)), some (iv x1)] A := rfl
set_option maxRecDepth 10000 in
theorem sgX10_meet_0 (N d n : Nat) (x1 : Int32) (I : Nat → Nat → Int32) (J : Nat → Nat → Int64) (cd : Nat × Nat) : EX10_meet N d (n + 1) 0 [some (rv (some 87)), some (iv x1)] (I, J, cd) =
  if inb x1 6 then (if inb x1 6 then (some (iv ((-3)), (wr (wr I 87 0 x1) 88 x1.toNatClampNeg ((I 88 x1.toNatClampNeg) + 1), J, cd))) else none) else none := rfl
def EX10_ask (N d : Nat) : Nat → Nat → LO → AH → Option RES := exec (CX10_ask (arun N d)) []
theorem enX10_ask (N d : Nat) (q0 : Nat) (x1 : Int32) (x2 : Int32) (A : AH) : arun N (d + 1) 139 [rv (some q0), iv x1, iv x2] A = EX10_ask N d N 0 [some (rv (some q0)), some (iv x1), some (iv x2)] A := rfl
set_option maxRecDepth 10000 in
theorem sgX10_ask_0 (N d n : Nat) (x1 : Int32) (x2 : Int32) (I : Nat → Nat → Int32) (J : Nat → Nat → Int64) (cd : Nat × Nat) : EX10_ask N d (n + 1) 0 [some (rv (some 87)), some (iv x1), some (iv x2)] (I, J, cd) =
  some (iv x2, (wr I 87 2 x1, J, cd)) := rfl
def EX10_has (N d : Nat) : Nat → Nat → LO → AH → Option RES := exec (CX10_has (arun N d)) []
theorem enX10_has (N d : Nat) (x0 : Int32) (x1 : Int32) (A : AH) : arun N (d + 1) 140 [iv x0, iv x1] A = EX10_has N d N 0 [some (iv x0), some (iv x1)] A := rfl
set_option maxRecDepth 10000 in
theorem sgX10_has_0 (N d n : Nat) (x0 : Int32) (x1 : Int32) (I : Nat → Nat → Int32) (J : Nat → Nat → Int64) (cd : Nat × Nat) : EX10_has N d (n + 1) 0 [some (iv x0), some (iv x1)] (I, J, cd) =
  if ((x0 >>> (x1 &&& 31)) &&& 1) = 1 then
    some (iv 1, (I, J, cd))
  else
    some (iv 0, (I, J, cd)) := rfl
def EX10_greater (N d : Nat) : Nat → Nat → LO → AH → Option RES := exec (CX10_greater (arun N d)) []
theorem enX10_greater (N d : Nat) (x0 : Int32) (x1 : Int32) (A : AH) : arun N (d + 1) 141 [iv x0, iv x1] A = EX10_greater N d N 0 [some (iv x0), some (iv x1)] A := rfl
set_option maxRecDepth 10000 in
theorem sgX10_greater_0 (N d n : Nat) (x0 : Int32) (x1 : Int32) (I : Nat → Nat → Int32) (J : Nat → Nat → Int64) (cd : Nat × Nat) : EX10_greater N d (n + 1) 0 [some (iv x0), some (iv x1)] (I, J, cd) =
  if x0 ≤ x1 then
    some (iv x1, (I, J, cd))
  else
    some (iv x0, (I, J, cd)) := rfl
def EX10_part (N d : Nat) : Nat → Nat → LO → AH → Option RES := exec (CX10_part (arun N d)) [(6, [0, 1, 3, 5, 7])]
theorem enX10_part (N d : Nat) (q0 : Nat) (y1 : Int64) (y3 : Int64) (A : AH) : arun N (d + 1) 142 [rv (some q0), jv y1, jv y3] A = EX10_part N d N 0 [some (rv (some q0)), some (jv y1), none, some (jv y3), none, none, none, none, none, none, none] A := rfl
set_option maxRecDepth 10000 in
theorem sgX10_part_0 (N d n : Nat) (y1 : Int64) (y3 : Int64) (I : Nat → Nat → Int32) (J : Nat → Nat → Int64) (cd : Nat × Nat) : EX10_part N d (n + 1) 0 [some (rv (some 87)), some (jv y1), none, some (jv y3), none, none, none, none, none, none, none] (I, J, cd) =
  EX10_part N d n 6 [some (rv (some 87)), some (jv y1), none, some (jv y3), none, some (jv y1), none, some (jv y3), none, none, none] (I, J, cd) := rfl
set_option maxRecDepth 10000 in
theorem sgX10_part_6 (N d n : Nat) (y1 : Int64) (y3 : Int64) (y5 : Int64) (y7 : Int64) (I : Nat → Nat → Int32) (J : Nat → Nat → Int64) (cd : Nat × Nat) : EX10_part N d (n + 1) 6 [some (rv (some 87)), some (jv y1), none, some (jv y3), none, some (jv y5), none, some (jv y7), none, none, none] (I, J, cd) =
  if (lg_cmp y7 0) = 0 then
    if y5 = (0 : Int64) then none else (if y5 = (0 : Int64) then none else (some (iv 1, (I, wr (wr J 87 3 (y1 / y5)) 87 4 (y3 / y5), cd))))
  else
    if y7 = (0 : Int64) then none else (EX10_part N d n 6 [some (rv (some 87)), some (jv y1), none, some (jv y3), none, some (jv y7), none, some (jv (y5 - y5 / y7 * y7)), none, none, none] (I, J, cd)) := rfl
def EX10_isRow (N d : Nat) : Nat → Nat → LO → AH → Option RES := exec (CX10_isRow (arun N d)) []
theorem enX10_isRow (N d : Nat) (x0 : Int32) (A : AH) : arun N (d + 1) 143 [iv x0] A = EX10_isRow N d N 0 [some (iv x0)] A := rfl
set_option maxRecDepth 10000 in
theorem sgX10_isRow_0 (N d n : Nat) (x0 : Int32) (I : Nat → Nat → Int32) (J : Nat → Nat → Int64) (cd : Nat × Nat) : EX10_isRow N d (n + 1) 0 [some (iv x0)] (I, J, cd) =
  (cI (arun N d) 137 [iv x0, iv 0, iv 5] (I, J, cd)).bind fun r1 => if r1.1 = 1 then some (iv 1, r1.2) else if r1.1 = 0 then some (iv 0, r1.2) else none := rfl
def EX10_isText (N d : Nat) : Nat → Nat → LO → AH → Option RES := exec (CX10_isText (arun N d)) []
theorem enX10_isText (N d : Nat) (x0 : Int32) (A : AH) : arun N (d + 1) 144 [iv x0] A = EX10_isText N d N 0 [some (iv x0)] A := rfl
set_option maxRecDepth 10000 in
theorem sgX10_isText_0 (N d n : Nat) (x0 : Int32) (I : Nat → Nat → Int32) (J : Nat → Nat → Int64) (cd : Nat × Nat) : EX10_isText N d (n + 1) 0 [some (iv x0)] (I, J, cd) =
  (cI (arun N d) 137 [iv x0, iv 0, iv 3] (I, J, cd)).bind fun r1 => if r1.1 = 1 then some (iv 1, r1.2) else if r1.1 = 0 then some (iv 0, r1.2) else none := rfl
def EX10_askedRow (N d : Nat) : Nat → Nat → LO → AH → Option RES := exec (CX10_askedRow (arun N d)) []
theorem enX10_askedRow (N d : Nat) (q0 : Nat) (x1 : Int32) (A : AH) : arun N (d + 1) 145 [rv (some q0), iv x1] A = EX10_askedRow N d N 0 [some (rv (some q0)), some (iv x1)] A := rfl
set_option maxRecDepth 10000 in
theorem sgX10_askedRow_0 (N d n : Nat) (x1 : Int32) (I : Nat → Nat → Int32) (J : Nat → Nat → Int64) (cd : Nat × Nat) : EX10_askedRow N d (n + 1) 0 [some (rv (some 87)), some (iv x1)] (I, J, cd) =
  (cI (arun N d) 143 [iv x1] (I, J, cd)).bind fun r1 => if r1.1 = 0 then
    some (iv ((-1)), r1.2)
  else
    if inb x1 6 then (if 0 ≤ (r1.2.1 89 x1.toNatClampNeg) then
      some (iv 0, r1.2)
    else
      (cI (arun N d) 138 [rv (some 87), iv 1] r1.2).bind fun r2 => some (iv r2.1, r2.2)) else none := rfl
def EX10_askedText (N d : Nat) : Nat → Nat → LO → AH → Option RES := exec (CX10_askedText (arun N d)) []
theorem enX10_askedText (N d : Nat) (q0 : Nat) (x1 : Int32) (A : AH) : arun N (d + 1) 146 [rv (some q0), iv x1] A = EX10_askedText N d N 0 [some (rv (some q0)), some (iv x1)] A := rfl
set_option maxRecDepth 10000 in
theorem sgX10_askedText_0 (N d n : Nat) (x1 : Int32) (I : Nat → Nat → Int32) (J : Nat → Nat → Int64) (cd : Nat × Nat) : EX10_askedText N d (n + 1) 0 [some (rv (some 87)), some (iv x1)] (I, J, cd) =
  (cI (arun N d) 144 [iv x1] (I, J, cd)).bind fun r1 => if r1.1 = 0 then
    some (iv ((-1)), r1.2)
  else
    if inb x1 4 then (if 0 ≤ (r1.2.1 92 x1.toNatClampNeg) then
      some (iv 0, r1.2)
    else
      (cI (arun N d) 138 [rv (some 87), iv 1] r1.2).bind fun r2 => some (iv r2.1, r2.2)) else none := rfl
def EX10_rowAt (N d : Nat) : Nat → Nat → LO → AH → Option RES := exec (CX10_rowAt (arun N d)) []
theorem enX10_rowAt (N d : Nat) (q0 : Nat) (x1 : Int32) (x2 : Int32) (A : AH) : arun N (d + 1) 147 [rv (some q0), iv x1, iv x2] A = EX10_rowAt N d N 0 [some (rv (some q0)), some (iv x1), some (iv x2)] A := rfl
set_option maxRecDepth 10000 in
theorem sgX10_rowAt_0 (N d n : Nat) (x1 : Int32) (x2 : Int32) (I : Nat → Nat → Int32) (J : Nat → Nat → Int64) (cd : Nat × Nat) : EX10_rowAt N d (n + 1) 0 [some (rv (some 87)), some (iv x1), some (iv x2)] (I, J, cd) =
  if inb ((40 * x1) + x2) 240 then (some (iv (I 90 (((40 * x1) + x2).toNatClampNeg)), (I, J, cd))) else none := rfl
def EX10_setRow (N d : Nat) : Nat → Nat → LO → AH → Option RES := exec (CX10_setRow (arun N d)) []
theorem enX10_setRow (N d : Nat) (q0 : Nat) (x1 : Int32) (x2 : Int32) (x3 : Int32) (A : AH) : arun N (d + 1) 148 [rv (some q0), iv x1, iv x2, iv x3] A = EX10_setRow N d N 0 [some (rv (some q0)), some (iv x1), some (iv x2), some (iv x3)] A := rfl
set_option maxRecDepth 10000 in
theorem sgX10_setRow_0 (N d n : Nat) (x1 : Int32) (x2 : Int32) (x3 : Int32) (I : Nat → Nat → Int32) (J : Nat → Nat → Int64) (cd : Nat × Nat) : EX10_setRow N d (n + 1) 0 [some (rv (some 87)), some (iv x1), some (iv x2), some (iv x3)] (I, J, cd) =
  if inb ((40 * x1) + x2) 240 then (some (rv none, (wr I 90 (((40 * x1) + x2).toNatClampNeg) x3, J, cd))) else none := rfl
def EX10_row (N d : Nat) : Nat → Nat → LO → AH → Option RES := exec (CX10_row (arun N d)) [(34, [0, 1, 2, 3])]
theorem enX10_row (N d : Nat) (q0 : Nat) (x1 : Int32) (x2 : Int32) (A : AH) : arun N (d + 1) 149 [rv (some q0), iv x1, iv x2] A = EX10_row N d N 0 [some (rv (some q0)), some (iv x1), some (iv x2), none] A := rfl
set_option maxRecDepth 10000 in
theorem sgX10_row_0 (N d n : Nat) (x1 : Int32) (x2 : Int32) (I : Nat → Nat → Int32) (J : Nat → Nat → Int64) (cd : Nat × Nat) : EX10_row N d (n + 1) 0 [some (rv (some 87)), some (iv x1), some (iv x2), none] (I, J, cd) =
  (cI (arun N d) 143 [iv x1] (I, J, cd)).bind fun r1 => if r1.1 = 0 then
    some (iv ((-1)), r1.2)
  else
    if x2 ≤ 40 then
      if 0 ≤ x2 then
        if inb x1 6 then (EX10_row N d n 34 [some (rv (some 87)), some (iv x1), some (iv x2), some (iv 0)] (wr r1.2.1 89 x1.toNatClampNeg x2, r1.2.2.1, r1.2.2.2)) else none
      else
        (cI (arun N d) 138 [rv (some 87), iv 5] r1.2).bind fun r2 => some (iv r2.1, r2.2)
    else
      some (iv ((-1)), r1.2) := rfl
set_option maxRecDepth 10000 in
theorem sgX10_row_34 (N d n : Nat) (x1 : Int32) (x2 : Int32) (x3 : Int32) (I : Nat → Nat → Int32) (J : Nat → Nat → Int64) (cd : Nat × Nat) : EX10_row N d (n + 1) 34 [some (rv (some 87)), some (iv x1), some (iv x2), some (iv x3)] (I, J, cd) =
  if 40 ≤ x3 then
    some (iv x2, (I, J, cd))
  else
    (cV (arun N d) 148 [rv (some 87), iv x1, iv x3, iv 0] (I, J, cd)).bind fun r1 => EX10_row N d n 34 [some (rv (some 87)), some (iv x1), some (iv x2), some (iv (x3 + 1))] r1 := rfl
def EX10_at (N d : Nat) : Nat → Nat → LO → AH → Option RES := exec (CX10_at (arun N d)) []
theorem enX10_at (N d : Nat) (q0 : Nat) (x1 : Int32) (x2 : Int32) (A : AH) : arun N (d + 1) 150 [rv (some q0), iv x1, iv x2] A = EX10_at N d N 0 [some (rv (some q0)), some (iv x1), some (iv x2), none] A := rfl
set_option maxRecDepth 10000 in
theorem sgX10_at_0 (N d n : Nat) (x1 : Int32) (x2 : Int32) (I : Nat → Nat → Int32) (J : Nat → Nat → Int64) (cd : Nat × Nat) : EX10_at N d (n + 1) 0 [some (rv (some 87)), some (iv x1), some (iv x2), none] (I, J, cd) =
  (cI (arun N d) 145 [rv (some 87), iv x1] (I, J, cd)).bind fun r1 => if 0 ≤ r1.1 then
    if inb x1 6 then ((cI (arun N d) 137 [iv x2, iv 0, iv ((r1.2.1 89 x1.toNatClampNeg) - 1)] r1.2).bind fun r2 => if r2.1 = 0 then
      (cI (arun N d) 138 [rv (some 87), iv 2] r2.2).bind fun r3 => some (iv r3.1, r3.2)
    else
      (cI (arun N d) 147 [rv (some 87), iv x1, iv x2] r2.2).bind fun r4 => (cI (arun N d) 139 [rv (some 87), iv r4.1, iv 1] r4.2).bind fun r5 => some (iv r5.1, r5.2)) else none
  else
    some (iv r1.1, r1.2) := rfl
def EX10_lay (N d : Nat) : Nat → Nat → LO → AH → Option RES := exec (CX10_lay (arun N d)) []
theorem enX10_lay (N d : Nat) (q0 : Nat) (x1 : Int32) (x2 : Int32) (x3 : Int32) (A : AH) : arun N (d + 1) 151 [rv (some q0), iv x1, iv x2, iv x3] A = EX10_lay N d N 0 [some (rv (some q0)), some (iv x1), some (iv x2), some (iv x3), none] A := rfl
set_option maxRecDepth 10000 in
theorem sgX10_lay_0 (N d n : Nat) (x1 : Int32) (x2 : Int32) (x3 : Int32) (I : Nat → Nat → Int32) (J : Nat → Nat → Int64) (cd : Nat × Nat) : EX10_lay N d (n + 1) 0 [some (rv (some 87)), some (iv x1), some (iv x2), some (iv x3), none] (I, J, cd) =
  (cI (arun N d) 150 [rv (some 87), iv x1, iv x2] (I, J, cd)).bind fun r1 => if 0 ≤ r1.1 then
    (cV (arun N d) 148 [rv (some 87), iv x1, iv x2, iv x3] r1.2).bind fun r2 => some (iv 1, r2)
  else
    some (iv r1.1, r1.2) := rfl
def EX10_tear (N d : Nat) : Nat → Nat → LO → AH → Option RES := exec (CX10_tear (arun N d)) []
theorem enX10_tear (N d : Nat) (q0 : Nat) (x1 : Int32) (A : AH) : arun N (d + 1) 152 [rv (some q0), iv x1] A = EX10_tear N d N 0 [some (rv (some q0)), some (iv x1), none] A := rfl
set_option maxRecDepth 10000 in
theorem sgX10_tear_0 (N d n : Nat) (x1 : Int32) (I : Nat → Nat → Int32) (J : Nat → Nat → Int64) (cd : Nat × Nat) : EX10_tear N d (n + 1) 0 [some (rv (some 87)), some (iv x1), none] (I, J, cd) =
  (cI (arun N d) 145 [rv (some 87), iv x1] (I, J, cd)).bind fun r1 => if 0 ≤ r1.1 then
    if inb x1 6 then (some (iv 1, (wr r1.2.1 89 x1.toNatClampNeg ((-9)), r1.2.2.1, r1.2.2.2))) else none
  else
    some (iv r1.1, r1.2) := rfl
def EX10_copy (N d : Nat) : Nat → Nat → LO → AH → Option RES := exec (CX10_copy (arun N d)) [(45, [0]), (95, [0]), (104, [0, 1, 2, 3, 4, 5, 6]), (136, [0, 3, 4, 5, 6])]
theorem enX10_copy (N d : Nat) (q0 : Nat) (x1 : Int32) (x2 : Int32) (x3 : Int32) (x4 : Int32) (x5 : Int32) (A : AH) : arun N (d + 1) 153 [rv (some q0), iv x1, iv x2, iv x3, iv x4, iv x5] A = EX10_copy N d N 0 [some (rv (some q0)), some (iv x1), some (iv x2), some (iv x3), some (iv x4), some (iv x5), none] A := rfl
set_option maxRecDepth 10000 in
theorem sgX10_copy_0 (N d n : Nat) (x1 : Int32) (x2 : Int32) (x3 : Int32) (x4 : Int32) (x5 : Int32) (I : Nat → Nat → Int32) (J : Nat → Nat → Int64) (cd : Nat × Nat) : EX10_copy N d (n + 1) 0 [some (rv (some 87)), some (iv x1), some (iv x2), some (iv x3), some (iv x4), some (iv x5), none] (I, J, cd) =
  (cI (arun N d) 143 [iv x1] (I, J, cd)).bind fun r1 => if r1.1 = 0 then
    some (iv ((-1)), r1.2)
  else
    (cI (arun N d) 143 [iv x3] r1.2).bind fun r2 => if r2.1 = 0 then
      some (iv ((-1)), r2.2)
    else
      if 0 ≤ x5 then
        if inb x1 6 then (if (r2.2.1 89 x1.toNatClampNeg) < 0 then
          EX10_copy N d n 45 [some (rv (some 87)), none, none, none, none, none, none] r2.2
        else
          if inb x3 6 then (if 0 ≤ (r2.2.1 89 x3.toNatClampNeg) then
            if x2 < 0 then
              EX10_copy N d n 95 [some (rv (some 87)), none, none, none, none, none, none] r2.2
            else
              if x4 < 0 then
                EX10_copy N d n 95 [some (rv (some 87)), none, none, none, none, none, none] r2.2
              else
                if inb x1 6 then (if 0 < (lg_cmp ((Int32.toInt64 x2) + (Int32.toInt64 x5)) (Int32.toInt64 (r2.2.1 89 x1.toNatClampNeg))) then
                  EX10_copy N d n 95 [some (rv (some 87)), none, none, none, none, none, none] r2.2
                else
                  if inb x3 6 then (if (lg_cmp ((Int32.toInt64 x4) + (Int32.toInt64 x5)) (Int32.toInt64 (r2.2.1 89 x3.toNatClampNeg))) ≤ 0 then
                    EX10_copy N d n 104 [some (rv (some 87)), some (iv x1), some (iv x2), some (iv x3), some (iv x4), some (iv x5), some (iv 0)] r2.2
                  else
                    EX10_copy N d n 95 [some (rv (some 87)), none, none, none, none, none, none] r2.2) else none) else none
          else
            EX10_copy N d n 45 [some (rv (some 87)), none, none, none, none, none, none] r2.2) else none) else none
      else
        (cI (arun N d) 138 [rv (some 87), iv 5] r2.2).bind fun r3 => some (iv r3.1, r3.2) := rfl
set_option maxRecDepth 10000 in
theorem sgX10_copy_45 (N d n : Nat)  (I : Nat → Nat → Int32) (J : Nat → Nat → Int64) (cd : Nat × Nat) : EX10_copy N d (n + 1) 45 [some (rv (some 87)), none, none, none, none, none, none] (I, J, cd) =
  (cI (arun N d) 138 [rv (some 87), iv 1] (I, J, cd)).bind fun r1 => some (iv r1.1, r1.2) := rfl
set_option maxRecDepth 10000 in
theorem sgX10_copy_95 (N d n : Nat)  (I : Nat → Nat → Int32) (J : Nat → Nat → Int64) (cd : Nat × Nat) : EX10_copy N d (n + 1) 95 [some (rv (some 87)), none, none, none, none, none, none] (I, J, cd) =
  (cI (arun N d) 138 [rv (some 87), iv 2] (I, J, cd)).bind fun r1 => some (iv r1.1, r1.2) := rfl
set_option maxRecDepth 10000 in
theorem sgX10_copy_104 (N d n : Nat) (x1 : Int32) (x2 : Int32) (x3 : Int32) (x4 : Int32) (x5 : Int32) (x6 : Int32) (I : Nat → Nat → Int32) (J : Nat → Nat → Int64) (cd : Nat × Nat) : EX10_copy N d (n + 1) 104 [some (rv (some 87)), some (iv x1), some (iv x2), some (iv x3), some (iv x4), some (iv x5), some (iv x6)] (I, J, cd) =
  if x5 ≤ x6 then
    EX10_copy N d n 136 [some (rv (some 87)), none, none, some (iv x3), some (iv x4), some (iv x5), some (iv 0)] (I, J, cd)
  else
    (cI (arun N d) 147 [rv (some 87), iv x1, iv (x2 + x6)] (I, J, cd)).bind fun r1 => if inb x6 40 then (EX10_copy N d n 104 [some (rv (some 87)), some (iv x1), some (iv x2), some (iv x3), some (iv x4), some (iv x5), some (iv (x6 + 1))] (wr r1.2.1 91 x6.toNatClampNeg r1.1, r1.2.2.1, r1.2.2.2)) else none := rfl
set_option maxRecDepth 10000 in
theorem sgX10_copy_136 (N d n : Nat) (x3 : Int32) (x4 : Int32) (x5 : Int32) (x6 : Int32) (I : Nat → Nat → Int32) (J : Nat → Nat → Int64) (cd : Nat × Nat) : EX10_copy N d (n + 1) 136 [some (rv (some 87)), none, none, some (iv x3), some (iv x4), some (iv x5), some (iv x6)] (I, J, cd) =
  if x5 ≤ x6 then
    some (iv 1, (I, J, cd))
  else
    if inb x6 40 then ((cV (arun N d) 148 [rv (some 87), iv x3, iv (x4 + x6), iv (I 91 x6.toNatClampNeg)] (I, J, cd)).bind fun r1 => EX10_copy N d n 136 [some (rv (some 87)), none, none, some (iv x3), some (iv x4), some (iv x5), some (iv (x6 + 1))] r1) else none := rfl
def EX10_mean (N d : Nat) : Nat → Nat → LO → AH → Option RES := exec (CX10_mean (arun N d)) [(17, [0, 1, 3, 5])]
theorem enX10_mean (N d : Nat) (q0 : Nat) (x1 : Int32) (A : AH) : arun N (d + 1) 154 [rv (some q0), iv x1] A = EX10_mean N d N 0 [some (rv (some q0)), some (iv x1), none, none, none, none] A := rfl
set_option maxRecDepth 10000 in
theorem sgX10_mean_0 (N d n : Nat) (x1 : Int32) (I : Nat → Nat → Int32) (J : Nat → Nat → Int64) (cd : Nat × Nat) : EX10_mean N d (n + 1) 0 [some (rv (some 87)), some (iv x1), none, none, none, none] (I, J, cd) =
  (cI (arun N d) 145 [rv (some 87), iv x1] (I, J, cd)).bind fun r1 => if 0 ≤ r1.1 then
    EX10_mean N d n 17 [some (rv (some 87)), some (iv x1), none, some (jv 0), none, some (iv 0)] r1.2
  else
    some (iv r1.1, r1.2) := rfl
set_option maxRecDepth 10000 in
theorem sgX10_mean_17 (N d n : Nat) (x1 : Int32) (y3 : Int64) (x5 : Int32) (I : Nat → Nat → Int32) (J : Nat → Nat → Int64) (cd : Nat × Nat) : EX10_mean N d (n + 1) 17 [some (rv (some 87)), some (iv x1), none, some (jv y3), none, some (iv x5)] (I, J, cd) =
  if inb x1 6 then (if (I 89 x1.toNatClampNeg) ≤ x5 then
    if inb x1 6 then (if (I 89 x1.toNatClampNeg) = 0 then
      (cI (arun N d) 138 [rv (some 87), iv 4] (I, J, cd)).bind fun r1 => some (iv r1.1, r1.2)
    else
      if inb x1 6 then (if (Int32.toInt64 (I 89 x1.toNatClampNeg)) = (0 : Int64) then none else ((cI (arun N d) 139 [rv (some 87), iv (Int64.toInt32 (y3 / (Int32.toInt64 (I 89 x1.toNatClampNeg)))), iv 1] (I, J, cd)).bind fun r2 => some (iv r2.1, r2.2))) else none) else none
  else
    (cI (arun N d) 147 [rv (some 87), iv x1, iv x5] (I, J, cd)).bind fun r3 => EX10_mean N d n 17 [some (rv (some 87)), some (iv x1), none, some (jv (y3 + (Int32.toInt64 r3.1))), none, some (iv (x5 + 1))] r3.2) else none := rfl
def EX10_text (N d : Nat) : Nat → Nat → LO → AH → Option RES := exec (CX10_text (arun N d)) [(34, [0, 1, 2, 3])]
theorem enX10_text (N d : Nat) (q0 : Nat) (x1 : Int32) (x2 : Int32) (A : AH) : arun N (d + 1) 155 [rv (some q0), iv x1, iv x2] A = EX10_text N d N 0 [some (rv (some q0)), some (iv x1), some (iv x2), none] A := rfl
set_option maxRecDepth 10000 in
theorem sgX10_text_0 (N d n : Nat) (x1 : Int32) (x2 : Int32) (I : Nat → Nat → Int32) (J : Nat → Nat → Int64) (cd : Nat × Nat) : EX10_text N d (n + 1) 0 [some (rv (some 87)), some (iv x1), some (iv x2), none] (I, J, cd) =
  (cI (arun N d) 144 [iv x1] (I, J, cd)).bind fun r1 => if r1.1 = 0 then
    some (iv ((-1)), r1.2)
  else
    if x2 ≤ 60 then
      if 0 ≤ x2 then
        if inb x1 4 then (EX10_text N d n 34 [some (rv (some 87)), some (iv x1), some (iv x2), some (iv 0)] (wr r1.2.1 92 x1.toNatClampNeg x2, r1.2.2.1, r1.2.2.2)) else none
      else
        (cI (arun N d) 138 [rv (some 87), iv 5] r1.2).bind fun r2 => some (iv r2.1, r2.2)
    else
      some (iv ((-1)), r1.2) := rfl
set_option maxRecDepth 10000 in
theorem sgX10_text_34 (N d n : Nat) (x1 : Int32) (x2 : Int32) (x3 : Int32) (I : Nat → Nat → Int32) (J : Nat → Nat → Int64) (cd : Nat × Nat) : EX10_text N d (n + 1) 34 [some (rv (some 87)), some (iv x1), some (iv x2), some (iv x3)] (I, J, cd) =
  if 60 ≤ x3 then
    some (iv x2, (I, J, cd))
  else
    if inb ((60 * x1) + x3) 240 then (EX10_text N d n 34 [some (rv (some 87)), some (iv x1), some (iv x2), some (iv (x3 + 1))] (wr I 93 (((60 * x1) + x3).toNatClampNeg) 32, J, cd)) else none := rfl
def EX10_put (N d : Nat) : Nat → Nat → LO → AH → Option RES := exec (CX10_put (arun N d)) []
theorem enX10_put (N d : Nat) (q0 : Nat) (x1 : Int32) (x2 : Int32) (x3 : Int32) (A : AH) : arun N (d + 1) 156 [rv (some q0), iv x1, iv x2, iv x3] A = EX10_put N d N 0 [some (rv (some q0)), some (iv x1), some (iv x2), some (iv x3), none, none] A := rfl
set_option maxRecDepth 10000 in
theorem sgX10_put_0 (N d n : Nat) (x1 : Int32) (x2 : Int32) (x3 : Int32) (I : Nat → Nat → Int32) (J : Nat → Nat → Int64) (cd : Nat × Nat) : EX10_put N d (n + 1) 0 [some (rv (some 87)), some (iv x1), some (iv x2), some (iv x3), none, none] (I, J, cd) =
  (cI (arun N d) 146 [rv (some 87), iv x1] (I, J, cd)).bind fun r1 => if 0 ≤ r1.1 then
    if inb x1 4 then ((cI (arun N d) 137 [iv x2, iv 0, iv ((r1.2.1 92 x1.toNatClampNeg) - 1)] r1.2).bind fun r2 => if r2.1 = 0 then
      (cI (arun N d) 138 [rv (some 87), iv 2] r2.2).bind fun r3 => some (iv r3.1, r3.2)
    else
      if inb ((60 * x1) + x2) 240 then (if inb ((60 * x1) + x2) 240 then (some (iv ((r2.2.1 93 (((60 * x1) + x2).toNatClampNeg)) + 1000), (wr r2.2.1 93 (((60 * x1) + x2).toNatClampNeg) x3.toInt8.toInt32, r2.2.2.1, r2.2.2.2))) else none) else none) else none
  else
    some (iv r1.1, r1.2) := rfl
def EX10_here (N d : Nat) : Nat → Nat → LO → AH → Option RES := exec (CX10_here (arun N d)) []
theorem enX10_here (N d : Nat) (q0 : Nat) (x1 : Int32) (A : AH) : arun N (d + 1) 157 [rv (some q0), iv x1] A = EX10_here N d N 0 [some (rv (some q0)), some (iv x1)] A := rfl
set_option maxRecDepth 10000 in
theorem sgX10_here_0 (N d n : Nat) (x1 : Int32) (I : Nat → Nat → Int32) (J : Nat → Nat → Int64) (cd : Nat × Nat) : EX10_here N d (n + 1) 0 [some (rv (some 87)), some (iv x1)] (I, J, cd) =
  if inb x1 4 then (if (I 92 x1.toNatClampNeg) ≤ (I 87 20) then
    some (iv ((-9)), (I, J, cd))
  else
    if inb ((60 * x1) + (I 87 20)) 240 then (some (iv (I 93 (((60 * x1) + (I 87 20)).toNatClampNeg)), (I, J, cd))) else none) else none := rfl
def EX10_skip (N d : Nat) : Nat → Nat → LO → AH → Option RES := exec (CX10_skip (arun N d)) [(0, [0, 1])]
theorem enX10_skip (N d : Nat) (q0 : Nat) (x1 : Int32) (A : AH) : arun N (d + 1) 158 [rv (some q0), iv x1] A = EX10_skip N d N 0 [some (rv (some q0)), some (iv x1)] A := rfl
set_option maxRecDepth 10000 in
theorem sgX10_skip_0 (N d n : Nat) (x1 : Int32) (I : Nat → Nat → Int32) (J : Nat → Nat → Int64) (cd : Nat × Nat) : EX10_skip N d (n + 1) 0 [some (rv (some 87)), some (iv x1)] (I, J, cd) =
  (cI (arun N d) 157 [rv (some 87), iv x1] (I, J, cd)).bind fun r1 => if r1.1 = 32 then
    EX10_skip N d n 0 [some (rv (some 87)), some (iv x1)] (wr r1.2.1 87 20 ((r1.2.1 87 20) + 1), r1.2.2.1, r1.2.2.2)
  else
    some (rv none, r1.2) := rfl
def EX10_figure (N d : Nat) : Nat → Nat → LO → AH → Option RES := exec (CX10_figure (arun N d)) []
theorem enX10_figure (N d : Nat) (q0 : Nat) (x1 : Int32) (q2 : Nat) (x3 : Int32) (x4 : Int32) (x5 : Int32) (A : AH) : arun N (d + 1) 159 [rv (some q0), iv x1, rv (some q2), iv x3, iv x4, iv x5] A = EX10_figure N d N 0 [some (rv (some q0)), some (iv x1), some (rv (some q2)), some (iv x3), some (iv x4), some (iv x5), none] A := rfl
set_option maxRecDepth 10000 in
theorem sgX10_figure_102_0 (N d n : Nat) (x1 : Int32) (x3 : Int32) (x4 : Int32) (x5 : Int32) (I : Nat → Nat → Int32) (J : Nat → Nat → Int64) (cd : Nat × Nat) : EX10_figure N d (n + 1) 0 [some (rv (some 87)), some (iv x1), some (rv (some 102)), some (iv x3), some (iv x4), some (iv x5), none] (I, J, cd) =
  (cI (arun N d) 157 [rv (some 87), iv x1] (I, J, cd)).bind fun r1 => (cI (arun N d) 137 [iv (r1.1 - 48), iv x4, iv x5] r1.2).bind fun r2 => if r2.1 = 0 then
    some (iv 0, r2.2)
  else
    if inb x3 14 then (some (iv 1, (wr (wr r2.2.1 102 x3.toNatClampNeg (r1.1 - 48)) 87 20 ((r2.2.1 87 20) + 1), r2.2.2.1, r2.2.2.2))) else none := rfl
set_option maxRecDepth 10000 in
theorem sgX10_figure_103_0 (N d n : Nat) (x1 : Int32) (x3 : Int32) (x4 : Int32) (x5 : Int32) (I : Nat → Nat → Int32) (J : Nat → Nat → Int64) (cd : Nat × Nat) : EX10_figure N d (n + 1) 0 [some (rv (some 87)), some (iv x1), some (rv (some 103)), some (iv x3), some (iv x4), some (iv x5), none] (I, J, cd) =
  (cI (arun N d) 157 [rv (some 87), iv x1] (I, J, cd)).bind fun r1 => (cI (arun N d) 137 [iv (r1.1 - 48), iv x4, iv x5] r1.2).bind fun r2 => if r2.1 = 0 then
    some (iv 0, r2.2)
  else
    if inb x3 18 then (some (iv 1, (wr (wr r2.2.1 103 x3.toNatClampNeg (r1.1 - 48)) 87 20 ((r2.2.1 87 20) + 1), r2.2.2.1, r2.2.2.2))) else none := rfl
def EX10_readsWeek (N d : Nat) : Nat → Nat → LO → AH → Option RES := exec (CX10_readsWeek (arun N d)) [(29, [0, 1, 3, 4, 5])]
theorem enX10_readsWeek (N d : Nat) (q0 : Nat) (x1 : Int32) (x2 : Int32) (x3 : Int32) (x4 : Int32) (A : AH) : arun N (d + 1) 160 [rv (some q0), iv x1, iv x2, iv x3, iv x4] A = EX10_readsWeek N d N 0 [some (rv (some q0)), some (iv x1), some (iv x2), some (iv x3), some (iv x4), none] A := rfl
set_option maxRecDepth 10000 in
theorem sgX10_readsWeek_0 (N d n : Nat) (x1 : Int32) (x2 : Int32) (x3 : Int32) (x4 : Int32) (I : Nat → Nat → Int32) (J : Nat → Nat → Int64) (cd : Nat × Nat) : EX10_readsWeek N d (n + 1) 0 [some (rv (some 87)), some (iv x1), some (iv x2), some (iv x3), some (iv x4), none] (I, J, cd) =
  (cV (arun N d) 158 [rv (some 87), iv x1] (I, J, cd)).bind fun r1 => (cI (arun N d) 157 [rv (some 87), iv x1] r1).bind fun r2 => if r2.1 = x2 then
    EX10_readsWeek N d n 29 [some (rv (some 87)), some (iv x1), none, some (iv x3), some (iv x4), some (iv 0)] (wr r2.2.1 87 20 ((r2.2.1 87 20) + 1), r2.2.2.1, r2.2.2.2)
  else
    some (iv 0, r2.2) := rfl
set_option maxRecDepth 10000 in
theorem sgX10_readsWeek_29 (N d n : Nat) (x1 : Int32) (x3 : Int32) (x4 : Int32) (x5 : Int32) (I : Nat → Nat → Int32) (J : Nat → Nat → Int64) (cd : Nat × Nat) : EX10_readsWeek N d (n + 1) 29 [some (rv (some 87)), some (iv x1), none, some (iv x3), some (iv x4), some (iv x5)] (I, J, cd) =
  if 7 ≤ x5 then
    some (iv 1, (I, J, cd))
  else
    (cI (arun N d) 159 [rv (some 87), iv x1, rv (some 102), iv (x3 + x5), iv 0, iv x4] (I, J, cd)).bind fun r1 => if r1.1 = 0 then
      some (iv 0, r1.2)
    else
      EX10_readsWeek N d n 29 [some (rv (some 87)), some (iv x1), none, some (iv x3), some (iv x4), some (iv (x5 + 1))] r1.2 := rfl
def EX10_kindBy (N d : Nat) : Nat → Nat → LO → AH → Option RES := exec (CX10_kindBy (arun N d)) []
theorem enX10_kindBy (N d : Nat) (x0 : Int32) (A : AH) : arun N (d + 1) 161 [iv x0] A = EX10_kindBy N d N 0 [some (iv x0)] A := rfl
set_option maxRecDepth 10000 in
theorem sgX10_kindBy_0 (N d n : Nat) (x0 : Int32) (I : Nat → Nat → Int32) (J : Nat → Nat → Int64) (cd : Nat × Nat) : EX10_kindBy N d (n + 1) 0 [some (iv x0)] (I, J, cd) =
  if x0 = 97 then
    some (iv 0, (I, J, cd))
  else
    if x0 = 119 then
      some (iv 1, (I, J, cd))
    else
      if x0 = 109 then
        some (iv 2, (I, J, cd))
      else
        if x0 = 112 then
          some (iv 3, (I, J, cd))
        else
          if x0 = 115 then
            some (iv 4, (I, J, cd))
          else
            if x0 = 102 then
              some (iv 5, (I, J, cd))
            else
              some (iv ((-9)), (I, J, cd)) := rfl
def EX10_isGate (N d : Nat) : Nat → Nat → LO → AH → Option RES := exec (CX10_isGate (arun N d)) []
theorem enX10_isGate (N d : Nat) (x0 : Int32) (A : AH) : arun N (d + 1) 162 [iv x0] A = EX10_isGate N d N 0 [some (iv x0)] A := rfl
set_option maxRecDepth 10000 in
theorem sgX10_isGate_0 (N d n : Nat) (x0 : Int32) (I : Nat → Nat → Int32) (J : Nat → Nat → Int64) (cd : Nat × Nat) : EX10_isGate N d (n + 1) 0 [some (iv x0)] (I, J, cd) =
  if x0 = 1 then
    some (iv 1, (I, J, cd))
  else
    if x0 = 3 then
      some (iv 1, (I, J, cd))
    else
      if x0 = 4 then
        some (iv 1, (I, J, cd))
      else
        some (iv 0, (I, J, cd)) := rfl
def EX10_isMill (N d : Nat) : Nat → Nat → LO → AH → Option RES := exec (CX10_isMill (arun N d)) []
theorem enX10_isMill (N d : Nat) (x0 : Int32) (A : AH) : arun N (d + 1) 163 [iv x0] A = EX10_isMill N d N 0 [some (iv x0)] A := rfl
set_option maxRecDepth 10000 in
theorem sgX10_isMill_0 (N d n : Nat) (x0 : Int32) (I : Nat → Nat → Int32) (J : Nat → Nat → Int64) (cd : Nat × Nat) : EX10_isMill N d (n + 1) 0 [some (iv x0)] (I, J, cd) =
  if x0 = 2 then
    some (iv 1, (I, J, cd))
  else
    if x0 = 5 then
      some (iv 1, (I, J, cd))
    else
      some (iv 0, (I, J, cd)) := rfl
def EX10_readsReach (N d : Nat) : Nat → Nat → LO → AH → Option RES := exec (CX10_readsReach (arun N d)) [(41, [0, 1, 2]), (124, [0])]
theorem enX10_readsReach (N d : Nat) (q0 : Nat) (x1 : Int32) (A : AH) : arun N (d + 1) 164 [rv (some q0), iv x1] A = EX10_readsReach N d N 0 [some (rv (some q0)), some (iv x1), none, none] A := rfl
set_option maxRecDepth 10000 in
theorem sgX10_readsReach_0 (N d n : Nat) (x1 : Int32) (I : Nat → Nat → Int32) (J : Nat → Nat → Int64) (cd : Nat × Nat) : EX10_readsReach N d (n + 1) 0 [some (rv (some 87)), some (iv x1), none, none] (I, J, cd) =
  (cI (arun N d) 157 [rv (some 87), iv x1] (I, J, cd)).bind fun r1 => (cI (arun N d) 161 [iv r1.1] r1.2).bind fun r2 => if r2.1 = ((-9)) then
    some (iv 0, r2.2)
  else
    if (r2.2.1 87 21) = 6 then
      some (iv 0, r2.2)
    else
      (cI (arun N d) 162 [iv r2.1] r2.2).bind fun r3 => if r3.1 = 0 then
        EX10_readsReach N d n 41 [some (rv (some 87)), some (iv x1), some (iv r2.1), none] r3.2
      else
        if (r3.2.1 87 22) = 3 then
          some (iv 0, r3.2)
        else
          EX10_readsReach N d n 41 [some (rv (some 87)), some (iv x1), some (iv r2.1), none] r3.2 := rfl
set_option maxRecDepth 10000 in
theorem sgX10_readsReach_41 (N d n : Nat) (x1 : Int32) (x2 : Int32) (I : Nat → Nat → Int32) (J : Nat → Nat → Int64) (cd : Nat × Nat) : EX10_readsReach N d (n + 1) 41 [some (rv (some 87)), some (iv x1), some (iv x2), none] (I, J, cd) =
  if inb (3 * (I 87 21)) 18 then ((cI (arun N d) 159 [rv (some 87), iv x1, rv (some 103), iv ((3 * (I 87 21)) + 1), iv 1, iv 9] (wr (wr I 103 ((3 * (I 87 21)).toNatClampNeg) x2) 87 20 ((I 87 20) + 1), J, cd)).bind fun r1 => if r1.1 = 0 then
    some (iv 0, r1.2)
  else
    (cI (arun N d) 159 [rv (some 87), iv x1, rv (some 103), iv ((3 * (I 87 21)) + 2), iv 0, iv 9] r1.2).bind fun r2 => if r2.1 = 0 then
      some (iv 0, r2.2)
    else
      (cI (arun N d) 162 [iv x2] r2.2).bind fun r3 => if r3.1 = 0 then
        EX10_readsReach N d n 124 [some (rv (some 87)), none, none, none] (wr r3.2.1 87 22 ((r2.2.1 87 22) + 0), r3.2.2.1, r3.2.2.2)
      else
        EX10_readsReach N d n 124 [some (rv (some 87)), none, none, none] (wr r3.2.1 87 22 ((r2.2.1 87 22) + 1), r3.2.2.1, r3.2.2.2)) else none := rfl
set_option maxRecDepth 10000 in
theorem sgX10_readsReach_124 (N d n : Nat)  (I : Nat → Nat → Int32) (J : Nat → Nat → Int64) (cd : Nat × Nat) : EX10_readsReach N d (n + 1) 124 [some (rv (some 87)), none, none, none] (I, J, cd) =
  some (iv 1, (wr I 87 21 ((I 87 21) + 1), J, cd)) := rfl
def EX10_readsRiver (N d : Nat) : Nat → Nat → LO → AH → Option RES := exec (CX10_readsRiver (arun N d)) [(49, [0, 1])]
theorem enX10_readsRiver (N d : Nat) (q0 : Nat) (x1 : Int32) (A : AH) : arun N (d + 1) 165 [rv (some q0), iv x1] A = EX10_readsRiver N d N 0 [some (rv (some q0)), some (iv x1)] A := rfl
set_option maxRecDepth 10000 in
theorem sgX10_readsRiver_0 (N d n : Nat) (x1 : Int32) (I : Nat → Nat → Int32) (J : Nat → Nat → Int64) (cd : Nat × Nat) : EX10_readsRiver N d (n + 1) 0 [some (rv (some 87)), some (iv x1)] (I, J, cd) =
  (cI (arun N d) 160 [rv (some 87), iv x1, iv 121, iv 0, iv 9] (wr (wr (wr I 87 20 0) 87 21 0) 87 22 0, J, cd)).bind fun r1 => if r1.1 = 0 then
    some (iv 0, r1.2)
  else
    (cI (arun N d) 160 [rv (some 87), iv x1, iv 111, iv 7, iv 6] r1.2).bind fun r2 => if r2.1 = 0 then
      some (iv 0, r2.2)
    else
      (cV (arun N d) 158 [rv (some 87), iv x1] r2.2).bind fun r3 => EX10_readsRiver N d n 49 [some (rv (some 87)), some (iv x1)] r3 := rfl
set_option maxRecDepth 10000 in
theorem sgX10_readsRiver_49 (N d n : Nat) (x1 : Int32) (I : Nat → Nat → Int32) (J : Nat → Nat → Int64) (cd : Nat × Nat) : EX10_readsRiver N d (n + 1) 49 [some (rv (some 87)), some (iv x1)] (I, J, cd) =
  if inb x1 4 then (if (I 92 x1.toNatClampNeg) ≤ (I 87 20) then
    if (I 87 21) ≤ 0 then
      some (iv 0, (I, J, cd))
    else
      some (iv 1, (I, J, cd))
  else
    (cI (arun N d) 164 [rv (some 87), iv x1] (I, J, cd)).bind fun r1 => if r1.1 = 0 then
      some (iv 0, r1.2)
    else
      (cV (arun N d) 158 [rv (some 87), iv x1] r1.2).bind fun r2 => EX10_readsRiver N d n 49 [some (rv (some 87)), some (iv x1)] r2) else none := rfl
def EX10_goesOn (N d : Nat) : Nat → Nat → LO → AH → Option RES := exec (CX10_goesOn (arun N d)) []
theorem enX10_goesOn (N d : Nat) (q0 : Nat) (x1 : Int32) (A : AH) : arun N (d + 1) 166 [rv (some q0), iv x1] A = EX10_goesOn N d N 0 [some (rv (some q0)), some (iv x1)] A := rfl
set_option maxRecDepth 10000 in
theorem sgX10_goesOn_0 (N d n : Nat) (x1 : Int32) (I : Nat → Nat → Int32) (J : Nat → Nat → Int64) (cd : Nat × Nat) : EX10_goesOn N d (n + 1) 0 [some (rv (some 87)), some (iv x1)] (I, J, cd) =
  (cI (arun N d) 165 [rv (some 87), iv x1] (I, J, cd)).bind fun r1 => if r1.1 = 0 then
    some (iv (r1.2.1 87 20), r1.2)
  else
    some (iv ((-9)), r1.2) := rfl
def EX10_fault (N d : Nat) : Nat → Nat → LO → AH → Option RES := exec (CX10_fault (arun N d)) []
theorem enX10_fault (N d : Nat) (q0 : Nat) (x1 : Int32) (A : AH) : arun N (d + 1) 167 [rv (some q0), iv x1] A = EX10_fault N d N 0 [some (rv (some q0)), some (iv x1), none] A := rfl
set_option maxRecDepth 10000 in
theorem sgX10_fault_0 (N d n : Nat) (x1 : Int32) (I : Nat → Nat → Int32) (J : Nat → Nat → Int64) (cd : Nat × Nat) : EX10_fault N d (n + 1) 0 [some (rv (some 87)), some (iv x1), none] (I, J, cd) =
  (cI (arun N d) 146 [rv (some 87), iv x1] (I, J, cd)).bind fun r1 => if 0 ≤ r1.1 then
    (cI (arun N d) 166 [rv (some 87), iv x1] r1.2).bind fun r2 => some (iv r2.1, r2.2)
  else
    some (iv r1.1, r1.2) := rfl
def EX10_river (N d : Nat) : Nat → Nat → LO → AH → Option RES := exec (CX10_river (arun N d)) [(35, [0, 3]), (83, [0, 3]), (169, [0, 3])]
theorem enX10_river (N d : Nat) (q0 : Nat) (x1 : Int32) (A : AH) : arun N (d + 1) 168 [rv (some q0), iv x1] A = EX10_river N d N 0 [some (rv (some q0)), some (iv x1), none, none] A := rfl
set_option maxRecDepth 10000 in
theorem sgX10_river_0 (N d n : Nat) (x1 : Int32) (I : Nat → Nat → Int32) (J : Nat → Nat → Int64) (cd : Nat × Nat) : EX10_river N d (n + 1) 0 [some (rv (some 87)), some (iv x1), none, none] (I, J, cd) =
  (cI (arun N d) 146 [rv (some 87), iv x1] (I, J, cd)).bind fun r1 => if 0 ≤ r1.1 then
    (cI (arun N d) 166 [rv (some 87), iv x1] r1.2).bind fun r2 => if r2.1 = ((-9)) then
      EX10_river N d n 35 [some (rv (some 87)), none, none, some (iv 0)] (wr r2.2.1 87 10 (r2.2.1 87 21), r2.2.2.1, r2.2.2.2)
    else
      some (iv ((-4)), r2.2)
  else
    some (iv r1.1, r1.2) := rfl
set_option maxRecDepth 10000 in
theorem sgX10_river_35 (N d n : Nat) (x3 : Int32) (I : Nat → Nat → Int32) (J : Nat → Nat → Int64) (cd : Nat × Nat) : EX10_river N d (n + 1) 35 [some (rv (some 87)), none, none, some (iv x3)] (I, J, cd) =
  if 7 ≤ x3 then
    EX10_river N d n 83 [some (rv (some 87)), none, none, some (iv 0)] (I, J, cd)
  else
    if inb x3 14 then (if inb x3 7 then (if inb (7 + x3) 14 then (if inb x3 7 then (if inb x3 7 then (EX10_river N d n 35 [some (rv (some 87)), none, none, some (iv (x3 + 1))] (wr (wr (wr I 94 x3.toNatClampNeg (I 102 x3.toNatClampNeg)) 95 x3.toNatClampNeg (I 102 ((7 + x3).toNatClampNeg))) 101 x3.toNatClampNeg 0, J, cd)) else none) else none) else none) else none) else none := rfl
set_option maxRecDepth 10000 in
theorem sgX10_river_83 (N d n : Nat) (x3 : Int32) (I : Nat → Nat → Int32) (J : Nat → Nat → Int64) (cd : Nat × Nat) : EX10_river N d (n + 1) 83 [some (rv (some 87)), none, none, some (iv x3)] (I, J, cd) =
  if (I 87 10) ≤ x3 then
    EX10_river N d n 169 [some (rv (some 87)), none, none, some (iv 0)] (wr (wr I 87 18 0) 87 25 0, J, cd)
  else
    if inb (3 * x3) 18 then (if inb x3 6 then (if inb ((3 * x3) + 1) 18 then (if inb x3 6 then (if inb ((3 * x3) + 2) 18 then (if inb x3 6 then (if inb x3 6 then (if inb x3 6 then (EX10_river N d n 83 [some (rv (some 87)), none, none, some (iv (x3 + 1))] (wr (wr (wr (wr (wr I 96 x3.toNatClampNeg (I 103 ((3 * x3).toNatClampNeg))) 97 x3.toNatClampNeg (I 103 (((3 * x3) + 1).toNatClampNeg))) 98 x3.toNatClampNeg (I 103 (((3 * x3) + 2).toNatClampNeg))) 99 x3.toNatClampNeg 0) 100 x3.toNatClampNeg 0, J, cd)) else none) else none) else none) else none) else none) else none) else none) else none := rfl
set_option maxRecDepth 10000 in
theorem sgX10_river_169 (N d n : Nat) (x3 : Int32) (I : Nat → Nat → Int32) (J : Nat → Nat → Int64) (cd : Nat × Nat) : EX10_river N d (n + 1) 169 [some (rv (some 87)), none, none, some (iv x3)] (I, J, cd) =
  if 3 ≤ x3 then
    some (iv (I 87 10), (I, J, cd))
  else
    if inb x3 3 then (EX10_river N d n 169 [some (rv (some 87)), none, none, some (iv (x3 + 1))] (wr I 105 x3.toNatClampNeg 0, J, cd)) else none := rfl
def EX10_isReach (N d : Nat) : Nat → Nat → LO → AH → Option RES := exec (CX10_isReach (arun N d)) []
theorem enX10_isReach (N d : Nat) (q0 : Nat) (x1 : Int32) (A : AH) : arun N (d + 1) 169 [rv (some q0), iv x1] A = EX10_isReach N d N 0 [some (rv (some q0)), some (iv x1)] A := rfl
set_option maxRecDepth 10000 in
theorem sgX10_isReach_0 (N d n : Nat) (x1 : Int32) (I : Nat → Nat → Int32) (J : Nat → Nat → Int64) (cd : Nat × Nat) : EX10_isReach N d (n + 1) 0 [some (rv (some 87)), some (iv x1)] (I, J, cd) =
  (cI (arun N d) 137 [iv x1, iv 0, iv ((I 87 10) - 1)] (I, J, cd)).bind fun r1 => if r1.1 = 1 then some (iv 1, r1.2) else if r1.1 = 0 then some (iv 0, r1.2) else none := rfl
def EX10_isDay (N d : Nat) : Nat → Nat → LO → AH → Option RES := exec (CX10_isDay (arun N d)) []
theorem enX10_isDay (N d : Nat) (x0 : Int32) (A : AH) : arun N (d + 1) 170 [iv x0] A = EX10_isDay N d N 0 [some (iv x0)] A := rfl
set_option maxRecDepth 10000 in
theorem sgX10_isDay_0 (N d n : Nat) (x0 : Int32) (I : Nat → Nat → Int32) (J : Nat → Nat → Int64) (cd : Nat × Nat) : EX10_isDay N d (n + 1) 0 [some (iv x0)] (I, J, cd) =
  (cI (arun N d) 137 [iv x0, iv 0, iv 6] (I, J, cd)).bind fun r1 => if r1.1 = 1 then some (iv 1, r1.2) else if r1.1 = 0 then some (iv 0, r1.2) else none := rfl
def EX10_gateSet (N d : Nat) : Nat → Nat → LO → AH → Option RES := exec (CX10_gateSet (arun N d)) [(4, [0, 1, 2])]
theorem enX10_gateSet (N d : Nat) (q0 : Nat) (A : AH) : arun N (d + 1) 171 [rv (some q0)] A = EX10_gateSet N d N 0 [some (rv (some q0)), none, none] A := rfl
set_option maxRecDepth 10000 in
theorem sgX10_gateSet_0 (N d n : Nat)  (I : Nat → Nat → Int32) (J : Nat → Nat → Int64) (cd : Nat × Nat) : EX10_gateSet N d (n + 1) 0 [some (rv (some 87)), none, none] (I, J, cd) =
  EX10_gateSet N d n 4 [some (rv (some 87)), some (iv 0), some (iv 0)] (I, J, cd) := rfl
set_option maxRecDepth 10000 in
theorem sgX10_gateSet_4 (N d n : Nat) (x1 : Int32) (x2 : Int32) (I : Nat → Nat → Int32) (J : Nat → Nat → Int64) (cd : Nat × Nat) : EX10_gateSet N d (n + 1) 4 [some (rv (some 87)), some (iv x1), some (iv x2)] (I, J, cd) =
  if (I 87 10) ≤ x2 then
    some (iv x1, (I, J, cd))
  else
    if inb x2 6 then ((cI (arun N d) 162 [iv (I 96 x2.toNatClampNeg)] (I, J, cd)).bind fun r1 => if r1.1 = 0 then
      EX10_gateSet N d n 4 [some (rv (some 87)), some (iv (x1 ||| 0)), some (iv (x2 + 1))] r1.2
    else
      EX10_gateSet N d n 4 [some (rv (some 87)), some (iv (x1 ||| (1 <<< (x2 &&& 31)))), some (iv (x2 + 1))] r1.2) else none := rfl
def EX10_canShut (N d : Nat) : Nat → Nat → LO → AH → Option RES := exec (CX10_canShut (arun N d)) []
theorem enX10_canShut (N d : Nat) (q0 : Nat) (x1 : Int32) (A : AH) : arun N (d + 1) 172 [rv (some q0), iv x1] A = EX10_canShut N d N 0 [some (rv (some q0)), some (iv x1)] A := rfl
set_option maxRecDepth 10000 in
theorem sgX10_canShut_0 (N d n : Nat) (x1 : Int32) (I : Nat → Nat → Int32) (J : Nat → Nat → Int64) (cd : Nat × Nat) : EX10_canShut N d (n + 1) 0 [some (rv (some 87)), some (iv x1)] (I, J, cd) =
  if x1 < 0 then
    some (iv 0, (I, J, cd))
  else
    (cI (arun N d) 171 [rv (some 87)] (I, J, cd)).bind fun r1 => if (x1 &&& (r1.1 ^^^ ((-1)))) = 0 then
      some (iv 1, r1.2)
    else
      some (iv 0, r1.2) := rfl
def EX10_write (N d : Nat) : Nat → Nat → LO → AH → Option RES := exec (CX10_write (arun N d)) [(18, [0, 1, 2, 3]), (73, [0, 1, 2, 3])]
theorem enX10_write (N d : Nat) (q0 : Nat) (q1 : Nat) (x2 : Int32) (A : AH) : arun N (d + 1) 173 [rv (some q0), rv (some q1), iv x2] A = EX10_write N d N 0 [some (rv (some q0)), some (rv (some q1)), some (iv x2), none] A := rfl
set_option maxRecDepth 10000 in
theorem sgX10_write_104_0 (N d n : Nat) (x2 : Int32) (I : Nat → Nat → Int32) (J : Nat → Nat → Int64) (cd : Nat × Nat) : EX10_write N d (n + 1) 0 [some (rv (some 87)), some (rv (some 104)), some (iv x2), none] (I, J, cd) =
  if inb x2 1080 then (if inb (x2 + 1) 1080 then (EX10_write N d n 18 [some (rv (some 87)), some (rv (some 104)), some (iv x2), some (iv 0)] (wr (wr I 104 x2.toNatClampNeg (I 87 18)) 104 ((x2 + 1).toNatClampNeg) (I 87 25), J, cd)) else none) else none := rfl
set_option maxRecDepth 10000 in
theorem sgX10_write_104_18 (N d n : Nat) (x2 : Int32) (x3 : Int32) (I : Nat → Nat → Int32) (J : Nat → Nat → Int64) (cd : Nat × Nat) : EX10_write N d (n + 1) 18 [some (rv (some 87)), some (rv (some 104)), some (iv x2), some (iv x3)] (I, J, cd) =
  if 6 ≤ x3 then
    EX10_write N d n 73 [some (rv (some 87)), some (rv (some 104)), some (iv x2), some (iv 0)] (I, J, cd)
  else
    if inb x3 6 then (if inb ((x2 + 2) + x3) 1080 then (if inb x3 6 then (if inb ((x2 + 8) + x3) 1080 then (if inb x3 6 then (if inb ((x2 + 14) + x3) 1080 then (EX10_write N d n 18 [some (rv (some 87)), some (rv (some 104)), some (iv x2), some (iv (x3 + 1))] (wr (wr (wr I 104 (((x2 + 2) + x3).toNatClampNeg) (I 98 x3.toNatClampNeg)) 104 (((x2 + 8) + x3).toNatClampNeg) (I 99 x3.toNatClampNeg)) 104 (((x2 + 14) + x3).toNatClampNeg) (I 100 x3.toNatClampNeg), J, cd)) else none) else none) else none) else none) else none) else none := rfl
set_option maxRecDepth 10000 in
theorem sgX10_write_104_73 (N d n : Nat) (x2 : Int32) (x3 : Int32) (I : Nat → Nat → Int32) (J : Nat → Nat → Int64) (cd : Nat × Nat) : EX10_write N d (n + 1) 73 [some (rv (some 87)), some (rv (some 104)), some (iv x2), some (iv x3)] (I, J, cd) =
  if 7 ≤ x3 then
    some (rv none, (I, J, cd))
  else
    if inb x3 7 then (if inb ((x2 + 20) + x3) 1080 then (EX10_write N d n 73 [some (rv (some 87)), some (rv (some 104)), some (iv x2), some (iv (x3 + 1))] (wr I 104 (((x2 + 20) + x3).toNatClampNeg) (I 101 x3.toNatClampNeg), J, cd)) else none) else none := rfl
set_option maxRecDepth 10000 in
theorem sgX10_write_106_0 (N d n : Nat) (x2 : Int32) (I : Nat → Nat → Int32) (J : Nat → Nat → Int64) (cd : Nat × Nat) : EX10_write N d (n + 1) 0 [some (rv (some 87)), some (rv (some 106)), some (iv x2), none] (I, J, cd) =
  if inb x2 3321 then (if inb (x2 + 1) 3321 then (EX10_write N d n 18 [some (rv (some 87)), some (rv (some 106)), some (iv x2), some (iv 0)] (wr (wr I 106 x2.toNatClampNeg (I 87 18)) 106 ((x2 + 1).toNatClampNeg) (I 87 25), J, cd)) else none) else none := rfl
set_option maxRecDepth 10000 in
theorem sgX10_write_106_18 (N d n : Nat) (x2 : Int32) (x3 : Int32) (I : Nat → Nat → Int32) (J : Nat → Nat → Int64) (cd : Nat × Nat) : EX10_write N d (n + 1) 18 [some (rv (some 87)), some (rv (some 106)), some (iv x2), some (iv x3)] (I, J, cd) =
  if 6 ≤ x3 then
    EX10_write N d n 73 [some (rv (some 87)), some (rv (some 106)), some (iv x2), some (iv 0)] (I, J, cd)
  else
    if inb x3 6 then (if inb ((x2 + 2) + x3) 3321 then (if inb x3 6 then (if inb ((x2 + 8) + x3) 3321 then (if inb x3 6 then (if inb ((x2 + 14) + x3) 3321 then (EX10_write N d n 18 [some (rv (some 87)), some (rv (some 106)), some (iv x2), some (iv (x3 + 1))] (wr (wr (wr I 106 (((x2 + 2) + x3).toNatClampNeg) (I 98 x3.toNatClampNeg)) 106 (((x2 + 8) + x3).toNatClampNeg) (I 99 x3.toNatClampNeg)) 106 (((x2 + 14) + x3).toNatClampNeg) (I 100 x3.toNatClampNeg), J, cd)) else none) else none) else none) else none) else none) else none := rfl
set_option maxRecDepth 10000 in
theorem sgX10_write_106_73 (N d n : Nat) (x2 : Int32) (x3 : Int32) (I : Nat → Nat → Int32) (J : Nat → Nat → Int64) (cd : Nat × Nat) : EX10_write N d (n + 1) 73 [some (rv (some 87)), some (rv (some 106)), some (iv x2), some (iv x3)] (I, J, cd) =
  if 7 ≤ x3 then
    some (rv none, (I, J, cd))
  else
    if inb x3 7 then (if inb ((x2 + 20) + x3) 3321 then (EX10_write N d n 73 [some (rv (some 87)), some (rv (some 106)), some (iv x2), some (iv (x3 + 1))] (wr I 106 (((x2 + 20) + x3).toNatClampNeg) (I 101 x3.toNatClampNeg), J, cd)) else none) else none := rfl
set_option maxRecDepth 10000 in
theorem sgX10_write_107_0 (N d n : Nat) (x2 : Int32) (I : Nat → Nat → Int32) (J : Nat → Nat → Int64) (cd : Nat × Nat) : EX10_write N d (n + 1) 0 [some (rv (some 87)), some (rv (some 107)), some (iv x2), none] (I, J, cd) =
  if inb x2 27 then (if inb (x2 + 1) 27 then (EX10_write N d n 18 [some (rv (some 87)), some (rv (some 107)), some (iv x2), some (iv 0)] (wr (wr I 107 x2.toNatClampNeg (I 87 18)) 107 ((x2 + 1).toNatClampNeg) (I 87 25), J, cd)) else none) else none := rfl
set_option maxRecDepth 10000 in
theorem sgX10_write_107_18 (N d n : Nat) (x2 : Int32) (x3 : Int32) (I : Nat → Nat → Int32) (J : Nat → Nat → Int64) (cd : Nat × Nat) : EX10_write N d (n + 1) 18 [some (rv (some 87)), some (rv (some 107)), some (iv x2), some (iv x3)] (I, J, cd) =
  if 6 ≤ x3 then
    EX10_write N d n 73 [some (rv (some 87)), some (rv (some 107)), some (iv x2), some (iv 0)] (I, J, cd)
  else
    if inb x3 6 then (if inb ((x2 + 2) + x3) 27 then (if inb x3 6 then (if inb ((x2 + 8) + x3) 27 then (if inb x3 6 then (if inb ((x2 + 14) + x3) 27 then (EX10_write N d n 18 [some (rv (some 87)), some (rv (some 107)), some (iv x2), some (iv (x3 + 1))] (wr (wr (wr I 107 (((x2 + 2) + x3).toNatClampNeg) (I 98 x3.toNatClampNeg)) 107 (((x2 + 8) + x3).toNatClampNeg) (I 99 x3.toNatClampNeg)) 107 (((x2 + 14) + x3).toNatClampNeg) (I 100 x3.toNatClampNeg), J, cd)) else none) else none) else none) else none) else none) else none := rfl
set_option maxRecDepth 10000 in
theorem sgX10_write_107_73 (N d n : Nat) (x2 : Int32) (x3 : Int32) (I : Nat → Nat → Int32) (J : Nat → Nat → Int64) (cd : Nat × Nat) : EX10_write N d (n + 1) 73 [some (rv (some 87)), some (rv (some 107)), some (iv x2), some (iv x3)] (I, J, cd) =
  if 7 ≤ x3 then
    some (rv none, (I, J, cd))
  else
    if inb x3 7 then (if inb ((x2 + 20) + x3) 27 then (EX10_write N d n 73 [some (rv (some 87)), some (rv (some 107)), some (iv x2), some (iv (x3 + 1))] (wr I 107 (((x2 + 20) + x3).toNatClampNeg) (I 101 x3.toNatClampNeg), J, cd)) else none) else none := rfl
def EX10_read (N d : Nat) : Nat → Nat → LO → AH → Option RES := exec (CX10_read (arun N d)) [(18, [0, 1, 2, 3]), (73, [0, 1, 2, 3])]
theorem enX10_read (N d : Nat) (q0 : Nat) (q1 : Nat) (x2 : Int32) (A : AH) : arun N (d + 1) 174 [rv (some q0), rv (some q1), iv x2] A = EX10_read N d N 0 [some (rv (some q0)), some (rv (some q1)), some (iv x2), none] A := rfl
set_option maxRecDepth 10000 in
theorem sgX10_read_104_0 (N d n : Nat) (x2 : Int32) (I : Nat → Nat → Int32) (J : Nat → Nat → Int64) (cd : Nat × Nat) : EX10_read N d (n + 1) 0 [some (rv (some 87)), some (rv (some 104)), some (iv x2), none] (I, J, cd) =
  if inb x2 1080 then (if inb (x2 + 1) 1080 then (EX10_read N d n 18 [some (rv (some 87)), some (rv (some 104)), some (iv x2), some (iv 0)] (wr (wr I 87 18 (I 104 x2.toNatClampNeg)) 87 25 (I 104 ((x2 + 1).toNatClampNeg)), J, cd)) else none) else none := rfl
set_option maxRecDepth 10000 in
theorem sgX10_read_104_18 (N d n : Nat) (x2 : Int32) (x3 : Int32) (I : Nat → Nat → Int32) (J : Nat → Nat → Int64) (cd : Nat × Nat) : EX10_read N d (n + 1) 18 [some (rv (some 87)), some (rv (some 104)), some (iv x2), some (iv x3)] (I, J, cd) =
  if 6 ≤ x3 then
    EX10_read N d n 73 [some (rv (some 87)), some (rv (some 104)), some (iv x2), some (iv 0)] (I, J, cd)
  else
    if inb ((x2 + 2) + x3) 1080 then (if inb x3 6 then (if inb ((x2 + 8) + x3) 1080 then (if inb x3 6 then (if inb ((x2 + 14) + x3) 1080 then (if inb x3 6 then (EX10_read N d n 18 [some (rv (some 87)), some (rv (some 104)), some (iv x2), some (iv (x3 + 1))] (wr (wr (wr I 98 x3.toNatClampNeg (I 104 (((x2 + 2) + x3).toNatClampNeg))) 99 x3.toNatClampNeg (I 104 (((x2 + 8) + x3).toNatClampNeg))) 100 x3.toNatClampNeg (I 104 (((x2 + 14) + x3).toNatClampNeg)), J, cd)) else none) else none) else none) else none) else none) else none := rfl
set_option maxRecDepth 10000 in
theorem sgX10_read_104_73 (N d n : Nat) (x2 : Int32) (x3 : Int32) (I : Nat → Nat → Int32) (J : Nat → Nat → Int64) (cd : Nat × Nat) : EX10_read N d (n + 1) 73 [some (rv (some 87)), some (rv (some 104)), some (iv x2), some (iv x3)] (I, J, cd) =
  if 7 ≤ x3 then
    some (rv none, (I, J, cd))
  else
    if inb ((x2 + 20) + x3) 1080 then (if inb x3 7 then (EX10_read N d n 73 [some (rv (some 87)), some (rv (some 104)), some (iv x2), some (iv (x3 + 1))] (wr I 101 x3.toNatClampNeg (I 104 (((x2 + 20) + x3).toNatClampNeg)), J, cd)) else none) else none := rfl
set_option maxRecDepth 10000 in
theorem sgX10_read_106_0 (N d n : Nat) (x2 : Int32) (I : Nat → Nat → Int32) (J : Nat → Nat → Int64) (cd : Nat × Nat) : EX10_read N d (n + 1) 0 [some (rv (some 87)), some (rv (some 106)), some (iv x2), none] (I, J, cd) =
  if inb x2 3321 then (if inb (x2 + 1) 3321 then (EX10_read N d n 18 [some (rv (some 87)), some (rv (some 106)), some (iv x2), some (iv 0)] (wr (wr I 87 18 (I 106 x2.toNatClampNeg)) 87 25 (I 106 ((x2 + 1).toNatClampNeg)), J, cd)) else none) else none := rfl
set_option maxRecDepth 10000 in
theorem sgX10_read_106_18 (N d n : Nat) (x2 : Int32) (x3 : Int32) (I : Nat → Nat → Int32) (J : Nat → Nat → Int64) (cd : Nat × Nat) : EX10_read N d (n + 1) 18 [some (rv (some 87)), some (rv (some 106)), some (iv x2), some (iv x3)] (I, J, cd) =
  if 6 ≤ x3 then
    EX10_read N d n 73 [some (rv (some 87)), some (rv (some 106)), some (iv x2), some (iv 0)] (I, J, cd)
  else
    if inb ((x2 + 2) + x3) 3321 then (if inb x3 6 then (if inb ((x2 + 8) + x3) 3321 then (if inb x3 6 then (if inb ((x2 + 14) + x3) 3321 then (if inb x3 6 then (EX10_read N d n 18 [some (rv (some 87)), some (rv (some 106)), some (iv x2), some (iv (x3 + 1))] (wr (wr (wr I 98 x3.toNatClampNeg (I 106 (((x2 + 2) + x3).toNatClampNeg))) 99 x3.toNatClampNeg (I 106 (((x2 + 8) + x3).toNatClampNeg))) 100 x3.toNatClampNeg (I 106 (((x2 + 14) + x3).toNatClampNeg)), J, cd)) else none) else none) else none) else none) else none) else none := rfl
set_option maxRecDepth 10000 in
theorem sgX10_read_106_73 (N d n : Nat) (x2 : Int32) (x3 : Int32) (I : Nat → Nat → Int32) (J : Nat → Nat → Int64) (cd : Nat × Nat) : EX10_read N d (n + 1) 73 [some (rv (some 87)), some (rv (some 106)), some (iv x2), some (iv x3)] (I, J, cd) =
  if 7 ≤ x3 then
    some (rv none, (I, J, cd))
  else
    if inb ((x2 + 20) + x3) 3321 then (if inb x3 7 then (EX10_read N d n 73 [some (rv (some 87)), some (rv (some 106)), some (iv x2), some (iv (x3 + 1))] (wr I 101 x3.toNatClampNeg (I 106 (((x2 + 20) + x3).toNatClampNeg)), J, cd)) else none) else none := rfl
set_option maxRecDepth 10000 in
theorem sgX10_read_107_0 (N d n : Nat) (x2 : Int32) (I : Nat → Nat → Int32) (J : Nat → Nat → Int64) (cd : Nat × Nat) : EX10_read N d (n + 1) 0 [some (rv (some 87)), some (rv (some 107)), some (iv x2), none] (I, J, cd) =
  if inb x2 27 then (if inb (x2 + 1) 27 then (EX10_read N d n 18 [some (rv (some 87)), some (rv (some 107)), some (iv x2), some (iv 0)] (wr (wr I 87 18 (I 107 x2.toNatClampNeg)) 87 25 (I 107 ((x2 + 1).toNatClampNeg)), J, cd)) else none) else none := rfl
set_option maxRecDepth 10000 in
theorem sgX10_read_107_18 (N d n : Nat) (x2 : Int32) (x3 : Int32) (I : Nat → Nat → Int32) (J : Nat → Nat → Int64) (cd : Nat × Nat) : EX10_read N d (n + 1) 18 [some (rv (some 87)), some (rv (some 107)), some (iv x2), some (iv x3)] (I, J, cd) =
  if 6 ≤ x3 then
    EX10_read N d n 73 [some (rv (some 87)), some (rv (some 107)), some (iv x2), some (iv 0)] (I, J, cd)
  else
    if inb ((x2 + 2) + x3) 27 then (if inb x3 6 then (if inb ((x2 + 8) + x3) 27 then (if inb x3 6 then (if inb ((x2 + 14) + x3) 27 then (if inb x3 6 then (EX10_read N d n 18 [some (rv (some 87)), some (rv (some 107)), some (iv x2), some (iv (x3 + 1))] (wr (wr (wr I 98 x3.toNatClampNeg (I 107 (((x2 + 2) + x3).toNatClampNeg))) 99 x3.toNatClampNeg (I 107 (((x2 + 8) + x3).toNatClampNeg))) 100 x3.toNatClampNeg (I 107 (((x2 + 14) + x3).toNatClampNeg)), J, cd)) else none) else none) else none) else none) else none) else none := rfl
set_option maxRecDepth 10000 in
theorem sgX10_read_107_73 (N d n : Nat) (x2 : Int32) (x3 : Int32) (I : Nat → Nat → Int32) (J : Nat → Nat → Int64) (cd : Nat × Nat) : EX10_read N d (n + 1) 73 [some (rv (some 87)), some (rv (some 107)), some (iv x2), some (iv x3)] (I, J, cd) =
  if 7 ≤ x3 then
    some (rv none, (I, J, cd))
  else
    if inb ((x2 + 20) + x3) 27 then (if inb x3 7 then (EX10_read N d n 73 [some (rv (some 87)), some (rv (some 107)), some (iv x2), some (iv (x3 + 1))] (wr I 101 x3.toNatClampNeg (I 107 (((x2 + 20) + x3).toNatClampNeg)), J, cd)) else none) else none := rfl
