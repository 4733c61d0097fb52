/-! what a run from a place to the next ones gives -/
def EX9_reach (N d : Nat) : Nat → Nat → LO → AH → Option RES := exec (CX9_reach (arun N d)) []
theorem enX9_reach (N d : Nat) (q0 : Nat) (x1 : Int32) (x2 : Int32) (A : AH) : arun N (d + 1) 78 [rv (some q0), iv x1, iv x2] A = EX9_reach N d N 0 [some (rv (some q0)), some (iv x1), some (iv x2)] A := rfl
set_option maxRecDepth 10000 in
theorem sgX9_reach_0 (N d n : Nat) (x1 : Int32) (x2 : Int32) (I : Nat → Nat → Int32) (J : Nat → Nat → Int64) : EX9_reach N d (n + 1) 0 [some (rv (some 0)), some (iv x1), some (iv x2)] (I, J, 73, 80) =
  (cI (arun N d) 16 [rv (some 73), iv x1] (I, J, 73, 80)).bind fun r1 => if r1.1 = 0 then
    some (iv ((-1)), r1.2)
  else
    if x2 < 0 then
      some (iv ((-1)), r1.2)
    else
      if x2 ≤ 4 then
        (cI (arun N d) 133 [rv (some 0), iv x1, iv x2] r1.2).bind fun r2 => (cI (arun N d) 112 [rv (some 0), iv r2.1] r2.2).bind fun r3 => some (iv r3.1, r3.2)
      else
        some (iv ((-1)), r1.2) := rfl
def EX9_mark (N d : Nat) : Nat → Nat → LO → AH → Option RES := exec (CX9_mark (arun N d)) []
theorem enX9_mark (N d : Nat) (q0 : Nat) (x1 : Int32) (x2 : Int32) (A : AH) : arun N (d + 1) 79 [rv (some q0), iv x1, iv x2] A = EX9_mark N d N 0 [some (rv (some q0)), some (iv x1), some (iv x2)] A := rfl
set_option maxRecDepth 10000 in
theorem sgX9_mark_0 (N d n : Nat) (x1 : Int32) (x2 : Int32) (I : Nat → Nat → Int32) (J : Nat → Nat → Int64) : EX9_mark N d (n + 1) 0 [some (rv (some 0)), some (iv x1), some (iv x2)] (I, J, 73, 80) =
  (cI (arun N d) 16 [rv (some 73), iv x1] (I, J, 73, 80)).bind fun r1 => if r1.1 = 0 then
    some (iv ((-1)), r1.2)
  else
    if x2 < 1 then
      some (iv ((-1)), r1.2)
    else
      if x2 ≤ 5 then
        if okc r1.2.2.2.1 2 then ((RF r1.2.2.2 r1.2.2.2.1 4).bind fun b2 => if inb x1 (alen 0 b2) then ((cI (arun N d) 40 [iv (r1.2.1 b2 x1.toNatClampNeg), iv x2] r1.2).bind fun r3 => if r3.1 = 0 then
          (cI (arun N d) 115 [rv (some 0), iv 3] r3.2).bind fun r4 => some (iv r4.1, r4.2)
        else
          if okc r3.2.2.2.1 2 then ((RF r3.2.2.2 r3.2.2.2.1 5).bind fun b5 => if inb x1 (alen 0 b5) then (if inb x1 6 then ((cI (arun N d) 44 [iv x2, iv (r3.2.1 b5 x1.toNatClampNeg), iv (r3.2.1 20 x1.toNatClampNeg)] r3.2).bind fun r6 => some (iv r6.1, r6.2)) else none) else none) else none) else none) else none
      else
        some (iv ((-1)), r1.2) := rfl
def EX9_weekday (N d : Nat) : Nat → Nat → LO → AH → Option RES := exec (CX9_weekday (arun N d)) []
theorem enX9_weekday (N d : Nat) (q0 : Nat) (x1 : Int32) (x2 : Int32) (A : AH) : arun N (d + 1) 80 [rv (some q0), iv x1, iv x2] A = EX9_weekday N d N 0 [some (rv (some q0)), some (iv x1), some (iv x2)] A := rfl
set_option maxRecDepth 10000 in
theorem sgX9_weekday_0 (N d n : Nat) (x1 : Int32) (x2 : Int32) (I : Nat → Nat → Int32) (J : Nat → Nat → Int64) : EX9_weekday N d (n + 1) 0 [some (rv (some 0)), some (iv x1), some (iv x2)] (I, J, 73, 80) =
  (cI (arun N d) 124 [iv x1] (I, J, 73, 80)).bind fun r1 => if r1.1 = 0 then
    some (iv ((-1)), r1.2)
  else
    if x2 < 0 then
      some (iv ((-1)), r1.2)
    else
      if x2 ≤ 1 then
        if okc r1.2.2.2.1 2 then (if (r1.2.1 r1.2.2.2.1 0) = 0 then
          some (iv ((-4)), r1.2)
        else
          if x2 = 0 then
            if okc r1.2.2.2.1 2 then ((RF r1.2.2.2 r1.2.2.2.1 7).bind fun b2 => if inb x1 (alen 0 b2) then (some (iv (r1.2.1 b2 x1.toNatClampNeg), r1.2)) else none) else none
          else
            if okc r1.2.2.2.1 2 then ((RF r1.2.2.2 r1.2.2.2.1 8).bind fun b3 => if inb x1 (alen 0 b3) then (some (iv (r1.2.1 b3 x1.toNatClampNeg), r1.2)) else none) else none) else none
      else
        some (iv ((-1)), r1.2) := rfl
def EX9_swap (N d : Nat) : Nat → Nat → LO → AH → Option RES := exec (CX9_swap (arun N d)) []
theorem enX9_swap (N d : Nat) (q0 : Nat) (x1 : Int32) (x2 : Int32) (A : AH) : arun N (d + 1) 81 [rv (some q0), iv x1, iv x2] A = EX9_swap N d N 0 [some (rv (some q0)), some (iv x1), some (iv x2), none] A := rfl
set_option maxRecDepth 10000 in
theorem sgX9_swap_0 (N d n : Nat) (x1 : Int32) (x2 : Int32) (I : Nat → Nat → Int32) (J : Nat → Nat → Int64) : EX9_swap N d (n + 1) 0 [some (rv (some 0)), some (iv x1), some (iv x2), none] (I, J, 73, 80) =
  (cI (arun N d) 124 [iv x1] (I, J, 73, 80)).bind fun r1 => if r1.1 = 0 then
    some (iv ((-1)), r1.2)
  else
    (cI (arun N d) 124 [iv x2] r1.2).bind fun r2 => if r2.1 = 0 then
      some (iv ((-1)), r2.2)
    else
      if x1 = x2 then
        some (iv ((-1)), r2.2)
      else
        if okc r2.2.2.2.1 2 then (if (r2.2.1 r2.2.2.2.1 0) = 0 then
          some (iv ((-4)), r2.2)
        else
          if okc r2.2.2.2.1 2 then ((RF r2.2.2.2 r2.2.2.2.1 8).bind fun b3 => if inb x1 (alen 0 b3) then (if okc r2.2.2.2.1 2 then (if okc r2.2.2.2.1 2 then ((RF r2.2.2.2 r2.2.2.2.1 8).bind fun b4 => if inb x2 (alen 0 b4) then ((RF r2.2.2.2 r2.2.2.2.1 8).bind fun b5 => if inb x1 (alen 0 b5) then (if okc r2.2.2.2.1 2 then ((RF r2.2.2.2 r2.2.2.2.1 8).bind fun b6 => if inb x2 (alen 0 b6) then (some (iv 1, (wr (wr r2.2.1 b5 x1.toNatClampNeg (r2.2.1 b4 x2.toNatClampNeg)) b6 x2.toNatClampNeg (r2.2.1 b3 x1.toNatClampNeg), r2.2.2.1, r2.2.2.2))) else none) else none) else none) else none) else none) else none) else none) else none) else none := rfl
def EX9_owns (N d : Nat) : Nat → Nat → LO → AH → Option RES := exec (CX9_owns (arun N d)) []
theorem enX9_owns (N d : Nat) (q0 : Nat) (x1 : Int32) (A : AH) : arun N (d + 1) 82 [rv (some q0), iv x1] A = EX9_owns N d N 0 [some (rv (some q0)), some (iv x1)] A := rfl
set_option maxRecDepth 10000 in
theorem sgX9_owns_0 (N d n : Nat) (x1 : Int32) (I : Nat → Nat → Int32) (J : Nat → Nat → Int64) : EX9_owns N d (n + 1) 0 [some (rv (some 0)), some (iv x1)] (I, J, 73, 80) =
  (cI (arun N d) 125 [iv x1] (I, J, 73, 80)).bind fun r1 => if r1.1 = 0 then
    some (iv ((-1)), r1.2)
  else
    if inb x1 7 then (some (iv (r1.2.1 23 x1.toNatClampNeg), r1.2)) else none := rfl
def EX9_day (N d : Nat) : Nat → Nat → LO → AH → Option RES := exec (CX9_day (arun N d)) []
theorem enX9_day (N d : Nat) (q0 : Nat) (x1 : Int32) (A : AH) : arun N (d + 1) 83 [rv (some q0), iv x1] A = EX9_day N d N 0 [some (rv (some q0)), some (iv x1)] A := rfl
set_option maxRecDepth 10000 in
theorem sgX9_day_0 (N d n : Nat) (x1 : Int32) (I : Nat → Nat → Int32) (J : Nat → Nat → Int64) : EX9_day N d (n + 1) 0 [some (rv (some 0)), some (iv x1)] (I, J, 73, 80) =
  (cI (arun N d) 17 [rv (some 73), iv x1] (I, J, 73, 80)).bind fun r1 => if r1.1 = 0 then
    some (iv ((-1)), r1.2)
  else
    if okc r1.2.2.2.1 2 then (if (r1.2.1 r1.2.2.2.1 0) = 0 then
      some (iv ((-4)), r1.2)
    else
      if (r1.2.1 25 0) < 40 then
        (cI (arun N d) 127 [rv (some 0), iv x1] r1.2).bind fun r2 => some (iv r2.1, r2.2)
      else
        some (iv ((-2)), r1.2)) else none := rfl
def EX9_undo (N d : Nat) : Nat → Nat → LO → AH → Option RES := exec (CX9_undo (arun N d)) []
theorem enX9_undo (N d : Nat) (q0 : Nat) (x1 : Int32) (A : AH) : arun N (d + 1) 84 [rv (some q0), iv x1] A = EX9_undo N d N 0 [some (rv (some q0)), some (iv x1), none] A := rfl
set_option maxRecDepth 10000 in
theorem sgX9_undo_0 (N d n : Nat) (x1 : Int32) (I : Nat → Nat → Int32) (J : Nat → Nat → Int64) : EX9_undo N d (n + 1) 0 [some (rv (some 0)), some (iv x1), none] (I, J, 73, 80) =
  if x1 < 0 then
    some (iv ((-1)), (I, J, 73, 80))
  else
    if x1 ≤ (I 25 0) then
      (cV (arun N d) 27 [rv (some 25), iv x1] (I, J, 73, 80)).bind fun r1 => (cV (arun N d) 128 [rv (some 0)] r1).bind fun r2 => some (iv ((I 25 0) - x1), r2)
    else
      some (iv ((-1)), (I, J, 73, 80)) := rfl
def EX9_keep (N d : Nat) : Nat → Nat → LO → AH → Option RES := exec (CX9_keep (arun N d)) []
theorem enX9_keep (N d : Nat) (q0 : Nat) (x1 : Int32) (A : AH) : arun N (d + 1) 85 [rv (some q0), iv x1] A = EX9_keep N d N 0 [some (rv (some q0)), some (iv x1)] A := rfl
set_option maxRecDepth 10000 in
theorem sgX9_keep_0 (N d n : Nat) (x1 : Int32) (I : Nat → Nat → Int32) (J : Nat → Nat → Int64) : EX9_keep N d (n + 1) 0 [some (rv (some 0)), some (iv x1)] (I, J, 73, 80) =
  if x1 < 0 then
    some (iv ((-1)), (I, J, 73, 80))
  else
    if x1 < 3 then
      if (I 73 0) = 0 then
        some (iv ((-4)), (I, J, 73, 80))
      else
        if inb x1 3 then (if rcv [rv (RF (73, 80) 28 x1.toNatClampNeg), rv (some 25)] 3 then ((cV (arun N d) 28 [rv (RF (73, 80) 28 x1.toNatClampNeg), rv (some 25)] (I, J, 73, 80)).bind fun r1 => if inb x1 3 then (some (iv (r1.1 25 0), (wr r1.1 38 x1.toNatClampNeg (vp_nar .boolean 1), r1.2.1, r1.2.2))) else none) else none) else none
    else
      some (iv ((-1)), (I, J, 73, 80)) := rfl
def EX9_on (N d : Nat) : Nat → Nat → LO → AH → Option RES := exec (CX9_on (arun N d)) []
theorem enX9_on (N d : Nat) (q0 : Nat) (x1 : Int32) (A : AH) : arun N (d + 1) 86 [rv (some q0), iv x1] A = EX9_on N d N 0 [some (rv (some q0)), some (iv x1)] A := rfl
set_option maxRecDepth 10000 in
theorem sgX9_on_0 (N d n : Nat) (x1 : Int32) (I : Nat → Nat → Int32) (J : Nat → Nat → Int64) : EX9_on N d (n + 1) 0 [some (rv (some 0)), some (iv x1)] (I, J, 73, 80) =
  if x1 < 0 then
    some (iv ((-1)), (I, J, 73, 80))
  else
    if x1 < 3 then
      if inb x1 3 then (if (I 38 x1.toNatClampNeg) = 0 then
        (cI (arun N d) 115 [rv (some 0), iv 1] (I, J, 73, 80)).bind fun r1 => some (iv r1.1, r1.2)
      else
        if inb x1 3 then ((cV (arun N d) 28 [rv (some 25), rv (RF (73, 80) 28 x1.toNatClampNeg)] (I, J, 73, 80)).bind fun r2 => (cV (arun N d) 128 [rv (some 0)] r2).bind fun r3 => some (iv (r3.1 25 0), r3)) else none) else none
    else
      some (iv ((-1)), (I, J, 73, 80)) := rfl
def EX9_gates (N d : Nat) : Nat → Nat → LO → AH → Option RES := exec (CX9_gates (arun N d)) []
theorem enX9_gates (N d : Nat) (q0 : Nat) (A : AH) : arun N (d + 1) 87 [rv (some q0)] A = EX9_gates N d N 0 [some (rv (some q0))] A := rfl
set_option maxRecDepth 10000 in
theorem sgX9_gates_0 (N d n : Nat)  (I : Nat → Nat → Int32) (J : Nat → Nat → Int64) : EX9_gates N d (n + 1) 0 [some (rv (some 0))] (I, J, 73, 80) =
  some (iv (I 73 1), (I, J, 73, 80)) := rfl
def EX9_runs (N d : Nat) : Nat → Nat → LO → AH → Option RES := exec (CX9_runs (arun N d)) []
theorem enX9_runs (N d : Nat) (q0 : Nat) (x1 : Int32) (A : AH) : arun N (d + 1) 88 [rv (some q0), iv x1] A = EX9_runs N d N 0 [some (rv (some q0)), some (iv x1)] A := rfl
set_option maxRecDepth 10000 in
theorem sgX9_runs_0 (N d n : Nat) (x1 : Int32) (I : Nat → Nat → Int32) (J : Nat → Nat → Int64) : EX9_runs N d (n + 1) 0 [some (rv (some 0)), some (iv x1)] (I, J, 73, 80) =
  (cI (arun N d) 17 [rv (some 73), iv x1] (I, J, 73, 80)).bind fun r1 => if r1.1 = 0 then
    some (iv ((-1)), r1.2)
  else
    if okc r1.2.2.2.1 2 then (if (r1.2.1 r1.2.2.2.1 0) = 0 then
      some (iv ((-4)), r1.2)
    else
      (cV (arun N d) 4 [rv (some 39), rv (some 20), iv (r1.2.1 25 0)] r1.2).bind fun r2 => (cV (arun N d) 5 [rv (some 39), rv (some r2.2.2.1), iv 0, iv x1] r2).bind fun r3 => (cI (arun N d) 112 [rv (some 0), iv (r3.1 39 2)] r3).bind fun r4 => some (iv (r4.2.1 39 1), r4.2)) else none := rfl
def EX9_sea (N d : Nat) : Nat → Nat → LO → AH → Option RES := exec (CX9_sea (arun N d)) []
theorem enX9_sea (N d : Nat) (q0 : Nat) (x1 : Int32) (A : AH) : arun N (d + 1) 89 [rv (some q0), iv x1] A = EX9_sea N d N 0 [some (rv (some q0)), some (iv x1), none] A := rfl
set_option maxRecDepth 10000 in
theorem sgX9_sea_0 (N d n : Nat) (x1 : Int32) (I : Nat → Nat → Int32) (J : Nat → Nat → Int64) : EX9_sea N d (n + 1) 0 [some (rv (some 0)), some (iv x1), none] (I, J, 73, 80) =
  (cI (arun N d) 121 [rv (some 0), iv 1, iv x1, iv 12] (I, J, 73, 80)).bind fun r1 => if r1.1 = 0 then
    (cV (arun N d) 130 [rv (some 0), iv x1] r1.2).bind fun r2 => (cI (arun N d) 112 [rv (some 0), iv (r2.1 39 4)] r2).bind fun r3 => some (iv (r3.2.1 39 3), r3.2)
  else
    some (iv r1.1, r1.2) := rfl
def EX9_water (N d : Nat) : Nat → Nat → LO → AH → Option RES := exec (CX9_water (arun N d)) []
theorem enX9_water (N d : Nat) (q0 : Nat) (x1 : Int32) (x2 : Int32) (A : AH) : arun N (d + 1) 90 [rv (some q0), iv x1, iv x2] A = EX9_water N d N 0 [some (rv (some q0)), some (iv x1), some (iv x2), none] A := rfl
set_option maxRecDepth 10000 in
theorem sgX9_water_0 (N d n : Nat) (x1 : Int32) (x2 : Int32) (I : Nat → Nat → Int32) (J : Nat → Nat → Int64) : EX9_water N d (n + 1) 0 [some (rv (some 0)), some (iv x1), some (iv x2), none] (I, J, 73, 80) =
  (cI (arun N d) 16 [rv (some 73), iv x1] (I, J, 73, 80)).bind fun r1 => (cI (arun N d) 121 [rv (some 0), iv r1.1, iv x2, iv 12] r1.2).bind fun r2 => if r2.1 = 0 then
    (cV (arun N d) 130 [rv (some 0), iv x2] r2.2).bind fun r3 => (cI (arun N d) 8 [rv (some 39), iv x1] r3).bind fun r4 => some (iv r4.1, r4.2)
  else
    some (iv r2.1, r2.2) := rfl
def EX9_share (N d : Nat) : Nat → Nat → LO → AH → Option RES := exec (CX9_share (arun N d)) []
theorem enX9_share (N d : Nat) (q0 : Nat) (x1 : Int32) (x2 : Int32) (A : AH) : arun N (d + 1) 91 [rv (some q0), iv x1, iv x2] A = EX9_share N d N 0 [some (rv (some q0)), some (iv x1), some (iv x2), none] A := rfl
set_option maxRecDepth 10000 in
theorem sgX9_share_0 (N d n : Nat) (x1 : Int32) (x2 : Int32) (I : Nat → Nat → Int32) (J : Nat → Nat → Int64) : EX9_share N d (n + 1) 0 [some (rv (some 0)), some (iv x1), some (iv x2), none] (I, J, 73, 80) =
  (cI (arun N d) 125 [iv x1] (I, J, 73, 80)).bind fun r1 => (cI (arun N d) 121 [rv (some 0), iv r1.1, iv x2, iv 12] r1.2).bind fun r2 => if r2.1 = 0 then
    (cV (arun N d) 130 [rv (some 0), iv x2] r2.2).bind fun r3 => if inb x1 7 then (some (iv (r3.1 40 x1.toNatClampNeg), r3)) else none
  else
    some (iv r2.1, r2.2) := rfl
def EX9_grinds (N d : Nat) : Nat → Nat → LO → AH → Option RES := exec (CX9_grinds (arun N d)) [(36, [0, 1, 2])]
theorem enX9_grinds (N d : Nat) (q0 : Nat) (x1 : Int32) (A : AH) : arun N (d + 1) 92 [rv (some q0), iv x1] A = EX9_grinds N d N 0 [some (rv (some q0)), some (iv x1), none] A := rfl
set_option maxRecDepth 10000 in
theorem sgX9_grinds_0 (N d n : Nat) (x1 : Int32) (I : Nat → Nat → Int32) (J : Nat → Nat → Int64) : EX9_grinds N d (n + 1) 0 [some (rv (some 0)), some (iv x1), none] (I, J, 73, 80) =
  (cI (arun N d) 16 [rv (some 73), iv x1] (I, J, 73, 80)).bind fun r1 => if r1.1 = 0 then
    some (iv ((-1)), r1.2)
  else
    (cV (arun N d) 4 [rv (some 39), rv (some 20), iv (r1.2.1 25 0)] r1.2).bind fun r2 => EX9_grinds N d n 36 [some (rv (some 0)), some (iv x1), some (iv 0)] r2 := rfl
set_option maxRecDepth 10000 in
theorem sgX9_grinds_36 (N d n : Nat) (x1 : Int32) (x2 : Int32) (I : Nat → Nat → Int32) (J : Nat → Nat → Int64) : EX9_grinds N d (n + 1) 36 [some (rv (some 0)), some (iv x1), some (iv x2)] (I, J, 73, 80) =
  if 40 ≤ x2 then
    some (iv ((-9)), (I, J, 73, 80))
  else
    (cV (arun N d) 5 [rv (some 39), rv (some 73), iv x2, iv 0] (I, J, 73, 80)).bind fun r1 => if (((r1.1 39 2) >>> (x1 &&& 31)) &&& 1) = 0 then
      EX9_grinds N d n 36 [some (rv (some 0)), some (iv x1), some (iv (x2 + 1))] r1
    else
      some (iv (x2 + 1), r1) := rfl
def EX9_best (N d : Nat) : Nat → Nat → LO → AH → Option RES := exec (CX9_best (arun N d)) []
theorem enX9_best (N d : Nat) (q0 : Nat) (x1 : Int32) (x2 : Int32) (A : AH) : arun N (d + 1) 93 [rv (some q0), iv x1, iv x2] A = EX9_best N d N 0 [some (rv (some q0)), some (iv x1), some (iv x2), none] A := rfl
set_option maxRecDepth 10000 in
theorem sgX9_best_0 (N d n : Nat) (x1 : Int32) (x2 : Int32) (I : Nat → Nat → Int32) (J : Nat → Nat → Int64) : EX9_best N d (n + 1) 0 [some (rv (some 0)), some (iv x1), some (iv x2), none] (I, J, 73, 80) =
  (cI (arun N d) 52 [rv (some 1), iv x2] (I, J, 73, 80)).bind fun r1 => (cI (arun N d) 119 [rv (some 0), iv r1.1, iv x1, iv 4] r1.2).bind fun r2 => if r2.1 = 0 then
    (cV (arun N d) 31 [rv (some 48), rv (some r2.2.2.2.1), rv (some 20), iv (r2.2.1 25 0), iv 0, iv x1] r2.2).bind fun r3 => (cV (arun N d) 60 [rv (some 1), iv x2, rv (some 50), iv x1] r3).bind fun r4 => some (iv (r4.1 48 5), r4)
  else
    some (iv r2.1, r2.2) := rfl
def EX9_all (N d : Nat) : Nat → Nat → LO → AH → Option RES := exec (CX9_all (arun N d)) []
theorem enX9_all (N d : Nat) (q0 : Nat) (x1 : Int32) (x2 : Int32) (A : AH) : arun N (d + 1) 94 [rv (some q0), iv x1, iv x2] A = EX9_all N d N 0 [some (rv (some q0)), some (iv x1), some (iv x2), none] A := rfl
set_option maxRecDepth 10000 in
theorem sgX9_all_0 (N d n : Nat) (x1 : Int32) (x2 : Int32) (I : Nat → Nat → Int32) (J : Nat → Nat → Int64) : EX9_all N d (n + 1) 0 [some (rv (some 0)), some (iv x1), some (iv x2), none] (I, J, 73, 80) =
  (cI (arun N d) 52 [rv (some 1), iv x2] (I, J, 73, 80)).bind fun r1 => (cI (arun N d) 119 [rv (some 0), iv r1.1, iv x1, iv 4] r1.2).bind fun r2 => if r2.1 = 0 then
    (cV (arun N d) 31 [rv (some 48), rv (some r2.2.2.2.1), rv (some 20), iv (r2.2.1 25 0), iv 1, iv x1] r2.2).bind fun r3 => if (r3.1 48 4) = 0 then
      some (iv ((-9)), r3)
    else
      (cV (arun N d) 60 [rv (some 1), iv x2, rv (some 50), iv x1] r3).bind fun r4 => some (iv (-(r4.1 48 5)), r4)
  else
    some (iv r2.1, r2.2) := rfl
def EX9_most (N d : Nat) : Nat → Nat → LO → AH → Option RES := exec (CX9_most (arun N d)) []
theorem enX9_most (N d : Nat) (q0 : Nat) (x1 : Int32) (x2 : Int32) (A : AH) : arun N (d + 1) 95 [rv (some q0), iv x1, iv x2] A = EX9_most N d N 0 [some (rv (some q0)), some (iv x1), some (iv x2), none] A := rfl
set_option maxRecDepth 10000 in
theorem sgX9_most_0 (N d n : Nat) (x1 : Int32) (x2 : Int32) (I : Nat → Nat → Int32) (J : Nat → Nat → Int64) : EX9_most N d (n + 1) 0 [some (rv (some 0)), some (iv x1), some (iv x2), none] (I, J, 73, 80) =
  (cI (arun N d) 125 [iv x1] (I, J, 73, 80)).bind fun r1 => (cI (arun N d) 119 [rv (some 0), iv r1.1, iv x2, iv 4] r1.2).bind fun r2 => if r2.1 = 0 then
    (cV (arun N d) 31 [rv (some 48), rv (some r2.2.2.2.1), rv (some 20), iv (r2.2.1 25 0), iv 2, iv x2] (wr r2.2.1 48 2 x1, r2.2.2.1, r2.2.2.2)).bind fun r3 => some (iv (r3.1 48 5), r3)
  else
    some (iv r2.1, r2.2) := rfl
def EX9_worth (N d : Nat) : Nat → Nat → LO → AH → Option RES := exec (CX9_worth (arun N d)) [(28, [0, 1, 3, 4, 5])]
theorem enX9_worth (N d : Nat) (q0 : Nat) (x1 : Int32) (A : AH) : arun N (d + 1) 96 [rv (some q0), iv x1] A = EX9_worth N d N 0 [some (rv (some q0)), some (iv x1), none, none, none, none, none] A := rfl
set_option maxRecDepth 10000 in
theorem sgX9_worth_0 (N d n : Nat) (x1 : Int32) (I : Nat → Nat → Int32) (J : Nat → Nat → Int64) : EX9_worth N d (n + 1) 0 [some (rv (some 0)), some (iv x1), none, none, none, none, none] (I, J, 73, 80) =
  (cI (arun N d) 119 [rv (some 0), iv 1, iv x1, iv 20] (I, J, 73, 80)).bind fun r1 => if r1.1 = 0 then
    (cI (arun N d) 131 [rv (some 0), iv 0, iv x1] r1.2).bind fun r2 => EX9_worth N d n 28 [some (rv (some 0)), some (iv x1), none, some (iv r2.1), some (iv 0), some (iv 1), none] r2.2
  else
    some (iv r1.1, r1.2) := rfl
set_option maxRecDepth 10000 in
theorem sgX9_worth_28 (N d n : Nat) (x1 : Int32) (x3 : Int32) (x4 : Int32) (x5 : Int32) (I : Nat → Nat → Int32) (J : Nat → Nat → Int64) : EX9_worth N d (n + 1) 28 [some (rv (some 0)), some (iv x1), none, some (iv x3), some (iv x4), some (iv x5), none] (I, J, 73, 80) =
  if 7 ≤ x5 then
    (cI (arun N d) 112 [rv (some 0), iv x3] (I, J, 73, 80)).bind fun r1 => some (iv x4, r1.2)
  else
    (cI (arun N d) 131 [rv (some 0), iv x5, iv x1] (I, J, 73, 80)).bind fun r2 => if x3 ≤ r2.1 then
      EX9_worth N d n 28 [some (rv (some 0)), some (iv x1), none, some (iv x3), some (iv x4), some (iv (x5 + 1)), none] r2.2
    else
      EX9_worth N d n 28 [some (rv (some 0)), some (iv x1), none, some (iv r2.1), some (iv x5), some (iv (x5 + 1)), none] r2.2 := rfl
def EX9_duel (N d : Nat) : Nat → Nat → LO → AH → Option RES := exec (CX9_duel (arun N d)) []
theorem enX9_duel (N d : Nat) (q0 : Nat) (x1 : Int32) (A : AH) : arun N (d + 1) 97 [rv (some q0), iv x1] A = EX9_duel N d N 0 [some (rv (some q0)), some (iv x1), none] A := rfl
set_option maxRecDepth 10000 in
theorem sgX9_duel_0 (N d n : Nat) (x1 : Int32) (I : Nat → Nat → Int32) (J : Nat → Nat → Int64) : EX9_duel N d (n + 1) 0 [some (rv (some 0)), some (iv x1), none] (I, J, 73, 80) =
  (cI (arun N d) 119 [rv (some 0), iv 1, iv x1, iv 3] (I, J, 73, 80)).bind fun r1 => if r1.1 = 0 then
    (cI (arun N d) 37 [rv (some 48), rv (some r1.2.2.2.1), rv (some 20), iv (r1.2.1 25 0), iv x1] r1.2).bind fun r2 => some (iv r2.1, r2.2)
  else
    some (iv r1.1, r1.2) := rfl
def EX9_ways (N d : Nat) : Nat → Nat → LO → AH → Option RES := exec (CX9_ways (arun N d)) []
theorem enX9_ways (N d : Nat) (q0 : Nat) (x1 : Int32) (A : AH) : arun N (d + 1) 98 [rv (some q0), iv x1] A = EX9_ways N d N 0 [some (rv (some q0)), some (iv x1), none] A := rfl
set_option maxRecDepth 10000 in
theorem sgX9_ways_0 (N d n : Nat) (x1 : Int32) (I : Nat → Nat → Int32) (J : Nat → Nat → Int64) : EX9_ways N d (n + 1) 0 [some (rv (some 0)), some (iv x1), none] (I, J, 73, 80) =
  (cI (arun N d) 122 [rv (some 0), iv 1, iv x1] (I, J, 73, 80)).bind fun r1 => if r1.1 = 0 then
    (cV (arun N d) 61 [rv (some 1), iv x1, rv (some 49)] r1.2).bind fun r2 => (cI (arun N d) 54 [rv (some 1), iv x1] r2).bind fun r3 => (cV (arun N d) 31 [rv (some 48), rv (some r2.2.2.1), rv (some 20), iv (r2.1 25 0), iv 3, iv r3.1] r3.2).bind fun r4 => (cV (arun N d) 113 [rv (some 0), jv (Int32.toInt64 (r4.1 48 4)), jv 1] r4).bind fun r5 => (cI (arun N d) 112 [rv (some 0), iv (r5.1 48 6)] r5).bind fun r6 => some (iv r6.1, r6.2)
  else
    some (iv r1.1, r1.2) := rfl
def EX9_first (N d : Nat) : Nat → Nat → LO → AH → Option RES := exec (CX9_first (arun N d)) []
theorem enX9_first (N d : Nat) (q0 : Nat) (x1 : Int32) (x2 : Int32) (A : AH) : arun N (d + 1) 99 [rv (some q0), iv x1, iv x2] A = EX9_first N d N 0 [some (rv (some q0)), some (iv x1), some (iv x2), none] A := rfl
set_option maxRecDepth 10000 in
theorem sgX9_first_0 (N d n : Nat) (x1 : Int32) (x2 : Int32) (I : Nat → Nat → Int32) (J : Nat → Nat → Int64) : EX9_first N d (n + 1) 0 [some (rv (some 0)), some (iv x1), some (iv x2), none] (I, J, 73, 80) =
  (cI (arun N d) 52 [rv (some 1), iv x2] (I, J, 73, 80)).bind fun r1 => (cI (arun N d) 122 [rv (some 0), iv r1.1, iv x1] r1.2).bind fun r2 => if r2.1 = 0 then
    (cV (arun N d) 61 [rv (some 1), iv x1, rv (some 49)] r2.2).bind fun r3 => (cI (arun N d) 54 [rv (some 1), iv x1] r3).bind fun r4 => (cV (arun N d) 31 [rv (some 48), rv (some r3.2.2.1), rv (some 20), iv (r3.1 25 0), iv 3, iv r4.1] r4.2).bind fun r5 => if (r5.1 48 4) = 0 then
      some (iv ((-9)), r5)
    else
      (cV (arun N d) 60 [rv (some 1), iv x2, rv (some 50), iv (r5.1 48 3)] r5).bind fun r6 => (cI (arun N d) 36 [rv (some 48)] r6).bind fun r7 => some (iv r7.1, r7.2)
  else
    some (iv r2.1, r2.2) := rfl
def EX9_kinds (N d : Nat) : Nat → Nat → LO → AH → Option RES := exec (CX9_kinds (arun N d)) [(19, [0, 1, 2, 4, 5])]
theorem enX9_kinds (N d : Nat) (q0 : Nat) (x1 : Int32) (x2 : Int32) (A : AH) : arun N (d + 1) 100 [rv (some q0), iv x1, iv x2] A = EX9_kinds N d N 0 [some (rv (some q0)), some (iv x1), some (iv x2), none, none, none] A := rfl
set_option maxRecDepth 10000 in
theorem sgX9_kinds_0 (N d n : Nat) (x1 : Int32) (x2 : Int32) (I : Nat → Nat → Int32) (J : Nat → Nat → Int64) : EX9_kinds N d (n + 1) 0 [some (rv (some 0)), some (iv x1), some (iv x2), none, none, none] (I, J, 73, 80) =
  (cI (arun N d) 123 [rv (some 0), iv x1, iv x2] (I, J, 73, 80)).bind fun r1 => if r1.1 = 0 then
    EX9_kinds N d n 19 [some (rv (some 0)), some (iv x1), some (iv x2), none, some (iv 0), some (iv 0)] r1.2
  else
    some (iv r1.1, r1.2) := rfl
set_option maxRecDepth 10000 in
theorem sgX9_kinds_19 (N d n : Nat) (x1 : Int32) (x2 : Int32) (x4 : Int32) (x5 : Int32) (I : Nat → Nat → Int32) (J : Nat → Nat → Int64) : EX9_kinds N d (n + 1) 19 [some (rv (some 0)), some (iv x1), some (iv x2), none, some (iv x4), some (iv x5)] (I, J, 73, 80) =
  if 5 < x5 then
    some (iv x4, (I, J, 73, 80))
  else
    if inb x1 6 then (if inb x1 6 then ((cI (arun N d) 132 [rv (some 0), iv x5, iv (I 75 x1.toNatClampNeg), iv (I 20 x1.toNatClampNeg), iv x2] (I, J, 73, 80)).bind fun r1 => if r1.1 = 0 then
      EX9_kinds N d n 19 [some (rv (some 0)), some (iv x1), some (iv x2), none, some (iv x4), some (iv (x5 + 1))] r1.2
    else
      EX9_kinds N d n 19 [some (rv (some 0)), some (iv x1), some (iv x2), none, some (iv (x4 ||| (1 <<< (x5 &&& 31)))), some (iv (x5 + 1))] r1.2) else none) else none := rfl
def EX9_measures (N d : Nat) : Nat → Nat → LO → AH → Option RES := exec (CX9_measures (arun N d)) [(19, [0, 1, 2, 4, 5])]
theorem enX9_measures (N d : Nat) (q0 : Nat) (x1 : Int32) (x2 : Int32) (A : AH) : arun N (d + 1) 101 [rv (some q0), iv x1, iv x2] A = EX9_measures N d N 0 [some (rv (some q0)), some (iv x1), some (iv x2), none, none, none] A := rfl
set_option maxRecDepth 10000 in
theorem sgX9_measures_0 (N d n : Nat) (x1 : Int32) (x2 : Int32) (I : Nat → Nat → Int32) (J : Nat → Nat → Int64) : EX9_measures N d (n + 1) 0 [some (rv (some 0)), some (iv x1), some (iv x2), none, none, none] (I, J, 73, 80) =
  (cI (arun N d) 123 [rv (some 0), iv x1, iv x2] (I, J, 73, 80)).bind fun r1 => if r1.1 = 0 then
    EX9_measures N d n 19 [some (rv (some 0)), some (iv x1), some (iv x2), none, some (iv 0), some (iv 1)] r1.2
  else
    some (iv r1.1, r1.2) := rfl
set_option maxRecDepth 10000 in
theorem sgX9_measures_19 (N d n : Nat) (x1 : Int32) (x2 : Int32) (x4 : Int32) (x5 : Int32) (I : Nat → Nat → Int32) (J : Nat → Nat → Int64) : EX9_measures N d (n + 1) 19 [some (rv (some 0)), some (iv x1), some (iv x2), none, some (iv x4), some (iv x5)] (I, J, 73, 80) =
  if 9 < x5 then
    some (iv x4, (I, J, 73, 80))
  else
    if inb x1 6 then (if inb x1 6 then ((cI (arun N d) 132 [rv (some 0), iv (I 74 x1.toNatClampNeg), iv x5, iv (I 20 x1.toNatClampNeg), iv x2] (I, J, 73, 80)).bind fun r1 => if r1.1 = 0 then
      EX9_measures N d n 19 [some (rv (some 0)), some (iv x1), some (iv x2), none, some (iv x4), some (iv (x5 + 1))] r1.2
    else
      EX9_measures N d n 19 [some (rv (some 0)), some (iv x1), some (iv x2), none, some (iv (x4 ||| (1 <<< (x5 &&& 31)))), some (iv (x5 + 1))] r1.2) else none) else none := rfl
def EX9_mid (N d : Nat) : Nat → Nat → LO → AH → Option RES := exec (CX9_mid (arun N d)) []
theorem enX9_mid (N d : Nat) (q0 : Nat) (x1 : Int32) (x2 : Int32) (A : AH) : arun N (d + 1) 102 [rv (some q0), iv x1, iv x2] A = EX9_mid N d N 0 [some (rv (some q0)), some (iv x1), some (iv x2), none] A := rfl
set_option maxRecDepth 10000 in
theorem sgX9_mid_0 (N d n : Nat) (x1 : Int32) (x2 : Int32) (I : Nat → Nat → Int32) (J : Nat → Nat → Int64) : EX9_mid N d (n + 1) 0 [some (rv (some 0)), some (iv x1), some (iv x2), none] (I, J, 73, 80) =
  (cI (arun N d) 126 [iv x2] (I, J, 73, 80)).bind fun r1 => (cI (arun N d) 121 [rv (some 0), iv r1.1, iv x1, iv 4] r1.2).bind fun r2 => if r2.1 = 0 then
    (cV (arun N d) 61 [rv (some 1), iv x1, rv (some 62)] r2.2).bind fun r3 => (cI (arun N d) 54 [rv (some 1), iv x1] r3).bind fun r4 => (cV (arun N d) 11 [rv (some 61), rv (some r3.2.2.1), rv (some 20), iv (r3.1 25 0), iv r4.1, iv 0, iv x2] r4.2).bind fun r5 => (cV (arun N d) 113 [rv (some 0), jv (r5.2.1 61 1), jv (r5.2.1 61 3)] r5).bind fun r6 => some (iv 1, r6)
  else
    some (iv r2.1, r2.2) := rfl
def EX9_odds (N d : Nat) : Nat → Nat → LO → AH → Option RES := exec (CX9_odds (arun N d)) [(30, [0, 1, 2, 3, 4])]
theorem enX9_odds (N d : Nat) (q0 : Nat) (x1 : Int32) (x2 : Int32) (x3 : Int32) (A : AH) : arun N (d + 1) 103 [rv (some q0), iv x1, iv x2, iv x3] A = EX9_odds N d N 0 [some (rv (some q0)), some (iv x1), some (iv x2), some (iv x3), none] A := rfl
set_option maxRecDepth 10000 in
theorem sgX9_odds_0 (N d n : Nat) (x1 : Int32) (x2 : Int32) (x3 : Int32) (I : Nat → Nat → Int32) (J : Nat → Nat → Int64) : EX9_odds N d (n + 1) 0 [some (rv (some 0)), some (iv x1), some (iv x2), some (iv x3), none] (I, J, 73, 80) =
  (cI (arun N d) 126 [iv x3] (I, J, 73, 80)).bind fun r1 => if r1.1 = 0 then
    (cI (arun N d) 121 [rv (some 0), iv 0, iv x1, iv 4] r1.2).bind fun r2 => EX9_odds N d n 30 [some (rv (some 0)), some (iv x1), some (iv x2), some (iv x3), some (iv r2.1)] r2.2
  else
    if x2 < 0 then
      (cI (arun N d) 121 [rv (some 0), iv 0, iv x1, iv 4] r1.2).bind fun r3 => EX9_odds N d n 30 [some (rv (some 0)), some (iv x1), some (iv x2), some (iv x3), some (iv r3.1)] r3.2
    else
      if 99 < x2 then
        (cI (arun N d) 121 [rv (some 0), iv 0, iv x1, iv 4] r1.2).bind fun r4 => EX9_odds N d n 30 [some (rv (some 0)), some (iv x1), some (iv x2), some (iv x3), some (iv r4.1)] r4.2
      else
        (cI (arun N d) 121 [rv (some 0), iv 1, iv x1, iv 4] r1.2).bind fun r5 => EX9_odds N d n 30 [some (rv (some 0)), some (iv x1), some (iv x2), some (iv x3), some (iv r5.1)] r5.2 := rfl
set_option maxRecDepth 10000 in
theorem sgX9_odds_30 (N d n : Nat) (x1 : Int32) (x2 : Int32) (x3 : Int32) (x4 : Int32) (I : Nat → Nat → Int32) (J : Nat → Nat → Int64) : EX9_odds N d (n + 1) 30 [some (rv (some 0)), some (iv x1), some (iv x2), some (iv x3), some (iv x4)] (I, J, 73, 80) =
  if x4 = 0 then
    (cV (arun N d) 61 [rv (some 1), iv x1, rv (some 62)] (I, J, 73, 80)).bind fun r1 => (cI (arun N d) 54 [rv (some 1), iv x1] r1).bind fun r2 => (cV (arun N d) 11 [rv (some 61), rv (some r1.2.2.1), rv (some 20), iv (r1.1 25 0), iv r2.1, iv x2, iv x3] r2.2).bind fun r3 => (cV (arun N d) 113 [rv (some 0), jv (r3.2.1 61 2), jv (r3.2.1 61 3)] r3).bind fun r4 => some (iv 1, r4)
  else
    some (iv x4, (I, J, 73, 80)) := rfl
def EX9_lots (N d : Nat) : Nat → Nat → LO → AH → Option RES := exec (CX9_lots (arun N d)) [(66, [0, 1, 3, 5, 6])]
theorem enX9_lots (N d : Nat) (q0 : Nat) (x1 : Int32) (x2 : Int32) (A : AH) : arun N (d + 1) 104 [rv (some q0), iv x1, iv x2] A = EX9_lots N d N 0 [some (rv (some q0)), some (iv x1), some (iv x2), none, none, none, none] A := rfl
set_option maxRecDepth 10000 in
theorem sgX9_lots_0 (N d n : Nat) (x1 : Int32) (x2 : Int32) (I : Nat → Nat → Int32) (J : Nat → Nat → Int64) : EX9_lots N d (n + 1) 0 [some (rv (some 0)), some (iv x1), some (iv x2), none, none, none, none] (I, J, 73, 80) =
  if x1 < 1 then
    some (iv ((-1)), (I, J, 73, 80))
  else
    if 20 < x1 then
      some (iv ((-1)), (I, J, 73, 80))
    else
      if x2 < 1 then
        some (iv ((-1)), (I, J, 73, 80))
      else
        if (lg_cmp (Int32.toInt64 x2) 2147483647) < 0 then
          if (I 73 0) = 0 then
            some (iv ((-4)), (I, J, 73, 80))
          else
            if ((I 25 0) + x1) ≤ 40 then
              EX9_lots N d n 66 [some (rv (some 0)), some (iv x1), none, some (jv (Int32.toInt64 x2)), none, some (iv 0), some (iv 0)] (I, J, 73, 80)
            else
              some (iv ((-2)), (I, J, 73, 80))
        else
          some (iv ((-1)), (I, J, 73, 80)) := rfl
set_option maxRecDepth 10000 in
theorem sgX9_lots_66 (N d n : Nat) (x1 : Int32) (y3 : Int64) (x5 : Int32) (x6 : Int32) (I : Nat → Nat → Int32) (J : Nat → Nat → Int64) : EX9_lots N d (n + 1) 66 [some (rv (some 0)), some (iv x1), none, some (jv y3), none, some (iv x5), some (iv x6)] (I, J, 73, 80) =
  if x1 ≤ x6 then
    some (iv x5, (I, J, 73, 80))
  else
    (cI (arun N d) 21 [rv (some 73), iv (Int64.toInt32 ((y3 * 48271) - (y3 * 48271) / 2147483647 * 2147483647))] (I, J, 73, 80)).bind fun r1 => (cI (arun N d) 127 [rv (some 0), iv r1.1] r1.2).bind fun r2 => EX9_lots N d n 66 [some (rv (some 0)), some (iv x1), none, some (jv ((y3 * 48271) - (y3 * 48271) / 2147483647 * 2147483647)), none, some (iv (x5 + r2.1)), some (iv (x6 + 1))] r2.2 := rfl
def EX9_asked (N d : Nat) : Nat → Nat → LO → AH → Option RES := exec (CX9_asked (arun N d)) []
theorem enX9_asked (N d : Nat) (q0 : Nat) (A : AH) : arun N (d + 1) 105 [rv (some q0)] A = EX9_asked N d N 0 [some (rv (some q0))] A := rfl
set_option maxRecDepth 10000 in
theorem sgX9_asked_0 (N d n : Nat)  (I : Nat → Nat → Int32) (J : Nat → Nat → Int64) : EX9_asked N d (n + 1) 0 [some (rv (some 0))] (I, J, 73, 80) =
  some (iv (I 0 14), (I, J, 73, 80)) := rfl
def EX9_upper (N d : Nat) : Nat → Nat → LO → AH → Option RES := exec (CX9_upper (arun N d)) []
theorem enX9_upper (N d : Nat) (q0 : Nat) (A : AH) : arun N (d + 1) 106 [rv (some q0)] A = EX9_upper N d N 0 [some (rv (some q0))] A := rfl
set_option maxRecDepth 10000 in
theorem sgX9_upper_0 (N d n : Nat)  (I : Nat → Nat → Int32) (J : Nat → Nat → Int64) : EX9_upper N d (n + 1) 0 [some (rv (some 0))] (I, J, 73, 80) =
  some (jv (J 0 15), (I, J, 73, 80)) := rfl
def EX9_lower (N d : Nat) : Nat → Nat → LO → AH → Option RES := exec (CX9_lower (arun N d)) []
theorem enX9_lower (N d : Nat) (q0 : Nat) (A : AH) : arun N (d + 1) 107 [rv (some q0)] A = EX9_lower N d N 0 [some (rv (some q0))] A := rfl
set_option maxRecDepth 10000 in
theorem sgX9_lower_0 (N d n : Nat)  (I : Nat → Nat → Int32) (J : Nat → Nat → Int64) : EX9_lower N d (n + 1) 0 [some (rv (some 0))] (I, J, 73, 80) =
  some (jv (J 0 16), (I, J, 73, 80)) := rfl
def EX9_count (N d : Nat) : Nat → Nat → LO → AH → Option RES := exec (CX9_count (arun N d)) []
theorem enX9_count (N d : Nat) (q0 : Nat) (x1 : Int32) (A : AH) : arun N (d + 1) 108 [rv (some q0), iv x1] A = EX9_count N d N 0 [some (rv (some q0)), some (iv x1)] A := rfl
set_option maxRecDepth 10000 in
theorem sgX9_count_0 (N d n : Nat) (x1 : Int32) (I : Nat → Nat → Int32) (J : Nat → Nat → Int64) : EX9_count N d (n + 1) 0 [some (rv (some 0)), some (iv x1)] (I, J, 73, 80) =
  if x1 < 0 then
    some (iv ((-1)), (I, J, 73, 80))
  else
    if x1 < 11 then
      (cI (arun N d) 134 [rv (some 0), iv x1] (I, J, 73, 80)).bind fun r1 => some (iv r1.1, r1.2)
    else
      some (iv ((-1)), (I, J, 73, 80)) := rfl
def EX9_finding (N d : Nat) : Nat → Nat → LO → AH → Option RES := exec (CX9_finding (arun N d)) []
theorem enX9_finding (N d : Nat) (q0 : Nat) (A : AH) : arun N (d + 1) 109 [rv (some q0)] A = EX9_finding N d N 0 [some (rv (some q0))] A := rfl
set_option maxRecDepth 10000 in
theorem sgX9_finding_0 (N d n : Nat)  (I : Nat → Nat → Int32) (J : Nat → Nat → Int64) : EX9_finding N d (n + 1) 0 [some (rv (some 0))] (I, J, 73, 80) =
  some (iv (I 0 13), (I, J, 73, 80)) := rfl
def EX9_findings (N d : Nat) : Nat → Nat → LO → AH → Option RES := exec (CX9_findings (arun N d)) []
theorem enX9_findings (N d : Nat) (q0 : Nat) (x1 : Int32) (A : AH) : arun N (d + 1) 110 [rv (some q0), iv x1] A = EX9_findings N d N 0 [some (rv (some q0)), some (iv x1)] A := rfl
set_option maxRecDepth 10000 in
theorem sgX9_findings_0 (N d n : Nat) (x1 : Int32) (I : Nat → Nat → Int32) (J : Nat → Nat → Int64) : EX9_findings N d (n + 1) 0 [some (rv (some 0)), some (iv x1)] (I, J, 73, 80) =
  if x1 < 1 then
    some (iv ((-1)), (I, J, 73, 80))
  else
    if x1 ≤ 5 then
      if inb x1 6 then (some (iv (I 72 x1.toNatClampNeg), (I, J, 73, 80))) else none
    else
      some (iv ((-1)), (I, J, 73, 80)) := rfl
def EX9_digest (N d : Nat) : Nat → Nat → LO → AH → Option RES := exec (CX9_digest (arun N d)) [(6, [0, 1, 3]), (33, [0, 1, 3]), (91, [0, 1, 3]), (122, [0, 1, 3]), (136, [0, 1, 3, 4]), (171, [0, 1, 3])]
theorem enX9_digest (N d : Nat) (q0 : Nat) (A : AH) : arun N (d + 1) 111 [rv (some q0)] A = EX9_digest N d N 0 [some (rv (some q0)), none, none, none, none] A := rfl
set_option maxRecDepth 10000 in
theorem sgX9_digest_0 (N d n : Nat)  (I : Nat → Nat → Int32) (J : Nat → Nat → Int64) : EX9_digest N d (n + 1) 0 [some (rv (some 0)), none, none, none, none] (I, J, 73, 80) =
  EX9_digest N d n 6 [some (rv (some 0)), some (jv 17), none, some (iv 0), none] (I, J, 73, 80) := rfl
set_option maxRecDepth 10000 in
theorem sgX9_digest_6 (N d n : Nat) (y1 : Int64) (x3 : Int32) (I : Nat → Nat → Int32) (J : Nat → Nat → Int64) : EX9_digest N d (n + 1) 6 [some (rv (some 0)), some (jv y1), none, some (iv x3), none] (I, J, 73, 80) =
  if 11 ≤ x3 then
    EX9_digest N d n 33 [some (rv (some 0)), some (jv y1), none, some (iv 0), none] (I, J, 73, 80)
  else
    (cI (arun N d) 134 [rv (some 0), iv x3] (I, J, 73, 80)).bind fun r1 => EX9_digest N d n 6 [some (rv (some 0)), some (jv ((31 * y1) + (Int32.toInt64 r1.1))), none, some (iv (x3 + 1)), none] r1.2 := rfl
set_option maxRecDepth 10000 in
theorem sgX9_digest_33 (N d n : Nat) (y1 : Int64) (x3 : Int32) (I : Nat → Nat → Int32) (J : Nat → Nat → Int64) : EX9_digest N d (n + 1) 33 [some (rv (some 0)), some (jv y1), none, some (iv x3), none] (I, J, 73, 80) =
  if 7 ≤ x3 then
    EX9_digest N d n 91 [some (rv (some 0)), some (jv y1), none, some (iv 0), none] (I, J, 73, 80)
  else
    if (I 73 0) ≤ 0 then
      EX9_digest N d n 91 [some (rv (some 0)), some (jv y1), none, some (iv 0), none] (I, J, 73, 80)
    else
      if inb x3 7 then (if inb x3 7 then (EX9_digest N d n 33 [some (rv (some 0)), some (jv ((31 * ((31 * y1) + (Int32.toInt64 (I 77 x3.toNatClampNeg)))) + (Int32.toInt64 (I 78 x3.toNatClampNeg)))), none, some (iv (x3 + 1)), none] (I, J, 73, 80)) else none) else none := rfl
set_option maxRecDepth 10000 in
theorem sgX9_digest_91 (N d n : Nat) (y1 : Int64) (x3 : Int32) (I : Nat → Nat → Int32) (J : Nat → Nat → Int64) : EX9_digest N d (n + 1) 91 [some (rv (some 0)), some (jv y1), none, some (iv x3), none] (I, J, 73, 80) =
  if 7 ≤ x3 then
    EX9_digest N d n 122 [some (rv (some 0)), some (jv y1), none, some (iv 0), none] (I, J, 73, 80)
  else
    if inb x3 7 then (EX9_digest N d n 91 [some (rv (some 0)), some (jv ((31 * y1) + (Int32.toInt64 (I 23 x3.toNatClampNeg)))), none, some (iv (x3 + 1)), none] (I, J, 73, 80)) else none := rfl
set_option maxRecDepth 10000 in
theorem sgX9_digest_122 (N d n : Nat) (y1 : Int64) (x3 : Int32) (I : Nat → Nat → Int32) (J : Nat → Nat → Int64) : EX9_digest N d (n + 1) 122 [some (rv (some 0)), some (jv y1), none, some (iv x3), none] (I, J, 73, 80) =
  if (I 73 0) ≤ x3 then
    EX9_digest N d n 171 [some (rv (some 0)), some (jv y1), none, some (iv 0), none] (I, J, 73, 80)
  else
    EX9_digest N d n 136 [some (rv (some 0)), some (jv y1), none, some (iv x3), some (iv 0)] (I, J, 73, 80) := rfl
set_option maxRecDepth 10000 in
theorem sgX9_digest_136 (N d n : Nat) (y1 : Int64) (x3 : Int32) (x4 : Int32) (I : Nat → Nat → Int32) (J : Nat → Nat → Int64) : EX9_digest N d (n + 1) 136 [some (rv (some 0)), some (jv y1), none, some (iv x3), some (iv x4)] (I, J, 73, 80) =
  if 4 < x4 then
    EX9_digest N d n 122 [some (rv (some 0)), some (jv y1), none, some (iv (x3 + 1)), none] (I, J, 73, 80)
  else
    (cI (arun N d) 133 [rv (some 0), iv x3, iv x4] (I, J, 73, 80)).bind fun r1 => EX9_digest N d n 136 [some (rv (some 0)), some (jv ((31 * y1) + (Int32.toInt64 r1.1))), none, some (iv x3), some (iv (x4 + 1))] r1.2 := rfl
set_option maxRecDepth 10000 in
theorem sgX9_digest_171 (N d n : Nat) (y1 : Int64) (x3 : Int32) (I : Nat → Nat → Int32) (J : Nat → Nat → Int64) : EX9_digest N d (n + 1) 171 [some (rv (some 0)), some (jv y1), none, some (iv x3), none] (I, J, 73, 80) =
  if 3 ≤ x3 then
    (cJ (arun N d) 67 [rv (some 1), jv y1] (I, J, 73, 80)).bind fun r1 => (cJ (arun N d) 67 [rv (some 10), jv r1.1] r1.2).bind fun r2 => some (jv r2.1, r2.2)
  else
    if inb x3 3 then (if (I 38 x3.toNatClampNeg) = 0 then
      EX9_digest N d n 171 [some (rv (some 0)), some (jv ((31 * y1) + (Int32.toInt64 ((-1))))), none, some (iv (x3 + 1)), none] (I, J, 73, 80)
    else
      if inb x3 3 then ((RF (73, 80) 28 x3.toNatClampNeg).bind fun b3 => if okc b3 3 then (EX9_digest N d n 171 [some (rv (some 0)), some (jv ((31 * y1) + (Int32.toInt64 (I b3 0)))), none, some (iv (x3 + 1)), none] (I, J, 73, 80)) else none) else none) else none := rfl
def EX9_tell (N d : Nat) : Nat → Nat → LO → AH → Option RES := exec (CX9_tell (arun N d)) []
theorem enX9_tell (N d : Nat) (q0 : Nat) (x1 : Int32) (A : AH) : arun N (d + 1) 112 [rv (some q0), iv x1] A = EX9_tell N d N 0 [some (rv (some q0)), some (iv x1)] A := rfl
set_option maxRecDepth 10000 in
theorem sgX9_tell_0 (N d n : Nat) (x1 : Int32) (I : Nat → Nat → Int32) (J : Nat → Nat → Int64) : EX9_tell N d (n + 1) 0 [some (rv (some 0)), some (iv x1)] (I, J, 73, 80) =
  some (iv 1, (wr I 0 14 x1, J, 73, 80)) := rfl
def EX9_tellFraction (N d : Nat) : Nat → Nat → LO → AH → Option RES := exec (CX9_tellFraction (arun N d)) []
theorem enX9_tellFraction (N d : Nat) (q0 : Nat) (y1 : Int64) (y3 : Int64) (A : AH) : arun N (d + 1) 113 [rv (some q0), jv y1, jv y3] A = EX9_tellFraction N d N 0 [some (rv (some q0)), some (jv y1), none, some (jv y3), none, none, none] A := rfl
set_option maxRecDepth 10000 in
theorem sgX9_tellFraction_0 (N d n : Nat) (y1 : Int64) (y3 : Int64) (I : Nat → Nat → Int32) (J : Nat → Nat → Int64) : EX9_tellFraction N d (n + 1) 0 [some (rv (some 0)), some (jv y1), none, some (jv y3), none, none, none] (I, J, 73, 80) =
  (cJ (arun N d) 114 [jv y1, jv y3] (I, J, 73, 80)).bind fun r1 => if (lg_cmp r1.1 0) ≤ 0 then
    some (rv none, r1.2)
  else
    if r1.1 = (0 : Int64) then none else (if r1.1 = (0 : Int64) then none else (some (rv none, (r1.2.1, wr (wr r1.2.2.1 0 15 (y1 / r1.1)) 0 16 (y3 / r1.1), r1.2.2.2)))) := rfl
def EX9_commonDivisor (N d : Nat) : Nat → Nat → LO → AH → Option RES := exec (CX9_commonDivisor (arun N d)) [(3, [0, 2, 4])]
theorem enX9_commonDivisor (N d : Nat) (y0 : Int64) (y2 : Int64) (A : AH) : arun N (d + 1) 114 [jv y0, jv y2] A = EX9_commonDivisor N d N 0 [some (jv y0), none, some (jv y2), none, none, none, none] A := rfl
set_option maxRecDepth 10000 in
theorem sgX9_commonDivisor_0 (N d n : Nat) (y0 : Int64) (y2 : Int64) (I : Nat → Nat → Int32) (J : Nat → Nat → Int64) (cd : Nat × Nat) : EX9_commonDivisor N d (n + 1) 0 [some (jv y0), none, some (jv y2), none, none, none, none] (I, J, cd) =
  EX9_commonDivisor N d n 3 [some (jv y0), none, some (jv y2), none, some (iv 0), none, none] (I, J, cd) := rfl
set_option maxRecDepth 10000 in
theorem sgX9_commonDivisor_3 (N d n : Nat) (y0 : Int64) (y2 : Int64) (x4 : Int32) (I : Nat → Nat → Int32) (J : Nat → Nat → Int64) (cd : Nat × Nat) : EX9_commonDivisor N d (n + 1) 3 [some (jv y0), none, some (jv y2), none, some (iv x4), none, none] (I, J, cd) =
  if 100 ≤ x4 then
    some (jv y0, (I, J, cd))
  else
    if (lg_cmp y2 0) = 0 then
      some (jv y0, (I, J, cd))
    else
      if y2 = (0 : Int64) then none else (EX9_commonDivisor N d n 3 [some (jv y2), none, some (jv (y0 - y0 / y2 * y2)), none, some (iv (x4 + 1)), none, none] (I, J, cd)) := rfl
def EX9_find (N d : Nat) : Nat → Nat → LO → AH → Option RES := exec (CX9_find (arun N d)) []
theorem enX9_find (N d : Nat) (q0 : Nat) (x1 : Int32) (A : AH) : arun N (d + 1) 115 [rv (some q0), iv x1] A = EX9_find N d N 0 [some (rv (some q0)), some (iv x1)] A := rfl
set_option maxRecDepth 10000 in
theorem sgX9_find_0 (N d n : Nat) (x1 : Int32) (I : Nat → Nat → Int32) (J : Nat → Nat → Int64) : EX9_find N d (n + 1) 0 [some (rv (some 0)), some (iv x1)] (I, J, 73, 80) =
  if inb x1 6 then (if inb x1 6 then (some (iv ((-3)), (wr (wr I 0 13 x1) 72 x1.toNatClampNeg ((I 72 x1.toNatClampNeg) + 1), J, 73, 80))) else none) else none := rfl
def EX9_makeAnew (N d : Nat) : Nat → Nat → LO → AH → Option RES := exec (CX9_makeAnew (arun N d)) []
theorem enX9_makeAnew (N d : Nat) (q0 : Nat) (q1 : Nat) (x2 : Int32) (x3 : Int32) (x4 : Int32) (A : AH) : arun N (d + 1) 116 [rv (some q0), rv (some q1), iv x2, iv x3, iv x4] A = EX9_makeAnew N d N 0 [some (rv (some q0)), some (rv (some q1)), some (iv x2), some (iv x3), some (iv x4)] A := rfl
set_option maxRecDepth 10000 in
theorem sgX9_makeAnew_1_0 (N d n : Nat) (x2 : Int32) (x3 : Int32) (x4 : Int32) (I : Nat → Nat → Int32) (J : Nat → Nat → Int64) (cd : Nat × Nat) : EX9_makeAnew N d (n + 1) 0 [some (rv (some 0)), some (rv (some 1)), some (iv x2), some (iv x3), some (iv x4)] (I, J, cd) =
  (cI (arun N d) 52 [rv (some 1), iv x2] (I, J, cd)).bind fun r1 => if r1.1 = 0 then
    some (iv ((-1)), r1.2)
  else
    if x3 ≤ (r1.2.1 1 0) then
      if 0 ≤ x3 then
        (cV (arun N d) 59 [rv (some 1), iv x2, iv x3, iv x4] r1.2).bind fun r2 => some (iv x3, r2)
      else
        (cI (arun N d) 115 [rv (some 0), iv 5] r1.2).bind fun r3 => some (iv r3.1, r3.2)
    else
      some (iv ((-1)), r1.2) := rfl
set_option maxRecDepth 10000 in
theorem sgX9_makeAnew_10_0 (N d n : Nat) (x2 : Int32) (x3 : Int32) (x4 : Int32) (I : Nat → Nat → Int32) (J : Nat → Nat → Int64) (cd : Nat × Nat) : EX9_makeAnew N d (n + 1) 0 [some (rv (some 0)), some (rv (some 10)), some (iv x2), some (iv x3), some (iv x4)] (I, J, cd) =
  (cI (arun N d) 52 [rv (some 10), iv x2] (I, J, cd)).bind fun r1 => if r1.1 = 0 then
    some (iv ((-1)), r1.2)
  else
    if x3 ≤ (r1.2.1 10 0) then
      if 0 ≤ x3 then
        (cV (arun N d) 59 [rv (some 10), iv x2, iv x3, iv x4] r1.2).bind fun r2 => some (iv x3, r2)
      else
        (cI (arun N d) 115 [rv (some 0), iv 5] r1.2).bind fun r3 => some (iv r3.1, r3.2)
    else
      some (iv ((-1)), r1.2) := rfl
def EX9_refuseMissing (N d : Nat) : Nat → Nat → LO → AH → Option RES := exec (CX9_refuseMissing (arun N d)) []
theorem enX9_refuseMissing (N d : Nat) (q0 : Nat) (q1 : Nat) (x2 : Int32) (A : AH) : arun N (d + 1) 117 [rv (some q0), rv (some q1), iv x2] A = EX9_refuseMissing N d N 0 [some (rv (some q0)), some (rv (some q1)), some (iv x2)] A := rfl
set_option maxRecDepth 10000 in
theorem sgX9_refuseMissing_1_0 (N d n : Nat) (x2 : Int32) (I : Nat → Nat → Int32) (J : Nat → Nat → Int64) (cd : Nat × Nat) : EX9_refuseMissing N d (n + 1) 0 [some (rv (some 0)), some (rv (some 1)), some (iv x2)] (I, J, cd) =
  (cI (arun N d) 52 [rv (some 1), iv x2] (I, J, cd)).bind fun r1 => if r1.1 = 0 then
    some (iv ((-1)), r1.2)
  else
    (cI (arun N d) 53 [rv (some 1), iv x2] r1.2).bind fun r2 => if r2.1 = 0 then
      (cI (arun N d) 115 [rv (some 0), iv 1] r2.2).bind fun r3 => some (iv r3.1, r3.2)
    else
      some (iv 0, r2.2) := rfl
set_option maxRecDepth 10000 in
theorem sgX9_refuseMissing_10_0 (N d n : Nat) (x2 : Int32) (I : Nat → Nat → Int32) (J : Nat → Nat → Int64) (cd : Nat × Nat) : EX9_refuseMissing N d (n + 1) 0 [some (rv (some 0)), some (rv (some 10)), some (iv x2)] (I, J, cd) =
  (cI (arun N d) 52 [rv (some 10), iv x2] (I, J, cd)).bind fun r1 => if r1.1 = 0 then
    some (iv ((-1)), r1.2)
  else
    (cI (arun N d) 53 [rv (some 10), iv x2] r1.2).bind fun r2 => if r2.1 = 0 then
      (cI (arun N d) 115 [rv (some 0), iv 1] r2.2).bind fun r3 => some (iv r3.1, r3.2)
    else
      some (iv 0, r2.2) := rfl
def EX9_refusePlace (N d : Nat) : Nat → Nat → LO → AH → Option RES := exec (CX9_refusePlace (arun N d)) []
theorem enX9_refusePlace (N d : Nat) (q0 : Nat) (q1 : Nat) (x2 : Int32) (x3 : Int32) (A : AH) : arun N (d + 1) 118 [rv (some q0), rv (some q1), iv x2, iv x3] A = EX9_refusePlace N d N 0 [some (rv (some q0)), some (rv (some q1)), some (iv x2), some (iv x3), none] A := rfl
set_option maxRecDepth 10000 in
theorem sgX9_refusePlace_1_0 (N d n : Nat) (x2 : Int32) (x3 : Int32) (I : Nat → Nat → Int32) (J : Nat → Nat → Int64) (cd : Nat × Nat) : EX9_refusePlace N d (n + 1) 0 [some (rv (some 0)), some (rv (some 1)), some (iv x2), some (iv x3), none] (I, J, cd) =
  (cI (arun N d) 117 [rv (some 0), rv (some 1), iv x2] (I, J, cd)).bind fun r1 => if r1.1 = 0 then
    (cI (arun N d) 55 [rv (some 1), iv x2, iv x3] r1.2).bind fun r2 => if r2.1 = 0 then
      (cI (arun N d) 115 [rv (some 0), iv 2] r2.2).bind fun r3 => some (iv r3.1, r3.2)
    else
      some (iv 0, r2.2)
  else
    some (iv r1.1, r1.2) := rfl
set_option maxRecDepth 10000 in
theorem sgX9_refusePlace_10_0 (N d n : Nat) (x2 : Int32) (x3 : Int32) (I : Nat → Nat → Int32) (J : Nat → Nat → Int64) (cd : Nat × Nat) : EX9_refusePlace N d (n + 1) 0 [some (rv (some 0)), some (rv (some 10)), some (iv x2), some (iv x3), none] (I, J, cd) =
  (cI (arun N d) 117 [rv (some 0), rv (some 10), iv x2] (I, J, cd)).bind fun r1 => if r1.1 = 0 then
    (cI (arun N d) 55 [rv (some 10), iv x2, iv x3] r1.2).bind fun r2 => if r2.1 = 0 then
      (cI (arun N d) 115 [rv (some 0), iv 2] r2.2).bind fun r3 => some (iv r3.1, r3.2)
    else
      some (iv 0, r2.2)
  else
    some (iv r1.1, r1.2) := rfl
def EX9_refuseSearch (N d : Nat) : Nat → Nat → LO → AH → Option RES := exec (CX9_refuseSearch (arun N d)) []
theorem enX9_refuseSearch (N d : Nat) (q0 : Nat) (x1 : Int32) (x2 : Int32) (x3 : Int32) (A : AH) : arun N (d + 1) 119 [rv (some q0), iv x1, iv x2, iv x3] A = EX9_refuseSearch N d N 0 [some (rv (some q0)), some (iv x1), some (iv x2), some (iv x3)] A := rfl
set_option maxRecDepth 10000 in
theorem sgX9_refuseSearch_0 (N d n : Nat) (x1 : Int32) (x2 : Int32) (x3 : Int32) (I : Nat → Nat → Int32) (J : Nat → Nat → Int64) : EX9_refuseSearch N d (n + 1) 0 [some (rv (some 0)), some (iv x1), some (iv x2), some (iv x3)] (I, J, 73, 80) =
  if x1 = 0 then
    some (iv ((-1)), (I, J, 73, 80))
  else
    if x2 < 0 then
      some (iv ((-1)), (I, J, 73, 80))
    else
      if x2 ≤ x3 then
        if (I 73 0) = 0 then
          some (iv ((-4)), (I, J, 73, 80))
        else
          some (iv 0, (I, J, 73, 80))
      else
        some (iv ((-1)), (I, J, 73, 80)) := rfl
def EX9_refuseWithoutRiver (N d : Nat) : Nat → Nat → LO → AH → Option RES := exec (CX9_refuseWithoutRiver (arun N d)) []
theorem enX9_refuseWithoutRiver (N d : Nat) (q0 : Nat) (x1 : Int32) (x2 : Int32) (A : AH) : arun N (d + 1) 120 [rv (some q0), iv x1, iv x2] A = EX9_refuseWithoutRiver N d N 0 [some (rv (some q0)), some (iv x1), some (iv x2)] A := rfl
set_option maxRecDepth 10000 in
theorem sgX9_refuseWithoutRiver_0 (N d n : Nat) (x1 : Int32) (x2 : Int32) (I : Nat → Nat → Int32) (J : Nat → Nat → Int64) : EX9_refuseWithoutRiver N d (n + 1) 0 [some (rv (some 0)), some (iv x1), some (iv x2)] (I, J, 73, 80) =
  if x1 = 0 then
    some (iv ((-1)), (I, J, 73, 80))
  else
    (cI (arun N d) 52 [rv (some 1), iv x2] (I, J, 73, 80)).bind fun r1 => if r1.1 = 0 then
      some (iv ((-1)), r1.2)
    else
      if okc r1.2.2.2.1 2 then (if (r1.2.1 r1.2.2.2.1 0) = 0 then
        some (iv ((-4)), r1.2)
      else
        (cI (arun N d) 117 [rv (some 0), rv (some 1), iv x2] r1.2).bind fun r2 => some (iv r2.1, r2.2)) else none := rfl
def EX9_refusePlan (N d : Nat) : Nat → Nat → LO → AH → Option RES := exec (CX9_refusePlan (arun N d)) [(37, [0, 2, 5])]
theorem enX9_refusePlan (N d : Nat) (q0 : Nat) (x1 : Int32) (x2 : Int32) (x3 : Int32) (A : AH) : arun N (d + 1) 121 [rv (some q0), iv x1, iv x2, iv x3] A = EX9_refusePlan N d N 0 [some (rv (some q0)), some (iv x1), some (iv x2), some (iv x3), none, none] A := rfl
set_option maxRecDepth 10000 in
theorem sgX9_refusePlan_0 (N d n : Nat) (x1 : Int32) (x2 : Int32) (x3 : Int32) (I : Nat → Nat → Int32) (J : Nat → Nat → Int64) : EX9_refusePlan N d (n + 1) 0 [some (rv (some 0)), some (iv x1), some (iv x2), some (iv x3), none, none] (I, J, 73, 80) =
  (cI (arun N d) 120 [rv (some 0), iv x1, iv x2] (I, J, 73, 80)).bind fun r1 => if r1.1 = 0 then
    (cI (arun N d) 54 [rv (some 1), iv x2] r1.2).bind fun r2 => if r2.1 ≤ x3 then
      EX9_refusePlan N d n 37 [some (rv (some 0)), none, some (iv x2), none, none, some (iv 0)] r2.2
    else
      (cI (arun N d) 115 [rv (some 0), iv 5] r2.2).bind fun r3 => some (iv r3.1, r3.2)
  else
    some (iv r1.1, r1.2) := rfl
set_option maxRecDepth 10000 in
theorem sgX9_refusePlan_37 (N d n : Nat) (x2 : Int32) (x5 : Int32) (I : Nat → Nat → Int32) (J : Nat → Nat → Int64) : EX9_refusePlan N d (n + 1) 37 [some (rv (some 0)), none, some (iv x2), none, none, some (iv x5)] (I, J, 73, 80) =
  (cI (arun N d) 54 [rv (some 1), iv x2] (I, J, 73, 80)).bind fun r1 => if r1.1 ≤ x5 then
    some (iv 0, r1.2)
  else
    (cI (arun N d) 57 [rv (some 1), iv x2, iv x5] r1.2).bind fun r2 => if rcv [rv (some r1.2.2.2.1), iv r2.1] 2 then ((cI (arun N d) 17 [rv (some r1.2.2.2.1), iv r2.1] r2.2).bind fun r3 => if r3.1 = 0 then
      (cI (arun N d) 115 [rv (some 0), iv 3] r3.2).bind fun r4 => some (iv r4.1, r4.2)
    else
      EX9_refusePlan N d n 37 [some (rv (some 0)), none, some (iv x2), none, none, some (iv (x5 + 1))] r3.2) else none := rfl
def EX9_refuseSeas (N d : Nat) : Nat → Nat → LO → AH → Option RES := exec (CX9_refuseSeas (arun N d)) [(37, [0])]
theorem enX9_refuseSeas (N d : Nat) (q0 : Nat) (x1 : Int32) (x2 : Int32) (A : AH) : arun N (d + 1) 122 [rv (some q0), iv x1, iv x2] A = EX9_refuseSeas N d N 0 [some (rv (some q0)), some (iv x1), some (iv x2), none] A := rfl
set_option maxRecDepth 10000 in
theorem sgX9_refuseSeas_0 (N d n : Nat) (x1 : Int32) (x2 : Int32) (I : Nat → Nat → Int32) (J : Nat → Nat → Int64) : EX9_refuseSeas N d (n + 1) 0 [some (rv (some 0)), some (iv x1), some (iv x2), none] (I, J, 73, 80) =
  (cI (arun N d) 120 [rv (some 0), iv x1, iv x2] (I, J, 73, 80)).bind fun r1 => if r1.1 = 0 then
    (cI (arun N d) 54 [rv (some 1), iv x2] r1.2).bind fun r2 => if r2.1 < 1 then
      EX9_refuseSeas N d n 37 [some (rv (some 0)), none, none, none] r2.2
    else
      (cI (arun N d) 54 [rv (some 1), iv x2] r2.2).bind fun r3 => if r3.1 ≤ 4 then
        (cI (arun N d) 65 [rv (some 1), iv x2, iv 999] r3.2).bind fun r4 => if r4.1 = 0 then
          (cI (arun N d) 115 [rv (some 0), iv 3] r4.2).bind fun r5 => some (iv r5.1, r5.2)
        else
          some (iv 0, r4.2)
      else
        EX9_refuseSeas N d n 37 [some (rv (some 0)), none, none, none] r3.2
  else
    some (iv r1.1, r1.2) := rfl
set_option maxRecDepth 10000 in
theorem sgX9_refuseSeas_37 (N d n : Nat)  (I : Nat → Nat → Int32) (J : Nat → Nat → Int64) : EX9_refuseSeas N d (n + 1) 37 [some (rv (some 0)), none, none, none] (I, J, 73, 80) =
  (cI (arun N d) 115 [rv (some 0), iv 5] (I, J, 73, 80)).bind fun r1 => some (iv r1.1, r1.2) := rfl
def EX9_refusePairs (N d : Nat) : Nat → Nat → LO → AH → Option RES := exec (CX9_refusePairs (arun N d)) [(55, [0])]
theorem enX9_refusePairs (N d : Nat) (q0 : Nat) (x1 : Int32) (x2 : Int32) (A : AH) : arun N (d + 1) 123 [rv (some q0), iv x1, iv x2] A = EX9_refusePairs N d N 0 [some (rv (some q0)), some (iv x1), some (iv x2), none] A := rfl
set_option maxRecDepth 10000 in
theorem sgX9_refusePairs_0 (N d n : Nat) (x1 : Int32) (x2 : Int32) (I : Nat → Nat → Int32) (J : Nat → Nat → Int64) : EX9_refusePairs N d (n + 1) 0 [some (rv (some 0)), some (iv x1), some (iv x2), none] (I, J, 73, 80) =
  (cI (arun N d) 16 [rv (some 73), iv x1] (I, J, 73, 80)).bind fun r1 => if r1.1 = 0 then
    some (iv ((-1)), r1.2)
  else
    (cI (arun N d) 117 [rv (some 0), rv (some 1), iv x2] r1.2).bind fun r2 => if r2.1 = 0 then
      (cI (arun N d) 54 [rv (some 1), iv x2] r2.2).bind fun r3 => if (r3.1 - r3.1 / 2 * 2) = 0 then
        (cI (arun N d) 54 [rv (some 1), iv x2] r3.2).bind fun r4 => if r4.1 ≤ 20 then
          (cI (arun N d) 65 [rv (some 1), iv x2, iv 99] r4.2).bind fun r5 => if r5.1 = 0 then
            (cI (arun N d) 115 [rv (some 0), iv 3] r5.2).bind fun r6 => some (iv r6.1, r6.2)
          else
            some (iv 0, r5.2)
        else
          EX9_refusePairs N d n 55 [some (rv (some 0)), none, none, none] r4.2
      else
        EX9_refusePairs N d n 55 [some (rv (some 0)), none, none, none] r3.2
    else
      some (iv r2.1, r2.2) := rfl
set_option maxRecDepth 10000 in
theorem sgX9_refusePairs_55 (N d n : Nat)  (I : Nat → Nat → Int32) (J : Nat → Nat → Int64) : EX9_refusePairs N d (n + 1) 55 [some (rv (some 0)), none, none, none] (I, J, 73, 80) =
  (cI (arun N d) 115 [rv (some 0), iv 5] (I, J, 73, 80)).bind fun r1 => some (iv r1.1, r1.2) := rfl
def EX9_isWeekday (N d : Nat) : Nat → Nat → LO → AH → Option RES := exec (CX9_isWeekday (arun N d)) []
theorem enX9_isWeekday (N d : Nat) (x0 : Int32) (A : AH) : arun N (d + 1) 124 [iv x0] A = EX9_isWeekday N d N 0 [some (iv x0)] A := rfl
set_option maxRecDepth 10000 in
theorem sgX9_isWeekday_0 (N d n : Nat) (x0 : Int32) (I : Nat → Nat → Int32) (J : Nat → Nat → Int64) (cd : Nat × Nat) : EX9_isWeekday N d (n + 1) 0 [some (iv x0)] (I, J, cd) =
  if x0 < 0 then
    some (iv 0, (I, J, cd))
  else
    if 7 ≤ x0 then
      some (iv 0, (I, J, cd))
    else
      some (iv 1, (I, J, cd)) := rfl
def EX9_isVillage (N d : Nat) : Nat → Nat → LO → AH → Option RES := exec (CX9_isVillage (arun N d)) []
theorem enX9_isVillage (N d : Nat) (x0 : Int32) (A : AH) : arun N (d + 1) 125 [iv x0] A = EX9_isVillage N d N 0 [some (iv x0)] A := rfl
set_option maxRecDepth 10000 in
theorem sgX9_isVillage_0 (N d n : Nat) (x0 : Int32) (I : Nat → Nat → Int32) (J : Nat → Nat → Int64) (cd : Nat × Nat) : EX9_isVillage N d (n + 1) 0 [some (iv x0)] (I, J, cd) =
  if x0 < 0 then
    some (iv 0, (I, J, cd))
  else
    if 7 ≤ x0 then
      some (iv 0, (I, J, cd))
    else
      some (iv 1, (I, J, cd)) := rfl
def EX9_isOfTwelve (N d : Nat) : Nat → Nat → LO → AH → Option RES := exec (CX9_isOfTwelve (arun N d)) []
theorem enX9_isOfTwelve (N d : Nat) (x0 : Int32) (A : AH) : arun N (d + 1) 126 [iv x0] A = EX9_isOfTwelve N d N 0 [some (iv x0)] A := rfl
set_option maxRecDepth 10000 in
theorem sgX9_isOfTwelve_0 (N d n : Nat) (x0 : Int32) (I : Nat → Nat → Int32) (J : Nat → Nat → Int64) (cd : Nat × Nat) : EX9_isOfTwelve N d (n + 1) 0 [some (iv x0)] (I, J, cd) =
  if x0 < 0 then
    some (iv 0, (I, J, cd))
  else
    if 12 < x0 then
      some (iv 0, (I, J, cd))
    else
      some (iv 1, (I, J, cd)) := rfl
def EX9_passTruly (N d : Nat) : Nat → Nat → LO → AH → Option RES := exec (CX9_passTruly (arun N d)) []
theorem enX9_passTruly (N d : Nat) (q0 : Nat) (x1 : Int32) (A : AH) : arun N (d + 1) 127 [rv (some q0), iv x1] A = EX9_passTruly N d N 0 [some (rv (some q0)), some (iv x1), none, none] A := rfl
set_option maxRecDepth 10000 in
theorem sgX9_passTruly_0 (N d n : Nat) (x1 : Int32) (I : Nat → Nat → Int32) (J : Nat → Nat → Int64) : EX9_passTruly N d (n + 1) 0 [some (rv (some 0)), some (iv x1), none, none] (I, J, 73, 80) =
  if inb ((I 25 0) - (I 25 0) / 7 * 7) 7 then ((cV (arun N d) 26 [rv (some 25), iv x1, iv (I 78 (((I 25 0) - (I 25 0) / 7 * 7).toNatClampNeg))] (I, J, 73, 80)).bind fun r1 => if okc r1.2.2.1 2 then ((RF r1.2.2 r1.2.2.1 7).bind fun b2 => if inb ((I 25 0) - (I 25 0) / 7 * 7) (alen 0 b2) then ((cI (arun N d) 30 [rv (some 19), rv (some r1.2.2.1), iv x1, iv (r1.1 b2 (((I 25 0) - (I 25 0) / 7 * 7).toNatClampNeg)), iv (I 78 (((I 25 0) - (I 25 0) / 7 * 7).toNatClampNeg))] r1).bind fun r3 => some (iv r3.1, r3.2)) else none) else none) else none := rfl
def EX9_replay (N d : Nat) : Nat → Nat → LO → AH → Option RES := exec (CX9_replay (arun N d)) [(13, [0, 1])]
theorem enX9_replay (N d : Nat) (q0 : Nat) (A : AH) : arun N (d + 1) 128 [rv (some q0)] A = EX9_replay N d N 0 [some (rv (some q0)), none] A := rfl
set_option maxRecDepth 10000 in
theorem sgX9_replay_0 (N d n : Nat)  (I : Nat → Nat → Int32) (J : Nat → Nat → Int64) : EX9_replay N d (n + 1) 0 [some (rv (some 0)), none] (I, J, 73, 80) =
  (cV (arun N d) 29 [rv (some 19), rv (some 73)] (I, J, 73, 80)).bind fun r1 => EX9_replay N d n 13 [some (rv (some 0)), some (iv 0)] r1 := rfl
set_option maxRecDepth 10000 in
theorem sgX9_replay_13 (N d n : Nat) (x1 : Int32) (I : Nat → Nat → Int32) (J : Nat → Nat → Int64) : EX9_replay N d (n + 1) 13 [some (rv (some 0)), some (iv x1)] (I, J, 73, 80) =
  if (I 25 0) ≤ x1 then
    some (rv none, (I, J, 73, 80))
  else
    if inb x1 40 then (if inb (x1 - x1 / 7 * 7) 7 then (if inb x1 40 then ((cI (arun N d) 30 [rv (some 19), rv (some 73), iv (I 26 x1.toNatClampNeg), iv (I 77 ((x1 - x1 / 7 * 7).toNatClampNeg)), iv (I 27 x1.toNatClampNeg)] (I, J, 73, 80)).bind fun r1 => EX9_replay N d n 13 [some (rv (some 0)), some (iv (x1 + 1))] r1.2) else none) else none) else none := rfl
set_option maxRecDepth 10000 in
theorem sgX9_replay_s_0 (N d n : Nat)  (I : Nat → Nat → Int32) (J : Nat → Nat → Int64) : EX9_replay N d (n + 1) 0 [some (rv (some 0)), none] (I, J, 80, 73) =
  (cV (arun N d) 29 [rv (some 19), rv (some 80)] (I, J, 80, 73)).bind fun r1 => EX9_replay N d n 13 [some (rv (some 0)), some (iv 0)] r1 := rfl
set_option maxRecDepth 10000 in
theorem sgX9_replay_s_13 (N d n : Nat) (x1 : Int32) (I : Nat → Nat → Int32) (J : Nat → Nat → Int64) : EX9_replay N d (n + 1) 13 [some (rv (some 0)), some (iv x1)] (I, J, 80, 73) =
  if (I 25 0) ≤ x1 then
    some (rv none, (I, J, 80, 73))
  else
    if inb x1 40 then (if inb (x1 - x1 / 7 * 7) 7 then (if inb x1 40 then ((cI (arun N d) 30 [rv (some 19), rv (some 80), iv (I 26 x1.toNatClampNeg), iv (I 84 ((x1 - x1 / 7 * 7).toNatClampNeg)), iv (I 27 x1.toNatClampNeg)] (I, J, 80, 73)).bind fun r1 => EX9_replay N d n 13 [some (rv (some 0)), some (iv (x1 + 1))] r1.2) else none) else none) else none := rfl
def EX9_readDraft (N d : Nat) : Nat → Nat → LO → AH → Option RES := exec (CX9_readDraft (arun N d)) []
theorem enX9_readDraft (N d : Nat) (q0 : Nat) (x1 : Int32) (A : AH) : arun N (d + 1) 129 [rv (some q0), iv x1] A = EX9_readDraft N d N 0 [some (rv (some q0)), some (iv x1)] A := rfl
set_option maxRecDepth 10000 in
theorem sgX9_readDraft_0 (N d n : Nat) (x1 : Int32) (I : Nat → Nat → Int32) (J : Nat → Nat → Int64) : EX9_readDraft N d (n + 1) 0 [some (rv (some 0)), some (iv x1)] (I, J, 73, 80) =
  (cI (arun N d) 45 [rv (some 17), rv (some 10), iv x1, rv (some 80)] (I, J, 73, 80)).bind fun r1 => some (iv r1.1, r1.2) := rfl
