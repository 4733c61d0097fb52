/-! An abstract machine over the fixed cells of this system (no cell is made by it): values, a heap of ints, longs and references, instructions as functions. -/
abbrev AV : Type := Int32 ⊕ (Int64 ⊕ Option Nat)
abbrev iv (x : Int32) : AV := .inl x
abbrev jv (x : Int64) : AV := .inr (.inl x)
abbrev rv (o : Option Nat) : AV := .inr (.inr o)
/-- ints, longs, and which cells the course and the draft are -/
abbrev AH : Type := (Nat → Nat → Int32) × (Nat → Nat → Int64) × (Nat × Nat)
abbrev LO : Type := List (Option AV)
abbrev RES : Type := AV × AH
abbrev KT : Type := Nat → LO → List AV → AH → Option RES
abbrev INS : Type := KT → LO → List AV → AH → Option RES
abbrev ORC : Type := Nat → List AV → AH → Option RES
/-- a cell's shape: an array (0 ints, 1 booleans, 2 rows of ints, 3 Deeds) with its length; an object by its class -/
abbrev SHP : Type := (Nat × Nat) ⊕ Nat
def SH : List SHP := [.inr 9, .inr 8, .inl (2, 6), .inl (0, 40), .inl (0, 40), .inl (0, 40), .inl (0, 40), .inl (0, 40), .inl (0, 40), .inl (0, 6), .inr 8, .inl (2, 4), .inl (0, 60), .inl (0, 60), .inl (0, 60), .inl (0, 60), .inl (0, 4), .inr 7, .inl (0, 60), .inr 4, .inl (0, 6), .inl (0, 6), .inl (0, 6), .inl (0, 7), .inl (0, 6), .inr 3, .inl (0, 40), .inl (0, 40), .inl (3, 3), .inr 3, .inl (0, 40), .inl (0, 40), .inr 3, .inl (0, 40), .inl (0, 40), .inr 3, .inl (0, 40), .inl (0, 40), .inl (1, 3), .inr 0, .inl (0, 7), .inl (2, 5), .inl (0, 6), .inl (0, 6), .inl (0, 6), .inl (0, 6), .inl (0, 6), .inl (0, 6), .inr 5, .inl (0, 4), .inl (0, 4), .inl (0, 4), .inr 0, .inl (0, 7), .inl (2, 5), .inl (0, 6), .inl (0, 6), .inl (0, 6), .inl (0, 6), .inl (0, 6), .inl (0, 6), .inr 1, .inl (0, 4), .inr 0, .inl (0, 7), .inl (2, 5), .inl (0, 6), .inl (0, 6), .inl (0, 6), .inl (0, 6), .inl (0, 6), .inl (0, 6), .inl (0, 6), .inr 2, .inl (0, 6), .inl (0, 6), .inl (0, 6), .inl (0, 7), .inl (0, 7), .inl (0, 8), .inr 2, .inl (0, 6), .inl (0, 6), .inl (0, 6), .inl (0, 7), .inl (0, 7), .inl (0, 8), .inr 10, .inl (0, 6), .inl (0, 6), .inl (0, 240), .inl (0, 40), .inl (0, 4), .inl (0, 240), .inl (0, 7), .inl (0, 7), .inl (0, 6), .inl (0, 6), .inl (0, 6), .inl (0, 6), .inl (0, 6), .inl (0, 7), .inl (0, 14), .inl (0, 18), .inl (0, 1080), .inl (0, 3), .inl (0, 3321), .inl (0, 27), .inl (0, 6), .inl (0, 8)]
/-- lists read by place, without proofs -/
def lgt {α : Type} : List α → Nat → Option α
  | [], _ => none
  | a :: _, 0 => some a
  | _ :: t, n + 1 => lgt t n
/-- the references of a cell: they stay, but for the course and the draft of cell 0 -/
def RT : List (List (Option Nat)) := [[some 1, some 10, some 17, some 19, some 25, some 28, some 38, some 39, some 48, some 61, some 72, some 73, some 80, none, none, none, none], [none, some 2, some 9], [some 3, some 4, some 5, some 6, some 7, some 8], [], [], [], [], [], [], [], [none, some 11, some 16], [some 12, some 13, some 14, some 15], [], [], [], [], [], [some 18, none, none], [], [some 20, some 21, some 22, some 23, some 24], [], [], [], [], [], [none, some 26, some 27], [], [], [some 29, some 32, some 35], [none, some 30, some 31], [], [], [none, some 33, some 34], [], [], [none, some 36, some 37], [], [], [], [none, none, none, none, none, some 40, none, some 41, some 47], [], [some 42, some 43, some 44, some 45, some 46], [], [], [], [], [], [], [some 49, some 50, none, none, none, none, none, none, some 51, some 52], [], [], [], [none, none, none, none, none, some 53, none, some 54, some 60], [], [some 55, some 56, some 57, some 58, some 59], [], [], [], [], [], [], [some 62, none, none, none, none, none, none, some 63], [], [none, none, none, none, none, some 64, none, some 65, some 71], [], [some 66, some 67, some 68, some 69, some 70], [], [], [], [], [], [], [], [none, none, none, none, some 74, some 75, some 76, some 77, some 78, some 79], [], [], [], [], [], [], [none, none, none, none, some 81, some 82, some 83, some 84, some 85, some 86], [], [], [], [], [], [], [none, some 88, none, none, none, some 89, some 90, some 91, some 92, some 93, none, some 94, some 95, some 96, some 97, some 98, some 99, some 100, none, some 101, none, none, none, some 102, some 103, none, some 104, some 105, some 106, some 107, some 108, none, none, some 109, none, none], [], [], [], [], [], [], [], [], [], [], [], [], [], [], [], [], [], [], [], [], [], []]
def rt (a j : Nat) : Option Nat := match lgt RT a with
  | some l => (match lgt l j with
    | some o => o
    | none => none)
  | none => none
def RF (cd : Nat × Nat) (a j : Nat) : Option Nat := bif Nat.beq a 0 then (bif Nat.beq j 11 then some cd.1 else bif Nat.beq j 12 then some cd.2 else rt a j) else rt a j
def alO (a : Nat) : Option Nat := match lgt SH a with
  | some (.inl x) => some x.2
  | _ => none
def alen (t a : Nat) : Nat := match lgt SH a with
  | some (.inl x) => bif Nat.beq x.1 t then x.2 else 0
  | _ => 0
def okc (a ci : Nat) : Bool := match lgt SH a with
  | some (.inr c) => Nat.beq c ci
  | _ => false
def inb (i : Int32) (n : Nat) : Bool := !(decide (i < 0)) && decide (i.toNatClampNeg < n)
def wrC {α : Type} (I : Nat → Nat → α) (a : Nat) (f : Nat → α) : Nat → Nat → α := fun b => if b = a then f else I b
def up1 {α : Type} (f : Nat → α) (k : Nat) (x : α) : Nat → α := fun j => if j = k then x else f j
def wr {α : Type} (I : Nat → Nat → α) (a i : Nat) (v : α) : Nat → Nat → α := wrC I a (up1 (I a) i v)
def lg : LO → Nat → Option AV
  | [], _ => none
  | a :: _, 0 => a
  | _ :: t, n + 1 => lg t n
def lst : LO → Nat → Option AV → LO
  | [], _, _ => []
  | _ :: t, 0, v => v :: t
  | a :: t, n + 1, v => a :: lst t n v
def lkill (L : LO) : Nat → LO
  | 0 => L
  | j + 1 => match lg L j with
    | some (.inr (.inl _)) => lst L j none
    | _ => L
def ls1 (L : LO) (i : Nat) (v : AV) : LO := lst (lkill L i) i (some v)
def ls2 (L : LO) (i : Nat) (v : AV) : LO := lst (lst (lkill L i) i (some v)) (i + 1) none
def cat : AV → Nat
  | .inr (.inl _) => 2
  | _ => 1
def cats : List AV → Nat
  | [] => 0
  | a :: t => cat a + cats t
-- the typed answers of a call
def cI (o : ORC) (y : Nat) (as : List AV) (A : AH) : Option (Int32 × AH) := match o y as A with
  | some (.inl x, B) => some (x, B)
  | _ => none
def cJ (o : ORC) (y : Nat) (as : List AV) (A : AH) : Option (Int64 × AH) := match o y as A with
  | some (.inr (.inl x), B) => some (x, B)
  | _ => none
def cV (o : ORC) (y : Nat) (as : List AV) (A : AH) : Option AH := match o y as A with
  | some (.inr (.inr none), B) => some B
  | _ => none
def rcv (as : List AV) (ci : Nat) : Bool := match as with
  | .inr (.inr (some b)) :: _ => okc b ci
  | _ => false
-- instructions (nx: the next place)
def x_const (v : AV) (nx : Nat) : INS := fun k L st A => k nx L (v :: st) A
def x_iload (i nx : Nat) : INS := fun k L st A => match lg L i with
  | some (.inl x) => k nx L (iv x :: st) A
  | _ => none
def x_lload (i nx : Nat) : INS := fun k L st A => match lg L i with
  | some (.inr (.inl x)) => k nx L (jv x :: st) A
  | _ => none
def x_aload (i nx : Nat) : INS := fun k L st A => match lg L i with
  | some (.inr (.inr x)) => k nx L (rv x :: st) A
  | _ => none
def x_istore (i nx : Nat) : INS := fun k L st A => match st with
  | .inl x :: r => k nx (ls1 L i (iv x)) r A
  | _ => none
def x_lstore (i nx : Nat) : INS := fun k L st A => match st with
  | .inr (.inl x) :: r => k nx (ls2 L i (jv x)) r A
  | _ => none
def x_astore (i nx : Nat) : INS := fun k L st A => match st with
  | .inr (.inr x) :: r => k nx (ls1 L i (rv x)) r A
  | _ => none
def x_iinc (i : Nat) (n : Int32) (nx : Nat) : INS := fun k L st A => match lg L i with
  | some (.inl x) => k nx (ls1 L i (iv (x + n))) st A
  | _ => none
def x_bin (f : Int32 → Int32 → Int32) (nx : Nat) : INS := fun k L st A => match st with
  | .inl y :: .inl x :: r => k nx L (iv (f x y) :: r) A
  | _ => none
def x_dv (f : Int32 → Int32 → Int32) (nx : Nat) : INS := fun k L st A => match st with
  | .inl y :: .inl x :: r => if y = 0 then none else k nx L (iv (f x y) :: r) A
  | _ => none
def x_binl (f : Int64 → Int64 → Int64) (nx : Nat) : INS := fun k L st A => match st with
  | .inr (.inl y) :: .inr (.inl x) :: r => k nx L (jv (f x y) :: r) A
  | _ => none
def x_dvl (f : Int64 → Int64 → Int64) (nx : Nat) : INS := fun k L st A => match st with
  | .inr (.inl y) :: .inr (.inl x) :: r => if y = 0 then none else k nx L (jv (f x y) :: r) A
  | _ => none
def x_lcmp (nx : Nat) : INS := fun k L st A => match st with
  | .inr (.inl y) :: .inr (.inl x) :: r => k nx L (iv (lg_cmp x y) :: r) A
  | _ => none
def x_un (f : Int32 → Int32) (nx : Nat) : INS := fun k L st A => match st with
  | .inl x :: r => k nx L (iv (f x) :: r) A
  | _ => none
def x_i2l (nx : Nat) : INS := fun k L st A => match st with
  | .inl x :: r => k nx L (jv x.toInt64 :: r) A
  | _ => none
def x_l2i (nx : Nat) : INS := fun k L st A => match st with
  | .inr (.inl x) :: r => k nx L (iv x.toInt32 :: r) A
  | _ => none
def x_dup (nx : Nat) : INS := fun k L st A => match st with
  | .inl x :: r => k nx L (iv x :: iv x :: r) A
  | .inr (.inr x) :: r => k nx L (rv x :: rv x :: r) A
  | _ => none
def x_pop (nx : Nat) : INS := fun k L st A => match st with
  | .inl _ :: r => k nx L r A
  | .inr (.inr _) :: r => k nx L r A
  | _ => none
def x_dup2 (nx : Nat) : INS := fun k L st A => match st with
  | .inl i :: .inr (.inr o) :: r => k nx L (iv i :: rv o :: iv i :: rv o :: r) A
  | _ => none
def x_goto (tgt : Nat) : INS := fun k L st A => k tgt L st A
def x_ifeq (tgt nx : Nat) : INS := fun k L st A => match st with
  | .inl x :: r => if x = 0 then k tgt L r A else k nx L r A
  | _ => none
def x_ifne (tgt nx : Nat) : INS := fun k L st A => match st with
  | .inl x :: r => if x = 0 then k nx L r A else k tgt L r A
  | _ => none
def x_iflt (tgt nx : Nat) : INS := fun k L st A => match st with
  | .inl x :: r => if x < 0 then k tgt L r A else k nx L r A
  | _ => none
def x_ifge (tgt nx : Nat) : INS := fun k L st A => match st with
  | .inl x :: r => if 0 ≤ x then k tgt L r A else k nx L r A
  | _ => none
def x_ifgt (tgt nx : Nat) : INS := fun k L st A => match st with
  | .inl x :: r => if 0 < x then k tgt L r A else k nx L r A
  | _ => none
def x_ifle (tgt nx : Nat) : INS := fun k L st A => match st with
  | .inl x :: r => if x ≤ 0 then k tgt L r A else k nx L r A
  | _ => none
def x_ceq (tgt nx : Nat) : INS := fun k L st A => match st with
  | .inl y :: .inl x :: r => if x = y then k tgt L r A else k nx L r A
  | _ => none
def x_cne (tgt nx : Nat) : INS := fun k L st A => match st with
  | .inl y :: .inl x :: r => if x = y then k nx L r A else k tgt L r A
  | _ => none
def x_clt (tgt nx : Nat) : INS := fun k L st A => match st with
  | .inl y :: .inl x :: r => if x < y then k tgt L r A else k nx L r A
  | _ => none
def x_cge (tgt nx : Nat) : INS := fun k L st A => match st with
  | .inl y :: .inl x :: r => if y ≤ x then k tgt L r A else k nx L r A
  | _ => none
def x_cgt (tgt nx : Nat) : INS := fun k L st A => match st with
  | .inl y :: .inl x :: r => if y < x then k tgt L r A else k nx L r A
  | _ => none
def x_cle (tgt nx : Nat) : INS := fun k L st A => match st with
  | .inl y :: .inl x :: r => if x ≤ y then k tgt L r A else k nx L r A
  | _ => none
def x_ifnull (tgt nx : Nat) : INS := fun k L st A => match st with
  | .inr (.inr o) :: r => match o with
    | none => k tgt L r A
    | some _ => k nx L r A
  | _ => none
def swk (k : Nat → Option RES) (x : Int32) (d : Nat) : List (Int32 × Nat) → Option RES
  | [] => k d
  | c :: cs => if x = c.1 then k c.2 else swk k x d cs
def x_sw (cs : List (Int32 × Nat)) (d : Nat) : INS := fun k L st A => match st with
  | .inl x :: r => swk (fun t => k t L r A) x d cs
  | _ => none
def x_getI (ci j nx : Nat) : INS := fun k L st A => match st with
  | .inr (.inr o) :: r => o.bind fun a => if okc a ci then k nx L (iv (A.1 a j) :: r) A else none
  | _ => none
def x_getJ (ci j nx : Nat) : INS := fun k L st A => match st with
  | .inr (.inr o) :: r => o.bind fun a => if okc a ci then k nx L (jv (A.2.1 a j) :: r) A else none
  | _ => none
def x_getR (ci j nx : Nat) : INS := fun k L st A => match st with
  | .inr (.inr o) :: r => o.bind fun a => if okc a ci then k nx L (rv (RF A.2.2 a j) :: r) A else none
  | _ => none
def x_putI (ci j nx : Nat) : INS := fun k L st A => match st with
  | .inl v :: .inr (.inr o) :: r => o.bind fun a => if okc a ci then k nx L r (wr A.1 a j v, A.2.1, A.2.2) else none
  | _ => none
def x_putJ (ci j nx : Nat) : INS := fun k L st A => match st with
  | .inr (.inl v) :: .inr (.inr o) :: r => o.bind fun a => if okc a ci then k nx L r (A.1, wr A.2.1 a j v, A.2.2) else none
  | _ => none
def x_putC (nx : Nat) : INS := fun k L st A => match st with
  | .inr (.inr v) :: .inr (.inr o) :: r => o.bind fun a => v.bind fun b => bif Nat.beq a 0 then k nx L r (A.1, A.2.1, b, A.2.2.2) else none
  | _ => none
def x_putD (nx : Nat) : INS := fun k L st A => match st with
  | .inr (.inr v) :: .inr (.inr o) :: r => o.bind fun a => v.bind fun b => bif Nat.beq a 0 then k nx L r (A.1, A.2.1, A.2.2.1, b) else none
  | _ => none
def x_ald (t nx : Nat) : INS := fun k L st A => match st with
  | .inl i :: .inr (.inr o) :: r => o.bind fun a => if inb i (alen t a) then k nx L (iv (A.1 a i.toNatClampNeg) :: r) A else none
  | _ => none
def x_aald (t nx : Nat) : INS := fun k L st A => match st with
  | .inl i :: .inr (.inr o) :: r => o.bind fun a => if inb i (alen t a) then k nx L (rv (RF A.2.2 a i.toNatClampNeg) :: r) A else none
  | _ => none
def x_iast (nx : Nat) : INS := fun k L st A => match st with
  | .inl v :: .inl i :: .inr (.inr o) :: r => o.bind fun a => if inb i (alen 0 a) then k nx L r (wr A.1 a i.toNatClampNeg v, A.2.1, A.2.2) else none
  | _ => none
def x_zast (nx : Nat) : INS := fun k L st A => match st with
  | .inl v :: .inl i :: .inr (.inr o) :: r => o.bind fun a => if inb i (alen 1 a) then k nx L r (wr A.1 a i.toNatClampNeg (vp_nar .boolean v), A.2.1, A.2.2) else none
  | _ => none
def x_alen (nx : Nat) : INS := fun k L st A => match st with
  | .inr (.inr o) :: r => o.bind fun a => (alO a).bind fun n => k nx L (iv (nI n) :: r) A
  | _ => none
def okcp (s d : Nat) (sp dp n : Int32) : Bool := decide (¬ sp < 0) && decide (¬ dp < 0) && decide (¬ n < 0) && decide (sp.toNatClampNeg + n.toNatClampNeg ≤ alen 0 s) && decide (dp.toNatClampNeg + n.toNatClampNeg ≤ alen 0 d) && decide (0 < alen 0 s) && decide (0 < alen 0 d)
def x_copy (nx : Nat) : INS := fun k L st A => match st with
  | .inl n :: .inl dp :: .inr (.inr q) :: .inl sp :: .inr (.inr o) :: r => o.bind fun s => q.bind fun d => if okcp s d sp dp n then (bif Nat.ble (cats r) 8 then k nx L r (wrC A.1 d (va_cpy (A.1 s) (A.1 d) sp.toNatClampNeg dp.toNatClampNeg n.toNatClampNeg), A.2.1, A.2.2) else none) else none
  | _ => none
def okst (n : Nat) (st : List AV) : Bool := Nat.ble n st.length && Nat.ble (cats (st.drop n)) 8
def x_sI (o : ORC) (y n nx : Nat) : INS := fun k L st A => bif okst n st then (cI o y (st.take n).reverse A).bind fun r => k nx L (iv r.1 :: st.drop n) r.2 else none
def x_sJ (o : ORC) (y n nx : Nat) : INS := fun k L st A => bif okst n st then (cJ o y (st.take n).reverse A).bind fun r => k nx L (jv r.1 :: st.drop n) r.2 else none
def x_vI (o : ORC) (y ci n nx : Nat) : INS := fun k L st A => bif okst n st then (if rcv (st.take n).reverse ci then (cI o y (st.take n).reverse A).bind fun r => k nx L (iv r.1 :: st.drop n) r.2 else none) else none
def x_vJ (o : ORC) (y ci n nx : Nat) : INS := fun k L st A => bif okst n st then (if rcv (st.take n).reverse ci then (cJ o y (st.take n).reverse A).bind fun r => k nx L (jv r.1 :: st.drop n) r.2 else none) else none
def x_vV (o : ORC) (y ci n nx : Nat) : INS := fun k L st A => bif okst n st then (if rcv (st.take n).reverse ci then (cV o y (st.take n).reverse A).bind fun B => k nx L (st.drop n) B else none) else none
def x_iret : INS := fun _ _ st A => match st with
  | [.inl x] => some (iv x, A)
  | _ => none
def x_zret : INS := fun _ _ st A => match st with
  | [.inl x] => if x = 1 then some (iv 1, A) else if x = 0 then some (iv 0, A) else none
  | _ => none
def x_lret : INS := fun _ _ st A => match st with
  | [.inr (.inl x)] => some (jv x, A)
  | _ => none
def x_vret : INS := fun _ _ st A => match st with
  | [] => some (rv none, A)
  | _ => none
-- code, and its runs
abbrev COD : Type := List (Nat × List (Nat × INS))
def lk1 (pc : Nat) : List (Nat × INS) → Option INS
  | [] => none
  | c :: cs => bif Nat.beq c.1 pc then some c.2 else lk1 pc cs
def lk (pc : Nat) : COD → Option INS
  | [] => none
  | c :: cs => bif Nat.blt pc c.1 then lk1 pc c.2 else lk pc cs
def elem (n : Nat) : List Nat → Bool
  | [] => false
  | c :: cs => bif Nat.beq c n then true else elem n cs
def cutAt (n : Nat) : List (Nat × List Nat) → Option (List Nat)
  | [] => none
  | c :: cs => bif Nat.beq c.1 n then some c.2 else cutAt n cs
/-- only the locals that are still wanted -/
def keepL (lv : List Nat) : Nat → LO → LO
  | _, [] => []
  | n, a :: t => (bif elem n lv then a else none) :: keepL lv (n + 1) t
def run (C : COD) (cuts : List (Nat × List Nat)) (K : Nat → LO → AH → Option RES) : Nat → KT
  | 0 => fun _ _ _ _ => none
  | f + 1 => fun pc L st A => match cutAt pc cuts with
    | some lv => (match st with
      | [] => K pc (keepL lv 0 L) A
      | _ => none)
    | none => match lk pc C with
      | some i => i (run C cuts K f) L st A
      | none => none
def exec (C : COD) (cuts : List (Nat × List Nat)) : Nat → Nat → LO → AH → Option RES
  | 0 => fun _ _ _ => none
  | N + 1 => fun pc L A => match lk pc C with
    | some i => i (run C cuts (exec C cuts N) 400) L [] A
    | none => none
/-- the locals at the entry -/
def ent : List AV → LO
  | [] => []
  | .inr (.inl x) :: t => some (jv x) :: none :: ent t
  | a :: t => some a :: ent t
def padL (n : Nat) (L : LO) : LO := L ++ List.replicate (n - L.length) none
