/-! THE RELATION between the class's cells (below 87) and the reference's (87 and on) -/
/-- one row of a shelf: missing in both, or as long in both, with the same places -/
def RRow (I : Nat → Nat → Int32) (SC PB MC MB LIM j : Nat) : Prop := (I SC j = -1 ∧ I MC j = -9) ∨ ∃ n, n ≤ LIM ∧ I SC j = nI n ∧ I MC j = nI n ∧ ∀ i, i < n → I (PB + j) i = I MB (LIM * j + i)
def RelR (I : Nat → Nat → Int32) : Prop := I 1 0 = nI 40 ∧ ∀ j, j < 6 → RRow I 9 3 89 90 40 j
def RelT (I : Nat → Nat → Int32) : Prop := I 10 0 = nI 60 ∧ ∀ j, j < 4 → RRow I 16 12 92 93 60 j
def RelF (I : Nat → Nat → Int32) : Prop := I 0 13 = I 87 0 ∧ ∀ f, f < 6 → I 72 f = I 88 f
def RelA (I : Nat → Nat → Int32) (J : Nat → Nat → Int64) : Prop := I 0 14 = I 87 2 ∧ J 0 15 = J 87 3 ∧ J 0 16 = J 87 4
-- the RIVER in plain numbers
/-- WATER, how often it GROUND, what ran in all, what came to the sea by villages -/
abbrev FS : Type := (Nat → Nat) × (Nat → Nat) × (Nat → Nat) × (Nat → Nat)
/-- how many REACHES, KINDS, MEASURES, the springs, the RAIN -/
abbrev RP : Type := Nat × (Nat → Nat) × (Nat → Nat) × (Nat → Nat) × (Nat → Nat)
def ranN (P : RP) (w : Nat → Nat) (s i : Nat) : Nat := runN (P.2.1 i) (P.2.2.1 i) (w i) (s.testBit i)
def comeN (P : RP) (w : Nat → Nat) (s rain i : Nat) : Nat := if i = 0 then rain else ranN P w s (i - 1)
def watN (P : RP) (w : Nat → Nat) (s rain : Nat) : Nat → Nat := fun i => if i < P.1 then setN (P.2.1 i) (w i - ranN P w s i + comeN P w s rain i) else w i
def grdN (P : RP) (w : Nat → Nat) (s i : Nat) : Bool := grN (P.2.1 i) (P.2.2.1 i) (ranN P w s i)
def seaN (P : RP) (w : Nat → Nat) (s : Nat) : Nat := ranN P w s (P.1 - 1)
def stepN (P : RP) (F : FS) (s rain v : Nat) : FS :=
  (watN P F.1 s rain, fun i => F.2.1 i + (if i < P.1 ∧ grdN P F.1 s i then 1 else 0), fun i => F.2.2.1 i + (if i < P.1 then ranN P F.1 s i else 0), fun u => F.2.2.2 u + (if u = v then seaN P F.1 s else 0))
def fs0 (P : RP) : FS := (fun i => if i < P.1 then P.2.2.2.1 i else 0, fun _ => 0, fun _ => 0, fun _ => 0)
/-- the RIVER behind t DEEDS (what was SHUT, whose DAY it was) -/
def flowN (P : RP) (sh vl : Nat → Nat) : Nat → FS
  | 0 => fs0 P
  | t + 1 => stepN P (flowN P sh vl t) (sh t) (P.2.2.2.2 (t % 7)) (vl t)
/-- sums of the first numbers -/
def sumN (f : Nat → Nat) : Nat → Nat
  | 0 => 0
  | n + 1 => sumN f n + f n
/-- a set of REACHES by bits -/
def bitsN (p : Nat → Bool) : Nat → Nat
  | 0 => 0
  | n + 1 => bitsN p n + (if p n then 2 ^ n else 0)
def gatN (P : RP) : Nat := bitsN (fun i => isG (P.2.1 i)) P.1
def milN (P : RP) : Nat := bitsN (fun i => isM (P.2.1 i)) P.1
/-- the sets that can be SHUT, rising -/
def setsN (P : RP) : List Nat := (List.range 64).filter (fun s => s &&& gatN P = s)
def okP (P : RP) : Prop := P.1 ≤ 6 ∧ (∀ i, i < P.1 → P.2.1 i ≤ 5 ∧ 1 ≤ P.2.2.1 i ∧ P.2.2.1 i ≤ 9 ∧ P.2.2.2.1 i ≤ 9) ∧ (∀ d, d < 7 → P.2.2.2.2 d ≤ 9) ∧ (setsN P).length ≤ 8
/-- a note of the reference: the RIVER behind t DEEDS, from place at on -/
def noteN (P : RP) (c : Nat → Int32) (at_ : Nat) (F : FS) (t : Nat) : Prop := c at_ = nI (sumN F.2.2.2 7) ∧ c (at_ + 1) = nI t ∧ (∀ i, i < P.1 → c (at_ + 2 + i) = nI (F.1 i) ∧ c (at_ + 8 + i) = nI (F.2.1 i) ∧ c (at_ + 14 + i) = nI (F.2.2.1 i)) ∧ ∀ v, v < 7 → c (at_ + 20 + v) = nI (F.2.2.2 v)
/-- DEEDS as the class holds them -/
def deedN (P : RP) (I : Nat → Nat → Int32) (o D : Nat) (sh vl : Nat → Nat) : Prop := D ≤ 40 ∧ I o 0 = nI D ∧ ∀ t, t < D → I (o + 1) t = nI (sh t) ∧ I (o + 2) t = nI (vl t) ∧ sh t &&& gatN P = sh t ∧ vl t < 7
/-- the course (cells c and on) -/
def courN (P : RP) (ow : Nat → Nat) (I : Nat → Nat → Int32) (c : Nat) : Prop := I c 0 = nI P.1 ∧ I c 1 = nI (gatN P) ∧ I c 2 = nI (milN P) ∧ (∀ i, i < P.1 → I (c + 1) i = nI (P.2.1 i) ∧ I (c + 2) i = nI (P.2.2.1 i) ∧ I (c + 3) i = nI (P.2.2.2.1 i)) ∧ (∀ d, d < 7 → I (c + 4) d = nI (P.2.2.2.2 d) ∧ I (c + 5) d = nI (ow d)) ∧ (0 < P.1 → I c 3 = nI (setsN P).length ∧ ∀ k (h : k < (setsN P).length), I (c + 6) k = nI ((setsN P)[k]))
def RelV (I : Nat → Nat → Int32) : Prop := ∃ (P : RP) (ow : Nat → Nat) (D : Nat) (sh vl : Nat → Nat) (kp : Nat → Bool) (KD : Nat → Nat) (ksh kvl : Nat → Nat → Nat),
  okP P ∧ (∀ d, d < 7 → ow d ≤ 6) ∧ courN P ow I 73 ∧ deedN P I 25 D sh vl ∧ (P.1 = 0 → D = 0)
  -- the flow
  ∧ (∀ i, i < 6 → I 20 i = nI ((flowN P sh vl D).1 i) ∧ I 21 i = nI ((flowN P sh vl D).2.1 i) ∧ I 22 i = nI ((flowN P sh vl D).2.2.1 i)) ∧ (∀ v, v < 7 → I 23 v = nI ((flowN P sh vl D).2.2.2 v))
  -- the kept ones
  ∧ (∀ k, k < 3 → I 38 k = (if kp k then 1 else 0) ∧ I 105 k = (if kp k then 1 else 0) ∧ (kp k → deedN P I (29 + 3 * k) (KD k) (ksh k) (kvl k) ∧ (∀ t, t < KD k → noteN P (I 106) (1107 * k + 27 * t) (flowN P (ksh k) (kvl k) t) t) ∧ noteN P (I 106) (1107 * k + 1080) (flowN P (ksh k) (kvl k) (KD k)) (KD k) ∧ 0 < P.1))
  -- the reference
  ∧ I 87 10 = nI P.1 ∧ I 87 18 = nI (sumN (flowN P sh vl D).2.2.2 7) ∧ I 87 25 = nI D ∧ I 87 32 = -9
  ∧ (∀ i, i < P.1 → I 96 i = nI (P.2.1 i) ∧ I 97 i = nI (P.2.2.1 i) ∧ I 98 i = nI ((flowN P sh vl D).1 i) ∧ I 99 i = nI ((flowN P sh vl D).2.1 i) ∧ I 100 i = nI ((flowN P sh vl D).2.2.1 i))
  ∧ (∀ d, d < 7 → I 94 d = nI (P.2.2.2.2 d) ∧ I 95 d = nI (ow d) ∧ I 101 d = nI ((flowN P sh vl D).2.2.2 d))
  ∧ (∀ t, t < D → noteN P (I 104) (27 * t) (flowN P sh vl t) t)
def Rel (I : Nat → Nat → Int32) (J : Nat → Nat → Int64) : Prop := RelR I ∧ RelT I ∧ RelF I ∧ RelA I J ∧ RelV I
/-- the cells that RelV reads whole -/
def VC : List Nat := [20, 21, 22, 23, 25, 26, 27, 29, 30, 31, 32, 33, 34, 35, 36, 37, 38, 73, 74, 75, 76, 77, 78, 79, 94, 95, 96, 97, 98, 99, 100, 101, 104, 105, 106]
def agV (I B : Nat → Nat → Int32) : Prop := (∀ a ∈ VC, B a = I a) ∧ B 87 10 = I 87 10 ∧ B 87 18 = I 87 18 ∧ B 87 25 = I 87 25 ∧ B 87 32 = I 87 32
theorem agV.rf {I : Nat → Nat → Int32} : agV I I := ⟨fun _ _ => rfl, rfl, rfl, rfl, rfl⟩
theorem agV.tr {I B C : Nat → Nat → Int32} (h : agV I B) (k : agV B C) : agV I C := ⟨fun a ha => (k.1 a ha).trans (h.1 a ha), k.2.1.trans h.2.1, k.2.2.1.trans h.2.2.1, k.2.2.2.1.trans h.2.2.2.1, k.2.2.2.2.trans h.2.2.2.2⟩
theorem agV.wrC1 {I B : Nat → Nat → Int32} {a : Nat} {f : Nat → Int32} (h : agV I B) (ha : a ∉ VC) (h87 : a ≠ 87) : agV I (wrC B a f) := by
  refine h.tr ⟨fun b hb => ?_, ?_, ?_, ?_, ?_⟩
  · have hne : b ≠ a := fun q => ha (q ▸ hb)
    rw [wrC_at, if_neg hne]
  all_goals rw [wrC_at, if_neg (Ne.symm h87)]
theorem agV.wr1 {I B : Nat → Nat → Int32} {a i : Nat} {v : Int32} (h : agV I B) (ha : a ∉ VC) (h87 : a ≠ 87) : agV I (wrC B a (up1 (B a) i v)) := agV.wrC1 h ha h87
theorem agV.wr87 {I B : Nat → Nat → Int32} {i : Nat} {v : Int32} (h : agV I B) (h1 : i ≠ 10) (h2 : i ≠ 18) (h3 : i ≠ 25) (h4 : i ≠ 32) : agV I (wrC B 87 (up1 (B 87) i v)) := by
  refine h.tr ⟨fun b hb => ?_, ?_, ?_, ?_, ?_⟩
  · have : b ≠ 87 := fun q => absurd (q ▸ hb) (by decide)
    rw [wrC_at, if_neg this]
  all_goals rw [wrC_at, if_pos rfl, up1_at, if_neg (by omega)]
theorem vc_low {a : Nat} (h : a < 20) : a ∉ VC := fun q => by
  have : ∀ b ∈ VC, 20 ≤ b := by decide
  have := this a q
  omega
