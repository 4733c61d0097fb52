/-! rows for the specs: typed answers of calls, places in range, heaps, numbers -/
def tI (r : Option RES) : Option (Int32 × AH) := match r with
  | some (.inl x, B) => some (x, B)
  | _ => none
def tJ (r : Option RES) : Option (Int64 × AH) := match r with
  | some (.inr (.inl x), B) => some (x, B)
  | _ => none
def tV (r : Option RES) : Option AH := match r with
  | some (.inr (.inr none), B) => some B
  | _ => none
theorem cI_eq (o : ORC) (y : Nat) (as : List AV) (A : AH) : cI o y as A = tI (o y as A) := rfl
theorem cJ_eq (o : ORC) (y : Nat) (as : List AV) (A : AH) : cJ o y as A = tJ (o y as A) := rfl
theorem cV_eq (o : ORC) (y : Nat) (as : List AV) (A : AH) : cV o y as A = tV (o y as A) := rfl
theorem tI_s (x : Int32) (B : AH) : tI (some (iv x, B)) = some (x, B) := rfl
theorem tJ_s (x : Int64) (B : AH) : tJ (some (jv x, B)) = some (x, B) := rfl
theorem tV_s (B : AH) : tV (some (rv none, B)) = some B := rfl
theorem bI {o : ORC} {y : Nat} {as : List AV} {A B : AH} {x : Int32} {f : Int32 × AH → Option RES} (h : o y as A = some (iv x, B)) : (cI o y as A).bind f = f (x, B) := by rw [cI_eq, h]; rfl
theorem bJ {o : ORC} {y : Nat} {as : List AV} {A B : AH} {x : Int64} {f : Int64 × AH → Option RES} (h : o y as A = some (jv x, B)) : (cJ o y as A).bind f = f (x, B) := by rw [cJ_eq, h]; rfl
theorem bV {o : ORC} {y : Nat} {as : List AV} {A B : AH} {f : AH → Option RES} (h : o y as A = some (rv none, B)) : (cV o y as A).bind f = f B := by rw [cV_eq, h]; rfl
theorem kI {o : ORC} {y : Nat} {as : List AV} {A B : AH} {x : Int32} {f : Int32 × AH → Option RES} {r : Option RES} (h : o y as A = some (iv x, B)) (k : f (x, B) = r) : (cI o y as A).bind f = r := by rw [bI h]; exact k
theorem kJ {o : ORC} {y : Nat} {as : List AV} {A B : AH} {x : Int64} {f : Int64 × AH → Option RES} {r : Option RES} (h : o y as A = some (jv x, B)) (k : f (x, B) = r) : (cJ o y as A).bind f = r := by rw [bJ h]; exact k
theorem kV {o : ORC} {y : Nat} {as : List AV} {A B : AH} {f : AH → Option RES} {r : Option RES} (h : o y as A = some (rv none, B)) (k : f B = r) : (cV o y as A).bind f = r := by rw [bV h]; exact k
theorem inb_t {j n : Nat} (h : j < n) (hj : j < 2 ^ 31) : inb (nI j) n = true := by
  unfold inb
  have h1 : ¬ nI j < 0 := nI_pos hj
  simp [h1, nI_clamp hj, h]
theorem inb_f {j n : Nat} (h : n ≤ j) (hj : j < 2 ^ 31) : inb (nI j) n = false := by
  unfold inb
  simp [nI_clamp hj]
  omega
theorem inb_neg {x : Int32} {n : Nat} (h : x < 0) : inb x n = false := by
  unfold inb
  simp [h]
theorem inb_o {x : Int32} {n : Nat} (h : inb x n = true) (hn : n ≤ 2 ^ 31) : ∃ j : Nat, j < n ∧ x = nI j := by
  unfold inb at h
  simp only [Bool.and_eq_true, Bool.not_eq_true', decide_eq_false_iff_not, decide_eq_true_eq] at h
  obtain ⟨j, hj, rfl⟩ := nI_of h.1
  rw [nI_clamp hj] at h
  exact ⟨j, h.2, rfl⟩
theorem wr_at {α : Type} (I : Nat → Nat → α) (a i : Nat) (v : α) (b : Nat) : wr I a i v b = if b = a then up1 (I a) i v else I b := rfl
theorem wrC_at {α : Type} (I : Nat → Nat → α) (a : Nat) (f : Nat → α) (b : Nat) : wrC I a f b = if b = a then f else I b := rfl
theorem up1_at {α : Type} (f : Nat → α) (k : Nat) (x : α) (j : Nat) : up1 f k x j = if j = k then x else f j := rfl
theorem wr_wrC {α : Type} (I : Nat → Nat → α) (a i : Nat) (v : α) (f : Nat → α) : wr (wrC I a f) a i v = wrC I a (up1 f i v) := by
  funext b
  simp only [wr, wrC_at]
  by_cases h : b = a <;> simp [h]
theorem wrC_wrC {α : Type} (I : Nat → Nat → α) (a : Nat) (f g : Nat → α) : wrC (wrC I a f) a g = wrC I a g := by
  funext b
  simp only [wrC_at]
  by_cases h : b = a <;> simp [h]
theorem wrC_id {α : Type} (I : Nat → Nat → α) (a : Nat) : wrC I a (I a) = I := by
  funext b
  simp only [wrC_at]
  by_cases h : b = a <;> simp [h]
theorem wrC_comm {α : Type} (I : Nat → Nat → α) (a b : Nat) (f g : Nat → α) (h : a ≠ b) : wrC (wrC I a f) b g = wrC (wrC I b g) a f := by
  funext c
  simp only [wrC_at]
  by_cases h1 : c = a <;> by_cases h2 : c = b <;> simp [h1, h2]
  · exact absurd (h1.symm.trans h2) h
  · intro q; exact absurd q h
  · intro q; exact absurd q.symm h
theorem nI_inj {a b : Nat} (ha : a < 2 ^ 31) (hb : b < 2 ^ 31) (h : nI a = nI b) : a = b := (nI_eq ha hb).mp h
-- literals as nI
theorem nI_lit (n : Nat) : (OfNat.ofNat n : Int32) = nI n := rfl
/-- a test that comes out -/
theorem it {α : Type} {c : Prop} [Decidable c] {a b r : α} (h : c) (k : a = r) : (if c then a else b) = r := by rw [if_pos h]; exact k
theorem ie {α : Type} {c : Prop} [Decidable c] {a b r : α} (h : ¬ c) (k : b = r) : (if c then a else b) = r := by rw [if_neg h]; exact k
theorem bs {α β : Type} {x : Option α} {a : α} {f : α → Option β} {r : Option β} (h : x = some a) (k : f a = r) : x.bind f = r := by rw [h]; exact k
-- the small JDK methods
def mxI (x y : Int32) : Int32 := if x < y then y else x
def mnI (x y : Int32) : Int32 := if y < x then y else x
theorem s_max (N d : Nat) (x y : Int32) (A : AH) : arun (N + 1000000) (d + 1) 2 [iv x, iv y] A = some (iv (mxI x y), A) := by
  obtain ⟨I, J, cd⟩ := A
  rw [enJ9_max_7cf53, sgJ9_max_7cf53_0, mxI]
  split <;> rfl
theorem s_min (N d : Nat) (x y : Int32) (A : AH) : arun (N + 1000000) (d + 1) 3 [iv x, iv y] A = some (iv (mnI x y), A) := by
  obtain ⟨I, J, cd⟩ := A
  rw [enJ9_min_7cf53, sgJ9_min_7cf53_0, mnI]
  split <;> rfl
theorem mx_N {a b : Nat} (ha : a < 2 ^ 31) (hb : b < 2 ^ 31) : mxI (nI a) (nI b) = nI (max a b) := by
  unfold mxI
  by_cases h : a < b
  · rw [if_pos ((nI_ltI ha hb).mpr h), Nat.max_eq_right (by omega)]
  · rw [if_neg (fun q => h ((nI_ltI ha hb).mp q)), Nat.max_eq_left (by omega)]
theorem mn_N {a b : Nat} (ha : a < 2 ^ 31) (hb : b < 2 ^ 31) : mnI (nI a) (nI b) = nI (min a b) := by
  unfold mnI
  by_cases h : b < a
  · rw [if_pos ((nI_ltI hb ha).mpr h), Nat.min_eq_right (by omega)]
  · rw [if_neg (fun q => h ((nI_ltI hb ha).mp q)), Nat.min_eq_left (by omega)]
theorem xor7 : ∀ k, k < 128 → (0 : Int32) ≤ nI k ^^^ 7 := by decide +kernel
theorem s_fmod7 (N d : Nat) {k : Nat} (hk : k < 128) (A : AH) : arun (N + 1000000) (d + 1) 1 [iv (nI k), iv 7] A = some (iv (nI (k % 7)), A) := by
  obtain ⟨I, J, cd⟩ := A
  have e : nI k - nI k / 7 * 7 = nI (k % 7) := pk_rem (d := 7) (by omega) (by omega) (by omega)
  rw [enJ9_floorMod_7cf53, sgJ9_floorMod_7cf53_0, if_neg (by decide), if_pos (xor7 k hk), e]
/-- the number of ones among six bits -/
def pc6 (k : Nat) : Nat := k % 2 + k / 2 % 2 + k / 4 % 2 + k / 8 % 2 + k / 16 % 2 + k / 32 % 2
def bcF (x0 : Int32) : Int32 := ((((((((x0 - (((x0.toUInt32 >>> ((1 : Int32).toUInt32 &&& Int32.toUInt32 31)).toInt32) &&& 1431655765)) &&& 858993459) + ((((x0 - (((x0.toUInt32 >>> ((1 : Int32).toUInt32 &&& Int32.toUInt32 31)).toInt32) &&& 1431655765)).toUInt32 >>> ((2 : Int32).toUInt32 &&& Int32.toUInt32 31)).toInt32) &&& 858993459)) + (((((x0 - (((x0.toUInt32 >>> ((1 : Int32).toUInt32 &&& Int32.toUInt32 31)).toInt32) &&& 1431655765)) &&& 858993459) + ((((x0 - (((x0.toUInt32 >>> ((1 : Int32).toUInt32 &&& Int32.toUInt32 31)).toInt32) &&& 1431655765)).toUInt32 >>> ((2 : Int32).toUInt32 &&& Int32.toUInt32 31)).toInt32) &&& 858993459)).toUInt32 >>> ((4 : Int32).toUInt32 &&& Int32.toUInt32 31)).toInt32)) &&& 252645135) + (((((((x0 - (((x0.toUInt32 >>> ((1 : Int32).toUInt32 &&& Int32.toUInt32 31)).toInt32) &&& 1431655765)) &&& 858993459) + ((((x0 - (((x0.toUInt32 >>> ((1 : Int32).toUInt32 &&& Int32.toUInt32 31)).toInt32) &&& 1431655765)).toUInt32 >>> ((2 : Int32).toUInt32 &&& Int32.toUInt32 31)).toInt32) &&& 858993459)) + (((((x0 - (((x0.toUInt32 >>> ((1 : Int32).toUInt32 &&& Int32.toUInt32 31)).toInt32) &&& 1431655765)) &&& 858993459) + ((((x0 - (((x0.toUInt32 >>> ((1 : Int32).toUInt32 &&& Int32.toUInt32 31)).toInt32) &&& 1431655765)).toUInt32 >>> ((2 : Int32).toUInt32 &&& Int32.toUInt32 31)).toInt32) &&& 858993459)).toUInt32 >>> ((4 : Int32).toUInt32 &&& Int32.toUInt32 31)).toInt32)) &&& 252645135).toUInt32 >>> ((8 : Int32).toUInt32 &&& Int32.toUInt32 31)).toInt32)) + ((((((((x0 - (((x0.toUInt32 >>> ((1 : Int32).toUInt32 &&& Int32.toUInt32 31)).toInt32) &&& 1431655765)) &&& 858993459) + ((((x0 - (((x0.toUInt32 >>> ((1 : Int32).toUInt32 &&& Int32.toUInt32 31)).toInt32) &&& 1431655765)).toUInt32 >>> ((2 : Int32).toUInt32 &&& Int32.toUInt32 31)).toInt32) &&& 858993459)) + (((((x0 - (((x0.toUInt32 >>> ((1 : Int32).toUInt32 &&& Int32.toUInt32 31)).toInt32) &&& 1431655765)) &&& 858993459) + ((((x0 - (((x0.toUInt32 >>> ((1 : Int32).toUInt32 &&& Int32.toUInt32 31)).toInt32) &&& 1431655765)).toUInt32 >>> ((2 : Int32).toUInt32 &&& Int32.toUInt32 31)).toInt32) &&& 858993459)).toUInt32 >>> ((4 : Int32).toUInt32 &&& Int32.toUInt32 31)).toInt32)) &&& 252645135) + (((((((x0 - (((x0.toUInt32 >>> ((1 : Int32).toUInt32 &&& Int32.toUInt32 31)).toInt32) &&& 1431655765)) &&& 858993459) + ((((x0 - (((x0.toUInt32 >>> ((1 : Int32).toUInt32 &&& Int32.toUInt32 31)).toInt32) &&& 1431655765)).toUInt32 >>> ((2 : Int32).toUInt32 &&& Int32.toUInt32 31)).toInt32) &&& 858993459)) + (((((x0 - (((x0.toUInt32 >>> ((1 : Int32).toUInt32 &&& Int32.toUInt32 31)).toInt32) &&& 1431655765)) &&& 858993459) + ((((x0 - (((x0.toUInt32 >>> ((1 : Int32).toUInt32 &&& Int32.toUInt32 31)).toInt32) &&& 1431655765)).toUInt32 >>> ((2 : Int32).toUInt32 &&& Int32.toUInt32 31)).toInt32) &&& 858993459)).toUInt32 >>> ((4 : Int32).toUInt32 &&& Int32.toUInt32 31)).toInt32)) &&& 252645135).toUInt32 >>> ((8 : Int32).toUInt32 &&& Int32.toUInt32 31)).toInt32)).toUInt32 >>> ((16 : Int32).toUInt32 &&& Int32.toUInt32 31)).toInt32)) &&& 63)
theorem bcF_6 : ∀ k, k < 64 → bcF (nI k) = nI (pc6 k) := by decide +kernel
theorem s_bits (N d : Nat) {k : Nat} (hk : k < 64) (A : AH) : arun (N + 1000000) (d + 1) 0 [iv (nI k)] A = some (iv (nI (pc6 k)), A) := by
  obtain ⟨I, J, cd⟩ := A
  rw [enJ6_bitCount_0f7a4, sgJ6_bitCount_0f7a4_0, ← bcF_6 k hk]
  rfl
