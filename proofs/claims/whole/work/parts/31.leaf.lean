/-! specs of methods without loops: KINDS; the reference's small ones -/
theorem nle {a b : Nat} (ha : a < 2 ^ 31) (hb : b < 2 ^ 31) : (nI a ≤ nI b) = (a ≤ b) := propext (nI_leI ha hb)
theorem nlt {a b : Nat} (ha : a < 2 ^ 31) (hb : b < 2 ^ 31) : (nI a < nI b) = (a < b) := propext (nI_ltI ha hb)
theorem neq {a b : Nat} (ha : a < 2 ^ 31) (hb : b < 2 ^ 31) : (nI a = nI b) = (a = b) := propext (nI_eq ha hb)
def b2i (p : Prop) [Decidable p] : Int32 := if p then 1 else 0
theorem b2i_0 (p : Prop) [Decidable p] : (b2i p = 0) = ¬ p := by
  unfold b2i
  by_cases h : p <;> simp [h]
theorem b2i_1 (p : Prop) [Decidable p] : (b2i p = 1) = p := by
  unfold b2i
  by_cases h : p <;> simp [h]
theorem b2i_t {p : Prop} [Decidable p] (h : p) : b2i p = 1 := if_pos h
theorem b2i_f {p : Prop} [Decidable p] (h : ¬ p) : b2i p = 0 := if_neg h
/-- what runs from a REACH -/
def runN (k m w : Nat) (sh : Bool) : Nat := if sh then w - m else if k = 4 ∧ m < w then m else w
/-- what is left of WATER -/
def setN (k w : Nat) : Nat := min 99 (if k = 3 then w - 1 else w)
/-- whether it GRINDS -/
def grN (k m r : Nat) : Bool := decide ((k = 2 ∧ m ≤ r) ∨ (k = 5 ∧ m ≤ r ∧ r ≤ m + 2))
theorem runN_le (k m w : Nat) (sh : Bool) : runN k m w sh ≤ w := by
  unfold runN
  split
  · omega
  · split <;> omega
theorem setN_le (k w : Nat) : setN k w ≤ 99 := Nat.min_le_left _ _
theorem s_runFrom (N d : Nat) {k m w : Nat} (hk : k < 2 ^ 30) (hm : m < 2 ^ 30) (hw : w < 2 ^ 30) (sh : Bool) (A : AH) : arun (N + 1000000) (d + 1) 41 [iv (nI k), iv (nI m), iv (nI w), iv (if sh then 1 else 0)] A = some (iv (nI (runN k m w sh)), A) := by
  obtain ⟨I, J, cd⟩ := A
  rw [enX6_runFrom, sgX6_runFrom_0]
  cases sh with
  | true =>
    refine ie (by decide) ?_
    rw [show runN k m w true = w - m from rfl]
    by_cases h : w ≤ m
    · rw [if_pos ((nI_leI (by omega) (by omega)).mpr h), Nat.sub_eq_zero_of_le h]; rfl
    · rw [if_neg (fun q => h ((nI_leI (by omega) (by omega)).mp q)), pk_sub (by omega)]
  | false =>
    refine it rfl ?_
    have e : runN k m w false = if k = 4 ∧ m < w then m else w := rfl
    rw [e]
    by_cases h4 : k = 4
    · rw [if_pos (show nI k = 4 by rw [h4]; rfl)]
      by_cases h : w ≤ m
      · rw [if_pos ((nI_leI (by omega) (by omega)).mpr h), if_neg (by omega)]
      · rw [if_neg (fun q => h ((nI_leI (by omega) (by omega)).mp q)), if_pos ⟨h4, by omega⟩]
    · rw [if_neg (show ¬ nI k = 4 from fun q => h4 (nI_inj (by omega) (by decide) (show nI k = nI 4 from q))), if_neg (fun q => h4 q.1)]
theorem s_settle (N d : Nat) {k w : Nat} (hk : k < 2 ^ 30) (hw : w < 2 ^ 30) (A : AH) : arun (N + 1000000) (d + 1) 42 [iv (nI k), iv (nI w)] A = some (iv (nI (setN k w)), A) := by
  obtain ⟨I, J, cd⟩ := A
  have fin : ∀ (n v : Nat), v < 2 ^ 30 → EX6_settle (N + 1000000) d (n + 1) 17 [none, none, some (iv (nI v))] (I, J, cd) = some (iv (nI (min 99 v)), (I, J, cd)) := by
    intro n v hv
    rw [sgX6_settle_17]
    by_cases h : v ≤ 99
    · rw [if_pos (show nI v ≤ 99 from (nI_leI (by omega) (by decide)).mpr h), Nat.min_eq_right h]
    · rw [if_neg (show ¬ nI v ≤ 99 from fun q => h ((nI_leI (b := 99) (by omega) (by decide)).mp q)), Nat.min_eq_left (by omega)]; rfl
  rw [enX6_settle, sgX6_settle_0]
  unfold setN
  by_cases h3 : k = 3
  · rw [if_pos (show nI k = 3 by rw [h3]; rfl), if_pos h3]
    by_cases h : w = 0
    · subst h
      rw [if_pos (by decide), sgX6_settle_15, fin _ _ (by omega)]
    · rw [if_neg (show ¬ nI w ≤ 0 from fun q => h (by have := (nI_leI (a := w) (b := 0) (by omega) (by decide)).mp q; omega)), show nI w - 1 = nI (w - 1) from pk_sub (a := w) (b := 1) (by omega), fin _ _ (by omega)]
  · rw [if_neg (show ¬ nI k = 3 from fun q => h3 (nI_inj (by omega) (by decide) (show nI k = nI 3 from q))), if_neg h3, sgX6_settle_15, fin _ _ hw]
theorem s_grindsBy (N d : Nat) {k m r : Nat} (hk : k < 2 ^ 30) (hm : m < 2 ^ 30) (hr : r < 2 ^ 30) (A : AH) : arun (N + 1000000) (d + 1) 43 [iv (nI k), iv (nI m), iv (nI r)] A = some (iv (if grN k m r then 1 else 0), A) := by
  obtain ⟨I, J, cd⟩ := A
  rw [enX6_grindsBy, sgX6_grindsBy_0]
  have e2 : (nI k = 2) = (k = 2) := neq (b := 2) (by omega) (by decide)
  have e5 : (nI k = 5) = (k = 5) := neq (b := 5) (by omega) (by decide)
  have e1 : (nI r < nI m) = (r < m) := nlt (by omega) (by omega)
  have e3 : (nI m + 2 < nI r) = (m + 2 < r) := by
    rw [show nI m + 2 = nI (m + 2) from nI_add m 2]
    exact nlt (by omega) (by omega)
  simp only [e2, e5, e1, e3, grN]
  by_cases h2 : k = 2
  · subst h2
    by_cases h : r < m
    · simp [h, show ¬ m ≤ r by omega]
    · simp [h, show m ≤ r by omega]
  · by_cases h5 : k = 5
    · subst h5
      by_cases h : r < m
      · simp [h, show ¬ m ≤ r by omega]
      · by_cases h' : m + 2 < r
        · simp [h, h', show ¬ r ≤ m + 2 by omega]
        · simp [h, h', show r ≤ m + 2 by omega, show m ≤ r by omega]
    · simp [h2, h5]
/-- whether a KIND can be SHUT, whether it is a MILL -/
def isG (k : Nat) : Bool := decide (k = 1 ∨ k = 3 ∨ k = 4)
def isM (k : Nat) : Bool := decide (k = 2 ∨ k = 5)
theorem s_isOf (N d : Nat) (k o : Int32) (A : AH) : arun (N + 1000000) (d + 1) 40 [iv k, iv o] A = some (iv (b2i (o = 0 ∨ (o = 1 ∧ (k = 1 ∨ k = 3 ∨ k = 4)) ∨ (o = 2 ∧ (k = 2 ∨ k = 5)) ∨ (¬ o = 1 ∧ ¬ o = 2 ∧ k = o))), A) := by
  obtain ⟨I, J, cd⟩ := A
  rw [enX6_isOf, sgX6_isOf_0]
  unfold b2i
  by_cases h0 : o = 0
  · simp [h0]
  · by_cases h1 : o = 1
    · subst h1
      by_cases a : k = 1
      · simp [a]
      · by_cases b : k = 3
        · simp [b]
        · by_cases c : k = 4
          · simp [c]
          · simp [a, b, c]
    · by_cases h2 : o = 2
      · subst h2
        by_cases a : k = 2
        · simp [a]
        · by_cases b : k = 5
          · simp [b]
          · simp [a, b]
      · by_cases a : k = o
        · simp [h0, h1, h2, a]
        · simp [h0, h1, h2, a]
-- the reference
theorem s_in (N d : Nat) (v lo hi : Int32) (A : AH) : arun (N + 1000000) (d + 1) 137 [iv v, iv lo, iv hi] A = some (iv (b2i (¬ v < lo ∧ ¬ hi < v)), A) := by
  obtain ⟨I, J, cd⟩ := A
  rw [enX10_in, sgX10_in_0]
  unfold b2i
  by_cases a : v < lo
  · simp [a]
  · by_cases b : hi < v
    · simp [a, b]
    · simp [a, b]
theorem s_ask (N d : Nat) (v a : Int32) (I : Nat → Nat → Int32) (J : Nat → Nat → Int64) (cd : Nat × Nat) : arun (N + 1000000) (d + 1) 139 [rv (some 87), iv v, iv a] (I, J, cd) = some (iv a, (wr I 87 2 v, J, cd)) := by
  rw [enX10_ask, sgX10_ask_0]
theorem s_meet (N d : Nat) {f : Nat} (hf : f < 6) (I : Nat → Nat → Int32) (J : Nat → Nat → Int64) (cd : Nat × Nat) : arun (N + 1000000) (d + 1) 138 [rv (some 87), iv (nI f)] (I, J, cd) = some (iv (-3), (wr (wr I 87 0 (nI f)) 88 f (I 88 f + 1), J, cd)) := by
  rw [enX10_meet, sgX10_meet_0, inb_t hf (by omega), nI_clamp (by omega)]
  rfl
theorem s_greater (N d : Nat) (x y : Int32) (A : AH) : arun (N + 1000000) (d + 1) 141 [iv x, iv y] A = some (iv (mxI x y), A) := by
  obtain ⟨I, J, cd⟩ := A
  rw [enX10_greater, sgX10_greater_0, mxI]
  by_cases h : x < y
  · rw [if_pos h, if_pos (Int32.le_of_lt h)]
  · rw [if_neg h]
    by_cases h2 : x ≤ y
    · rw [if_pos h2, Int32.le_antisymm h2 (Int32.not_lt.mp h)]
    · rw [if_neg h2]
theorem s_isRow (N d : Nat) (r : Int32) (A : AH) : arun (N + 1000000) (d + 2) 143 [iv r] A = some (iv (b2i (¬ r < 0 ∧ ¬ 5 < r)), A) := by
  obtain ⟨I, J, cd⟩ := A
  rw [enX10_isRow, sgX10_isRow_0, bI (s_in _ _ _ _ _ _)]
  simp only [b2i_0, b2i_1]
  by_cases h : ¬ r < 0 ∧ ¬ 5 < r
  · rw [if_pos h, b2i_t h]
  · rw [if_neg h, if_pos h, b2i_f h]
theorem s_isText (N d : Nat) (r : Int32) (A : AH) : arun (N + 1000000) (d + 2) 144 [iv r] A = some (iv (b2i (¬ r < 0 ∧ ¬ 3 < r)), A) := by
  obtain ⟨I, J, cd⟩ := A
  rw [enX10_isText, sgX10_isText_0, bI (s_in _ _ _ _ _ _)]
  simp only [b2i_0, b2i_1]
  by_cases h : ¬ r < 0 ∧ ¬ 3 < r
  · rw [if_pos h, b2i_t h]
  · rw [if_neg h, if_pos h, b2i_f h]
theorem s_isDay (N d : Nat) (r : Int32) (A : AH) : arun (N + 1000000) (d + 2) 170 [iv r] A = some (iv (b2i (¬ r < 0 ∧ ¬ 6 < r)), A) := by
  obtain ⟨I, J, cd⟩ := A
  rw [enX10_isDay, sgX10_isDay_0, bI (s_in _ _ _ _ _ _)]
  simp only [b2i_0, b2i_1]
  by_cases h : ¬ r < 0 ∧ ¬ 6 < r
  · rw [if_pos h, b2i_t h]
  · rw [if_neg h, if_pos h, b2i_f h]
