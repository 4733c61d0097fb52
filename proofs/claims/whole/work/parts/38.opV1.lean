/-! sets by bits (the first rows began as kit/laws/BITS.to-paste); calls that read the RIVER -/
def bt (x : Int32) (i : Nat) : Bool := x.toBitVec.getLsbD i
theorem b_ext {x y : Int32} (h : ∀ i, i < 32 → bt x i = bt y i) : x = y := Int32.toBitVec_inj.mp (BitVec.eq_of_getLsbD_eq (fun i hi => h i hi))
theorem b_or (x y : Int32) (i : Nat) : bt (x ||| y) i = (bt x i || bt y i) := by unfold bt; rw [Int32.toBitVec_or, BitVec.getLsbD_or]
theorem b_and (x y : Int32) (i : Nat) : bt (x &&& y) i = (bt x i && bt y i) := by unfold bt; rw [Int32.toBitVec_and, BitVec.getLsbD_and]
theorem b_xor (x y : Int32) (i : Nat) : bt (x ^^^ y) i = (bt x i ^^ bt y i) := by unfold bt; rw [Int32.toBitVec_xor, BitVec.getLsbD_xor]
theorem b_big {x : Int32} {i : Nat} (h : 32 ≤ i) : bt x i = false := BitVec.getLsbD_of_ge _ _ h
theorem b_255 (i : Nat) : bt 255 i = decide (i < 8) := by
  rcases Nat.lt_or_ge i 32 with h | h
  · exact (by decide +kernel : ∀ i, i < 32 → bt 255 i = decide (i < 8)) i h
  · rw [b_big h, decide_eq_false (by omega)]
theorem b_65535 (i : Nat) : bt 65535 i = decide (i < 16) := by
  rcases Nat.lt_or_ge i 32 with h | h
  · exact (by decide +kernel : ∀ i, i < 32 → bt 65535 i = decide (i < 16)) i h
  · rw [b_big h, decide_eq_false (by omega)]
theorem b_m1 : ∀ i, i < 32 → bt (-1) i = true := by decide +kernel
theorem b_0 (i : Nat) : bt 0 i = false := BitVec.getLsbD_zero
theorem s_l : ∀ n, n < 32 → ((nI n &&& 31).toBitVec.smod 32).toNat = n := by decide +kernel
theorem s_u : ∀ n, n < 32 → (((nI n).toUInt32 &&& Int32.toUInt32 31).toBitVec % 32).toNat = n := by decide +kernel
theorem b_shl (n : Nat) (hn : n < 32) (x : Int32) {i : Nat} (hi : i < 32) : bt (x <<< (nI n &&& 31)) i = (decide (n ≤ i) && bt x (i - n)) := by
  unfold bt
  rw [Int32.toBitVec_shiftLeft]
  show (x.toBitVec <<< ((nI n &&& 31).toBitVec.smod 32).toNat).getLsbD i = _
  rw [s_l n hn, BitVec.getLsbD_shiftLeft]
  rcases Nat.lt_or_ge i n with h | h
  · simp [h, Nat.not_le.mpr h]
  · simp [hi, h, Nat.not_lt.mpr h]
theorem b_ushr (n : Nat) (hn : n < 32) (x : Int32) (i : Nat) : bt ((x.toUInt32 >>> ((nI n).toUInt32 &&& Int32.toUInt32 31)).toInt32) i = bt x (n + i) := by
  show (x.toUInt32 >>> ((nI n).toUInt32 &&& Int32.toUInt32 31)).toBitVec.getLsbD i = x.toUInt32.toBitVec.getLsbD (n + i)
  rw [UInt32.toBitVec_shiftRight]
  show (x.toUInt32.toBitVec >>> (((nI n).toUInt32 &&& Int32.toUInt32 31).toBitVec % 32).toNat).getLsbD i = _
  rw [s_u n hn, BitVec.getLsbD_ushiftRight]
theorem b_sshr (n : Nat) (hn : n < 32) (x : Int32) {i : Nat} (hi : i < 32) : bt (x >>> (nI n &&& 31)) i = if n + i < 32 then bt x (n + i) else bt x 31 := by
  unfold bt
  rw [Int32.toBitVec_shiftRight]
  show (x.toBitVec.sshiftRight ((nI n &&& 31).toBitVec.smod 32).toNat).getLsbD i = _
  rw [s_l n hn, BitVec.getLsbD_sshiftRight, BitVec.msb_eq_getLsbD_last]
  simp [hi]
theorem nx_and (a b : Nat) : nI a &&& nI b = nI (a &&& b) := by
  apply Int32.toBitVec_inj.1
  show BitVec.ofNat 32 a &&& BitVec.ofNat 32 b = BitVec.ofNat 32 (a &&& b)
  apply BitVec.eq_of_getLsbD_eq
  intro i hi
  simp [hi]
theorem nx_xor (a b : Nat) : nI a ^^^ nI b = nI (a ^^^ b) := by
  apply Int32.toBitVec_inj.1
  show BitVec.ofNat 32 a ^^^ BitVec.ofNat 32 b = BitVec.ofNat 32 (a ^^^ b)
  apply BitVec.eq_of_getLsbD_eq
  intro i hi
  simp [hi]

theorem sh_bit : ∀ s, s < 64 → ∀ i, i < 6 → ((nI s >>> (nI i &&& 31)) &&& 1) = (if s.testBit i then 1 else 0) := by decide +kernel
theorem or_bit : ∀ i, i < 6 → ∀ b, b < 64 → b < 2 ^ i → nI b ||| (1 <<< (nI i &&& 31)) = nI (b + 2 ^ i) := by decide +kernel
theorem or_zero : ∀ b, b < 64 → nI b ||| 0 = nI b := by decide +kernel
theorem bitsN_lt (p : Nat → Bool) : ∀ n, bitsN p n < 2 ^ n
  | 0 => by simp [bitsN]
  | n + 1 => by
    have := bitsN_lt p n
    have e : 2 ^ (n + 1) = 2 ^ n + 2 ^ n := by rw [Nat.pow_succ]; omega
    simp only [bitsN]
    split <;> omega
theorem bitsN_64 (p : Nat → Bool) {n : Nat} (h : n ≤ 6) : bitsN p n < 64 := Nat.lt_of_lt_of_le (bitsN_lt p n) (Nat.pow_le_pow_right (by decide) h)
theorem nI_bv (x : Int32) : nI x.toBitVec.toNat = x := by
  apply Int32.toBitVec_inj.1
  show BitVec.ofNat 32 x.toBitVec.toNat = x.toBitVec
  exact BitVec.ofNat_toNat _ _
/-- a set that can be SHUT -/
theorem can_iff {g : Nat} (hg : g < 64) (x : Int32) : (x &&& (nI g ^^^ -1) = 0) ↔ ∃ s, s < 64 ∧ x = nI s ∧ s &&& g = s := by
  constructor
  · intro h
    have e : x &&& nI g = x := by
      apply b_ext
      intro i hi
      have h1 : bt (x &&& (nI g ^^^ -1)) i = false := by rw [h]; exact b_0 i
      rw [b_and, b_xor, b_m1 i hi] at h1
      rw [b_and]
      cases hx : bt x i <;> cases hgi : bt (nI g) i <;> simp_all
    refine ⟨x.toBitVec.toNat &&& g, Nat.lt_of_le_of_lt Nat.and_le_right hg, ?_, ?_⟩
    · rw [← nx_and, nI_bv, e]
    · rw [Nat.and_assoc, Nat.and_self]
  · rintro ⟨s, hs, rfl, h⟩
    apply b_ext
    intro i hi
    rw [b_and, b_xor, b_m1 i hi, b_0]
    have e : nI s &&& nI g = nI s := by rw [nx_and, h]
    have h1 : bt (nI s &&& nI g) i = bt (nI s) i := by rw [e]
    rw [b_and] at h1
    cases hx : bt (nI s) i <;> cases hgi : bt (nI g) i <;> simp_all
theorem s_isGate (N d : Nat) {k : Nat} (hk : k ≤ 5) (A : AH) : arun (N + 1000000) (d + 1) 162 [iv (nI k)] A = some (iv (if isG k then 1 else 0), A) := by
  obtain ⟨I, J, cd⟩ := A
  rw [enX10_isGate, sgX10_isGate_0]
  have c : k = 0 ∨ k = 1 ∨ k = 2 ∨ k = 3 ∨ k = 4 ∨ k = 5 := by omega
  rcases c with rfl | rfl | rfl | rfl | rfl | rfl <;> rfl
theorem s_isMill (N d : Nat) {k : Nat} (hk : k ≤ 5) (A : AH) : arun (N + 1000000) (d + 1) 163 [iv (nI k)] A = some (iv (if isM k then 1 else 0), A) := by
  obtain ⟨I, J, cd⟩ := A
  rw [enX10_isMill, sgX10_isMill_0]
  have c : k = 0 ∨ k = 1 ∨ k = 2 ∨ k = 3 ∨ k = 4 ∨ k = 5 := by omega
  rcases c with rfl | rfl | rfl | rfl | rfl | rfl <;> rfl
theorem bl0 (b : Bool) : ((if b then (1 : Int32) else 0) = 0) = (b = false) := by cases b <;> simp

theorem l_gateSet (N d : Nat) {P : RP} (hn : P.1 ≤ 6) (hk : ∀ i, i < P.1 → P.2.1 i ≤ 5) (I : Nat → Nat → Int32) (J : Nat → Nat → Int64) (cd : Nat × Nat) (h10 : I 87 10 = nI P.1) (h96 : ∀ i, i < P.1 → I 96 i = nI (P.2.1 i)) : ∀ (m i f : Nat), i + m = P.1 → m < f → EX10_gateSet (N + 1000000) (d + 1) f 4 [some (rv (some 87)), some (iv (nI (bitsN (fun i => isG (P.2.1 i)) i))), some (iv (nI i))] (I, J, cd) = some (iv (nI (bitsN (fun i => isG (P.2.1 i)) P.1)), (I, J, cd)) := by
  intro m
  induction m with
  | zero =>
    intro i f hi hf
    obtain ⟨g, rfl⟩ : ∃ g, f = g + 1 := ⟨f - 1, by omega⟩
    have : i = P.1 := by omega
    subst this
    rw [sgX10_gateSet_4, if_pos (by rw [h10]; exact Int32.le_refl _)]
  | succ m ih =>
    intro i f hi hf
    obtain ⟨g, rfl⟩ : ∃ g, f = g + 1 := ⟨f - 1, by omega⟩
    have hb := bitsN_lt (fun i => isG (P.2.1 i)) i
    have hb6 := bitsN_64 (fun i => isG (P.2.1 i)) (n := i) (by omega)
    rw [sgX10_gateSet_4, if_neg (by rw [h10]; exact nI_ge (by omega) (by omega)), inb_t (by omega) (by omega), nI_clamp (by omega), if_pos rfl, h96 i (by omega), bI (s_isGate _ _ (hk i (by omega)) _)]
    try dsimp only
    have := ih (i + 1) g (by omega) (by omega)
    simp only [bitsN] at this
    cases hc : isG (P.2.1 i) with
    | true =>
      simp only [hc, if_true] at this
      rw [if_neg (by decide), or_bit i (by omega) _ hb6 hb, nI_1]
      exact this
    | false =>
      simp only [hc, Bool.false_eq_true, if_false, Nat.add_zero] at this
      rw [if_pos (by decide), or_zero _ hb6, nI_1]
      exact this
theorem s_gateSet (N d : Nat) {P : RP} (hn : P.1 ≤ 6) (hk : ∀ i, i < P.1 → P.2.1 i ≤ 5) (I : Nat → Nat → Int32) (J : Nat → Nat → Int64) (cd : Nat × Nat) (h10 : I 87 10 = nI P.1) (h96 : ∀ i, i < P.1 → I 96 i = nI (P.2.1 i)) : arun (N + 1000000) (d + 2) 171 [rv (some 87)] (I, J, cd) = some (iv (nI (bitsN (fun i => isG (P.2.1 i)) P.1)), (I, J, cd)) := by
  have l := l_gateSet N d hn hk I J cd h10 h96 P.1 0 (N + 999999) (by omega) (by omega)
  rw [show bitsN (fun i => isG (P.2.1 i)) 0 = 0 from rfl, nI_0] at l
  rw [enX10_gateSet, sgX10_gateSet_0]
  exact l

theorem l_millSet (N d : Nat) {P : RP} (hn : P.1 ≤ 6) (hk : ∀ i, i < P.1 → P.2.1 i ≤ 5) (I : Nat → Nat → Int32) (J : Nat → Nat → Int64) (cd : Nat × Nat) (h10 : I 87 10 = nI P.1) (h96 : ∀ i, i < P.1 → I 96 i = nI (P.2.1 i)) : ∀ (m i f : Nat), i + m = P.1 → m < f → EX10_millSet (N + 1000000) (d + 1) f 4 [some (rv (some 87)), some (iv (nI (bitsN (fun i => isM (P.2.1 i)) i))), some (iv (nI i))] (I, J, cd) = some (iv (nI (bitsN (fun i => isM (P.2.1 i)) P.1)), (I, J, cd)) := by
  intro m
  induction m with
  | zero =>
    intro i f hi hf
    obtain ⟨g, rfl⟩ : ∃ g, f = g + 1 := ⟨f - 1, by omega⟩
    have : i = P.1 := by omega
    subst this
    rw [sgX10_millSet_4, if_pos (by rw [h10]; exact Int32.le_refl _)]
  | succ m ih =>
    intro i f hi hf
    obtain ⟨g, rfl⟩ : ∃ g, f = g + 1 := ⟨f - 1, by omega⟩
    have hb := bitsN_lt (fun i => isM (P.2.1 i)) i
    have hb6 := bitsN_64 (fun i => isM (P.2.1 i)) (n := i) (by omega)
    rw [sgX10_millSet_4, if_neg (by rw [h10]; exact nI_ge (by omega) (by omega)), inb_t (by omega) (by omega), nI_clamp (by omega), if_pos rfl, h96 i (by omega), bI (s_isMill _ _ (hk i (by omega)) _)]
    try dsimp only
    have := ih (i + 1) g (by omega) (by omega)
    simp only [bitsN] at this
    cases hc : isM (P.2.1 i) with
    | true =>
      simp only [hc, if_true] at this
      rw [if_neg (by decide), or_bit i (by omega) _ hb6 hb, nI_1]
      exact this
    | false =>
      simp only [hc, Bool.false_eq_true, if_false, Nat.add_zero] at this
      rw [if_pos (by decide), or_zero _ hb6, nI_1]
      exact this
theorem s_millSet (N d : Nat) {P : RP} (hn : P.1 ≤ 6) (hk : ∀ i, i < P.1 → P.2.1 i ≤ 5) (I : Nat → Nat → Int32) (J : Nat → Nat → Int64) (cd : Nat × Nat) (h10 : I 87 10 = nI P.1) (h96 : ∀ i, i < P.1 → I 96 i = nI (P.2.1 i)) : arun (N + 1000000) (d + 2) 206 [rv (some 87)] (I, J, cd) = some (iv (nI (bitsN (fun i => isM (P.2.1 i)) P.1)), (I, J, cd)) := by
  have l := l_millSet N d hn hk I J cd h10 h96 P.1 0 (N + 999999) (by omega) (by omega)
  rw [show bitsN (fun i => isM (P.2.1 i)) 0 = 0 from rfl, nI_0] at l
  rw [enX10_millSet, sgX10_millSet_0]
  exact l

theorem s_hasReach (N d : Nat) (x : Int32) (I : Nat → Nat → Int32) (J : Nat → Nat → Int64) (cd : Nat × Nat) : arun (N + 1000000) (d + 1) 16 [rv (some 73), iv x] (I, J, cd) = some (iv (b2i (¬ x < 0 ∧ ¬ I 73 0 ≤ x)), (I, J, cd)) := by
  rw [enX2_hasReach, sgX2_hasReach_0]
  by_cases h1 : x < 0
  · rw [if_pos h1, b2i_f (fun q => q.1 h1)]
  · rw [if_neg h1]
    by_cases h2 : I 73 0 ≤ x
    · rw [if_pos h2, b2i_f (fun q => q.2 h2)]
    · rw [if_neg h2, b2i_t ⟨h1, h2⟩]
theorem s_isReach (N d : Nat) (x : Int32) (I : Nat → Nat → Int32) (J : Nat → Nat → Int64) (cd : Nat × Nat) : arun (N + 1000000) (d + 2) 169 [rv (some 87), iv x] (I, J, cd) = some (iv (b2i (¬ x < 0 ∧ ¬ I 87 10 - 1 < x)), (I, J, cd)) := by
  rw [enX10_isReach, sgX10_isReach_0, bI (s_in _ _ _ _ _ _)]
  try dsimp only
  simp only [b2i_0, b2i_1]
  by_cases h : ¬ x < 0 ∧ ¬ I 87 10 - 1 < x
  · rw [if_pos h, b2i_t h]
  · rw [if_neg h, if_pos h, b2i_f h]
theorem hr_b {n : Nat} {x v : Int32} (hv : v = nI n) (h : x < 0 ∨ nI n ≤ x) : ¬ (¬ x < 0 ∧ ¬ v ≤ x) := fun q => h.elim q.1 (fun z => q.2 (by rw [hv]; exact z))
theorem hr_o {n k : Nat} {v : Int32} (hv : v = nI n) (hn : n < 2 ^ 30) (h : k < n) : ¬ nI k < 0 ∧ ¬ v ≤ nI k := ⟨nI_pos (by omega), by rw [hv]; exact nI_ge h (by omega)⟩
theorem ir_b {n : Nat} {x v : Int32} (hv : v = nI n) (hn : n < 2 ^ 30) (h : x < 0 ∨ nI n ≤ x) : ¬ (¬ x < 0 ∧ ¬ v - 1 < x) := by rw [hv]; exact i_dec hn h
theorem ir_o {n k : Nat} {v : Int32} (hv : v = nI n) (hn : n < 2 ^ 30) (h : k < n) : ¬ nI k < 0 ∧ ¬ v - 1 < nI k := by rw [hv]; exact i_inc hn h
theorem s_isWeekdayO (N d : Nat) {k : Nat} (hk : k < 7) (A : AH) : arun (N + 1000000) (d + 1) 124 [iv (nI k)] A = some (iv 1, A) := by
  obtain ⟨I, J, cd⟩ := A
  rw [enX9_isWeekday, sgX9_isWeekday_0, if_neg (nI_pos (by omega)), if_neg (show ¬ (7 : Int32) ≤ nI k from nI_ge (b := 7) hk (by decide))]
theorem s_isWeekdayB (N d : Nat) {x : Int32} (h : x < 0 ∨ nI 7 ≤ x) (A : AH) : arun (N + 1000000) (d + 1) 124 [iv x] A = some (iv 0, A) := by
  obtain ⟨I, J, cd⟩ := A
  rw [enX9_isWeekday, sgX9_isWeekday_0]
  rcases h with h | h
  · rw [if_pos h]
  · rw [if_pos (show (7 : Int32) ≤ x from h)]
    split <;> rfl
theorem s_isVillageO (N d : Nat) {k : Nat} (hk : k < 7) (A : AH) : arun (N + 1000000) (d + 1) 125 [iv (nI k)] A = some (iv 1, A) := by
  obtain ⟨I, J, cd⟩ := A
  rw [enX9_isVillage, sgX9_isVillage_0, if_neg (nI_pos (by omega)), if_neg (show ¬ (7 : Int32) ≤ nI k from nI_ge (b := 7) hk (by decide))]
theorem s_isVillageB (N d : Nat) {x : Int32} (h : x < 0 ∨ nI 7 ≤ x) (A : AH) : arun (N + 1000000) (d + 1) 125 [iv x] A = some (iv 0, A) := by
  obtain ⟨I, J, cd⟩ := A
  rw [enX9_isVillage, sgX9_isVillage_0]
  rcases h with h | h
  · rw [if_pos h]
  · rw [if_pos (show (7 : Int32) ≤ x from h)]
    split <;> rfl
theorem b2_day {j : Nat} (hj : j < 7) : (¬ nI j < 0 ∧ ¬ (6 : Int32) < nI j) := ⟨nI_pos (by omega), nI_nlt (b := j) (a := 6) (by omega) (by omega)⟩
theorem b2_dayN {r : Int32} (h : r < 0 ∨ nI 7 ≤ r) : ¬ (¬ r < 0 ∧ ¬ (6 : Int32) < r) := fun q => h.elim q.1 (fun z => q.2 (i_le_lt (k := 6) (by decide) z))
theorem Rel.tell {I : Nat → Nat → Int32} {J : Nat → Nat → Int64} (h : Rel I J) (v : Int32) : Rel (wr (wr I 0 14 v) 87 2 v) J := by
  refine h.ofRows ⟨h.1.1, ?_⟩ ?_ ?_ ?_ ?_
  · intro q hq
    have := h.1.2 q hq
    unfold RRow at this ⊢
    simp only [wr_at, if_neg (show ¬ 9 = 87 by decide), if_neg (show ¬ 9 = 0 by decide), if_neg (show ¬ 89 = 87 by decide), if_neg (show ¬ 89 = 0 by decide), if_neg (show ¬ 90 = 87 by decide), if_neg (show ¬ 90 = 0 by decide), if_neg (show ¬ 3 + q = 87 by omega), if_neg (show ¬ 3 + q = 0 by omega)]
    exact this
  · intro q h1 h2 h3 h4 h5 h6
    rw [wr_at, if_neg h6, wr_at, if_neg h5]
  · intro q hq
    simp [wr_at, up1_at, hq]
  · intro q hq
    simp [wr_at, up1_at, hq]
  · simp [wr_at, up1_at]
theorem op_owns (v : Int32) : OK2 82 192 [iv v] := by
  intro N d I J h
  obtain ⟨P, ow, D, sh, vl, kp, KD, ksh, kvl, hP, how, hC, hDd, h0, hfl, hsea, hkp, h10, h18, h25, h32, hmr, hmw, hnt⟩ := h.2.2.2.2
  rcases ixc v 7 (by decide) with hr | ⟨j, hj, rfl⟩
  · refine ⟨iv (-1), I, J, I, J, ?_, ?_, h⟩
    · rw [enX9_owns, sgX9_owns_0, bI (s_isVillageB _ _ hr _)]
      try dsimp only
      rw [if_pos rfl]
    · rw [enX10_owns, sgX10_owns_0, bI (s_isDay _ _ _ _)]
      try dsimp only
      rw [if_pos (b2i_f (b2_dayN hr))]
  · refine ⟨iv (I 23 j), I, J, I, J, ?_, ?_, h⟩
    · rw [enX9_owns, sgX9_owns_0, bI (s_isVillageO _ _ hj _)]
      try dsimp only
      rw [if_neg n10, inb_t hj (by omega), nI_clamp (by omega), if_pos rfl]
    · rw [enX10_owns, sgX10_owns_0, bI (s_isDay _ _ _ _)]
      try dsimp only
      rw [if_neg (by rw [b2i_t (b2_day hj)]; exact n10), inb_t hj (by omega), nI_clamp (by omega), if_pos rfl, (hmw j hj).2.2, hsea j hj]
theorem op_gates : OK2 87 193 [] := by
  intro N d I J h
  obtain ⟨P, ow, D, sh, vl, kp, KD, ksh, kvl, hP, how, hC, hDd, h0, hfl, hsea, hkp, h10, h18, h25, h32, hmr, hmw, hnt⟩ := h.2.2.2.2
  refine ⟨iv (nI (gatN P)), I, J, I, J, ?_, ?_, h⟩
  · rw [enX9_gates, sgX9_gates_0, hC.2.1]
  · rw [enX10_gates, sgX10_gates_0, bI (s_gateSet _ _ hP.1 (fun i hi => (hP.2.1 i hi).1) _ _ _ h10 (fun i hi => (hmr i hi).1))]
    try dsimp only
    rfl
theorem mny {I : Nat → Nat → Int32} {c n : Nat} {k : Nat} (h : I c k = nI n) (hn : n ≤ 6) : (I c k = 0) = (n = 0) := by
  rw [h]
  exact neq (b := 0) (by omega) (by decide)
set_option maxHeartbeats 400000 in
theorem op_weekday (e w : Int32) : OK2 80 190 [iv e, iv w] := by
  intro N d I J h
  obtain ⟨P, ow, D, sh, vl, kp, KD, ksh, kvl, hP, how, hC, hDd, h0, hfl, hsea, hkp, h10, h18, h25, h32, hmr, hmw, hnt⟩ := h.2.2.2.2
  rcases ixc e 7 (by decide) with hr | ⟨j, hj, rfl⟩
  · refine ⟨iv (-1), I, J, I, J, ?_, ?_, h⟩
    · rw [enX9_weekday, sgX9_weekday_0, bI (s_isWeekdayB _ _ hr _)]
      try dsimp only
      rw [if_pos rfl]
    · rw [enX10_weekday, sgX10_weekday_0, bI (s_isDay _ _ _ _)]
      try dsimp only
      rw [if_pos (b2i_f (b2_dayN hr))]
  · rcases ixc w 2 (by decide) with hw | ⟨k, hk, rfl⟩
    · refine ⟨iv (-1), I, J, I, J, ?_, ?_, h⟩
      · rw [enX9_weekday, sgX9_weekday_0, bI (s_isWeekdayO _ _ hj _)]
        try dsimp only
        rw [if_neg n10]
        rcases hw with hw | hw
        · rw [if_pos hw]
        · rw [if_neg (show ¬ w ≤ 1 from i_nlt (k := 1) (by decide) hw)]
          split <;> rfl
      · rw [enX10_weekday, sgX10_weekday_0, bI (s_isDay _ _ _ _)]
        try dsimp only
        rw [if_neg (by rw [b2i_t (b2_day hj)]; exact n10), bI (s_in _ _ _ _ _ _)]
        try dsimp only
        rw [if_pos (b2i_f (fun q => hw.elim q.1 (fun z => q.2 (i_le_lt (k := 1) (by decide) z))))]
    · have hx : arun (N + 1000000) (d + 20) 80 [rv (some 0), iv (nI j), iv (nI k)] (I, J, 73, 80) = some (iv (if P.1 = 0 then -4 else if k = 0 then I 77 j else I 78 j), (I, J, 73, 80)) := by
        rw [enX9_weekday, sgX9_weekday_0, bI (s_isWeekdayO _ _ hj _)]
        try dsimp only
        rw [if_neg n10, if_neg (nI_pos (by omega)), if_pos (show nI k ≤ 1 from nI_le (b := 1) (by omega) (by decide)), if_pos (show okc 73 2 = true from rfl)]
        simp only [mny hC.1 hP.1]
        by_cases hz : P.1 = 0
        · rw [if_pos hz, if_pos hz]
        · rw [if_neg hz, if_neg hz]
          have ck : k = 0 ∨ k = 1 := by omega
          rcases ck with rfl | rfl
          · rw [if_pos (show nI 0 = 0 from rfl), if_pos (show okc 73 2 = true from rfl), show RF (73, 80) 73 7 = some 77 from rfl, Option.bind_some, show alen 0 77 = 7 from rfl, inb_t hj (by omega), nI_clamp (by omega), if_pos rfl, if_pos rfl]
          · rw [if_neg (show ¬ nI 1 = 0 by decide), if_pos (show okc 73 2 = true from rfl), show RF (73, 80) 73 8 = some 78 from rfl, Option.bind_some, show alen 0 78 = 7 from rfl, inb_t hj (by omega), nI_clamp (by omega), if_pos rfl, if_neg (by decide)]
      refine ⟨_, I, J, I, J, hx, ?_, h⟩
      rw [enX10_weekday, sgX10_weekday_0, bI (s_isDay _ _ _ _)]
      try dsimp only
      rw [if_neg (by rw [b2i_t (b2_day hj)]; exact n10), bI (s_in _ _ _ _ _ _)]
      try dsimp only
      rw [if_neg (by rw [b2i_t ⟨nI_pos (by omega), nI_nlt (b := k) (a := 1) (by omega) (by omega)⟩]; exact n10)]
      simp only [mny h10 hP.1]
      by_cases hz : P.1 = 0
      · rw [if_pos hz, if_pos hz]
      · rw [if_neg hz, if_neg hz]
        have ck : k = 0 ∨ k = 1 := by omega
        rcases ck with rfl | rfl
        · rw [if_pos (show nI 0 = 0 from rfl), inb_t hj (by omega), nI_clamp (by omega), if_pos rfl, if_pos rfl, (hmw j hj).1, (hC.2.2.2.2.1 j hj).1]
        · rw [if_neg (show ¬ nI 1 = 0 by decide), inb_t hj (by omega), nI_clamp (by omega), if_pos rfl, if_neg (by decide), (hmw j hj).2.1, (hC.2.2.2.2.1 j hj).2]
