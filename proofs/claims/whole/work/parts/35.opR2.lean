/-! rows and texts: making, laying, reading, tearing -/
theorem s_find1 (N d : Nat) (I : Nat → Nat → Int32) (J : Nat → Nat → Int64) : arun (N + 1000000) (d + 1) 115 [rv (some 0), iv 1] (I, J, 73, 80) = some (iv (-3), (xF I 1, J, 73, 80)) := s_find N d (f := 1) (by decide) I J
theorem s_meet1 (N d : Nat) (I : Nat → Nat → Int32) (J : Nat → Nat → Int64) (cd : Nat × Nat) : arun (N + 1000000) (d + 1) 138 [rv (some 87), iv 1] (I, J, cd) = some (iv (-3), (mF I 1, J, cd)) := s_meet N d (f := 1) (by decide) I J cd
theorem s_find2 (N d : Nat) (I : Nat → Nat → Int32) (J : Nat → Nat → Int64) : arun (N + 1000000) (d + 1) 115 [rv (some 0), iv 2] (I, J, 73, 80) = some (iv (-3), (xF I 2, J, 73, 80)) := s_find N d (f := 2) (by decide) I J
theorem s_meet2 (N d : Nat) (I : Nat → Nat → Int32) (J : Nat → Nat → Int64) (cd : Nat × Nat) : arun (N + 1000000) (d + 1) 138 [rv (some 87), iv 2] (I, J, cd) = some (iv (-3), (mF I 2, J, cd)) := s_meet N d (f := 2) (by decide) I J cd
theorem s_find3 (N d : Nat) (I : Nat → Nat → Int32) (J : Nat → Nat → Int64) : arun (N + 1000000) (d + 1) 115 [rv (some 0), iv 3] (I, J, 73, 80) = some (iv (-3), (xF I 3, J, 73, 80)) := s_find N d (f := 3) (by decide) I J
theorem s_meet3 (N d : Nat) (I : Nat → Nat → Int32) (J : Nat → Nat → Int64) (cd : Nat × Nat) : arun (N + 1000000) (d + 1) 138 [rv (some 87), iv 3] (I, J, cd) = some (iv (-3), (mF I 3, J, cd)) := s_meet N d (f := 3) (by decide) I J cd
theorem s_find4 (N d : Nat) (I : Nat → Nat → Int32) (J : Nat → Nat → Int64) : arun (N + 1000000) (d + 1) 115 [rv (some 0), iv 4] (I, J, 73, 80) = some (iv (-3), (xF I 4, J, 73, 80)) := s_find N d (f := 4) (by decide) I J
theorem s_meet4 (N d : Nat) (I : Nat → Nat → Int32) (J : Nat → Nat → Int64) (cd : Nat × Nat) : arun (N + 1000000) (d + 1) 138 [rv (some 87), iv 4] (I, J, cd) = some (iv (-3), (mF I 4, J, cd)) := s_meet N d (f := 4) (by decide) I J cd
theorem s_find5 (N d : Nat) (I : Nat → Nat → Int32) (J : Nat → Nat → Int64) : arun (N + 1000000) (d + 1) 115 [rv (some 0), iv 5] (I, J, 73, 80) = some (iv (-3), (xF I 5, J, 73, 80)) := s_find N d (f := 5) (by decide) I J
theorem s_meet5 (N d : Nat) (I : Nat → Nat → Int32) (J : Nat → Nat → Int64) (cd : Nat × Nat) : arun (N + 1000000) (d + 1) 138 [rv (some 87), iv 5] (I, J, cd) = some (iv (-3), (mF I 5, J, cd)) := s_meet N d (f := 5) (by decide) I J cd
theorem i_le_lt {k : Nat} {r : Int32} (hk : k + 1 < 2 ^ 31) (h : nI (k + 1) ≤ r) : nI k < r := by
  rw [Int32.lt_iff_toInt_lt, nI_toInt (by omega)]
  rw [Int32.le_iff_toInt_le, nI_toInt hk] at h
  omega
theorem i_nlt {k : Nat} {r : Int32} (hk : k + 1 < 2 ^ 31) (h : nI (k + 1) ≤ r) : ¬ r ≤ nI k := by
  have := i_le_lt hk h
  rw [Int32.lt_iff_toInt_lt] at this
  rw [Int32.le_iff_toInt_le]
  omega
theorem i_neg {r : Int32} (h : r < 0) : ¬ 0 ≤ r := by
  rw [Int32.lt_iff_toInt_lt, Int32.toInt_zero] at h
  rw [Int32.le_iff_toInt_le, Int32.toInt_zero]
  omega
theorem i_neg' {r : Int32} (h : r < 0) {k : Nat} (hk : k < 2 ^ 31) : r ≤ nI k := by
  rw [Int32.lt_iff_toInt_lt, Int32.toInt_zero] at h
  rw [Int32.le_iff_toInt_le, nI_toInt hk]
  omega
theorem RRow_upd {I B : Nat → Nat → Int32} {SC PB MC MB LIM CNT j : Nat} (h : ∀ k, k < CNT → RRow I SC PB MC MB LIM k) (hs : ∀ k, k ≠ j → B SC k = I SC k ∧ B MC k = I MC k) (hp : ∀ k, k < CNT → k ≠ j → B (PB + k) = I (PB + k)) (hm : ∀ k, k < CNT → k ≠ j → ∀ i, i < LIM → B MB (LIM * k + i) = I MB (LIM * k + i)) (hj : RRow B SC PB MC MB LIM j) : ∀ k, k < CNT → RRow B SC PB MC MB LIM k := by
  intro k hk
  by_cases e : k = j
  · rw [e]; exact hj
  · rcases h k hk with ⟨a, b⟩ | ⟨n, hn, a, b, c⟩
    · exact Or.inl ⟨(hs k e).1.trans a, (hs k e).2.trans b⟩
    · refine Or.inr ⟨n, hn, (hs k e).1.trans a, (hs k e).2.trans b, fun i hi => ?_⟩
      rw [hp k hk e, hm k hk e i (by omega)]
      exact c i hi
theorem Rel.ofRows {I B : Nat → Nat → Int32} {J : Nat → Nat → Int64} (h : Rel I J) (hR : RelR B) (e : ∀ a, (a < 3 ∨ 9 < a) → a ≠ 89 → a ≠ 90 → a ≠ 91 → a ≠ 0 → a ≠ 87 → B a = I a) (h0 : ∀ i, i ≠ 14 → B 0 i = I 0 i) (h87 : ∀ i, i ≠ 2 → B 87 i = I 87 i) (hA : B 0 14 = B 87 2) : Rel B J := by
  obtain ⟨-, hT, hF, hA0, hV⟩ := h
  refine ⟨hR, ⟨?_, ?_⟩, ⟨?_, ?_⟩, ⟨hA, hA0.2⟩, ?_⟩
  · rw [e 10 (by omega) (by omega) (by omega) (by omega) (by omega) (by omega)]; exact hT.1
  · intro j hj
    have := hT.2 j hj
    unfold RRow at this ⊢
    rw [e 16 (by omega) (by omega) (by omega) (by omega) (by omega) (by omega), e 92 (by omega) (by omega) (by omega) (by omega) (by omega) (by omega), e (12 + j) (by omega) (by omega) (by omega) (by omega) (by omega) (by omega), e 93 (by omega) (by omega) (by omega) (by omega) (by omega) (by omega)]
    exact this
  · rw [h0 13 (by omega), h87 0 (by omega)]; exact hF.1
  · rw [e 72 (by omega) (by omega) (by omega) (by omega) (by omega) (by omega), e 88 (by omega) (by omega) (by omega) (by omega) (by omega) (by omega)]
    exact hF.2
  · refine hV.ag ⟨fun a ha => ?_, h87 10 (by omega), h87 18 (by omega), h87 25 (by omega), h87 32 (by omega)⟩
    have k1 : ∀ b ∈ VC, 9 < b ∧ b ≠ 89 ∧ b ≠ 90 ∧ b ≠ 91 ∧ b ≠ 0 ∧ b ≠ 87 := by decide
    obtain ⟨q1, q2, q3, q4, q5, q6⟩ := k1 a ha
    exact e a (Or.inr q1) q2 q3 q4 q5 q6
theorem Rel.ofTexts {I B : Nat → Nat → Int32} {J : Nat → Nat → Int64} (h : Rel I J) (hT : RelT B) (e : ∀ a, (a < 12 ∨ 16 < a) → a ≠ 92 → a ≠ 93 → B a = I a) : Rel B J := by
  obtain ⟨hR, -, hF, hA0, hV⟩ := h
  refine ⟨⟨?_, ?_⟩, hT, ⟨?_, ?_⟩, ⟨?_, hA0.2⟩, ?_⟩
  · rw [e 1 (by omega) (by omega) (by omega)]; exact hR.1
  · intro j hj
    have := hR.2 j hj
    unfold RRow at this ⊢
    rw [e 9 (by omega) (by omega) (by omega), e 89 (by omega) (by omega) (by omega), e (3 + j) (by omega) (by omega) (by omega), e 90 (by omega) (by omega) (by omega)]
    exact this
  · rw [e 0 (by omega) (by omega) (by omega), e 87 (by omega) (by omega) (by omega)]; exact hF.1
  · rw [e 72 (by omega) (by omega) (by omega), e 88 (by omega) (by omega) (by omega)]
    exact hF.2
  · rw [e 0 (by omega) (by omega) (by omega), e 87 (by omega) (by omega) (by omega)]; exact hA0.1
  · have k1 : ∀ b ∈ VC, 16 < b ∧ b ≠ 92 ∧ b ≠ 93 := by decide
    refine hV.ag ⟨fun a ha => e a (Or.inr (k1 a ha).1) (k1 a ha).2.1 (k1 a ha).2.2, ?_, ?_, ?_, ?_⟩
    all_goals rw [e 87 (by omega) (by omega) (by omega)]
/-- n places from a on are v -/
def blkF (f : Nat → Int32) (a n : Nat) (v : Int32) : Nat → Int32 := fun i => if a ≤ i ∧ i < a + n then v else f i
theorem blkF_0 (f : Nat → Int32) (a : Nat) (v : Int32) : blkF f a 0 v = f := by
  funext i
  simp only [blkF]
  rw [if_neg (by omega)]
theorem blkF_s (f : Nat → Int32) (a n : Nat) (v : Int32) : up1 (blkF f a n v) (a + n) v = blkF f a (n + 1) v := by
  funext i
  simp only [up1, blkF]
  by_cases h : i = a + n
  · subst h; simp
  · by_cases h2 : a ≤ i ∧ i < a + n
    · rw [if_neg h, if_pos h2, if_pos (by omega)]
    · rw [if_neg h, if_neg h2, if_neg (by omega)]
-- the reference's places
theorem ix40 (j k : Nat) : (40 : Int32) * nI j + nI k = nI (40 * j + k) := by
  rw [show (40 : Int32) = nI 40 from rfl, pk_mul, nI_add]
theorem ix60 (j k : Nat) : (60 : Int32) * nI j + nI k = nI (60 * j + k) := by
  rw [show (60 : Int32) = nI 60 from rfl, pk_mul, nI_add]
theorem s_rowAt (N d : Nat) {j k : Nat} (hj : j < 6) (hk : k < 40) (I : Nat → Nat → Int32) (J : Nat → Nat → Int64) (cd : Nat × Nat) : arun (N + 1000000) (d + 1) 147 [rv (some 87), iv (nI j), iv (nI k)] (I, J, cd) = some (iv (I 90 (40 * j + k)), (I, J, cd)) := by
  rw [enX10_rowAt, sgX10_rowAt_0, ix40, inb_t (by omega) (by omega), nI_clamp (by omega)]
  rfl
theorem s_setRow (N d : Nat) {j k : Nat} (hj : j < 6) (hk : k < 40) (v : Int32) (I : Nat → Nat → Int32) (J : Nat → Nat → Int64) (cd : Nat × Nat) : arun (N + 1000000) (d + 1) 148 [rv (some 87), iv (nI j), iv (nI k), iv v] (I, J, cd) = some (rv none, (wr I 90 (40 * j + k) v, J, cd)) := by
  rw [enX10_setRow, sgX10_setRow_0, ix40, inb_t (by omega) (by omega), nI_clamp (by omega)]
  rfl
theorem b2_row {j : Nat} (hj : j < 6) : (¬ nI j < 0 ∧ ¬ (5 : Int32) < nI j) := ⟨nI_pos (by omega), nI_nlt (b := j) (a := 5) (by omega) (by omega)⟩
theorem b2_rowN {r : Int32} (h : r < 0 ∨ nI 6 ≤ r) : ¬ (¬ r < 0 ∧ ¬ (5 : Int32) < r) := fun q => h.elim q.1 (fun z => q.2 (i_le_lt (k := 5) (by decide) z))
theorem b2_text {j : Nat} (hj : j < 4) : (¬ nI j < 0 ∧ ¬ (3 : Int32) < nI j) := ⟨nI_pos (by omega), nI_nlt (b := j) (a := 3) (by omega) (by omega)⟩
theorem b2_textN {r : Int32} (h : r < 0 ∨ nI 4 ≤ r) : ¬ (¬ r < 0 ∧ ¬ (3 : Int32) < r) := fun q => h.elim q.1 (fun z => q.2 (i_le_lt (k := 3) (by decide) z))
theorem ixc (r : Int32) (n : Nat) (hn : n < 2 ^ 31) : (r < 0 ∨ nI n ≤ r) ∨ ∃ j, j < n ∧ r = nI j := by
  rcases pk_ix r hn with h | h | h
  · exact Or.inl (Or.inl h)
  · exact Or.inl (Or.inr h)
  · exact Or.inr h
set_option maxHeartbeats 200000 in
theorem l_mrow (N d : Nat) {j : Nat} (hj : j < 6) (x2 : Int32) (I : Nat → Nat → Int32) (J : Nat → Nat → Int64) (cd : Nat × Nat) : ∀ (m k f : Nat), k + m = 40 → m < f → EX10_row (N + 1000000) (d + 1) f 34 [some (rv (some 87)), some (iv (nI j)), some (iv x2), some (iv (nI k))] (wrC I 90 (blkF (I 90) (40 * j) k 0), J, cd) = some (iv x2, (wrC I 90 (blkF (I 90) (40 * j) 40 0), J, cd)) := by
  intro m
  induction m with
  | zero =>
    intro k f hk hf
    obtain ⟨g, rfl⟩ : ∃ g, f = g + 1 := ⟨f - 1, by omega⟩
    have : k = 40 := by omega
    subst this
    rw [sgX10_row_34, if_pos (by decide)]
  | succ m ih =>
    intro k f hk hf
    obtain ⟨g, rfl⟩ : ∃ g, f = g + 1 := ⟨f - 1, by omega⟩
    rw [sgX10_row_34, if_neg (show ¬ (40 : Int32) ≤ nI k from nI_ge (b := 40) (by omega) (by decide)), bV (s_setRow _ _ hj (by omega) _ _ _ _)]
    try dsimp only
    rw [wr_wrC, blkF_s, nI_1]
    exact ih (k + 1) g (by omega) (by omega)
set_option maxHeartbeats 400000 in
theorem op_row (r n : Int32) : OK2 68 149 [iv r, iv n] := by
  intro N d I J h
  rcases ixc r 6 (by decide) with hr | ⟨j, hj, rfl⟩
  · refine ⟨iv (-1), I, J, I, J, ?_, ?_, h⟩
    · rw [enX9_row, sgX9_row_0, bI (x := -1) (B := (I, J, 73, 80))]
      rw [enX9_makeAnew, sgX9_makeAnew_1_0, bI (s_isOneN_1 _ _ hr _)]
      try dsimp only
      rw [if_pos rfl]
    · rw [enX10_row, sgX10_row_0, bI (s_isRow _ _ _ _)]
      try dsimp only
      rw [if_pos (b2i_f (b2_rowN hr))]
  · have hlim := h.1.1
    rcases pk_ix n (n := 41) (by decide) with hn | hn | ⟨k, hk, rfl⟩
    · refine ⟨iv (-3), xF I 5, J, mF (xF I 5) 5, J, ?_, ?_, h.find (by decide)⟩
      · rw [enX9_row, sgX9_row_0, bI (x := -3) (B := (xF I 5, J, 73, 80))]
        rw [enX9_makeAnew, sgX9_makeAnew_1_0, bI (s_isOne_1 _ _ hj _)]
        try dsimp only
        rw [if_neg n10, if_pos (by rw [hlim]; exact i_neg' hn (by decide)), if_neg (i_neg hn), bI (s_find5 _ _ _ _)]
        try dsimp only
      · rw [enX10_row, sgX10_row_0, bI (s_isRow _ _ _ _)]
        try dsimp only
        rw [if_neg (by rw [b2i_t (b2_row hj)]; decide), if_pos (show n ≤ 40 from i_neg' hn (k := 40) (by decide)), if_neg (i_neg hn), bI (s_meet5 _ _ _ _ _)]
        try dsimp only
    · refine ⟨iv (-1), I, J, I, J, ?_, ?_, h⟩
      · rw [enX9_row, sgX9_row_0, bI (x := -1) (B := (I, J, 73, 80))]
        rw [enX9_makeAnew, sgX9_makeAnew_1_0, bI (s_isOne_1 _ _ hj _)]
        try dsimp only
        rw [if_neg n10, if_neg (by rw [hlim]; exact i_nlt (by decide) hn)]
      · rw [enX10_row, sgX10_row_0, bI (s_isRow _ _ _ _)]
        try dsimp only
        rw [if_neg (by rw [b2i_t (b2_row hj)]; decide), if_neg (show ¬ n ≤ 40 from i_nlt (k := 40) (by decide) hn)]
    · refine ⟨iv (nI k), wrC (wr I 9 j (nI k)) (3 + j) (fillF (I (3 + j)) k 0), J, wrC (wr (wrC (wr I 9 j (nI k)) (3 + j) (fillF (I (3 + j)) k 0)) 89 j (nI k)) 90 (blkF (I 90) (40 * j) 40 0), J, ?_, ?_, ?_⟩
      · rw [enX9_row, sgX9_row_0, bI (x := nI k) (B := (wrC (wr I 9 j (nI k)) (3 + j) (fillF (I (3 + j)) k 0), J, 73, 80))]
        rw [enX9_makeAnew, sgX9_makeAnew_1_0, bI (s_isOne_1 _ _ hj _)]
        try dsimp only
        rw [if_neg n10, if_pos (by rw [hlim]; exact nI_le (by omega) (by decide)), if_pos (show 0 ≤ nI k from nI_pos' (by omega)), bV (s_make_1 _ _ hj (by omega) _ _ _ _ hlim)]
        try dsimp only
      · have e9 : ∀ X : Nat → Nat → Int32, X = wr (wrC (wr I 9 j (nI k)) (3 + j) (fillF (I (3 + j)) k 0)) 89 j (nI k) → X 90 = I 90 := by
          intro X hX
          rw [hX, wr_at, if_neg (by decide), wrC_at, if_neg (by omega), wr_at, if_neg (by decide)]
        rw [enX10_row, sgX10_row_0, bI (s_isRow _ _ _ _)]
        try dsimp only
        rw [if_neg (by rw [b2i_t (b2_row hj)]; decide), if_pos (show nI k ≤ 40 from nI_le (b := 40) (by omega) (by decide)), if_pos (show 0 ≤ nI k from nI_pos' (by omega)), inb_t hj (by omega), nI_clamp (by omega), if_pos rfl]
        have l := l_mrow N (d + 18) hj (nI k) (wr (wrC (wr I 9 j (nI k)) (3 + j) (fillF (I (3 + j)) k 0)) 89 j (nI k)) J (73, 80) 40 0 (N + 999999) (by omega) (by omega)
        rw [blkF_0, wrC_id, e9 _ rfl] at l
        exact l
      · refine h.ofRows ⟨?_, ?_⟩ ?_ ?_ ?_ ?_
        · simp [wrC_at, wr_at]
          rw [if_neg (by omega)]
          exact hlim
        · refine RRow_upd h.1.2 (j := j) ?_ ?_ ?_ (Or.inr ⟨k, by omega, ?_, ?_, ?_⟩)
          · intro q hq
            simp [wrC_at, wr_at, up1_at, hq, show ¬ 9 = 3 + j by omega, show ¬ 89 = 3 + j by omega]
          · intro q hq hqj
            simp [wrC_at, wr_at, show ¬ 3 + q = 90 by omega, show ¬ 3 + q = 89 by omega, show ¬ 3 + q = 9 by omega, show ¬ 3 + q = 3 + j by omega, hqj]
          · intro q hq hqj i hi
            simp only [wrC_at, blkF, if_pos]
            rw [if_neg (by omega)]
          · simp [wrC_at, wr_at, up1_at, show ¬ 9 = 3 + j by omega]
          · simp [wrC_at, wr_at, up1_at]
          · intro i hi
            simp [wrC_at, wr_at, blkF, fillF, show ¬ 3 + j = 90 by omega, show ¬ 3 + j = 89 by omega, hi, show i < 40 by omega]
        · intro a h1 h2 h3 h4 h5 h6
          simp [wrC_at, wr_at, h2, h3, show ¬ a = 3 + j by omega, show ¬ a = 9 by omega]
        · intro i hi
          simp [wrC_at, wr_at, show ¬ 0 = 3 + j by omega]
        · intro i hi
          simp [wrC_at, wr_at, show ¬ 87 = 3 + j by omega]
        · have := h.2.2.2.1.1
          simp [wrC_at, wr_at, show ¬ 0 = 3 + j by omega, show ¬ 87 = 3 + j by omega]
          exact this
