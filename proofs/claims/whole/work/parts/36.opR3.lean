/-! rows and texts: at, lay, put, tear, text -/
theorem i_dec {n : Nat} (hn : n < 2 ^ 30) {i : Int32} (h : i < 0 ∨ nI n ≤ i) : ¬ (¬ i < 0 ∧ ¬ nI n - 1 < i) := by
  rintro ⟨h1, h2⟩
  rcases h with h | h
  · exact h1 h
  · apply h2
    rw [Int32.lt_iff_toInt_lt, show (nI n - 1).toInt = (n : Int) - 1 from pk_sub_toInt (b := 1) (by omega) (by decide)]
    rw [Int32.le_iff_toInt_le, nI_toInt (by omega)] at h
    omega
theorem i_inc {n k : Nat} (hn : n < 2 ^ 30) (hk : k < n) : (¬ nI k < 0 ∧ ¬ nI n - 1 < nI k) := by
  refine ⟨nI_pos (by omega), fun q => ?_⟩
  rw [Int32.lt_iff_toInt_lt, show (nI n - 1).toInt = (n : Int) - 1 from pk_sub_toInt (b := 1) (by omega) (by decide), nI_toInt (by omega)] at q
  omega
theorem n00 : ¬ (-1 : Int32) = 0 := by decide
theorem n30 : ¬ (-3 : Int32) = 0 := by decide
theorem m1n : ¬ (0 : Int32) ≤ -1 := by decide
theorem m3n : ¬ (0 : Int32) ≤ -3 := by decide
theorem m9n : ¬ (0 : Int32) ≤ -9 := by decide
theorem n1n (n : Nat) (h : n < 2 ^ 31) : ¬ nI n = -1 := fun q => by
  have := congrArg Int32.toInt q
  rw [nI_toInt h] at this
  have e : (-1 : Int32).toInt = -1 := by decide
  omega

theorem x_missB_1 (N d : Nat) {r : Int32} (h : r < 0 ∨ nI 6 ≤ r) (I : Nat → Nat → Int32) (J : Nat → Nat → Int64) : arun (N + 1000000) (d + 3) 117 [rv (some 0), rv (some 1), iv r] (I, J, 73, 80) = some (iv (-1), (I, J, 73, 80)) := by
  rw [enX9_refuseMissing, sgX9_refuseMissing_1_0, bI (s_isOneN_1 _ _ h _)]
  try dsimp only
  rw [if_pos rfl]
theorem x_missN_1 (N d : Nat) {j : Nat} (hj : j < 6) (I : Nat → Nat → Int32) (J : Nat → Nat → Int64) (h : I 9 j = -1) : arun (N + 1000000) (d + 3) 117 [rv (some 0), rv (some 1), iv (nI j)] (I, J, 73, 80) = some (iv (-3), (xF I 1, J, 73, 80)) := by
  rw [enX9_refuseMissing, sgX9_refuseMissing_1_0, bI (s_isOne_1 _ _ hj _)]
  try dsimp only
  rw [if_neg n10, bI (s_isThere_1 _ _ hj _ _ _)]
  try dsimp only
  rw [if_pos (b2i_f (fun q => q h)), bI (s_find1 _ _ _ _)]
  try dsimp only
theorem x_missO_1 (N d : Nat) {j n : Nat} (hj : j < 6) (I : Nat → Nat → Int32) (J : Nat → Nat → Int64) (h : I 9 j = nI n) (hn : n ≤ 40) : arun (N + 1000000) (d + 3) 117 [rv (some 0), rv (some 1), iv (nI j)] (I, J, 73, 80) = some (iv 0, (I, J, 73, 80)) := by
  rw [enX9_refuseMissing, sgX9_refuseMissing_1_0, bI (s_isOne_1 _ _ hj _)]
  try dsimp only
  rw [if_neg n10, bI (s_isThere_1 _ _ hj _ _ _)]
  try dsimp only
  rw [if_neg (by rw [b2i_t (by rw [h]; exact n1n n (by omega))]; exact n10)]
theorem x_placeB_1 (N d : Nat) {r : Int32} (i : Int32) (h : r < 0 ∨ nI 6 ≤ r) (I : Nat → Nat → Int32) (J : Nat → Nat → Int64) : arun (N + 1000000) (d + 4) 118 [rv (some 0), rv (some 1), iv r, iv i] (I, J, 73, 80) = some (iv (-1), (I, J, 73, 80)) := by
  rw [enX9_refusePlace, sgX9_refusePlace_1_0, bI (x_missB_1 _ _ h _ _)]
  try dsimp only
  rw [if_neg n00]
theorem x_placeN_1 (N d : Nat) {j : Nat} (i : Int32) (hj : j < 6) (I : Nat → Nat → Int32) (J : Nat → Nat → Int64) (h : I 9 j = -1) : arun (N + 1000000) (d + 4) 118 [rv (some 0), rv (some 1), iv (nI j), iv i] (I, J, 73, 80) = some (iv (-3), (xF I 1, J, 73, 80)) := by
  rw [enX9_refusePlace, sgX9_refusePlace_1_0, bI (x_missN_1 _ _ hj _ _ h)]
  try dsimp only
  rw [if_neg n30]
theorem x_placeP_1 (N d : Nat) {j n : Nat} {i : Int32} (hj : j < 6) (I : Nat → Nat → Int32) (J : Nat → Nat → Int64) (h : I 9 j = nI n) (hn : n ≤ 40) (hi : i < 0 ∨ nI n ≤ i) : arun (N + 1000000) (d + 4) 118 [rv (some 0), rv (some 1), iv (nI j), iv i] (I, J, 73, 80) = some (iv (-3), (xF I 2, J, 73, 80)) := by
  rw [enX9_refusePlace, sgX9_refusePlace_1_0, bI (x_missO_1 _ _ hj _ _ h hn)]
  try dsimp only
  rw [if_pos rfl, bI (s_holds_1 _ _ hj _ _ _ _)]
  try dsimp only
  rw [if_pos (b2i_f (fun q => hi.elim q.1 (fun z => q.2 (by rw [h]; exact z)))), bI (s_find2 _ _ _ _)]
  try dsimp only
theorem x_placeO_1 (N d : Nat) {j n k : Nat} (hj : j < 6) (I : Nat → Nat → Int32) (J : Nat → Nat → Int64) (h : I 9 j = nI n) (hn : n ≤ 40) (hk : k < n) : arun (N + 1000000) (d + 4) 118 [rv (some 0), rv (some 1), iv (nI j), iv (nI k)] (I, J, 73, 80) = some (iv 0, (I, J, 73, 80)) := by
  rw [enX9_refusePlace, sgX9_refusePlace_1_0, bI (x_missO_1 _ _ hj _ _ h hn)]
  try dsimp only
  rw [if_pos rfl, bI (s_holdsT_1 _ _ hj _ _ _ h hn hk)]
  try dsimp only
  rw [if_neg n10]
theorem m_askB_1 (N d : Nat) {r : Int32} (h : r < 0 ∨ nI 6 ≤ r) (I : Nat → Nat → Int32) (J : Nat → Nat → Int64) (cd : Nat × Nat) : arun (N + 1000000) (d + 3) 145 [rv (some 87), iv r] (I, J, cd) = some (iv (-1), (I, J, cd)) := by
  rw [enX10_askedRow, sgX10_askedRow_0, bI (s_isRow _ _ _ _)]
  try dsimp only
  rw [if_pos (b2i_f (b2_rowN h))]
theorem m_askN_1 (N d : Nat) {j : Nat} (hj : j < 6) (I : Nat → Nat → Int32) (J : Nat → Nat → Int64) (cd : Nat × Nat) (h : I 89 j = -9) : arun (N + 1000000) (d + 3) 145 [rv (some 87), iv (nI j)] (I, J, cd) = some (iv (-3), (mF I 1, J, cd)) := by
  rw [enX10_askedRow, sgX10_askedRow_0, bI (s_isRow _ _ _ _)]
  try dsimp only
  rw [if_neg (by rw [b2i_t (b2_row hj)]; exact n10), inb_t hj (by omega), nI_clamp (by omega), if_pos rfl, if_neg (by rw [h]; exact m9n), bI (s_meet1 _ _ _ _ _)]
  try dsimp only
theorem m_askO_1 (N d : Nat) {j n : Nat} (hj : j < 6) (I : Nat → Nat → Int32) (J : Nat → Nat → Int64) (cd : Nat × Nat) (h : I 89 j = nI n) (hn : n ≤ 40) : arun (N + 1000000) (d + 3) 145 [rv (some 87), iv (nI j)] (I, J, cd) = some (iv 0, (I, J, cd)) := by
  rw [enX10_askedRow, sgX10_askedRow_0, bI (s_isRow _ _ _ _)]
  try dsimp only
  rw [if_neg (by rw [b2i_t (b2_row hj)]; exact n10), inb_t hj (by omega), nI_clamp (by omega), if_pos rfl, if_pos (by rw [h]; exact nI_pos' (by omega))]

theorem x_missB_10 (N d : Nat) {r : Int32} (h : r < 0 ∨ nI 4 ≤ r) (I : Nat → Nat → Int32) (J : Nat → Nat → Int64) : arun (N + 1000000) (d + 3) 117 [rv (some 0), rv (some 10), iv r] (I, J, 73, 80) = some (iv (-1), (I, J, 73, 80)) := by
  rw [enX9_refuseMissing, sgX9_refuseMissing_10_0, bI (s_isOneN_10 _ _ h _)]
  try dsimp only
  rw [if_pos rfl]
theorem x_missN_10 (N d : Nat) {j : Nat} (hj : j < 4) (I : Nat → Nat → Int32) (J : Nat → Nat → Int64) (h : I 16 j = -1) : arun (N + 1000000) (d + 3) 117 [rv (some 0), rv (some 10), iv (nI j)] (I, J, 73, 80) = some (iv (-3), (xF I 1, J, 73, 80)) := by
  rw [enX9_refuseMissing, sgX9_refuseMissing_10_0, bI (s_isOne_10 _ _ hj _)]
  try dsimp only
  rw [if_neg n10, bI (s_isThere_10 _ _ hj _ _ _)]
  try dsimp only
  rw [if_pos (b2i_f (fun q => q h)), bI (s_find1 _ _ _ _)]
  try dsimp only
theorem x_missO_10 (N d : Nat) {j n : Nat} (hj : j < 4) (I : Nat → Nat → Int32) (J : Nat → Nat → Int64) (h : I 16 j = nI n) (hn : n ≤ 60) : arun (N + 1000000) (d + 3) 117 [rv (some 0), rv (some 10), iv (nI j)] (I, J, 73, 80) = some (iv 0, (I, J, 73, 80)) := by
  rw [enX9_refuseMissing, sgX9_refuseMissing_10_0, bI (s_isOne_10 _ _ hj _)]
  try dsimp only
  rw [if_neg n10, bI (s_isThere_10 _ _ hj _ _ _)]
  try dsimp only
  rw [if_neg (by rw [b2i_t (by rw [h]; exact n1n n (by omega))]; exact n10)]
theorem x_placeB_10 (N d : Nat) {r : Int32} (i : Int32) (h : r < 0 ∨ nI 4 ≤ r) (I : Nat → Nat → Int32) (J : Nat → Nat → Int64) : arun (N + 1000000) (d + 4) 118 [rv (some 0), rv (some 10), iv r, iv i] (I, J, 73, 80) = some (iv (-1), (I, J, 73, 80)) := by
  rw [enX9_refusePlace, sgX9_refusePlace_10_0, bI (x_missB_10 _ _ h _ _)]
  try dsimp only
  rw [if_neg n00]
theorem x_placeN_10 (N d : Nat) {j : Nat} (i : Int32) (hj : j < 4) (I : Nat → Nat → Int32) (J : Nat → Nat → Int64) (h : I 16 j = -1) : arun (N + 1000000) (d + 4) 118 [rv (some 0), rv (some 10), iv (nI j), iv i] (I, J, 73, 80) = some (iv (-3), (xF I 1, J, 73, 80)) := by
  rw [enX9_refusePlace, sgX9_refusePlace_10_0, bI (x_missN_10 _ _ hj _ _ h)]
  try dsimp only
  rw [if_neg n30]
theorem x_placeP_10 (N d : Nat) {j n : Nat} {i : Int32} (hj : j < 4) (I : Nat → Nat → Int32) (J : Nat → Nat → Int64) (h : I 16 j = nI n) (hn : n ≤ 60) (hi : i < 0 ∨ nI n ≤ i) : arun (N + 1000000) (d + 4) 118 [rv (some 0), rv (some 10), iv (nI j), iv i] (I, J, 73, 80) = some (iv (-3), (xF I 2, J, 73, 80)) := by
  rw [enX9_refusePlace, sgX9_refusePlace_10_0, bI (x_missO_10 _ _ hj _ _ h hn)]
  try dsimp only
  rw [if_pos rfl, bI (s_holds_10 _ _ hj _ _ _ _)]
  try dsimp only
  rw [if_pos (b2i_f (fun q => hi.elim q.1 (fun z => q.2 (by rw [h]; exact z)))), bI (s_find2 _ _ _ _)]
  try dsimp only
theorem x_placeO_10 (N d : Nat) {j n k : Nat} (hj : j < 4) (I : Nat → Nat → Int32) (J : Nat → Nat → Int64) (h : I 16 j = nI n) (hn : n ≤ 60) (hk : k < n) : arun (N + 1000000) (d + 4) 118 [rv (some 0), rv (some 10), iv (nI j), iv (nI k)] (I, J, 73, 80) = some (iv 0, (I, J, 73, 80)) := by
  rw [enX9_refusePlace, sgX9_refusePlace_10_0, bI (x_missO_10 _ _ hj _ _ h hn)]
  try dsimp only
  rw [if_pos rfl, bI (s_holdsT_10 _ _ hj _ _ _ h hn hk)]
  try dsimp only
  rw [if_neg n10]
theorem m_askB_10 (N d : Nat) {r : Int32} (h : r < 0 ∨ nI 4 ≤ r) (I : Nat → Nat → Int32) (J : Nat → Nat → Int64) (cd : Nat × Nat) : arun (N + 1000000) (d + 3) 146 [rv (some 87), iv r] (I, J, cd) = some (iv (-1), (I, J, cd)) := by
  rw [enX10_askedText, sgX10_askedText_0, bI (s_isText _ _ _ _)]
  try dsimp only
  rw [if_pos (b2i_f (b2_textN h))]
theorem m_askN_10 (N d : Nat) {j : Nat} (hj : j < 4) (I : Nat → Nat → Int32) (J : Nat → Nat → Int64) (cd : Nat × Nat) (h : I 92 j = -9) : arun (N + 1000000) (d + 3) 146 [rv (some 87), iv (nI j)] (I, J, cd) = some (iv (-3), (mF I 1, J, cd)) := by
  rw [enX10_askedText, sgX10_askedText_0, bI (s_isText _ _ _ _)]
  try dsimp only
  rw [if_neg (by rw [b2i_t (b2_text hj)]; exact n10), inb_t hj (by omega), nI_clamp (by omega), if_pos rfl, if_neg (by rw [h]; exact m9n), bI (s_meet1 _ _ _ _ _)]
  try dsimp only
theorem m_askO_10 (N d : Nat) {j n : Nat} (hj : j < 4) (I : Nat → Nat → Int32) (J : Nat → Nat → Int64) (cd : Nat × Nat) (h : I 92 j = nI n) (hn : n ≤ 60) : arun (N + 1000000) (d + 3) 146 [rv (some 87), iv (nI j)] (I, J, cd) = some (iv 0, (I, J, cd)) := by
  rw [enX10_askedText, sgX10_askedText_0, bI (s_isText _ _ _ _)]
  try dsimp only
  rw [if_neg (by rw [b2i_t (b2_text hj)]; exact n10), inb_t hj (by omega), nI_clamp (by omega), if_pos rfl, if_pos (by rw [h]; exact nI_pos' (by omega))]

theorem xF_at {I : Nat → Nat → Int32} {f a : Nat} (h1 : a ≠ 0) (h2 : a ≠ 72) : xF I f a = I a := by
  unfold xF
  rw [wr_at, if_neg h2, wr_at, if_neg h1]
set_option maxHeartbeats 400000 in
theorem op_at (r i : Int32) : OK2 70 150 [iv r, iv i] := by
  intro N d I J h
  rcases ixc r 6 (by decide) with hr | ⟨j, hj, rfl⟩
  · refine ⟨iv (-1), I, J, I, J, ?_, ?_, h⟩
    · rw [enX9_at, sgX9_at_0, bI (x_placeB_1 _ _ _ hr _ _)]
      try dsimp only
      rw [if_neg n00]
    · rw [enX10_at, sgX10_at_0, bI (m_askB_1 _ _ hr _ _ _)]
      try dsimp only
      rw [if_neg m1n]
  · rcases h.1.2 j hj with ⟨a, b⟩ | ⟨n, hn, a, b, c⟩
    · refine ⟨iv (-3), xF I 1, J, mF (xF I 1) 1, J, ?_, ?_, h.find (by decide)⟩
      · rw [enX9_at, sgX9_at_0, bI (x_placeN_1 _ _ _ hj _ _ a)]
        try dsimp only
        rw [if_neg n30]
      · rw [enX10_at, sgX10_at_0, bI (m_askN_1 _ _ hj _ _ _ (by rw [xF_at (by decide) (by decide)]; exact b))]
        try dsimp only
        rw [if_neg m3n]
    · rcases ixc i n (by omega) with hi | ⟨k, hk, rfl⟩
      · refine ⟨iv (-3), xF I 2, J, mF (xF I 2) 2, J, ?_, ?_, h.find (by decide)⟩
        · rw [enX9_at, sgX9_at_0, bI (x_placeP_1 _ _ hj _ _ a hn hi)]
          try dsimp only
          rw [if_neg n30]
        · have b' : xF I 2 89 j = nI n := by rw [xF_at (by decide) (by decide)]; exact b
          rw [enX10_at, sgX10_at_0, bI (m_askO_1 _ _ hj _ _ _ b' hn)]
          try dsimp only
          rw [if_pos (by decide), inb_t hj (by omega), nI_clamp (by omega), if_pos rfl, b', bI (s_in _ _ _ _ _ _)]
          try dsimp only
          rw [if_pos (b2i_f (i_dec (by omega) hi)), bI (s_meet2 _ _ _ _ _)]
          try dsimp only
      · refine ⟨iv 1, wr I 0 14 (I (3 + j) k), J, wr (wr I 0 14 (I (3 + j) k)) 87 2 (I (3 + j) k), J, ?_, ?_, ?_⟩
        · rw [enX9_at, sgX9_at_0, bI (x_placeO_1 _ _ hj _ _ a hn hk)]
          try dsimp only
          rw [if_pos rfl, bI (s_valueAt_1 _ _ hj _ _ _ a hn hk)]
          try dsimp only
          rw [bI (s_tell _ _ _ _ _)]
          try dsimp only
        · have b' : wr I 0 14 (I (3 + j) k) 89 j = nI n := by rw [wr_at, if_neg (by decide)]; exact b
          have c' : wr I 0 14 (I (3 + j) k) 90 (40 * j + k) = I (3 + j) k := by rw [wr_at, if_neg (by decide)]; exact (c k hk).symm
          rw [enX10_at, sgX10_at_0, bI (m_askO_1 _ _ hj _ _ _ b' hn)]
          try dsimp only
          rw [if_pos (by decide), inb_t hj (by omega), nI_clamp (by omega), if_pos rfl, b', bI (s_in _ _ _ _ _ _)]
          try dsimp only
          rw [if_neg (by rw [b2i_t (i_inc (by omega) hk)]; exact n10), bI (s_rowAt _ _ hj (by omega) _ _ _)]
          try dsimp only
          rw [bI (s_ask _ _ _ _ _ _ _)]
          try dsimp only
          rw [c']
        · refine h.ofRows ⟨?_, ?_⟩ ?_ ?_ ?_ ?_
          · exact h.1.1
          · intro q hq
            have := h.1.2 q hq
            unfold RRow at this ⊢
            simp only [wr_at, if_neg (show ¬ 9 = 87 by decide), if_neg (show ¬ 9 = 0 by decide), if_neg (show ¬ 89 = 87 by decide), if_neg (show ¬ 89 = 0 by decide), if_neg (show ¬ 90 = 87 by decide), if_neg (show ¬ 90 = 0 by decide), if_neg (show ¬ 3 + q = 87 by omega), if_neg (show ¬ 3 + q = 0 by omega)]
            exact this
          · intro q h1 h2 h3 h4 h5 h6
            rw [wr_at, if_neg h6, wr_at, if_neg h5]
          · intro q hq
            simp [wr_at, up1_at, hq]
          · intro q hq
            simp [wr_at, up1_at, hq]
          · simp [wr_at, up1_at]
