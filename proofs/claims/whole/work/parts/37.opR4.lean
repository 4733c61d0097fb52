/-! rows and texts: lay, put, tear, text; what is told -/
theorem m_atB (N d : Nat) {r : Int32} (i : Int32) (hr : r < 0 ∨ nI 6 ≤ r) (I : Nat → Nat → Int32) (J : Nat → Nat → Int64) (cd : Nat × Nat) : arun (N + 1000000) (d + 4) 150 [rv (some 87), iv r, iv i] (I, J, cd) = some (iv (-1), (I, J, cd)) := by
  rw [enX10_at, sgX10_at_0, bI (m_askB_1 _ _ hr _ _ _)]
  try dsimp only
  rw [if_neg m1n]
theorem m_atN (N d : Nat) {j : Nat} (i : Int32) (hj : j < 6) (I : Nat → Nat → Int32) (J : Nat → Nat → Int64) (cd : Nat × Nat) (b : I 89 j = -9) : arun (N + 1000000) (d + 4) 150 [rv (some 87), iv (nI j), iv i] (I, J, cd) = some (iv (-3), (mF I 1, J, cd)) := by
  rw [enX10_at, sgX10_at_0, bI (m_askN_1 _ _ hj _ _ _ b)]
  try dsimp only
  rw [if_neg m3n]
theorem m_atP (N d : Nat) {j n : Nat} {i : Int32} (hj : j < 6) (I : Nat → Nat → Int32) (J : Nat → Nat → Int64) (cd : Nat × Nat) (b : I 89 j = nI n) (hn : n ≤ 40) (hi : i < 0 ∨ nI n ≤ i) : arun (N + 1000000) (d + 4) 150 [rv (some 87), iv (nI j), iv i] (I, J, cd) = some (iv (-3), (mF I 2, J, cd)) := by
  rw [enX10_at, sgX10_at_0, bI (m_askO_1 _ _ hj _ _ _ b hn)]
  try dsimp only
  rw [if_pos (by decide), inb_t hj (by omega), nI_clamp (by omega), if_pos rfl, b, bI (s_in _ _ _ _ _ _)]
  try dsimp only
  rw [if_pos (b2i_f (i_dec (by omega) hi)), bI (s_meet2 _ _ _ _ _)]
  try dsimp only
theorem m_atO (N d : Nat) {j n k : Nat} (hj : j < 6) (I : Nat → Nat → Int32) (J : Nat → Nat → Int64) (cd : Nat × Nat) (b : I 89 j = nI n) (hn : n ≤ 40) (hk : k < n) : arun (N + 1000000) (d + 4) 150 [rv (some 87), iv (nI j), iv (nI k)] (I, J, cd) = some (iv 1, (wr I 87 2 (I 90 (40 * j + k)), J, cd)) := by
  rw [enX10_at, sgX10_at_0, bI (m_askO_1 _ _ hj _ _ _ b hn)]
  try dsimp only
  rw [if_pos (by decide), inb_t hj (by omega), nI_clamp (by omega), if_pos rfl, b, bI (s_in _ _ _ _ _ _)]
  try dsimp only
  rw [if_neg (by rw [b2i_t (i_inc (by omega) hk)]; exact n10), bI (s_rowAt _ _ hj (by omega) _ _ _)]
  try dsimp only
  rw [bI (s_ask _ _ _ _ _ _ _)]
  try dsimp only
set_option maxHeartbeats 400000 in
theorem op_lay (r i v : Int32) : OK2 69 151 [iv r, iv i, iv v] := by
  intro N d I J h
  rcases ixc r 6 (by decide) with hr | ⟨j, hj, rfl⟩
  · refine ⟨iv (-1), I, J, I, J, ?_, ?_, h⟩
    · rw [enX9_lay, sgX9_lay_0, bI (x_placeB_1 _ _ _ hr _ _)]
      try dsimp only
      rw [if_neg n00]
    · rw [enX10_lay, sgX10_lay_0, bI (m_atB _ _ _ hr _ _ _)]
      try dsimp only
      rw [if_neg m1n]
  · rcases h.1.2 j hj with ⟨a, b⟩ | ⟨n, hn, a, b, c⟩
    · refine ⟨iv (-3), xF I 1, J, mF (xF I 1) 1, J, ?_, ?_, h.find (by decide)⟩
      · rw [enX9_lay, sgX9_lay_0, bI (x_placeN_1 _ _ _ hj _ _ a)]
        try dsimp only
        rw [if_neg n30]
      · rw [enX10_lay, sgX10_lay_0, bI (m_atN _ _ _ hj _ _ _ (by rw [xF_at (by decide) (by decide)]; exact b))]
        try dsimp only
        rw [if_neg m3n]
    · rcases ixc i n (by omega) with hi | ⟨k, hk, rfl⟩
      · refine ⟨iv (-3), xF I 2, J, mF (xF I 2) 2, J, ?_, ?_, h.find (by decide)⟩
        · rw [enX9_lay, sgX9_lay_0, bI (x_placeP_1 _ _ hj _ _ a hn hi)]
          try dsimp only
          rw [if_neg n30]
        · rw [enX10_lay, sgX10_lay_0, bI (m_atP _ _ hj _ _ _ (by rw [xF_at (by decide) (by decide)]; exact b) hn hi)]
          try dsimp only
          rw [if_neg m3n]
      · have b' : wr (wr I (3 + j) k v) 0 14 (I (3 + j) k) 89 j = nI n := by rw [wr_at, if_neg (by decide), wr_at, if_neg (by omega)]; exact b
        have c' : wr (wr I (3 + j) k v) 0 14 (I (3 + j) k) 90 (40 * j + k) = I (3 + j) k := by rw [wr_at, if_neg (by decide), wr_at, if_neg (by omega)]; exact (c k hk).symm
        refine ⟨iv 1, wr (wr I (3 + j) k v) 0 14 (I (3 + j) k), J, wr (wr (wr (wr I (3 + j) k v) 0 14 (I (3 + j) k)) 87 2 (I (3 + j) k)) 90 (40 * j + k) v, J, ?_, ?_, ?_⟩
        · rw [enX9_lay, sgX9_lay_0, bI (x_placeO_1 _ _ hj _ _ a hn hk)]
          try dsimp only
          rw [if_pos rfl, bI (s_valueAt_1 _ _ hj _ _ _ a hn hk)]
          try dsimp only
          rw [bV (s_change_1 _ _ hj _ _ _ _ a hn hk)]
          try dsimp only
          rw [bI (s_tell _ _ _ _ _)]
          try dsimp only
        · rw [enX10_lay, sgX10_lay_0, bI (m_atO _ _ hj _ _ _ b' hn hk)]
          try dsimp only
          rw [if_pos (by decide), bV (s_setRow _ _ hj (by omega) _ _ _ _)]
          try dsimp only
          rw [c']
        · refine h.ofRows ⟨?_, ?_⟩ ?_ ?_ ?_ ?_
          · simp [wr_at, show ¬ 1 = 3 + j by omega]
            exact h.1.1
          · refine RRow_upd h.1.2 (j := j) ?_ ?_ ?_ (Or.inr ⟨n, hn, ?_, ?_, ?_⟩)
            · intro q hq
              simp [wr_at, show ¬ 9 = 3 + j by omega, show ¬ 89 = 3 + j by omega]
            · intro q hq hqj
              simp [wr_at, show ¬ 3 + q = 90 by omega, show ¬ 3 + q = 87 by omega, show ¬ 3 + q = 3 + j by omega, hqj]
            · intro q hq hqj i hi
              simp [wr_at, up1_at, show ¬ 90 = 3 + j by omega, show ¬ 40 * q + i = 40 * j + k by omega]
            · simp [wr_at, show ¬ 9 = 3 + j by omega]
              exact a
            · simp [wr_at, show ¬ 89 = 3 + j by omega]
              exact b
            · intro i hi
              have := c i hi
              simp [wr_at, up1_at, show ¬ 3 + j = 90 by omega, show ¬ 3 + j = 87 by omega, show ¬ 90 = 3 + j by omega]
              by_cases e : i = k
              · simp [e]
              · simp [e]
                exact this
          · intro q h1 h2 h3 h4 h5 h6
            simp [wr_at, h3, h5, h6, show ¬ q = 3 + j by omega]
          · intro q hq
            simp [wr_at, up1_at, hq, show ¬ 0 = 3 + j by omega]
          · intro q hq
            simp [wr_at, up1_at, hq, show ¬ 87 = 3 + j by omega]
          · simp [wr_at, up1_at]
set_option maxHeartbeats 400000 in
theorem op_put (r i v : Int32) : OK2 75 156 [iv r, iv i, iv v] := by
  intro N d I J h
  rcases ixc r 4 (by decide) with hr | ⟨j, hj, rfl⟩
  · refine ⟨iv (-1), I, J, I, J, ?_, ?_, h⟩
    · rw [enX9_put, sgX9_put_0, bI (x_placeB_10 _ _ _ hr _ _)]
      try dsimp only
      rw [if_neg n00]
    · rw [enX10_put, sgX10_put_0, bI (m_askB_10 _ _ hr _ _ _)]
      try dsimp only
      rw [if_neg m1n]
  · rcases h.2.1.2 j hj with ⟨a, b⟩ | ⟨n, hn, a, b, c⟩
    · refine ⟨iv (-3), xF I 1, J, mF (xF I 1) 1, J, ?_, ?_, h.find (by decide)⟩
      · rw [enX9_put, sgX9_put_0, bI (x_placeN_10 _ _ _ hj _ _ a)]
        try dsimp only
        rw [if_neg n30]
      · rw [enX10_put, sgX10_put_0, bI (m_askN_10 _ _ hj _ _ _ (by rw [xF_at (by decide) (by decide)]; exact b))]
        try dsimp only
        rw [if_neg m3n]
    · rcases ixc i n (by omega) with hi | ⟨k, hk, rfl⟩
      · have b' : xF I 2 92 j = nI n := by rw [xF_at (by decide) (by decide)]; exact b
        refine ⟨iv (-3), xF I 2, J, mF (xF I 2) 2, J, ?_, ?_, h.find (by decide)⟩
        · rw [enX9_put, sgX9_put_0, bI (x_placeP_10 _ _ hj _ _ a hn hi)]
          try dsimp only
          rw [if_neg n30]
        · rw [enX10_put, sgX10_put_0, bI (m_askO_10 _ _ hj _ _ _ b' hn)]
          try dsimp only
          rw [if_pos (by decide), inb_t hj (by omega), nI_clamp (by omega), if_pos rfl, b', bI (s_in _ _ _ _ _ _)]
          try dsimp only
          rw [if_pos (b2i_f (i_dec (by omega) hi)), bI (s_meet2 _ _ _ _ _)]
          try dsimp only
      · have b' : wr I (12 + j) k v.toInt8.toInt32 92 j = nI n := by rw [wr_at, if_neg (by omega)]; exact b
        have c' : wr I (12 + j) k v.toInt8.toInt32 93 (60 * j + k) = I (12 + j) k := by rw [wr_at, if_neg (by omega)]; exact (c k hk).symm
        refine ⟨iv (I (12 + j) k + 1000), wr I (12 + j) k v.toInt8.toInt32, J, wr (wr I (12 + j) k v.toInt8.toInt32) 93 (60 * j + k) v.toInt8.toInt32, J, ?_, ?_, ?_⟩
        · rw [enX9_put, sgX9_put_0, bI (x_placeO_10 _ _ hj _ _ a hn hk)]
          try dsimp only
          rw [if_pos rfl, bI (s_valueAt_10 _ _ hj _ _ _ a hn hk)]
          try dsimp only
          rw [bV (s_change_10 _ _ hj _ _ _ _ a hn hk)]
          try dsimp only
        · rw [enX10_put, sgX10_put_0, bI (m_askO_10 _ _ hj _ _ _ b' hn)]
          try dsimp only
          rw [if_pos (by decide), inb_t hj (by omega), nI_clamp (by omega), if_pos rfl, b', bI (s_in _ _ _ _ _ _)]
          try dsimp only
          rw [if_neg (by rw [b2i_t (i_inc (by omega) hk)]; exact n10), ix60, inb_t (by omega) (by omega), nI_clamp (by omega), if_pos rfl, if_pos rfl, c']
        · refine h.ofTexts ⟨?_, ?_⟩ ?_
          · simp [wr_at, show ¬ 10 = 12 + j by omega]
            exact h.2.1.1
          · refine RRow_upd h.2.1.2 (j := j) ?_ ?_ ?_ (Or.inr ⟨n, hn, ?_, ?_, ?_⟩)
            · intro q hq
              simp [wr_at, show ¬ 16 = 12 + j by omega, show ¬ 92 = 12 + j by omega]
            · intro q hq hqj
              simp [wr_at, show ¬ 12 + q = 93 by omega, show ¬ 12 + q = 12 + j by omega, hqj]
            · intro q hq hqj i hi
              simp [wr_at, up1_at, show ¬ 93 = 12 + j by omega, show ¬ 60 * q + i = 60 * j + k by omega]
            · simp [wr_at, show ¬ 16 = 12 + j by omega]
              exact a
            · simp [wr_at, show ¬ 92 = 12 + j by omega]
              exact b
            · intro i hi
              have := c i hi
              simp [wr_at, up1_at, show ¬ 12 + j = 93 by omega, show ¬ 93 = 12 + j by omega]
              by_cases e : i = k
              · simp [e]
              · simp [e]
                exact this
          · intro q h1 h2 h3
            simp [wr_at, h3, show ¬ q = 12 + j by omega]
theorem s_drop (N d : Nat) {j : Nat} (hj : j < 6) (I : Nat → Nat → Int32) (J : Nat → Nat → Int64) (cd : Nat × Nat) : arun (N + 1000000) (d + 2) 62 [rv (some 1), iv (nI j)] (I, J, cd) = some (rv none, (wr I 9 j (-1), J, cd)) := by
  rw [enX8_drop, sgX8_drop_0, bI (s_isOne_1 _ _ hj _)]
  try dsimp only
  rw [if_neg n10, inb_t hj (by omega), nI_clamp (by omega), if_pos rfl]
set_option maxHeartbeats 400000 in
theorem op_tear (r : Int32) : OK2 71 152 [iv r] := by
  intro N d I J h
  rcases ixc r 6 (by decide) with hr | ⟨j, hj, rfl⟩
  · refine ⟨iv (-1), I, J, I, J, ?_, ?_, h⟩
    · rw [enX9_tear, sgX9_tear_0, bI (x_missB_1 _ _ hr _ _)]
      try dsimp only
      rw [if_neg n00]
    · rw [enX10_tear, sgX10_tear_0, bI (m_askB_1 _ _ hr _ _ _)]
      try dsimp only
      rw [if_neg m1n]
  · rcases h.1.2 j hj with ⟨a, b⟩ | ⟨n, hn, a, b, c⟩
    · refine ⟨iv (-3), xF I 1, J, mF (xF I 1) 1, J, ?_, ?_, h.find (by decide)⟩
      · rw [enX9_tear, sgX9_tear_0, bI (x_missN_1 _ _ hj _ _ a)]
        try dsimp only
        rw [if_neg n30]
      · rw [enX10_tear, sgX10_tear_0, bI (m_askN_1 _ _ hj _ _ _ (by rw [xF_at (by decide) (by decide)]; exact b))]
        try dsimp only
        rw [if_neg m3n]
    · have b' : wr I 9 j (-1) 89 j = nI n := by rw [wr_at, if_neg (by decide)]; exact b
      refine ⟨iv 1, wr I 9 j (-1), J, wr (wr I 9 j (-1)) 89 j (-9), J, ?_, ?_, ?_⟩
      · rw [enX9_tear, sgX9_tear_0, bI (x_missO_1 _ _ hj _ _ a hn)]
        try dsimp only
        rw [if_pos rfl, bV (s_drop _ _ hj _ _ _)]
        try dsimp only
      · rw [enX10_tear, sgX10_tear_0, bI (m_askO_1 _ _ hj _ _ _ b' hn)]
        try dsimp only
        rw [if_pos (by decide), inb_t hj (by omega), nI_clamp (by omega), if_pos rfl]
      · refine h.ofRows ⟨?_, ?_⟩ ?_ ?_ ?_ ?_
        · exact h.1.1
        · refine RRow_upd h.1.2 (j := j) ?_ ?_ ?_ (Or.inl ⟨?_, ?_⟩)
          · intro q hq
            simp [wr_at, up1_at, hq]
          · intro q hq hqj
            simp [wr_at, show ¬ 3 + q = 89 by omega, show ¬ 3 + q = 9 by omega]
          · intro q hq hqj i hi
            simp [wr_at]
          · simp [wr_at, up1_at]
          · simp [wr_at, up1_at]
        · intro q h1 h2 h3 h4 h5 h6
          simp [wr_at, h2, show ¬ q = 9 by omega]
        · intro q hq
          simp [wr_at]
        · intro q hq
          simp [wr_at]
        · have := h.2.2.2.1.1
          simpa [wr_at] using this
set_option maxHeartbeats 200000 in
theorem l_mtext (N d : Nat) {j : Nat} (hj : j < 4) (x2 : Int32) (I : Nat → Nat → Int32) (J : Nat → Nat → Int64) (cd : Nat × Nat) : ∀ (m k f : Nat), k + m = 60 → m < f → EX10_text (N + 1000000) d f 34 [some (rv (some 87)), some (iv (nI j)), some (iv x2), some (iv (nI k))] (wrC I 93 (blkF (I 93) (60 * j) k 32), J, cd) = some (iv x2, (wrC I 93 (blkF (I 93) (60 * j) 60 32), J, cd)) := by
  intro m
  induction m with
  | zero =>
    intro k f hk hf
    obtain ⟨g, rfl⟩ : ∃ g, f = g + 1 := ⟨f - 1, by omega⟩
    have : k = 60 := by omega
    subst this
    rw [sgX10_text_34, if_pos (by decide)]
  | succ m ih =>
    intro k f hk hf
    obtain ⟨g, rfl⟩ : ∃ g, f = g + 1 := ⟨f - 1, by omega⟩
    rw [sgX10_text_34, if_neg (show ¬ (60 : Int32) ≤ nI k from nI_ge (b := 60) (by omega) (by decide)), ix60, inb_t (by omega) (by omega), nI_clamp (by omega), if_pos rfl, wr_wrC, blkF_s, nI_1]
    exact ih (k + 1) g (by omega) (by omega)
set_option maxHeartbeats 400000 in
theorem op_text (r n : Int32) : OK2 74 155 [iv r, iv n] := by
  intro N d I J h
  rcases ixc r 4 (by decide) with hr | ⟨j, hj, rfl⟩
  · refine ⟨iv (-1), I, J, I, J, ?_, ?_, h⟩
    · rw [enX9_text, sgX9_text_0, bI (x := -1) (B := (I, J, 73, 80))]
      rw [enX9_makeAnew, sgX9_makeAnew_10_0, bI (s_isOneN_10 _ _ hr _)]
      try dsimp only
      rw [if_pos rfl]
    · rw [enX10_text, sgX10_text_0, bI (s_isText _ _ _ _)]
      try dsimp only
      rw [if_pos (b2i_f (b2_textN hr))]
  · have hlim := h.2.1.1
    rcases pk_ix n (n := 61) (by decide) with hn | hn | ⟨k, hk, rfl⟩
    · refine ⟨iv (-3), xF I 5, J, mF (xF I 5) 5, J, ?_, ?_, h.find (by decide)⟩
      · rw [enX9_text, sgX9_text_0, bI (x := -3) (B := (xF I 5, J, 73, 80))]
        rw [enX9_makeAnew, sgX9_makeAnew_10_0, bI (s_isOne_10 _ _ hj _)]
        try dsimp only
        rw [if_neg n10, if_pos (by rw [hlim]; exact i_neg' hn (by decide)), if_neg (i_neg hn), bI (s_find5 _ _ _ _)]
        try dsimp only
      · rw [enX10_text, sgX10_text_0, bI (s_isText _ _ _ _)]
        try dsimp only
        rw [if_neg (by rw [b2i_t (b2_text hj)]; exact n10), if_pos (show n ≤ 60 from i_neg' hn (k := 60) (by decide)), if_neg (i_neg hn), bI (s_meet5 _ _ _ _ _)]
        try dsimp only
    · refine ⟨iv (-1), I, J, I, J, ?_, ?_, h⟩
      · rw [enX9_text, sgX9_text_0, bI (x := -1) (B := (I, J, 73, 80))]
        rw [enX9_makeAnew, sgX9_makeAnew_10_0, bI (s_isOne_10 _ _ hj _)]
        try dsimp only
        rw [if_neg n10, if_neg (by rw [hlim]; exact i_nlt (by decide) hn)]
      · rw [enX10_text, sgX10_text_0, bI (s_isText _ _ _ _)]
        try dsimp only
        rw [if_neg (by rw [b2i_t (b2_text hj)]; exact n10), if_neg (show ¬ n ≤ 60 from i_nlt (k := 60) (by decide) hn)]
    · refine ⟨iv (nI k), wrC (wr I 16 j (nI k)) (12 + j) (fillF (I (12 + j)) k 32), J, wrC (wr (wrC (wr I 16 j (nI k)) (12 + j) (fillF (I (12 + j)) k 32)) 92 j (nI k)) 93 (blkF (I 93) (60 * j) 60 32), J, ?_, ?_, ?_⟩
      · rw [enX9_text, sgX9_text_0, bI (x := nI k) (B := (wrC (wr I 16 j (nI k)) (12 + j) (fillF (I (12 + j)) k 32), J, 73, 80))]
        rw [enX9_makeAnew, sgX9_makeAnew_10_0, bI (s_isOne_10 _ _ hj _)]
        try dsimp only
        rw [if_neg n10, if_pos (by rw [hlim]; exact nI_le (by omega) (by decide)), if_pos (show 0 ≤ nI k from nI_pos' (by omega)), bV (s_make_10 _ _ hj (by omega) _ _ _ _ hlim)]
        try dsimp only
      · have e9 : (wr (wrC (wr I 16 j (nI k)) (12 + j) (fillF (I (12 + j)) k 32)) 92 j (nI k)) 93 = I 93 := by
          rw [wr_at, if_neg (by decide), wrC_at, if_neg (by omega), wr_at, if_neg (by decide)]
        have l := l_mtext N (d + 19) hj (nI k) (wr (wrC (wr I 16 j (nI k)) (12 + j) (fillF (I (12 + j)) k 32)) 92 j (nI k)) J (73, 80) 60 0 (N + 999999) (by omega) (by omega)
        rw [blkF_0, wrC_id, e9, nI_0] at l
        rw [enX10_text, sgX10_text_0, bI (s_isText _ _ _ _)]
        try dsimp only
        rw [if_neg (by rw [b2i_t (b2_text hj)]; exact n10), if_pos (show nI k ≤ 60 from nI_le (b := 60) (by omega) (by decide)), if_pos (show 0 ≤ nI k from nI_pos' (by omega)), inb_t hj (by omega), nI_clamp (by omega), if_pos rfl]
        exact l
      · refine h.ofTexts ⟨?_, ?_⟩ ?_
        · simp [wrC_at, wr_at, show ¬ 10 = 12 + j by omega]
          exact hlim
        · refine RRow_upd h.2.1.2 (j := j) ?_ ?_ ?_ (Or.inr ⟨k, by omega, ?_, ?_, ?_⟩)
          · intro q hq
            simp [wrC_at, wr_at, up1_at, hq, show ¬ 16 = 12 + j by omega, show ¬ 92 = 12 + j by omega]
          · intro q hq hqj
            simp [wrC_at, wr_at, show ¬ 12 + q = 93 by omega, show ¬ 12 + q = 92 by omega, show ¬ 12 + q = 16 by omega, show ¬ 12 + q = 12 + j by omega, hqj]
          · intro q hq hqj i hi
            simp only [wrC_at, blkF, if_pos]
            rw [if_neg (by omega)]
          · simp [wrC_at, wr_at, up1_at, show ¬ 16 = 12 + j by omega]
          · simp [wrC_at, wr_at, up1_at]
          · intro i hi
            simp [wrC_at, wr_at, blkF, fillF, show ¬ 12 + j = 93 by omega, show ¬ 12 + j = 92 by omega, hi, show i < 60 by omega]
        · intro a h1 h2 h3
          simp [wrC_at, wr_at, h2, h3, show ¬ a = 12 + j by omega, show ¬ a = 16 by omega]
-- what is told
theorem op_asked : OK2 105 227 [] := by
  intro N d I J h
  refine ⟨iv (I 0 14), I, J, I, J, ?_, ?_, h⟩
  · rw [enX9_asked, sgX9_asked_0]
  · rw [enX10_asked, sgX10_asked_0, h.2.2.2.1.1]
theorem op_upper : OK2 106 228 [] := by
  intro N d I J h
  refine ⟨jv (J 0 15), I, J, I, J, ?_, ?_, h⟩
  · rw [enX9_upper, sgX9_upper_0]
  · rw [enX10_upper, sgX10_upper_0, h.2.2.2.1.2.1]
theorem op_lower : OK2 107 229 [] := by
  intro N d I J h
  refine ⟨jv (J 0 16), I, J, I, J, ?_, ?_, h⟩
  · rw [enX9_lower, sgX9_lower_0]
  · rw [enX10_lower, sgX10_lower_0, h.2.2.2.1.2.2]
theorem op_finding : OK2 109 233 [] := by
  intro N d I J h
  refine ⟨iv (I 0 13), I, J, I, J, ?_, ?_, h⟩
  · rw [enX9_finding, sgX9_finding_0]
  · rw [enX10_finding, sgX10_finding_0, h.2.2.1.1]
theorem op_findings (f : Int32) : OK2 110 234 [iv f] := by
  intro N d I J h
  by_cases h1 : f < 1
  · refine ⟨iv (-1), I, J, I, J, ?_, ?_, h⟩
    · rw [enX9_findings, sgX9_findings_0, if_pos h1]
    · rw [enX10_findings, sgX10_findings_0, bI (s_in _ _ _ _ _ _)]
      try dsimp only
      rw [if_pos (b2i_f (fun q => q.1 h1))]
  · by_cases h2 : f ≤ 5
    · obtain ⟨j, hj, rfl⟩ := nI_of (x := f) (fun q => h1 (Int32.lt_trans q (by decide)))
      have hj6 : j < 6 := by
        have := (nI_leI (b := 5) hj (by decide)).mp h2
        omega
      refine ⟨iv (I 72 j), I, J, I, J, ?_, ?_, h⟩
      · rw [enX9_findings, sgX9_findings_0, if_neg h1, if_pos h2, inb_t hj6 (by omega), nI_clamp (by omega), if_pos rfl]
      · rw [enX10_findings, sgX10_findings_0, bI (s_in _ _ _ _ _ _)]
        try dsimp only
        rw [if_neg (by rw [b2i_t ⟨h1, fun q => absurd h2 (Int32.not_le.mpr q)⟩]; exact n10), inb_t hj6 (by omega), nI_clamp (by omega), if_pos rfl, h.2.2.1.2 j hj6]
    · refine ⟨iv (-1), I, J, I, J, ?_, ?_, h⟩
      · rw [enX9_findings, sgX9_findings_0, if_neg h1, if_neg h2]
      · rw [enX10_findings, sgX10_findings_0, bI (s_in _ _ _ _ _ _)]
        try dsimp only
        rw [if_pos (b2i_f (fun q => q.2 (Int32.not_le.mp h2)))]
