/-! a TEXT read by the class -/
def RDp (tx : Nat → Int32) (L p : Nat) (B : Nat → Nat → Int32) : Prop := B 17 1 = nI L ∧ B 17 2 = nI p ∧ ∀ i, i < L → B 18 i = tx i
theorem RDp.eq {tx : Nat → Int32} {L p : Nat} {I B : Nat → Nat → Int32} (h : RDp tx L p I) (e7 : B 17 = I 17) (e8 : B 18 = I 18) : RDp tx L p B := ⟨by rw [e7]; exact h.1, by rw [e7]; exact h.2.1, by rw [e8]; exact h.2.2⟩
theorem RDp.st {tx : Nat → Int32} {L p q : Nat} {I B : Nat → Nat → Int32} (h : RDp tx L p I) (e7 : B 17 = I 17) (e8 : B 18 = I 18) : RDp tx L q (wr B 17 2 (nI q)) := ⟨by rw [wr_nj (by decide), e7]; exact h.1, wr_eq, by rw [wr_ne (by decide), e8]; exact h.2.2⟩
def seeN (tx : Nat → Int32) (L p : Nat) : Int32 := if p < L then tx p else -1000
theorem s_seen (N d : Nat) {tx : Nat → Int32} {L p : Nat} (hL : L ≤ 60) (hp : p ≤ 60) (B : Nat → Nat → Int32) (J : Nat → Nat → Int64) (cd : Nat × Nat) (hB : RDp tx L p B) : arun (N + 1000000) (d + 1) 49 [rv (some 17)] (B, J, cd) = some (iv (seeN tx L p), (B, J, cd)) := by
  obtain ⟨h1, h2, h3⟩ := hB
  rw [enX7_seen, sgX7_seen_0, h1, h2, if_neg (nI_pos (by omega))]
  by_cases c : p < L
  · rw [if_neg (nI_ge c (by omega)), inb_t (show p < 60 by omega) (by omega), if_pos rfl, nI_clamp (by omega), h3 p c, seeN, if_pos c]
  · rw [if_pos (nI_le (by omega) (by omega)), seeN, if_neg c]
theorem see32 (tx : Nat → Int32) (L p : Nat) : (seeN tx L p = 32) = (p < L ∧ tx p = 32) := by
  unfold seeN
  by_cases c : p < L
  · rw [if_pos c]; exact propext ⟨fun q => ⟨c, q⟩, fun q => q.2⟩
  · rw [if_neg c]; exact propext ⟨fun q => absurd q (by decide), fun q => absurd q.1 c⟩
theorem l_skipX (N d : Nat) {tx : Nat → Int32} {L : Nat} (hL : L ≤ 60) (J : Nat → Nat → Int64) (cd : Nat × Nat) : ∀ (m k f p : Nat) (B : Nat → Nat → Int32), k + m = 60 → m < f → p ≤ 60 → RDp tx L p B → ∃ B', EX7_skipBlanks (N + 1000000) (d + 1) f 2 [some (rv (some 17)), some (iv (nI k))] (B, J, cd) = some (rv none, (B', J, cd)) ∧ fr [17] B B' ∧ RDp tx L (skN tx L m p) B' := by
  intro m
  induction m with
  | zero =>
    intro k f p B hk hf hp hB
    have : k = 60 := by omega
    subst this
    obtain ⟨g, rfl⟩ : ∃ g, f = g + 1 := ⟨f - 1, by omega⟩
    exact ⟨B, by rw [sgX7_skipBlanks_2, if_pos (by decide)], fr.rf, hB⟩
  | succ m ih =>
    intro k f p B hk hf hp hB
    obtain ⟨g, rfl⟩ : ∃ g, f = g + 1 := ⟨f - 1, by omega⟩
    have c60 : ¬ (60 : Int32) ≤ nI k := nI_ge (b := 60) (by omega) (by decide)
    by_cases c : p < L ∧ tx p = 32
    · obtain ⟨B', r, f1, h1⟩ := ih (k + 1) g (p + 1) (wr B 17 2 (nI (p + 1))) (by omega) (by omega) (by omega) (hB.st rfl rfl)
      refine ⟨B', ?_, (fr.rf.w (by simp)).tr f1, by rw [skN_t c]; exact h1⟩
      rw [sgX7_skipBlanks_2, if_neg c60, bI (s_seen N d hL hp B J cd hB)]
      try dsimp only
      try dsimp only
      rw [if_pos (by rw [see32]; exact c), hB.2.1, nI_1, nI_1]
      exact r
    · refine ⟨B, ?_, fr.rf, by rw [skN_f c]; exact hB⟩
      rw [sgX7_skipBlanks_2, if_neg c60, bI (s_seen N d hL hp B J cd hB)]
      try dsimp only
      try dsimp only
      rw [if_neg (by rw [see32]; exact c)]
theorem s_skipX (N d : Nat) {tx : Nat → Int32} {L p : Nat} (hL : L ≤ 60) (hp : p ≤ 60) (B : Nat → Nat → Int32) (J : Nat → Nat → Int64) (cd : Nat × Nat) (hB : RDp tx L p B) : ∃ B', arun (N + 1000000) (d + 2) 51 [rv (some 17)] (B, J, cd) = some (rv none, (B', J, cd)) ∧ fr [17] B B' ∧ RDp tx L (SK tx L p) B' := by
  obtain ⟨B', r, f, h⟩ := l_skipX N d hL J cd 60 0 (N + 999999) p B (by omega) (by omega) hp hB
  rw [nI_0] at r
  exact ⟨B', by rw [enX7_skipBlanks, sgX7_skipBlanks_0]; exact r, f, h⟩
theorem s_sees (N d : Nat) {tx : Nat → Int32} {L p lo hi : Nat} (hL : L ≤ 60) (hp : p ≤ 60) (hl : lo ≤ 9) (hh : hi ≤ 9) (B : Nat → Nat → Int32) (J : Nat → Nat → Int64) (cd : Nat × Nat) (hB : RDp tx L p B) : arun (N + 1000000) (d + 2) 50 [rv (some 17), iv (nI lo), iv (nI hi)] (B, J, cd) = some (iv (b2i (fgP tx L lo hi p)), (B, J, cd)) := by
  have e1 : (48 : Int32) + nI lo = nI (48 + lo) := nI_add 48 lo
  have e2 : (48 : Int32) + nI hi = nI (48 + hi) := nI_add 48 hi
  rw [enX7_seesFigure, sgX7_seesFigure_0, bI (s_seen N d hL hp B J cd hB)]
  try dsimp only
  try dsimp only
  rw [e1, e2]
  by_cases c : p < L
  · have es : seeN tx L p = tx p := if_pos c
    rw [es]
    by_cases c1 : tx p < nI (48 + lo)
    · rw [if_pos c1, b2i_f (fun q => q.2.1 c1)]
    · rw [if_neg c1, bI (s_seen N d hL hp B J cd hB)]
      try dsimp only
      try dsimp only
      rw [es]
      by_cases c2 : nI (48 + hi) < tx p
      · rw [if_pos c2, b2i_f (fun q => q.2.2 c2)]
      · rw [if_neg c2, b2i_t ⟨c, c1, c2⟩]
  · have es : seeN tx L p = -1000 := if_neg c
    rw [es, if_pos (Int32.lt_of_lt_of_le (by decide : (-1000 : Int32) < 0) (nI_pos' (by omega))), b2i_f (fun q => c q.1)]
theorem l_week_84 (N d : Nat) {tx : Nat → Int32} {L hi : Nat} (hL : L ≤ 60) (hh : hi ≤ 9) (J : Nat → Nat → Int64) (cd : Nat × Nat) : ∀ (m e f q : Nat) (B : Nat → Nat → Int32), e + m = 7 → m < f → q ≤ L → RDp tx L q B → ∃ B', EX7_takesWeek (N + 1000000) (d + 2) f 27 [some (rv (some 17)), none, some (rv (some 84)), some (iv (nI hi)), some (iv (nI e))] (B, J, cd) = some (iv (if ldN tx L hi m q = m then 1 else 0), (B', J, cd)) ∧ fr [17, 84] B B' ∧ RDp tx L (q + ldN tx L hi m q) B' ∧ (∀ i, i < e → B' 84 i = B 84 i) ∧ (∀ i, i < ldN tx L hi m q → B' 84 (e + i) = nI (fvN tx (q + i))) := by
  intro m
  induction m with
  | zero =>
    intro e f q B he hf hq hB
    have : e = 7 := by omega
    subst this
    obtain ⟨g, rfl⟩ : ∃ g, f = g + 1 := ⟨f - 1, by omega⟩
    exact ⟨B, by rw [sgX7_takesWeek_84_27, if_pos (Int32.le_refl _)]; rfl, fr.rf, hB, fun _ _ => rfl, fun i hi => absurd hi (by show ¬ i < 0; omega)⟩
  | succ m ih =>
    intro e f q B he hf hq hB
    obtain ⟨g, rfl⟩ : ∃ g, f = g + 1 := ⟨f - 1, by omega⟩
    have e7 : e < 7 := by omega
    have ss := s_sees N d (lo := 0) (hi := hi) hL (show q ≤ 60 by omega) (by decide) hh B J cd hB
    rw [nI_0] at ss
    by_cases c : fgP tx L 0 hi q
    · have hlt := c.1
      have fv := (fg_v (by decide) hh c).1
      have hB1 : RDp tx L (q + 1) (wr (wr B 84 e (nI (fvN tx q))) 17 2 (nI (q + 1))) := hB.st (wr_ne (by decide)) (wr_ne (by decide))
      obtain ⟨B', r, f1, h1, lo, hi'⟩ := ih (e + 1) g (q + 1) _ (by omega) (by omega) (by omega) hB1
      have eL : ldN tx L hi (m + 1) q = ldN tx L hi m (q + 1) + 1 := ldN_t c
      refine ⟨B', ?_, ((fr.rf.w (by simp)).w (by simp)).tr f1, ?_, fun i hi => ?_, fun i hi => ?_⟩
      · rw [sgX7_takesWeek_84_27, if_neg (nI_ge (by omega) (by omega)), bI ss]
        try dsimp only
        rw [b2i_t c, if_neg n10, bI (s_seen N (d + 1) hL (show q ≤ 60 by omega) B J cd hB)]
        try dsimp only
        try dsimp only
        rw [inb_t e7 (by omega), if_pos rfl, nI_clamp (by omega), show seeN tx L q = tx q from if_pos c.1, fv, hB.2.1, nI_1, nI_1, r, eL]
        by_cases z : ldN tx L hi m (q + 1) = m
        · rw [if_pos z, if_pos (by omega)]
        · rw [if_neg z, if_neg (by omega)]
      · rw [eL, show q + (ldN tx L hi m (q + 1) + 1) = q + 1 + ldN tx L hi m (q + 1) by omega]; exact h1
      · rw [lo i (by omega), wr_ne (by decide), wr_nj (by omega)]
      · rw [eL] at hi
        cases i with
        | zero => rw [Nat.add_zero, lo e (by omega), wr_ne (by decide), wr_eq]; rfl
        | succ i => rw [show e + (i + 1) = e + 1 + i by omega, hi' i (by omega), show q + (i + 1) = q + 1 + i by omega]
    · have eL : ldN tx L hi (m + 1) q = 0 := ldN_f c
      refine ⟨B, ?_, fr.rf, by rw [eL]; exact hB, fun _ _ => rfl, fun i hi => absurd hi (by rw [eL]; omega)⟩
      rw [sgX7_takesWeek_84_27, if_neg (nI_ge (by omega) (by omega)), bI ss]
      try dsimp only
      rw [b2i_f c, if_pos rfl, eL, if_neg (by omega)]
theorem s_week_84 (N d : Nat) {tx : Nat → Int32} {L p hi : Nat} (hL : L ≤ 60) (hh : hi ≤ 9) (hp : p ≤ L) {c : Int32} (hc : ¬ (-1000 : Int32) = c) (B : Nat → Nat → Int32) (J : Nat → Nat → Int64) (cd : Nat × Nat) (hB : RDp tx L p B) : ∃ B', arun (N + 1000000) (d + 3) 46 [rv (some 17), iv c, rv (some 84), iv (nI hi)] (B, J, cd) = some (iv (if (wkR tx L c hi p).1 then 1 else 0), (B', J, cd)) ∧ fr [17, 84] B B' ∧ RDp tx L (wkR tx L c hi p).2 B' ∧ ((wkR tx L c hi p).1 = true → ∀ i, i < 7 → B' 84 i = nI (fvN tx (SK tx L p + 1 + i))) := by
  obtain ⟨B1, r1, f1, h1⟩ := s_skipX N d hL (show p ≤ 60 by omega) B J cd hB
  have hs := SK_le (tx := tx) hp
  have sn := s_seen N (d + 1) hL (show SK tx L p ≤ 60 by omega) B1 J cd h1
  by_cases q : SK tx L p < L ∧ tx (SK tx L p) = c
  · have ew : wkR tx L c hi p = (decide (ldN tx L hi 7 (SK tx L p + 1) = 7), SK tx L p + 1 + ldN tx L hi 7 (SK tx L p + 1)) := if_pos q
    obtain ⟨B2, r2, f2, h2, -, x2⟩ := l_week_84 N d hL hh J cd 7 0 (N + 999999) (SK tx L p + 1) (wr B1 17 2 (nI (SK tx L p + 1))) (by omega) (by omega) (by have := q.1; omega) (h1.st rfl rfl)
    rw [nI_0] at r2
    refine ⟨B2, ?_, (f1.mo (by simp)).tr ((fr.rf.w (by simp)).tr f2), by rw [ew]; exact h2, fun z i hi => ?_⟩
    · rw [enX7_takesWeek, sgX7_takesWeek_84_0, bV r1]
      try dsimp only
      rw [bI sn]
      try dsimp only
      rw [if_pos (show seeN tx L (SK tx L p) = c by rw [seeN, if_pos q.1]; exact q.2), h1.2.1, nI_1, r2, ew]
      by_cases z : ldN tx L hi 7 (SK tx L p + 1) = 7
      · simp [z]
      · simp [z]
    · rw [ew] at z
      have := of_decide_eq_true z
      have := x2 i (by omega)
      rw [Nat.zero_add] at this
      exact this
  · have ew : wkR tx L c hi p = (false, SK tx L p) := if_neg q
    refine ⟨B1, ?_, f1.mo (by simp), by rw [ew]; exact h1, fun z => absurd z (by rw [ew]; exact Bool.false_ne_true)⟩
    rw [enX7_takesWeek, sgX7_takesWeek_84_0, bV r1]
    try dsimp only
    rw [bI sn]
    try dsimp only
    rw [if_neg (fun z => q (by
      by_cases w : SK tx L p < L
      · rw [seeN, if_pos w] at z; exact ⟨w, z⟩
      · rw [seeN, if_neg w] at z; exact absurd z hc)), ew]
    rfl
theorem l_week_85 (N d : Nat) {tx : Nat → Int32} {L hi : Nat} (hL : L ≤ 60) (hh : hi ≤ 9) (J : Nat → Nat → Int64) (cd : Nat × Nat) : ∀ (m e f q : Nat) (B : Nat → Nat → Int32), e + m = 7 → m < f → q ≤ L → RDp tx L q B → ∃ B', EX7_takesWeek (N + 1000000) (d + 2) f 27 [some (rv (some 17)), none, some (rv (some 85)), some (iv (nI hi)), some (iv (nI e))] (B, J, cd) = some (iv (if ldN tx L hi m q = m then 1 else 0), (B', J, cd)) ∧ fr [17, 85] B B' ∧ RDp tx L (q + ldN tx L hi m q) B' ∧ (∀ i, i < e → B' 85 i = B 85 i) ∧ (∀ i, i < ldN tx L hi m q → B' 85 (e + i) = nI (fvN tx (q + i))) := by
  intro m
  induction m with
  | zero =>
    intro e f q B he hf hq hB
    have : e = 7 := by omega
    subst this
    obtain ⟨g, rfl⟩ : ∃ g, f = g + 1 := ⟨f - 1, by omega⟩
    exact ⟨B, by rw [sgX7_takesWeek_85_27, if_pos (Int32.le_refl _)]; rfl, fr.rf, hB, fun _ _ => rfl, fun i hi => absurd hi (by show ¬ i < 0; omega)⟩
  | succ m ih =>
    intro e f q B he hf hq hB
    obtain ⟨g, rfl⟩ : ∃ g, f = g + 1 := ⟨f - 1, by omega⟩
    have e7 : e < 7 := by omega
    have ss := s_sees N d (lo := 0) (hi := hi) hL (show q ≤ 60 by omega) (by decide) hh B J cd hB
    rw [nI_0] at ss
    by_cases c : fgP tx L 0 hi q
    · have hlt := c.1
      have fv := (fg_v (by decide) hh c).1
      have hB1 : RDp tx L (q + 1) (wr (wr B 85 e (nI (fvN tx q))) 17 2 (nI (q + 1))) := hB.st (wr_ne (by decide)) (wr_ne (by decide))
      obtain ⟨B', r, f1, h1, lo, hi'⟩ := ih (e + 1) g (q + 1) _ (by omega) (by omega) (by omega) hB1
      have eL : ldN tx L hi (m + 1) q = ldN tx L hi m (q + 1) + 1 := ldN_t c
      refine ⟨B', ?_, ((fr.rf.w (by simp)).w (by simp)).tr f1, ?_, fun i hi => ?_, fun i hi => ?_⟩
      · rw [sgX7_takesWeek_85_27, if_neg (nI_ge (by omega) (by omega)), bI ss]
        try dsimp only
        rw [b2i_t c, if_neg n10, bI (s_seen N (d + 1) hL (show q ≤ 60 by omega) B J cd hB)]
        try dsimp only
        try dsimp only
        rw [inb_t e7 (by omega), if_pos rfl, nI_clamp (by omega), show seeN tx L q = tx q from if_pos c.1, fv, hB.2.1, nI_1, nI_1, r, eL]
        by_cases z : ldN tx L hi m (q + 1) = m
        · rw [if_pos z, if_pos (by omega)]
        · rw [if_neg z, if_neg (by omega)]
      · rw [eL, show q + (ldN tx L hi m (q + 1) + 1) = q + 1 + ldN tx L hi m (q + 1) by omega]; exact h1
      · rw [lo i (by omega), wr_ne (by decide), wr_nj (by omega)]
      · rw [eL] at hi
        cases i with
        | zero => rw [Nat.add_zero, lo e (by omega), wr_ne (by decide), wr_eq]; rfl
        | succ i => rw [show e + (i + 1) = e + 1 + i by omega, hi' i (by omega), show q + (i + 1) = q + 1 + i by omega]
    · have eL : ldN tx L hi (m + 1) q = 0 := ldN_f c
      refine ⟨B, ?_, fr.rf, by rw [eL]; exact hB, fun _ _ => rfl, fun i hi => absurd hi (by rw [eL]; omega)⟩
      rw [sgX7_takesWeek_85_27, if_neg (nI_ge (by omega) (by omega)), bI ss]
      try dsimp only
      rw [b2i_f c, if_pos rfl, eL, if_neg (by omega)]
theorem s_week_85 (N d : Nat) {tx : Nat → Int32} {L p hi : Nat} (hL : L ≤ 60) (hh : hi ≤ 9) (hp : p ≤ L) {c : Int32} (hc : ¬ (-1000 : Int32) = c) (B : Nat → Nat → Int32) (J : Nat → Nat → Int64) (cd : Nat × Nat) (hB : RDp tx L p B) : ∃ B', arun (N + 1000000) (d + 3) 46 [rv (some 17), iv c, rv (some 85), iv (nI hi)] (B, J, cd) = some (iv (if (wkR tx L c hi p).1 then 1 else 0), (B', J, cd)) ∧ fr [17, 85] B B' ∧ RDp tx L (wkR tx L c hi p).2 B' ∧ ((wkR tx L c hi p).1 = true → ∀ i, i < 7 → B' 85 i = nI (fvN tx (SK tx L p + 1 + i))) := by
  obtain ⟨B1, r1, f1, h1⟩ := s_skipX N d hL (show p ≤ 60 by omega) B J cd hB
  have hs := SK_le (tx := tx) hp
  have sn := s_seen N (d + 1) hL (show SK tx L p ≤ 60 by omega) B1 J cd h1
  by_cases q : SK tx L p < L ∧ tx (SK tx L p) = c
  · have ew : wkR tx L c hi p = (decide (ldN tx L hi 7 (SK tx L p + 1) = 7), SK tx L p + 1 + ldN tx L hi 7 (SK tx L p + 1)) := if_pos q
    obtain ⟨B2, r2, f2, h2, -, x2⟩ := l_week_85 N d hL hh J cd 7 0 (N + 999999) (SK tx L p + 1) (wr B1 17 2 (nI (SK tx L p + 1))) (by omega) (by omega) (by have := q.1; omega) (h1.st rfl rfl)
    rw [nI_0] at r2
    refine ⟨B2, ?_, (f1.mo (by simp)).tr ((fr.rf.w (by simp)).tr f2), by rw [ew]; exact h2, fun z i hi => ?_⟩
    · rw [enX7_takesWeek, sgX7_takesWeek_85_0, bV r1]
      try dsimp only
      rw [bI sn]
      try dsimp only
      rw [if_pos (show seeN tx L (SK tx L p) = c by rw [seeN, if_pos q.1]; exact q.2), h1.2.1, nI_1, r2, ew]
      by_cases z : ldN tx L hi 7 (SK tx L p + 1) = 7
      · simp [z]
      · simp [z]
    · rw [ew] at z
      have := of_decide_eq_true z
      have := x2 i (by omega)
      rw [Nat.zero_add] at this
      exact this
  · have ew : wkR tx L c hi p = (false, SK tx L p) := if_neg q
    refine ⟨B1, ?_, f1.mo (by simp), by rw [ew]; exact h1, fun z => absurd z (by rw [ew]; exact Bool.false_ne_true)⟩
    rw [enX7_takesWeek, sgX7_takesWeek_85_0, bV r1]
    try dsimp only
    rw [bI sn]
    try dsimp only
    rw [if_neg (fun z => q (by
      by_cases w : SK tx L p < L
      · rw [seeN, if_pos w] at z; exact ⟨w, z⟩
      · rw [seeN, if_neg w] at z; exact absurd z hc)), ew]
    rfl
theorem s_isOfG (N d : Nat) {k : Nat} (hk : k ≤ 5) (A : AH) : arun (N + 1000000) (d + 1) 40 [iv (nI k), iv 1] A = some (iv (if isG k then 1 else 0), A) := by
  rw [s_isOf]
  have c : k = 0 ∨ k = 1 ∨ k = 2 ∨ k = 3 ∨ k = 4 ∨ k = 5 := by omega
  congr 2
  rcases c with rfl | rfl | rfl | rfl | rfl | rfl <;> exact congrArg iv (by decide)
theorem s_isOfM (N d : Nat) {k : Nat} (hk : k ≤ 5) (A : AH) : arun (N + 1000000) (d + 1) 40 [iv (nI k), iv 2] A = some (iv (if isM k then 1 else 0), A) := by
  rw [s_isOf]
  have c : k = 0 ∨ k = 1 ∨ k = 2 ∨ k = 3 ∨ k = 4 ∨ k = 5 := by omega
  congr 2
  rcases c with rfl | rfl | rfl | rfl | rfl | rfl <;> exact congrArg iv (by decide)
theorem s_byL (N d : Nat) (x : Int32) (A : AH) : arun (N + 1000000) (d + 1) 39 [iv x] A = some (iv (if kB x ≤ 5 then nI (kB x) else -1), A) := by
  obtain ⟨I, J, cd⟩ := A
  rw [enX6_byLetter, sgX6_byLetter_0]
  by_cases h97 : x = 97
  · subst h97
    rw [show kB 97 = 0 by decide]
    rfl
  by_cases h119 : x = 119
  · subst h119
    rw [show kB 119 = 1 by decide]
    rfl
  by_cases h109 : x = 109
  · subst h109
    rw [show kB 109 = 2 by decide]
    rfl
  by_cases h112 : x = 112
  · subst h112
    rw [show kB 112 = 3 by decide]
    rfl
  by_cases h115 : x = 115
  · subst h115
    rw [show kB 115 = 4 by decide]
    rfl
  by_cases h102 : x = 102
  · subst h102
    rw [show kB 102 = 5 by decide]
    rfl
  have e : kB x = 9 := by
    unfold kB
    rw [if_neg h97, if_neg h119, if_neg h109, if_neg h112, if_neg h115, if_neg h102]
  rw [e]
  simp [h97, h119, h109, h112, h115, h102]
def DR (R : RR) (B : Nat → Nat → Int32) : Prop := B 80 0 = nI R.1 ∧ B 80 1 = nI (bitsN (fun i => isG (R.2.1 i)) R.1) ∧ B 80 2 = nI (bitsN (fun i => isM (R.2.1 i)) R.1) ∧ ∀ i, i < R.1 → B 81 i = nI (R.2.1 i) ∧ B 82 i = nI (R.2.2.1 i) ∧ B 83 i = nI (R.2.2.2 i)
theorem DR.eq {R : RR} {I B : Nat → Nat → Int32} (h : DR R I) (e : ∀ a, 80 ≤ a → a ≤ 83 → B a = I a) : DR R B := by
  unfold DR at h ⊢
  rw [e 80 (by omega) (by omega), e 81 (by omega) (by omega), e 82 (by omega) (by omega), e 83 (by omega) (by omega)]
  exact h
theorem s_room (N d : Nat) {R : RR} (hR : okR R) {k : Nat} (hk : k ≤ 5) (B : Nat → Nat → Int32) (J : Nat → Nat → Int64) (cd : Nat × Nat) (hD : DR R B) : arun (N + 1000000) (d + 2) 18 [rv (some 80), iv (nI k)] (B, J, cd) = some (iv (b2i (R.1 < 6 ∧ ¬ (isG k = true ∧ 3 ≤ gcN R))), (B, J, cd)) := by
  obtain ⟨h1, h2, h3⟩ := hR
  have g64 : bitsN (fun i => isG (R.2.1 i)) R.1 < 64 := bitsN_64 _ h1
  have fin : ∀ (x : Int32) (q : Bool) (n : Nat), x = (if q then 1 else 0) → EX2_hasRoomFor (N + 1000000) (d + 1) (n + 1) 25 [some (rv (some 80)), none, some (iv x)] (B, J, cd) = some (iv (b2i (R.1 < 6 ∧ q = false)), (B, J, cd)) := by
    intro x q n hx
    rw [sgX2_hasRoomFor_25, hD.1]
    by_cases c : R.1 < 6
    · rw [if_neg (show ¬ (6 : Int32) ≤ nI R.1 from nI_ge (b := 6) (by omega) (by decide))]
      cases q with
      | true => rw [if_neg (by rw [hx]; decide), b2i_f (fun z => absurd z.2 (by decide))]
      | false => rw [if_pos (by rw [hx]; rfl), b2i_t ⟨c, rfl⟩]
    · rw [if_pos (show (6 : Int32) ≤ nI R.1 from nI_le (a := 6) (by omega) (by omega)), b2i_f (fun z => c z.1)]
  have sh : ∀ (q : Bool), (q = true ↔ (isG k = true ∧ 3 ≤ gcN R)) → b2i (R.1 < 6 ∧ q = false) = b2i (R.1 < 6 ∧ ¬ (isG k = true ∧ 3 ≤ gcN R)) := by
    intro q hq
    by_cases c : R.1 < 6 ∧ q = false
    · rw [b2i_t c, b2i_t ⟨c.1, fun z => by rw [hq.mpr z] at c; exact absurd c.2 (by decide)⟩]
    · rw [b2i_f c, b2i_f (fun z => c ⟨z.1, by
        cases q with
        | true => exact absurd (hq.mp rfl) z.2
        | false => rfl⟩)]
  rw [enX2_hasRoomFor, sgX2_hasRoomFor_0, bI (s_isOfG N d hk _)]
  try dsimp only
  try dsimp only
  have hcc : isG k = true ∨ isG k = false := by cases isG k <;> simp
  rcases hcc with c | c
  · rw [if_neg (by rw [c]; decide), hD.2.1, bI (s_bits N d g64 _)]
    try dsimp only
    try dsimp only
    by_cases c3 : 3 ≤ gcN R
    · rw [if_neg (show ¬ nI (pc6 (bitsN (fun i => isG (R.2.1 i)) R.1)) < 3 from nI_nlt (b := 3) c3 (by have := pc6_le (bitsN (fun i => isG (R.2.1 i)) R.1); omega)), show N + 999999 = N + 999998 + 1 from rfl, fin 1 true _ rfl, sh true ⟨fun _ => ⟨c, c3⟩, fun _ => rfl⟩]
    · rw [if_pos (show nI (pc6 (bitsN (fun i => isG (R.2.1 i)) R.1)) < 3 from nI_lt (b := 3) (by have : ¬ 3 ≤ pc6 (bitsN (fun i => isG (R.2.1 i)) R.1) := c3; omega) (by decide)), show N + 999999 = N + 999997 + 1 + 1 from rfl, sgX2_hasRoomFor_23, fin 0 false _ rfl, sh false ⟨fun z => absurd z (by decide), fun z => absurd z.2 c3⟩]
  · rw [if_pos (by rw [c]; rfl), show N + 999999 = N + 999997 + 1 + 1 from rfl, sgX2_hasRoomFor_23, fin 0 false _ rfl, sh false ⟨fun z => absurd z (by decide), fun z => absurd z.1 (by rw [c]; decide)⟩]
theorem s_add (N d : Nat) {R : RR} (hR : okR R) {k m s : Nat} (hk : k ≤ 5) (h6 : R.1 < 6) (hg : ¬ (isG k = true ∧ 3 ≤ gcN R)) (B : Nat → Nat → Int32) (J : Nat → Nat → Int64) (cd : Nat × Nat) (hD : DR R B) : ∃ B', arun (N + 1000000) (d + 3) 19 [rv (some 80), iv (nI k), iv (nI m), iv (nI s)] (B, J, cd) = some (rv none, (B', J, cd)) ∧ fr [80, 81, 82, 83] B B' ∧ DR (R.1 + 1, up1 R.2.1 R.1 k, up1 R.2.2.1 R.1 m, up1 R.2.2.2 R.1 s) B' := by
  obtain ⟨h1, h2, h3⟩ := hR
  have gl := bitsN_lt (fun i => isG (R.2.1 i)) R.1
  have ml := bitsN_lt (fun i => isM (R.2.1 i)) R.1
  have g64 : bitsN (fun i => isG (R.2.1 i)) R.1 < 64 := bitsN_64 _ h1
  have m64 : bitsN (fun i => isM (R.2.1 i)) R.1 < 64 := bitsN_64 _ h1
  have rm := s_room N d ⟨h1, h2, h3⟩ hk B J cd hD
  rw [b2i_t ⟨h6, hg⟩] at rm
  -- the cells of gates and mills
  have go : ∀ (x : Int32), x = nI (bitsN (fun i => isG (up1 R.2.1 R.1 k i)) (R.1 + 1)) → ∀ n, ∃ B', EX2_add (N + 1000000) (d + 2) (n + 1 + 1) 66 [some (rv (some 80)), some (iv (nI k)), none, none] (wr (wr (wr (wr B 81 R.1 (nI k)) 82 R.1 (nI m)) 83 R.1 (nI s)) 80 1 x, J, cd) = some (rv none, (B', J, cd)) ∧ fr [80, 81, 82, 83] B B' ∧ DR (R.1 + 1, up1 R.2.1 R.1 k, up1 R.2.2.1 R.1 m, up1 R.2.2.2 R.1 s) B' := by
    intro x hx n
    have b2 : wr (wr (wr (wr B 81 R.1 (nI k)) 82 R.1 (nI m)) 83 R.1 (nI s)) 80 1 x 80 2 = nI (bitsN (fun i => isM (R.2.1 i)) R.1) := by
      rw [wr_nj (by decide), wr_ne (by decide), wr_ne (by decide), wr_ne (by decide)]; exact hD.2.2.1
    have b0 : wr (wr (wr (wr B 81 R.1 (nI k)) 82 R.1 (nI m)) 83 R.1 (nI s)) 80 1 x 80 0 = nI R.1 := by
      rw [wr_nj (by decide), wr_ne (by decide), wr_ne (by decide), wr_ne (by decide)]; exact hD.1
    have fin : ∀ (y : Int32), y = nI (bitsN (fun i => isM (up1 R.2.1 R.1 k i)) (R.1 + 1)) → DR (R.1 + 1, up1 R.2.1 R.1 k, up1 R.2.2.1 R.1 m, up1 R.2.2.2 R.1 s) (wr (wr (wr (wr (wr (wr B 81 R.1 (nI k)) 82 R.1 (nI m)) 83 R.1 (nI s)) 80 1 x) 80 2 y) 80 0 (nI (R.1 + 1))) := by
      intro y hy
      refine ⟨wr_eq, ?_, ?_, fun i hi => ?_⟩
      · rw [wr_nj (by decide), wr_nj (by decide), wr_eq]; exact hx
      · rw [wr_nj (by decide), wr_eq]; exact hy
      · have hi : i < R.1 + 1 := hi
        rw [wr_ne (by decide), wr_ne (by decide), wr_ne (by decide), wr_ne (by decide), wr_ne (by decide), wr_ne (show 82 ≠ 80 by decide), wr_ne (show 82 ≠ 80 by decide), wr_ne (show 82 ≠ 80 by decide), wr_ne (show 82 ≠ 83 by decide), wr_ne (show 83 ≠ 80 by decide), wr_ne (show 83 ≠ 80 by decide), wr_ne (show 83 ≠ 80 by decide)]
        show wr B 81 R.1 (nI k) 81 i = nI (up1 R.2.1 R.1 k i) ∧ wr (wr B 81 R.1 (nI k)) 82 R.1 (nI m) 82 i = nI (up1 R.2.2.1 R.1 m i) ∧ wr (wr (wr B 81 R.1 (nI k)) 82 R.1 (nI m)) 83 R.1 (nI s) 83 i = nI (up1 R.2.2.2 R.1 s i)
        by_cases e : i = R.1
        · subst e
          rw [wr_eq, wr_eq, wr_eq, up1_at, up1_at, up1_at, if_pos rfl, if_pos rfl, if_pos rfl]
          exact ⟨rfl, rfl, rfl⟩
        · rw [wr_nj e, wr_nj e, wr_nj e, wr_ne (show 82 ≠ 81 by decide), wr_ne (show 83 ≠ 82 by decide), wr_ne (show 83 ≠ 81 by decide), up1_at, up1_at, up1_at, if_neg e, if_neg e, if_neg e]
          exact hD.2.2.2 i (by omega)
    have fr6 : ∀ (y : Int32), fr [80, 81, 82, 83] B (wr (wr (wr (wr (wr (wr B 81 R.1 (nI k)) 82 R.1 (nI m)) 83 R.1 (nI s)) 80 1 x) 80 2 y) 80 0 (nI (R.1 + 1))) := fun y => (((((fr.rf.w (by simp)).w (by simp)).w (by simp)).w (by simp)).w (by simp)).w (by simp)
    have hcc : isM k = true ∨ isM k = false := by cases isM k <;> simp
    rcases hcc with c | c
    · refine ⟨_, ?_, fr6 _, fin (nI (bitsN (fun i => isM (R.2.1 i)) R.1 + 2 ^ R.1)) ?_⟩
      · rw [sgX2_add_66, bI (s_isOfM N (d + 1) hk _)]
        try dsimp only
        try dsimp only
        rw [if_neg (by rw [c]; decide), b2, b0, or_bit R.1 h6 _ m64 ml, sgX2_add_93, wr_nj (by decide), b0, nI_1]
      · rw [bits_up isM, if_pos c]
    · refine ⟨_, ?_, fr6 _, fin (nI (bitsN (fun i => isM (R.2.1 i)) R.1)) ?_⟩
      · rw [sgX2_add_66, bI (s_isOfM N (d + 1) hk _)]
        try dsimp only
        try dsimp only
        rw [if_pos (by rw [c]; rfl), b2, or_zero _ m64, sgX2_add_93, wr_nj (by decide), b0, nI_1]
      · rw [bits_up isM, if_neg (by rw [c]; decide), Nat.add_zero]
  have i6 : inb (B 80 0) 6 = true := by rw [hD.1]; exact inb_t h6 (by omega)
  have hcc : isG k = true ∨ isG k = false := by cases isG k <;> simp
  rcases hcc with c | c
  · obtain ⟨B', r, f, hd⟩ := go (nI (bitsN (fun i => isG (R.2.1 i)) R.1 + 2 ^ R.1)) (by rw [bits_up isG, if_pos c]) (N + 999997)
    refine ⟨B', ?_, f, hd⟩
    rw [enX2_add, sgX2_add_0, bI rm]
    try dsimp only
    rw [if_neg n10, i6, if_pos rfl, if_pos rfl, if_pos rfl, hD.1, nI_clamp (by omega), bI (s_isOfG N (d + 1) hk _)]
    try dsimp only
    try dsimp only
    rw [if_neg (by rw [c]; decide), hD.2.1, wr_ne (by decide), wr_ne (by decide), wr_ne (by decide), hD.1, or_bit R.1 h6 _ g64 gl]
    exact r
  · obtain ⟨B', r, f, hd⟩ := go (nI (bitsN (fun i => isG (R.2.1 i)) R.1)) (by rw [bits_up isG, if_neg (by rw [c]; decide), Nat.add_zero]) (N + 999997)
    refine ⟨B', ?_, f, hd⟩
    rw [enX2_add, sgX2_add_0, bI rm]
    try dsimp only
    rw [if_neg n10, i6, if_pos rfl, if_pos rfl, if_pos rfl, hD.1, nI_clamp (by omega), bI (s_isOfG N (d + 1) hk _)]
    try dsimp only
    try dsimp only
    rw [if_pos (by rw [c]; rfl), hD.2.1, or_zero _ g64]
    exact r
