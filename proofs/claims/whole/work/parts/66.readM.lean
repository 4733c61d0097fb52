/-! a TEXT read by the reference -/
def MD (tx : Nat → Int32) (L t p : Nat) (B : Nat → Nat → Int32) : Prop := B 87 20 = nI p ∧ B 92 t = nI L ∧ ∀ i, i < L → B 93 (60 * t + i) = tx i
theorem MD.eq {tx : Nat → Int32} {L t p : Nat} {I B : Nat → Nat → Int32} (h : MD tx L t p I) (e7 : B 87 20 = I 87 20) (e2 : B 92 = I 92) (e3 : B 93 = I 93) : MD tx L t p B := ⟨e7.trans h.1, by rw [e2]; exact h.2.1, by rw [e3]; exact h.2.2⟩
theorem MD.st {tx : Nat → Int32} {L t p q : Nat} {I B : Nat → Nat → Int32} (h : MD tx L t p I) (e2 : B 92 = I 92) (e3 : B 93 = I 93) : MD tx L t q (wr B 87 20 (nI q)) := ⟨wr_eq, by rw [wr_ne (by decide), e2]; exact h.2.1, by rw [wr_ne (by decide), e3]; exact h.2.2⟩
def hereN (tx : Nat → Int32) (L p : Nat) : Int32 := if p < L then tx p else -9
theorem s_here (N d : Nat) {tx : Nat → Int32} {L t p : Nat} (hL : L ≤ 60) (ht : t < 4) (hp : p ≤ 60) (B : Nat → Nat → Int32) (J : Nat → Nat → Int64) (cd : Nat × Nat) (hB : MD tx L t p B) : arun (N + 1000000) (d + 1) 157 [rv (some 87), iv (nI t)] (B, J, cd) = some (iv (hereN tx L p), (B, J, cd)) := by
  obtain ⟨h1, h2, h3⟩ := hB
  rw [enX10_here, sgX10_here_0, inb_t ht (by omega), if_pos rfl, nI_clamp (by omega), h1, h2]
  by_cases c : p < L
  · rw [if_neg (nI_ge c (by omega)), ix60, inb_t (show 60 * t + p < 240 by omega) (by omega), if_pos rfl, nI_clamp (by omega), h3 p c, hereN, if_pos c]
  · rw [if_pos (nI_le (by omega) (by omega)), hereN, if_neg c]
theorem here32 (tx : Nat → Int32) (L p : Nat) : (hereN tx L p = 32) = (p < L ∧ tx p = 32) := by
  unfold hereN
  by_cases c : p < L
  · rw [if_pos c]; exact propext ⟨fun q => ⟨c, q⟩, fun q => q.2⟩
  · rw [if_neg c]; exact propext ⟨fun q => absurd q (by decide), fun q => absurd q.1 c⟩
theorem l_skipM (N d : Nat) {tx : Nat → Int32} {L t : Nat} (hL : L ≤ 60) (ht : t < 4) (J : Nat → Nat → Int64) (cd : Nat × Nat) : ∀ (m f p : Nat) (B : Nat → Nat → Int32), L ≤ p + m → m < f → p ≤ L → MD tx L t p B → ∃ B', EX10_skip (N + 1000000) (d + 1) f 0 [some (rv (some 87)), some (iv (nI t))] (B, J, cd) = some (rv none, (B', J, cd)) ∧ fr [87] B B' ∧ f87 [20] B B' ∧ MD tx L t (skN tx L m p) B' := by
  intro m
  induction m with
  | zero =>
    intro f p B hm hf hp hB
    obtain ⟨g, rfl⟩ : ∃ g, f = g + 1 := ⟨f - 1, by omega⟩
    refine ⟨B, ?_, fr.rf, f87.rf, hB⟩
    rw [sgX10_skip_0, bI (s_here N d hL ht (show p ≤ 60 by omega) B J cd hB)]
    try dsimp only
    try dsimp only
    rw [if_neg (by rw [here32]; exact fun q => absurd q.1 (by omega))]
  | succ m ih =>
    intro f p B hm hf hp hB
    obtain ⟨g, rfl⟩ : ∃ g, f = g + 1 := ⟨f - 1, by omega⟩
    by_cases c : p < L ∧ tx p = 32
    · have h1 : MD tx L t (p + 1) (wr B 87 20 (nI (p + 1))) := hB.st rfl rfl
      obtain ⟨B', r, f1, g1, hm1⟩ := ih g (p + 1) _ (by omega) (by omega) (by omega) h1
      refine ⟨B', ?_, (fr.rf.w (by simp)).tr f1, (f87.rf.w (by simp)).tr g1, by rw [skN_t c]; exact hm1⟩
      rw [sgX10_skip_0, bI (s_here N d hL ht (show p ≤ 60 by omega) B J cd hB)]
      try dsimp only
      try dsimp only
      rw [if_pos (by rw [here32]; exact c), hB.1, nI_1]
      exact r
    · refine ⟨B, ?_, fr.rf, f87.rf, by rw [skN_f c]; exact hB⟩
      rw [sgX10_skip_0, bI (s_here N d hL ht (show p ≤ 60 by omega) B J cd hB)]
      try dsimp only
      try dsimp only
      rw [if_neg (by rw [here32]; exact c)]
theorem s_skipM (N d : Nat) {tx : Nat → Int32} {L t p : Nat} (hL : L ≤ 60) (ht : t < 4) (hp : p ≤ L) (B : Nat → Nat → Int32) (J : Nat → Nat → Int64) (cd : Nat × Nat) (hB : MD tx L t p B) : ∃ B', arun (N + 1000000) (d + 2) 158 [rv (some 87), iv (nI t)] (B, J, cd) = some (rv none, (B', J, cd)) ∧ fr [87] B B' ∧ f87 [20] B B' ∧ MD tx L t (SK tx L p) B' := by
  obtain ⟨B', r, f, g, h⟩ := l_skipM N d hL ht J cd 60 (N + 1000000) p B (by omega) (by omega) hp hB
  exact ⟨B', by rw [enX10_skip]; exact r, f, g, h⟩
theorem s_figT_102 (N d : Nat) {tx : Nat → Int32} {L t p lo hi at_ : Nat} (hL : L ≤ 60) (ht : t < 4) (hp : p ≤ L) (hl : lo ≤ 9) (hh : hi ≤ 9) (ha : at_ < 14) (B : Nat → Nat → Int32) (J : Nat → Nat → Int64) (cd : Nat × Nat) (hB : MD tx L t p B) (c : fgP tx L lo hi p) : arun (N + 1000000) (d + 2) 159 [rv (some 87), iv (nI t), rv (some 102), iv (nI at_), iv (nI lo), iv (nI hi)] (B, J, cd) = some (iv 1, (wr (wr B 102 at_ (nI (fvN tx p))) 87 20 (nI (p + 1)), J, cd)) := by
  have v := (fg_v hl hh c).1
  rw [enX10_figure, sgX10_figure_102_0, bI (s_here N d hL ht (show p ≤ 60 by omega) B J cd hB)]
  try dsimp only
  try dsimp only
  rw [show hereN tx L p = tx p from if_pos c.1, bI (s_in _ _ _ _ _ _)]
  try dsimp only
  try dsimp only
  rw [b2i_t ((fg_in hl hh).mpr c.2), if_neg n10, inb_t ha (by omega), if_pos rfl, nI_clamp (by omega), v, hB.1, nI_1]
theorem s_figF_102 (N d : Nat) {tx : Nat → Int32} {L t p lo hi : Nat} (hL : L ≤ 60) (ht : t < 4) (hp : p ≤ L) (hl : lo ≤ 9) (hh : hi ≤ 9) (x : Int32) (B : Nat → Nat → Int32) (J : Nat → Nat → Int64) (cd : Nat × Nat) (hB : MD tx L t p B) (c : ¬ fgP tx L lo hi p) : arun (N + 1000000) (d + 2) 159 [rv (some 87), iv (nI t), rv (some 102), iv x, iv (nI lo), iv (nI hi)] (B, J, cd) = some (iv 0, (B, J, cd)) := by
  rw [enX10_figure, sgX10_figure_102_0, bI (s_here N d hL ht (show p ≤ 60 by omega) B J cd hB)]
  try dsimp only
  try dsimp only
  rw [bI (s_in _ _ _ _ _ _)]
  try dsimp only
  try dsimp only
  rw [b2i_f (fun q => c (by
    have q := (fg_in hl hh).mp q
    by_cases w : p < L
    · rw [hereN, if_pos w] at q; exact ⟨w, q⟩
    · rw [hereN, if_neg w] at q; exact absurd (Int32.lt_of_lt_of_le (by decide : (-9 : Int32) < 0) (nI_pos' (by omega))) q.1)), if_pos rfl]
theorem s_figT_103 (N d : Nat) {tx : Nat → Int32} {L t p lo hi at_ : Nat} (hL : L ≤ 60) (ht : t < 4) (hp : p ≤ L) (hl : lo ≤ 9) (hh : hi ≤ 9) (ha : at_ < 18) (B : Nat → Nat → Int32) (J : Nat → Nat → Int64) (cd : Nat × Nat) (hB : MD tx L t p B) (c : fgP tx L lo hi p) : arun (N + 1000000) (d + 2) 159 [rv (some 87), iv (nI t), rv (some 103), iv (nI at_), iv (nI lo), iv (nI hi)] (B, J, cd) = some (iv 1, (wr (wr B 103 at_ (nI (fvN tx p))) 87 20 (nI (p + 1)), J, cd)) := by
  have v := (fg_v hl hh c).1
  rw [enX10_figure, sgX10_figure_103_0, bI (s_here N d hL ht (show p ≤ 60 by omega) B J cd hB)]
  try dsimp only
  try dsimp only
  rw [show hereN tx L p = tx p from if_pos c.1, bI (s_in _ _ _ _ _ _)]
  try dsimp only
  try dsimp only
  rw [b2i_t ((fg_in hl hh).mpr c.2), if_neg n10, inb_t ha (by omega), if_pos rfl, nI_clamp (by omega), v, hB.1, nI_1]
theorem s_figF_103 (N d : Nat) {tx : Nat → Int32} {L t p lo hi : Nat} (hL : L ≤ 60) (ht : t < 4) (hp : p ≤ L) (hl : lo ≤ 9) (hh : hi ≤ 9) (x : Int32) (B : Nat → Nat → Int32) (J : Nat → Nat → Int64) (cd : Nat × Nat) (hB : MD tx L t p B) (c : ¬ fgP tx L lo hi p) : arun (N + 1000000) (d + 2) 159 [rv (some 87), iv (nI t), rv (some 103), iv x, iv (nI lo), iv (nI hi)] (B, J, cd) = some (iv 0, (B, J, cd)) := by
  rw [enX10_figure, sgX10_figure_103_0, bI (s_here N d hL ht (show p ≤ 60 by omega) B J cd hB)]
  try dsimp only
  try dsimp only
  rw [bI (s_in _ _ _ _ _ _)]
  try dsimp only
  try dsimp only
  rw [b2i_f (fun q => c (by
    have q := (fg_in hl hh).mp q
    by_cases w : p < L
    · rw [hereN, if_pos w] at q; exact ⟨w, q⟩
    · rw [hereN, if_neg w] at q; exact absurd (Int32.lt_of_lt_of_le (by decide : (-9 : Int32) < 0) (nI_pos' (by omega))) q.1)), if_pos rfl]
theorem l_weekM (N d : Nat) {tx : Nat → Int32} {L t hi at_ : Nat} (hL : L ≤ 60) (ht : t < 4) (hh : hi ≤ 9) (ha : at_ ≤ 7) (J : Nat → Nat → Int64) (cd : Nat × Nat) : ∀ (m e f q : Nat) (B : Nat → Nat → Int32), e + m = 7 → m < f → q ≤ L → MD tx L t q B → ∃ B', EX10_readsWeek (N + 1000000) (d + 2) f 29 [some (rv (some 87)), some (iv (nI t)), none, some (iv (nI at_)), some (iv (nI hi)), some (iv (nI e))] (B, J, cd) = some (iv (if ldN tx L hi m q = m then 1 else 0), (B', J, cd)) ∧ fr [87, 102] B B' ∧ f87 [20] B B' ∧ MD tx L t (q + ldN tx L hi m q) B' ∧ (∀ i, i < at_ + e → B' 102 i = B 102 i) ∧ (∀ i, i < ldN tx L hi m q → B' 102 (at_ + e + i) = nI (fvN tx (q + i))) := by
  intro m
  induction m with
  | zero =>
    intro e f q B he hf hq hB
    have : e = 7 := by omega
    subst this
    obtain ⟨g, rfl⟩ : ∃ g, f = g + 1 := ⟨f - 1, by omega⟩
    exact ⟨B, by rw [sgX10_readsWeek_29, if_pos (by decide)]; rfl, fr.rf, f87.rf, hB, fun _ _ => rfl, fun i hi => absurd hi (by show ¬ i < 0; omega)⟩
  | succ m ih =>
    intro e f q B he hf hq hB
    obtain ⟨g, rfl⟩ : ∃ g, f = g + 1 := ⟨f - 1, by omega⟩
    have c7 : ¬ (7 : Int32) ≤ nI e := nI_ge (b := 7) (by omega) (by decide)
    by_cases c : fgP tx L 0 hi q
    · have hlt := c.1
      have hB1 : MD tx L t (q + 1) (wr (wr B 102 (at_ + e) (nI (fvN tx q))) 87 20 (nI (q + 1))) := hB.st (wr_ne (by decide)) (wr_ne (by decide))
      obtain ⟨B', r, f1, g1, h1, lo, hi'⟩ := ih (e + 1) g (q + 1) _ (by omega) (by omega) (by omega) hB1
      have eL : ldN tx L hi (m + 1) q = ldN tx L hi m (q + 1) + 1 := ldN_t c
      have rf1 := s_figT_102 N d (lo := 0) (hi := hi) (at_ := at_ + e) hL ht hq (by decide) hh (by omega) B J cd hB c
      rw [nI_0] at rf1
      refine ⟨B', ?_, ((fr.rf.w (by simp)).w (by simp)).tr f1, ((f87.rf.o (by decide)).w (by simp)).tr g1, ?_, fun i hi => ?_, fun i hi => ?_⟩
      · rw [sgX10_readsWeek_29, if_neg c7, nI_add, bI rf1]
        try dsimp only
        rw [if_neg n10, nI_1, r, eL]
        by_cases z : ldN tx L hi m (q + 1) = m
        · rw [if_pos z, if_pos (by omega)]
        · rw [if_neg z, if_neg (by omega)]
      · rw [eL, show q + (ldN tx L hi m (q + 1) + 1) = q + 1 + ldN tx L hi m (q + 1) by omega]; exact h1
      · rw [lo i (by omega), wr_ne (by decide), wr_nj (by omega)]
      · rw [eL] at hi
        cases i with
        | zero => rw [Nat.add_zero, lo (at_ + e) (by omega), wr_ne (by decide), wr_eq]; rfl
        | succ i => rw [show at_ + e + (i + 1) = at_ + (e + 1) + i by omega, hi' i (by omega), show q + (i + 1) = q + 1 + i by omega]
    · have eL : ldN tx L hi (m + 1) q = 0 := ldN_f c
      have rf1 := s_figF_102 N d (lo := 0) (hi := hi) hL ht hq (by decide) hh (nI at_ + nI e) B J cd hB c
      rw [nI_0] at rf1
      refine ⟨B, ?_, fr.rf, f87.rf, by rw [eL]; exact hB, fun _ _ => rfl, fun i hi => absurd hi (by rw [eL]; omega)⟩
      rw [sgX10_readsWeek_29, if_neg c7, bI rf1]
      try dsimp only
      rw [if_pos rfl, eL, if_neg (by omega)]
theorem s_weekM (N d : Nat) {tx : Nat → Int32} {L t p hi at_ : Nat} (hL : L ≤ 60) (ht : t < 4) (hh : hi ≤ 9) (ha : at_ ≤ 7) (hp : p ≤ L) {c : Int32} (hc : ¬ (-9 : Int32) = c) (B : Nat → Nat → Int32) (J : Nat → Nat → Int64) (cd : Nat × Nat) (hB : MD tx L t p B) : ∃ B', arun (N + 1000000) (d + 3) 160 [rv (some 87), iv (nI t), iv c, iv (nI at_), iv (nI hi)] (B, J, cd) = some (iv (if (wkR tx L c hi p).1 then 1 else 0), (B', J, cd)) ∧ fr [87, 102] B B' ∧ f87 [20] B B' ∧ MD tx L t (wkR tx L c hi p).2 B' ∧ (∀ i, i < at_ → B' 102 i = B 102 i) ∧ ((wkR tx L c hi p).1 = true → ∀ i, i < 7 → B' 102 (at_ + i) = nI (fvN tx (SK tx L p + 1 + i))) := by
  obtain ⟨B1, r1, f1, g1, h1⟩ := s_skipM N d hL ht hp B J cd hB
  have hs := SK_le (tx := tx) hp
  have sn := s_here N (d + 1) hL ht (show SK tx L p ≤ 60 by omega) B1 J cd h1
  by_cases q : SK tx L p < L ∧ tx (SK tx L p) = c
  · have ew : wkR tx L c hi p = (decide (ldN tx L hi 7 (SK tx L p + 1) = 7), SK tx L p + 1 + ldN tx L hi 7 (SK tx L p + 1)) := if_pos q
    obtain ⟨B2, r2, f2, g2, h2, lo, x2⟩ := l_weekM N d hL ht hh ha J cd 7 0 (N + 999999) (SK tx L p + 1) (wr B1 87 20 (nI (SK tx L p + 1))) (by omega) (by omega) (by have := q.1; omega) (h1.st rfl rfl)
    rw [nI_0] at r2
    refine ⟨B2, ?_, (f1.mo (by simp)).tr ((fr.rf.w (by simp)).tr f2), g1.tr ((f87.rf.w (by simp)).tr g2), by rw [ew]; exact h2, fun i hi => ?_, fun z i hi => ?_⟩
    · rw [enX10_readsWeek, sgX10_readsWeek_0, bV r1]
      try dsimp only
      rw [bI sn]
      try dsimp only
      rw [if_pos (show hereN tx L (SK tx L p) = c by rw [hereN, if_pos q.1]; exact q.2), h1.1, nI_1, r2, ew]
      by_cases z : ldN tx L hi 7 (SK tx L p + 1) = 7
      · simp [z]
      · simp [z]
    · rw [lo i (by omega), wr_ne (by decide), f1 102 (by decide)]
    · rw [ew] at z
      have := of_decide_eq_true z
      have := x2 i (by omega)
      rw [Nat.add_zero] at this
      exact this
  · have ew : wkR tx L c hi p = (false, SK tx L p) := if_neg q
    refine ⟨B1, ?_, f1.mo (by simp), g1, by rw [ew]; exact h1, fun i _ => by rw [f1 102 (by decide)], fun z => absurd z (by rw [ew]; exact Bool.false_ne_true)⟩
    rw [enX10_readsWeek, sgX10_readsWeek_0, bV r1]
    try dsimp only
    rw [bI sn]
    try dsimp only
    rw [if_neg (fun z => q (by
      by_cases w : SK tx L p < L
      · rw [hereN, if_pos w] at z; exact ⟨w, z⟩
      · rw [hereN, if_neg w] at z; exact absurd z hc)), ew]
    rfl
theorem s_kindBy (N d : Nat) (x : Int32) (A : AH) : arun (N + 1000000) (d + 1) 161 [iv x] A = some (iv (if kB x ≤ 5 then nI (kB x) else -9), A) := by
  obtain ⟨I, J, cd⟩ := A
  rw [enX10_kindBy, sgX10_kindBy_0]
  by_cases h97 : x = 97
  · subst h97
    rw [show kB 97 = 0 by decide]
    rfl
  by_cases h119 : x = 119
  · subst h119
    rw [show kB 119 = 1 by decide]
    rfl
  by_cases h109 : x = 109
  · subst h109
    rw [show kB 109 = 2 by decide]
    rfl
  by_cases h112 : x = 112
  · subst h112
    rw [show kB 112 = 3 by decide]
    rfl
  by_cases h115 : x = 115
  · subst h115
    rw [show kB 115 = 4 by decide]
    rfl
  by_cases h102 : x = 102
  · subst h102
    rw [show kB 102 = 5 by decide]
    rfl
  have e : kB x = 9 := by
    unfold kB
    rw [if_neg h97, if_neg h119, if_neg h109, if_neg h112, if_neg h115, if_neg h102]
  rw [e]
  simp [h97, h119, h109, h112, h115, h102]
def MR (R : RR) (B : Nat → Nat → Int32) : Prop := B 87 21 = nI R.1 ∧ B 87 22 = nI (gcN R) ∧ ∀ i, i < R.1 → B 103 (3 * i) = nI (R.2.1 i) ∧ B 103 (3 * i + 1) = nI (R.2.2.1 i) ∧ B 103 (3 * i + 2) = nI (R.2.2.2 i)
theorem ix3 (n : Nat) : (3 : Int32) * nI n = nI (3 * n) := by
  have := ix40
  have h : (3 : Int32) * nI n = nI n + nI n + nI n := by
    apply Int32.toBitVec_inj.1
    simp
    rw [show (3#32 : BitVec 32) = 1#32 + 1#32 + 1#32 by decide, BitVec.add_mul, BitVec.add_mul, BitVec.one_mul]
  rw [h, nI_add, nI_add]
  congr 1
  omega
theorem s_reachM (N d : Nat) {tx : Nat → Int32} {L t p : Nat} (hL : L ≤ 60) (ht : t < 4) (hp : p ≤ L) {R : RR} (hR : okR R) (B : Nat → Nat → Int32) (J : Nat → Nat → Int64) (cd : Nat × Nat) (hB : MD tx L t p B) (hD : MR R B) : ∃ B', arun (N + 1000000) (d + 3) 164 [rv (some 87), iv (nI t)] (B, J, cd) = some (iv (if (rcR tx L p R).1 then 1 else 0), (B', J, cd)) ∧ fr [87, 103] B B' ∧ f87 [20, 21, 22] B B' ∧ MD tx L t (rcR tx L p R).2.1 B' ∧ ((rcR tx L p R).1 = true → MR (rcR tx L p R).2.2 B') := by
  have h6 := hR.1
  have sn := s_here N (d + 1) hL ht (show p ≤ 60 by omega) B J cd hB
  have n9 : ∀ k, k ≤ 5 → ¬ nI k = -9 := by
    intro k hk
    have : k = 0 ∨ k = 1 ∨ k = 2 ∨ k = 3 ∨ k = 4 ∨ k = 5 := by omega
    rcases this with rfl | rfl | rfl | rfl | rfl | rfl <;> decide
  have bad : ∀ {q : Option RES}, rcR tx L p R = (false, p, R) → q = some (iv 0, (B, J, cd)) → ∃ B', q = some (iv (if (rcR tx L p R).1 then 1 else 0), (B', J, cd)) ∧ fr [87, 103] B B' ∧ f87 [20, 21, 22] B B' ∧ MD tx L t (rcR tx L p R).2.1 B' ∧ ((rcR tx L p R).1 = true → MR (rcR tx L p R).2.2 B') := by
    intro q e hq
    exact ⟨B, by rw [hq, e]; rfl, fr.rf, f87.rf, by rw [e]; exact hB, fun z => absurd z (by rw [e]; exact Bool.false_ne_true)⟩
  rw [enX10_readsReach, sgX10_readsReach_0, bI sn]
  try dsimp only
  rw [bI (s_kindBy N (d + 1) _ _)]
  try dsimp only
  try dsimp only
  by_cases c : p < L
  · have es : hereN tx L p = tx p := if_pos c
    rw [es]
    by_cases ck : kB (tx p) ≤ 5
    · rw [if_pos ck, if_neg (n9 _ ck)]
      by_cases c6 : R.1 = 6
      · exact bad (if_neg (fun q => absurd q.2.2.1 (by omega))) (by rw [if_pos (show B 87 21 = 6 by rw [hD.1, c6]; rfl)])
      · have hn6 : R.1 < 6 := by omega
        rw [if_neg (show ¬ B 87 21 = 6 from fun q => c6 (nI_inj (b := 6) (by omega) (by decide) (hD.1.symm.trans q))), bI (s_isGate N (d + 1) ck _)]
        try dsimp only
        try dsimp only
        by_cases cg : isG (kB (tx p)) = true ∧ 3 ≤ gcN R
        · have e3 : gcN R = 3 := Nat.le_antisymm hR.2.1 cg.2
          exact bad (if_neg (fun q => q.2.2.2 cg)) (by rw [if_neg (by rw [cg.1]; decide), if_pos (show B 87 22 = 3 by rw [hD.2.1, e3]; rfl)])
        · -- it goes on at 41
          have go : ∀ {q : Option RES}, EX10_readsReach (N + 1000000) (d + 2) (N + 999999) 41 [some (rv (some 87)), some (iv (nI t)), some (iv (nI (kB (tx p)))), none] (B, J, cd) = q → (if (if isG (kB (tx p)) = true then (1 : Int32) else 0) = 0 then EX10_readsReach (N + 1000000) (d + 2) (N + 999999) 41 [some (rv (some 87)), some (iv (nI t)), some (iv (nI (kB (tx p)))), none] (B, J, cd) else if B 87 22 = 3 then some (iv 0, (B, J, cd)) else EX10_readsReach (N + 1000000) (d + 2) (N + 999999) 41 [some (rv (some 87)), some (iv (nI t)), some (iv (nI (kB (tx p)))), none] (B, J, cd)) = q := by
            intro q hq
            by_cases w : isG (kB (tx p)) = true
            · have : ¬ 3 ≤ gcN R := fun z => cg ⟨w, z⟩
              rw [if_neg (by rw [w]; decide), if_neg (by rw [hD.2.1]; exact fun z => absurd (nI_inj (b := 3) (by omega) (by decide) z) (by omega))]
              exact hq
            · rw [if_pos (by rw [if_neg w])]
              exact hq
          have hfv : ∀ k, fgP tx L 1 9 k → nI (fvN tx k) = nI (fvN tx k) := fun _ _ => rfl
          have hB1 : MD tx L t (p + 1) (wr (wr B 103 (3 * R.1) (nI (kB (tx p)))) 87 20 (nI (p + 1))) := hB.st (wr_ne (by decide)) (wr_ne (by decide))
          have i18 : inb (nI (3 * R.1)) 18 = true := inb_t (by omega) (by omega)
          have st : EX10_readsReach (N + 1000000) (d + 2) (N + 999999) 41 [some (rv (some 87)), some (iv (nI t)), some (iv (nI (kB (tx p)))), none] (B, J, cd) = (cI (arun (N + 1000000) (d + 2)) 159 [rv (some 87), iv (nI t), rv (some 103), iv (nI (3 * R.1 + 1)), iv 1, iv 9] (wr (wr B 103 (3 * R.1) (nI (kB (tx p)))) 87 20 (nI (p + 1)), J, cd)).bind fun r1 => if r1.1 = 0 then some (iv 0, r1.2) else (cI (arun (N + 1000000) (d + 2)) 159 [rv (some 87), iv (nI t), rv (some 103), iv (nI (3 * R.1 + 2)), iv 0, iv 9] r1.2).bind fun r2 => if r2.1 = 0 then some (iv 0, r2.2) else (cI (arun (N + 1000000) (d + 2)) 162 [iv (nI (kB (tx p)))] r2.2).bind fun r3 => if r3.1 = 0 then EX10_readsReach (N + 1000000) (d + 2) (N + 999998) 124 [some (rv (some 87)), none, none, none] (wr r3.2.1 87 22 ((r2.2.1 87 22) + 0), r3.2.2.1, r3.2.2.2) else EX10_readsReach (N + 1000000) (d + 2) (N + 999998) 124 [some (rv (some 87)), none, none, none] (wr r3.2.1 87 22 ((r2.2.1 87 22) + 1), r3.2.2.1, r3.2.2.2) := by
            rw [sgX10_readsReach_41, hD.1, ix3, i18, if_pos rfl, nI_clamp (by omega), hB.1, nI_1, show (2 : Int32) = nI 2 from rfl, nI_add]
            rw [nI_1]
          have gg : ∀ {X : Prop}, (∃ B', EX10_readsReach (N + 1000000) (d + 2) (N + 999999) 41 [some (rv (some 87)), some (iv (nI t)), some (iv (nI (kB (tx p)))), none] (B, J, cd) = some (iv (if (rcR tx L p R).1 then 1 else 0), (B', J, cd)) ∧ fr [87, 103] B B' ∧ f87 [20, 21, 22] B B' ∧ MD tx L t (rcR tx L p R).2.1 B' ∧ ((rcR tx L p R).1 = true → MR (rcR tx L p R).2.2 B')) → ((∃ B', (if (if isG (kB (tx p)) = true then (1 : Int32) else 0) = 0 then EX10_readsReach (N + 1000000) (d + 2) (N + 999999) 41 [some (rv (some 87)), some (iv (nI t)), some (iv (nI (kB (tx p)))), none] (B, J, cd) else if B 87 22 = 3 then some (iv 0, (B, J, cd)) else EX10_readsReach (N + 1000000) (d + 2) (N + 999999) 41 [some (rv (some 87)), some (iv (nI t)), some (iv (nI (kB (tx p)))), none] (B, J, cd)) = some (iv (if (rcR tx L p R).1 then 1 else 0), (B', J, cd)) ∧ fr [87, 103] B B' ∧ f87 [20, 21, 22] B B' ∧ MD tx L t (rcR tx L p R).2.1 B' ∧ ((rcR tx L p R).1 = true → MR (rcR tx L p R).2.2 B')) → X) → X := by
            rintro X ⟨B', a, b⟩ k
            exact k ⟨B', go a, b⟩
          refine gg ?_ id
          rw [st]
          by_cases f1 : fgP tx L 1 9 (p + 1)
          · have l1 := f1.1
            have s1 := s_figT_103 N d (lo := 1) (hi := 9) (at_ := 3 * R.1 + 1) hL ht (show p + 1 ≤ L by omega) (by decide) (by decide) (by omega) _ J cd hB1 f1
            rw [show nI 1 = (1 : Int32) from rfl, show nI 9 = (9 : Int32) from rfl] at s1
            rw [bI s1]
            try dsimp only
            rw [if_neg n10]
            have hB2 : MD tx L t (p + 1 + 1) (wr (wr (wr (wr B 103 (3 * R.1) (nI (kB (tx p)))) 87 20 (nI (p + 1))) 103 (3 * R.1 + 1) (nI (fvN tx (p + 1)))) 87 20 (nI (p + 1 + 1))) := hB1.st (wr_ne (by decide)) (wr_ne (by decide))
            by_cases f2 : fgP tx L 0 9 (p + 1 + 1)
            · have l2 := f2.1
              have s2 := s_figT_103 N d (lo := 0) (hi := 9) (at_ := 3 * R.1 + 2) hL ht (show p + 1 + 1 ≤ L by omega) (by decide) (by decide) (by omega) _ J cd hB2 f2
              rw [nI_0, show nI 9 = (9 : Int32) from rfl] at s2
              rw [bI s2]
              try dsimp only
              rw [if_neg n10, bI (s_isGate N (d + 1) ck _)]
              try dsimp only
              try dsimp only
              have er : rcR tx L p R = (true, p + 3, (R.1 + 1, up1 R.2.1 R.1 (kB (tx p)), up1 R.2.2.1 R.1 (fvN tx (p + 1)), up1 R.2.2.2 R.1 (fvN tx (p + 2)))) := by
                unfold rcR
                rw [if_pos ⟨c, ck, hn6, cg⟩, if_pos f1, if_pos f2]
              have hB3 := hB2.st (q := p + 1 + 1 + 1) (B := wr (wr (wr (wr (wr B 103 (3 * R.1) (nI (kB (tx p)))) 87 20 (nI (p + 1))) 103 (3 * R.1 + 1) (nI (fvN tx (p + 1)))) 87 20 (nI (p + 1 + 1))) 103 (3 * R.1 + 2) (nI (fvN tx (p + 1 + 1)))) (wr_ne (by decide)) (wr_ne (by decide))
              have fX : fr [87, 103] B (wr (wr (wr (wr (wr (wr B 103 (3 * R.1) (nI (kB (tx p)))) 87 20 (nI (p + 1))) 103 (3 * R.1 + 1) (nI (fvN tx (p + 1)))) 87 20 (nI (p + 1 + 1))) 103 (3 * R.1 + 2) (nI (fvN tx (p + 1 + 1)))) 87 20 (nI (p + 1 + 1 + 1))) := (((((fr.rf.w (by simp)).w (by simp)).w (by simp)).w (by simp)).w (by simp)).w (by simp)
              have gX : f87 [20] B (wr (wr (wr (wr (wr (wr B 103 (3 * R.1) (nI (kB (tx p)))) 87 20 (nI (p + 1))) 103 (3 * R.1 + 1) (nI (fvN tx (p + 1)))) 87 20 (nI (p + 1 + 1))) 103 (3 * R.1 + 2) (nI (fvN tx (p + 1 + 1)))) 87 20 (nI (p + 1 + 1 + 1))) := (((((f87.rf.o (by decide)).w (by simp)).o (by decide)).w (by simp)).o (by decide)).w (by simp)
              have x103 : ∀ i, i < R.1 + 1 → wr (wr (wr (wr (wr (wr B 103 (3 * R.1) (nI (kB (tx p)))) 87 20 (nI (p + 1))) 103 (3 * R.1 + 1) (nI (fvN tx (p + 1)))) 87 20 (nI (p + 1 + 1))) 103 (3 * R.1 + 2) (nI (fvN tx (p + 1 + 1)))) 87 20 (nI (p + 1 + 1 + 1)) 103 (3 * i) = nI (up1 R.2.1 R.1 (kB (tx p)) i) ∧ wr (wr (wr (wr (wr (wr B 103 (3 * R.1) (nI (kB (tx p)))) 87 20 (nI (p + 1))) 103 (3 * R.1 + 1) (nI (fvN tx (p + 1)))) 87 20 (nI (p + 1 + 1))) 103 (3 * R.1 + 2) (nI (fvN tx (p + 1 + 1)))) 87 20 (nI (p + 1 + 1 + 1)) 103 (3 * i + 1) = nI (up1 R.2.2.1 R.1 (fvN tx (p + 1)) i) ∧ wr (wr (wr (wr (wr (wr B 103 (3 * R.1) (nI (kB (tx p)))) 87 20 (nI (p + 1))) 103 (3 * R.1 + 1) (nI (fvN tx (p + 1)))) 87 20 (nI (p + 1 + 1))) 103 (3 * R.1 + 2) (nI (fvN tx (p + 1 + 1)))) 87 20 (nI (p + 1 + 1 + 1)) 103 (3 * i + 2) = nI (up1 R.2.2.2 R.1 (fvN tx (p + 2)) i) := by
                intro i hi
                have e0 : ∀ (x : Int32) (X : Nat → Nat → Int32), wr X 87 20 x 103 = X 103 := fun _ _ => wr_ne (by decide)
                by_cases e : i = R.1
                · subst e
                  rw [up1_at, up1_at, up1_at, if_pos rfl, if_pos rfl, if_pos rfl, e0]
                  refine ⟨?_, ?_, ?_⟩
                  · rw [wr_nj (by omega), e0, wr_nj (by omega), e0, wr_eq]
                  · rw [wr_nj (by omega), e0, wr_eq]
                  · rw [wr_eq]
                · rw [up1_at, up1_at, up1_at, if_neg e, if_neg e, if_neg e, e0]
                  obtain ⟨a1, a2, a3⟩ := hD.2.2 i (by omega)
                  refine ⟨?_, ?_, ?_⟩
                  · rw [wr_nj (by omega), e0, wr_nj (by omega), e0, wr_nj (by omega)]; exact a1
                  · rw [wr_nj (by omega), e0, wr_nj (by omega), e0, wr_nj (by omega)]; exact a2
                  · rw [wr_nj (by omega), e0, wr_nj (by omega), e0, wr_nj (by omega)]; exact a3
              have fin : ∀ (x : Int32), x = nI (gcN R + (if isG (kB (tx p)) then 1 else 0)) → ∃ B', EX10_readsReach (N + 1000000) (d + 2) (N + 999998) 124 [some (rv (some 87)), none, none, none] (wr (wr (wr (wr (wr (wr (wr B 103 (3 * R.1) (nI (kB (tx p)))) 87 20 (nI (p + 1))) 103 (3 * R.1 + 1) (nI (fvN tx (p + 1)))) 87 20 (nI (p + 1 + 1))) 103 (3 * R.1 + 2) (nI (fvN tx (p + 1 + 1)))) 87 20 (nI (p + 1 + 1 + 1))) 87 22 x, J, cd) = some (iv (if (rcR tx L p R).1 then 1 else 0), (B', J, cd)) ∧ fr [87, 103] B B' ∧ f87 [20, 21, 22] B B' ∧ MD tx L t (rcR tx L p R).2.1 B' ∧ ((rcR tx L p R).1 = true → MR (rcR tx L p R).2.2 B') := by
                intro x hx
                refine ⟨_, by rw [show N + 999998 = N + 999997 + 1 from rfl, sgX10_readsReach_124, wr_nj (by decide), gX 21 (by decide), hD.1, nI_1, er]; rfl, (fX.w (by simp)).w (by simp), ((gX.mo (by intro a; simp <;> omega)).w (by simp)).w (by simp), ?_, fun _ => ?_⟩
                · rw [er]
                  exact hB3.eq (by rw [wr_nj (by decide), wr_nj (by decide)]) (by rw [wr_ne (by decide), wr_ne (by decide)]) (by rw [wr_ne (by decide), wr_ne (by decide)])
                · rw [er]
                  refine ⟨wr_eq, ?_, fun i hi => ?_⟩
                  · rw [wr_nj (by decide), wr_eq, hx]
                    exact congrArg nI (gc_up hn6 R.2.1 R.2.2.1 R.2.2.2 _ _ _).symm
                  · rw [wr_ne (by decide), wr_ne (by decide)]
                    exact x103 i hi
              rw [gX 22 (by decide), hD.2.1]
              by_cases w : isG (kB (tx p)) = true
              · rw [if_neg (by rw [w]; decide)]
                exact fin _ (by rw [if_pos w, nI_1])
              · rw [if_pos (by rw [if_neg w])]
                exact fin _ (by rw [if_neg w, Nat.add_zero]; exact Int32.add_zero _)
            · have s2 := s_figF_103 N d (lo := 0) (hi := 9) hL ht (show p + 1 + 1 ≤ L by omega) (by decide) (by decide) (nI (3 * R.1 + 2)) _ J cd hB2 f2
              rw [nI_0, show nI 9 = (9 : Int32) from rfl] at s2
              have er : rcR tx L p R = (false, p + 2, R) := by
                unfold rcR
                rw [if_pos ⟨c, ck, hn6, cg⟩, if_pos f1, if_neg f2]
              rw [bI s2]
              try dsimp only
              exact ⟨_, by rw [if_pos rfl, er]; rfl, (((fr.rf.w (by simp)).w (by simp)).w (by simp)).w (by simp), ((((f87.rf.o (by decide)).w (by simp)).o (by decide)).w (by simp)), by rw [er]; exact hB2, fun z => absurd z (by rw [er]; exact Bool.false_ne_true)⟩
          · have s1 := s_figF_103 N d (lo := 1) (hi := 9) hL ht (show p + 1 ≤ L by omega) (by decide) (by decide) (nI (3 * R.1 + 1)) _ J cd hB1 f1
            rw [show nI 1 = (1 : Int32) from rfl, show nI 9 = (9 : Int32) from rfl] at s1
            have er : rcR tx L p R = (false, p + 1, R) := by
              unfold rcR
              rw [if_pos ⟨c, ck, hn6, cg⟩, if_neg f1]
            rw [bI s1]
            try dsimp only
            exact ⟨_, by rw [if_pos rfl, er]; rfl, (fr.rf.w (by simp)).w (by simp), ((f87.rf.o (by decide)).w (by simp)), by rw [er]; exact hB1, fun z => absurd z (by rw [er]; exact Bool.false_ne_true)⟩
    · exact bad (if_neg (fun q => ck q.2.1)) (by rw [if_neg ck, if_pos rfl])
  · have es : kB (hereN tx L p) = 9 := by
      rw [hereN, if_neg c]; decide
    exact bad (rcR_end (by omega)) (by rw [es, if_neg (show ¬ (9 : Nat) ≤ 5 by decide), if_pos rfl])
theorem m_loopR (N d : Nat) {tx : Nat → Int32} {L t : Nat} (hL : L ≤ 60) (ht : t < 4) (J : Nat → Nat → Int64) (cd : Nat × Nat) : ∀ (m f p : Nat) (R : RR) (B : Nat → Nat → Int32), 7 ≤ R.1 + m → m < f → p ≤ L → okR R → MD tx L t p B → MR R B → ∃ B', EX10_readsRiver (N + 1000000) (d + 3) f 49 [some (rv (some 87)), some (iv (nI t))] (B, J, cd) = some (iv (if (lpR tx L m p R).1 then 1 else 0), (B', J, cd)) ∧ fr [87, 103] B B' ∧ f87 [20, 21, 22] B B' ∧ MD tx L t (lpR tx L m p R).2.1 B' ∧ ((lpR tx L m p R).1 = true → MR (lpR tx L m p R).2.2 B') := by
  intro m
  induction m with
  | zero =>
    intro f p R B h7 hf hp hR hB hD
    exact absurd hR.1 (by omega)
  | succ m ih =>
    intro f p R B h7 hf hp hR hB hD
    obtain ⟨g, rfl⟩ : ∃ g, f = g + 1 := ⟨f - 1, by omega⟩
    have h6 := hR.1
    have hh : ∀ {q : Option RES}, (if L ≤ p then (if R.1 = 0 then some (iv 0, (B, J, cd)) else some (iv 1, (B, J, cd))) else (cI (arun (N + 1000000) (d + 3)) 164 [rv (some 87), iv (nI t)] (B, J, cd)).bind fun r1 => if r1.1 = 0 then some (iv 0, r1.2) else (cV (arun (N + 1000000) (d + 3)) 158 [rv (some 87), iv (nI t)] r1.2).bind fun r2 => EX10_readsRiver (N + 1000000) (d + 3) g 49 [some (rv (some 87)), some (iv (nI t))] r2) = q → EX10_readsRiver (N + 1000000) (d + 3) (g + 1) 49 [some (rv (some 87)), some (iv (nI t))] (B, J, cd) = q := by
      intro q hq
      rw [sgX10_readsRiver_49, inb_t ht (by omega), if_pos rfl, nI_clamp (by omega), hB.1, hB.2.1, hD.1]
      by_cases c : L ≤ p
      · rw [if_pos c] at hq
        rw [if_pos (nI_le c (by omega))]
        by_cases z : R.1 = 0
        · rw [if_pos z] at hq
          rw [if_pos (by rw [z]; decide)]; exact hq
        · rw [if_neg z] at hq
          rw [if_neg (show ¬ nI R.1 ≤ 0 from nI_ge (a := 0) (by omega) (by omega))]; exact hq
      · rw [if_neg c] at hq
        rw [if_neg (nI_ge (by omega) (by omega))]
        exact hq
    by_cases c : L ≤ p
    · have el : lpR tx L (m + 1) p R = (decide (0 < R.1), p, R) := if_pos c
      refine ⟨B, hh ?_, fr.rf, f87.rf, by rw [el]; exact hB, fun _ => by rw [el]; exact hD⟩
      rw [if_pos c, el]
      by_cases z : R.1 = 0
      · rw [if_pos z]; simp [z]
      · rw [if_neg z]
        have : 0 < R.1 := by omega
        simp [this]
    · obtain ⟨B1, r1, f1, g1, h1, d1⟩ := s_reachM N d hL ht hp hR B J cd hB hD
      have hcc : (rcR tx L p R).1 = true ∨ (rcR tx L p R).1 = false := by cases (rcR tx L p R).1 <;> simp
      rcases hcc with q | q
      · have el : lpR tx L (m + 1) p R = lpR tx L m (SK tx L (rcR tx L p R).2.1) (rcR tx L p R).2.2 := by
          show (if L ≤ p then _ else if (rcR tx L p R).1 = true then _ else _) = _
          rw [if_neg c, if_pos q]
        have hle := rcR_le (tx := tx) (R := R) hp
        have en := rcR_n q
        obtain ⟨B2, r2, f2, g2, h2⟩ := s_skipM N (d + 1) hL ht hle B1 J cd h1
        have d2 : MR (rcR tx L p R).2.2 B2 := ⟨by rw [g2 21 (by decide)]; exact (d1 q).1, by rw [g2 22 (by decide)]; exact (d1 q).2.1, by rw [f2 103 (by decide)]; exact (d1 q).2.2⟩
        obtain ⟨B3, r3, f3, g3, h3, d3⟩ := ih g (SK tx L (rcR tx L p R).2.1) (rcR tx L p R).2.2 B2 (by omega) (by omega) (SK_le hle) (rcR_ok hR) h2 d2
        refine ⟨B3, hh ?_, (f1.tr (f2.mo (by simp))).tr f3, (g1.tr (g2.mo (by simp))).tr g3, by rw [el]; exact h3, by rw [el]; exact d3⟩
        rw [if_neg c, bI r1]
        try dsimp only
        rw [if_neg (by rw [q]; decide), bV r2]
        try dsimp only
        rw [el]
        exact r3
      · have el : lpR tx L (m + 1) p R = rcR tx L p R := by
          show (if L ≤ p then _ else if (rcR tx L p R).1 = true then _ else _) = _
          rw [if_neg c, if_neg (by rw [q]; exact Bool.false_ne_true)]
        refine ⟨B1, hh ?_, f1, g1, by rw [el]; exact h1, fun z => absurd z (by rw [el, q]; exact Bool.false_ne_true)⟩
        rw [if_neg c, bI r1]
        try dsimp only
        rw [if_pos (by rw [q]; rfl), el, q]
        rfl
theorem m_read (N d : Nat) {tx : Nat → Int32} {t L : Nat} (ht : t < 4) (hL : L ≤ 60) (I : Nat → Nat → Int32) (J : Nat → Nat → Int64) (cd : Nat × Nat) (h92 : I 92 t = nI L) (htx : ∀ i, i < L → I 93 (60 * t + i) = tx i) :
    ∃ B, arun (N + 1000000) (d + 5) 166 [rv (some 87), iv (nI t)] (I, J, cd) = some (iv (if (rdR tx L).1 then -9 else nI (rdR tx L).2.1), (B, J, cd)) ∧ fr [87, 102, 103] I B ∧ f87 [20, 21, 22] I B ∧ ((rdR tx L).1 = true → MR (rdR tx L).2.2 B ∧ ∀ e, e < 7 → B 102 e = nI (rnR tx L e) ∧ B 102 (7 + e) = nI (owR tx L e)) := by
  have hB0 : MD tx L t 0 (wr (wr (wr I 87 20 0) 87 21 0) 87 22 0) := ⟨by rw [wr_nj (by decide), wr_nj (by decide), wr_eq]; rfl, by rw [wr_ne (by decide), wr_ne (by decide), wr_ne (by decide)]; exact h92, by rw [wr_ne (by decide), wr_ne (by decide), wr_ne (by decide)]; exact htx⟩
  have fC : fr [87] I (wr (wr (wr I 87 20 0) 87 21 0) 87 22 0) := ((fr.rf.w (by simp)).w (by simp)).w (by simp)
  have gC : f87 [20, 21, 22] I (wr (wr (wr I 87 20 0) 87 21 0) 87 22 0) := ((f87.rf.w (by simp)).w (by simp)).w (by simp)
  have fin : ∀ (B : Nat → Nat → Int32) (ok : Bool) (p : Nat), arun (N + 1000000) (d + 4) 165 [rv (some 87), iv (nI t)] (I, J, cd) = some (iv (if ok then 1 else 0), (B, J, cd)) → B 87 20 = nI p → arun (N + 1000000) (d + 5) 166 [rv (some 87), iv (nI t)] (I, J, cd) = some (iv (if ok then -9 else nI p), (B, J, cd)) := by
    intro B ok p r hp
    rw [enX10_goesOn, sgX10_goesOn_0, bI r]
    try dsimp only
    cases ok with
    | true => rw [if_neg (by decide)]; rfl
    | false => rw [if_pos (show (if false = true then (1 : Int32) else 0) = 0 from rfl), hp]; rfl
  have ent : ∀ {q : Option RES}, ((cI (arun (N + 1000000) (d + 3)) 160 [rv (some 87), iv (nI t), iv 121, iv 0, iv 9] (wr (wr (wr I 87 20 0) 87 21 0) 87 22 0, J, cd)).bind fun r1 => if r1.1 = 0 then some (iv 0, r1.2) else (cI (arun (N + 1000000) (d + 3)) 160 [rv (some 87), iv (nI t), iv 111, iv 7, iv 6] r1.2).bind fun r2 => if r2.1 = 0 then some (iv 0, r2.2) else (cV (arun (N + 1000000) (d + 3)) 158 [rv (some 87), iv (nI t)] r2.2).bind fun r3 => EX10_readsRiver (N + 1000000) (d + 3) (N + 999999) 49 [some (rv (some 87)), some (iv (nI t))] r3) = q → arun (N + 1000000) (d + 4) 165 [rv (some 87), iv (nI t)] (I, J, cd) = q := by
    intro q hq
    rw [enX10_readsRiver, sgX10_readsRiver_0]
    exact hq
  obtain ⟨B2, s1, f2, g2, h2, -, w2⟩ := s_weekM N d (hi := 9) (at_ := 0) hL ht (by decide) (by decide) (Nat.zero_le _) (c := 121) (by decide) _ J cd hB0
  rw [show nI 9 = (9 : Int32) from rfl, nI_0] at s1
  have fI2 : fr [87, 102, 103] I B2 := (fC.mo (by simp)).tr (f2.mo (by intro a; simp <;> omega))
  have gI2 : f87 [20, 21, 22] I B2 := gC.tr (g2.mo (by simp))
  have hc1 : (wkR tx L 121 9 0).1 = true ∨ (wkR tx L 121 9 0).1 = false := by cases (wkR tx L 121 9 0).1 <;> simp
  rcases hc1 with q1 | q1
  · obtain ⟨B3, s2, f3, g3, h3, lo3, w3⟩ := s_weekM N d (hi := 6) (at_ := 7) hL ht (by decide) (by decide) (wkR_le (Nat.zero_le _)) (c := 111) (by decide) B2 J cd h2
    rw [show nI 6 = (6 : Int32) from rfl, show nI 7 = (7 : Int32) from rfl] at s2
    have hc2 : (wkR tx L 111 6 (wkR tx L 121 9 0).2).1 = true ∨ (wkR tx L 111 6 (wkR tx L 121 9 0).2).1 = false := by cases (wkR tx L 111 6 (wkR tx L 121 9 0).2).1 <;> simp
    rcases hc2 with q2 | q2
    · have er : rdR tx L = lpR tx L 7 (SK tx L (wkR tx L 111 6 (wkR tx L 121 9 0).2).2) R0 := by unfold rdR; rw [if_pos q1, if_pos q2]
      have hle : (wkR tx L 111 6 (wkR tx L 121 9 0).2).2 ≤ L := wkR_le (wkR_le (Nat.zero_le _))
      obtain ⟨B4, r4, f4, g4, h4⟩ := s_skipM N (d + 1) hL ht hle B3 J cd h3
      have d4 : MR R0 B4 := by
        have e : ∀ k, k ≠ 20 → B4 87 k = wr (wr (wr I 87 20 0) 87 21 0) 87 22 0 87 k := fun k hk => by rw [g4 k (by simp; exact hk), g3 k (by simp; exact hk), g2 k (by simp; exact hk)]
        refine ⟨?_, ?_, fun i hi => absurd hi (by show ¬ i < 0; omega)⟩
        · rw [e 21 (by decide), wr_nj (by decide), wr_eq]; rfl
        · rw [e 22 (by decide), wr_eq]; rfl
      obtain ⟨B5, r5, f5, g5, h5, d5⟩ := m_loopR N d hL ht J cd 7 (N + 999999) (SK tx L (wkR tx L 111 6 (wkR tx L 121 9 0).2).2) R0 B4 (by decide) (by omega) (SK_le hle) okR0 h4 d4
      rw [← er] at r5 h5 d5
      refine ⟨B5, fin B5 (rdR tx L).1 (rdR tx L).2.1 (ent ?_) h5.1, ((fI2.tr (f3.mo (by intro a; simp <;> omega))).tr (f4.mo (by simp))).tr (f5.mo (by intro a; simp <;> omega)), ((gI2.tr (g3.mo (by simp))).tr (g4.mo (by simp))).tr g5, fun hok => ⟨d5 hok, fun e he => ?_⟩⟩
      · rw [bI s1]
        try dsimp only
        rw [q1, if_pos rfl, if_neg n10, bI s2]
        try dsimp only
        rw [q2, if_pos rfl, if_neg n10, bV r4]
        try dsimp only
        exact r5
      · rw [f5 102 (by decide), f4 102 (by decide)]
        refine ⟨?_, w3 q2 e he⟩
        rw [lo3 e he]
        have := w2 q1 e he
        rw [Nat.zero_add] at this
        exact this
    · have er : rdR tx L = (false, (wkR tx L 111 6 (wkR tx L 121 9 0).2).2, R0) := by unfold rdR; rw [if_pos q1, if_neg (by rw [q2]; exact Bool.false_ne_true)]
      refine ⟨B3, by rw [er]; exact fin B3 false _ (ent (by
        rw [bI s1]
        try dsimp only
        rw [q1, if_pos rfl, if_neg n10, bI s2]
        try dsimp only
        rw [q2, if_neg Bool.false_ne_true, if_pos rfl])) h3.1, fI2.tr (f3.mo (by intro a; simp <;> omega)), gI2.tr (g3.mo (by simp)), fun hok => absurd hok (by rw [er]; exact Bool.false_ne_true)⟩
  · have er : rdR tx L = (false, (wkR tx L 121 9 0).2, R0) := by unfold rdR; rw [if_neg (by rw [q1]; exact Bool.false_ne_true)]
    refine ⟨B2, by rw [er]; exact fin B2 false _ (ent (by
      rw [bI s1]
      try dsimp only
      rw [q1, if_neg Bool.false_ne_true, if_pos rfl])) h2.1, fI2, gI2, fun hok => absurd hok (by rw [er]; exact Bool.false_ne_true)⟩
