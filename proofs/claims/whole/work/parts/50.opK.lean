/-! kinds, measures: pairs in rows -/
/-- not below nought, not beyond -/
abbrev WI (hi x : Int32) : Prop := ¬ x < 0 ∧ x ≤ hi
theorem WI.in {hi x : Int32} (h : WI hi x) : ¬ x < 0 ∧ ¬ hi < x := ⟨h.1, Int32.not_lt.mpr h.2⟩
theorem WI.nin {hi x : Int32} (h : ¬ WI hi x) : ¬ (¬ x < 0 ∧ ¬ hi < x) := fun q => h ⟨q.1, Int32.not_lt.mp q.2⟩
theorem l_withinO (N d : Nat) {j n : Nat} (hj : j < 6) (hl : n ≤ 40) (hi : Int32) (I : Nat → Nat → Int32) (J : Nat → Nat → Int64) (cd : Nat × Nat) (h9 : I 9 j = nI n) (hv : ∀ k, k < n → WI hi (I (3 + j) k)) : ∀ (m k f : Nat), k + m = n → EX8_allWithin (N + 1000000) (d + 2) (f + 1 + m) 2 [some (rv (some 1)), some (iv (nI j)), some (iv hi), some (iv (nI k))] (I, J, cd) = some (iv 1, (I, J, cd)) := by
  intro m
  induction m with
  | zero =>
    intro k f hk
    have : k = n := by omega
    subst this
    rw [Nat.add_zero, sgX8_allWithin_2, bI (s_sizeOfN_1 _ _ hj _ _ _ h9 hl)]
    try dsimp only
    try dsimp only
    rw [if_pos (Int32.le_refl _)]
  | succ m ih =>
    intro k f hk
    have v := hv k (by omega)
    rw [show f + 1 + (m + 1) = f + 1 + m + 1 by omega, sgX8_allWithin_2, bI (s_sizeOfN_1 _ _ hj _ _ _ h9 hl)]
    try dsimp only
    try dsimp only
    rw [if_neg (nI_ge (by omega) (by omega)), inb_t hj (by omega), if_pos rfl, if_pos rfl, nI_clamp (show j < 2 ^ 31 by omega), RF_2 _ hj, Option.bind_some, Option.bind_some, al_2 j hj, inb_t (show k < 40 by omega) (by omega), if_pos rfl, if_pos rfl, nI_clamp (show k < 2 ^ 31 by omega), if_neg v.1, if_pos v.2, nI_1]
    exact ih (k + 1) f (by omega)
theorem l_withinN (N d : Nat) {j n : Nat} (hj : j < 6) (hl : n ≤ 40) (hi : Int32) (I : Nat → Nat → Int32) (J : Nat → Nat → Int64) (cd : Nat × Nat) (h9 : I 9 j = nI n) {i : Nat} (hin : i < n) (hv : ¬ WI hi (I (3 + j) i)) : ∀ (m k f : Nat), k + m = i → EX8_allWithin (N + 1000000) (d + 2) (f + 1 + m) 2 [some (rv (some 1)), some (iv (nI j)), some (iv hi), some (iv (nI k))] (I, J, cd) = some (iv 0, (I, J, cd)) := by
  have bad : ∀ k f, k < n → ¬ WI hi (I (3 + j) k) → EX8_allWithin (N + 1000000) (d + 2) (f + 1) 2 [some (rv (some 1)), some (iv (nI j)), some (iv hi), some (iv (nI k))] (I, J, cd) = some (iv 0, (I, J, cd)) := by
    intro k f hk c
    rw [sgX8_allWithin_2, bI (s_sizeOfN_1 _ _ hj _ _ _ h9 hl)]
    try dsimp only
    try dsimp only
    rw [if_neg (nI_ge (by omega) (by omega)), inb_t hj (by omega), if_pos rfl, if_pos rfl, nI_clamp (show j < 2 ^ 31 by omega), RF_2 _ hj, Option.bind_some, Option.bind_some, al_2 j hj, inb_t (show k < 40 by omega) (by omega), if_pos rfl, if_pos rfl, nI_clamp (show k < 2 ^ 31 by omega)]
    by_cases q : I (3 + j) k < 0
    · rw [if_pos q]
    · rw [if_neg q, if_neg (fun z => c ⟨q, z⟩)]
  intro m
  induction m with
  | zero =>
    intro k f hk
    have : k = i := by omega
    subst this
    rw [Nat.add_zero, bad k f hin hv]
  | succ m ih =>
    intro k f hk
    by_cases c : WI hi (I (3 + j) k)
    · rw [show f + 1 + (m + 1) = f + 1 + m + 1 by omega, sgX8_allWithin_2, bI (s_sizeOfN_1 _ _ hj _ _ _ h9 hl)]
      try dsimp only
      try dsimp only
      rw [if_neg (nI_ge (by omega) (by omega)), inb_t hj (by omega), if_pos rfl, if_pos rfl, nI_clamp (show j < 2 ^ 31 by omega), RF_2 _ hj, Option.bind_some, Option.bind_some, al_2 j hj, inb_t (show k < 40 by omega) (by omega), if_pos rfl, if_pos rfl, nI_clamp (show k < 2 ^ 31 by omega), if_neg c.1, if_pos c.2, nI_1]
      exact ih (k + 1) f (by omega)
    · rw [show f + 1 + (m + 1) = f + 1 + m + 1 by omega, bad k _ (by omega) c]
theorem s_withinO (N d : Nat) {j n : Nat} (hj : j < 6) (hl : n ≤ 40) (hi : Int32) (I : Nat → Nat → Int32) (J : Nat → Nat → Int64) (cd : Nat × Nat) (h9 : I 9 j = nI n) (hv : ∀ k, k < n → WI hi (I (3 + j) k)) : arun (N + 1000000) (d + 3) 65 [rv (some 1), iv (nI j), iv hi] (I, J, cd) = some (iv 1, (I, J, cd)) := by
  have l := l_withinO N d hj hl hi I J cd h9 hv n 0 (N + 999998 - n) (by omega)
  rw [nI_0] at l
  rw [enX8_allWithin, sgX8_allWithin_0, show N + 999999 = N + 999998 - n + 1 + n by omega]
  exact l
theorem s_withinN (N d : Nat) {j n : Nat} (hj : j < 6) (hl : n ≤ 40) (hi : Int32) (I : Nat → Nat → Int32) (J : Nat → Nat → Int64) (cd : Nat × Nat) (h9 : I 9 j = nI n) {i : Nat} (hin : i < n) (hv : ¬ WI hi (I (3 + j) i)) : arun (N + 1000000) (d + 3) 65 [rv (some 1), iv (nI j), iv hi] (I, J, cd) = some (iv 0, (I, J, cd)) := by
  have l := l_withinN N d hj hl hi I J cd h9 hin hv i 0 (N + 999998 - i) (by omega)
  rw [nI_0] at l
  rw [enX8_allWithin, sgX8_allWithin_0, show N + 999999 = N + 999998 - i + 1 + i by omega]
  exact l
theorem l_mbookO (N d : Nat) {j n : Nat} (hj : j < 6) (hl : n ≤ 40) (I : Nat → Nat → Int32) (J : Nat → Nat → Int64) (cd : Nat × Nat) (h89 : I 89 j = nI n) (hv : ∀ k, k < n → WI 99 (I 90 (40 * j + k))) : ∀ (m k f : Nat), k + m = n → EX10_askedBook (N + 1000000) (d + 1) (f + 1 + m) 55 [some (rv (some 87)), none, some (iv (nI j)), none, some (iv (nI k))] (I, J, cd) = some (iv 0, (I, J, cd)) := by
  intro m
  induction m with
  | zero =>
    intro k f hk
    have : k = n := by omega
    subst this
    rw [Nat.add_zero, sgX10_askedBook_55, inb_t hj (by omega), if_pos rfl, nI_clamp (by omega), if_pos (by rw [h89]; exact Int32.le_refl _)]
  | succ m ih =>
    intro k f hk
    rw [show f + 1 + (m + 1) = f + 1 + m + 1 by omega, sgX10_askedBook_55, inb_t hj (by omega), if_pos rfl, nI_clamp (by omega), if_neg (by rw [h89]; exact nI_ge (by omega) (by omega)), bI (s_rowAt _ _ hj (by omega) _ _ _)]
    try dsimp only
    try dsimp only
    rw [bI (s_in _ _ _ _ _ _)]
    try dsimp only
    try dsimp only
    rw [b2i_t (hv k (by omega)).in, if_neg n10, nI_1]
    exact ih (k + 1) f (by omega)
theorem l_mbookN (N d : Nat) {j n : Nat} (hj : j < 6) (hl : n ≤ 40) (I : Nat → Nat → Int32) (J : Nat → Nat → Int64) (cd : Nat × Nat) (h89 : I 89 j = nI n) {i : Nat} (hin : i < n) (hv : ¬ WI 99 (I 90 (40 * j + i))) : ∀ (m k f : Nat), k + m = i → EX10_askedBook (N + 1000000) (d + 1) (f + 1 + m) 55 [some (rv (some 87)), none, some (iv (nI j)), none, some (iv (nI k))] (I, J, cd) = some (iv (-3), (mF I 3, J, cd)) := by
  have bad : ∀ k f, k < n → ¬ WI 99 (I 90 (40 * j + k)) → EX10_askedBook (N + 1000000) (d + 1) (f + 1) 55 [some (rv (some 87)), none, some (iv (nI j)), none, some (iv (nI k))] (I, J, cd) = some (iv (-3), (mF I 3, J, cd)) := by
    intro k f hk c
    rw [sgX10_askedBook_55, inb_t hj (by omega), if_pos rfl, nI_clamp (by omega), if_neg (by rw [h89]; exact nI_ge (by omega) (by omega)), bI (s_rowAt _ _ hj (by omega) _ _ _)]
    try dsimp only
    try dsimp only
    rw [bI (s_in _ _ _ _ _ _)]
    try dsimp only
    try dsimp only
    rw [b2i_f (WI.nin c), if_pos rfl, bI (s_meet3 _ _ _ _ _)]
    try dsimp only
  intro m
  induction m with
  | zero =>
    intro k f hk
    have : k = i := by omega
    subst this
    rw [Nat.add_zero, bad k f hin hv]
  | succ m ih =>
    intro k f hk
    by_cases c : WI 99 (I 90 (40 * j + k))
    · rw [show f + 1 + (m + 1) = f + 1 + m + 1 by omega, sgX10_askedBook_55, inb_t hj (by omega), if_pos rfl, nI_clamp (by omega), if_neg (by rw [h89]; exact nI_ge (by omega) (by omega)), bI (s_rowAt _ _ hj (by omega) _ _ _)]
      try dsimp only
      try dsimp only
      rw [bI (s_in _ _ _ _ _ _)]
      try dsimp only
      try dsimp only
      rw [b2i_t c.in, if_neg n10, nI_1]
      exact ih (k + 1) f (by omega)
    · rw [show f + 1 + (m + 1) = f + 1 + m + 1 by omega, bad k _ (by omega) c]
theorem WI.of {n : Nat} (hn : n < 2 ^ 31) {x : Int32} (h : WI (nI n) x) : ∃ k, k ≤ n ∧ x = nI k := nI_of2 (by rw [nI_toInt hn]) h.1 h.2
/-- pairs are refused by both alike, or taken by both -/
theorem pair_cases (N d : Nat) {I : Nat → Nat → Int32} {J : Nat → Nat → Int64} (h : Rel I J) {P : RP} {ow : Nat → Nat} {F : FS} {D : Nat} (hP : okP P) (hC : courN P ow I 73) (hRf : refAt P ow I F D) (x r : Int32) :
    (∃ (v : Int32) (I1 I2 : Nat → Nat → Int32), ¬ v = 0 ∧ ¬ 0 ≤ v ∧ arun (N + 1000000) (d + 4) 123 [rv (some 0), iv x, iv r] (I, J, 73, 80) = some (iv v, (I1, J, 73, 80)) ∧ arun (N + 1000000) (d + 4) 216 [rv (some 87), iv x, iv r] (I1, J, 73, 80) = some (iv v, (I2, J, 73, 80)) ∧ Rel I2 J)
    ∨ (∃ (i j p : Nat) (v : Nat → Nat), i < P.1 ∧ x = nI i ∧ j < 6 ∧ r = nI j ∧ p ≤ 10 ∧ I 9 j = nI (2 * p) ∧ I 89 j = nI (2 * p) ∧ (∀ k, k < 2 * p → I (3 + j) k = nI (v k) ∧ I 90 (40 * j + k) = nI (v k) ∧ v k ≤ 99) ∧ arun (N + 1000000) (d + 4) 123 [rv (some 0), iv x, iv r] (I, J, 73, 80) = some (iv 0, (I, J, 73, 80)) ∧ arun (N + 1000000) (d + 4) 216 [rv (some 87), iv x, iv r] (I, J, 73, 80) = some (iv 0, (I, J, 73, 80))) := by
  have hn6 := hP.1
  have x87 : ∀ f a, a ≠ 0 → a ≠ 72 → xF I f a = I a := fun f a h1 h2 => by rw [xF, wr_ne h2, wr_ne h1]
  rcases ixc x P.1 (by omega) with hx | ⟨i, hi, rfl⟩
  · have kX := s_hasReach N (d + 2) x I J (73, 80)
    rw [b2i_f (hr_b hC.1 hx)] at kX
    have kM := s_isReach N (d + 1) x I J (73, 80)
    rw [b2i_f (ir_b hRf.1 (by omega) hx)] at kM
    refine Or.inl ⟨-1, I, I, by decide, by decide, ?_, ?_, h⟩
    · rw [enX9_refusePairs, sgX9_refusePairs_0, bI kX]
      try dsimp only
      rw [if_pos rfl]
    · rw [enX10_askedBook, sgX10_askedBook_0, bI kM]
      try dsimp only
      rw [if_pos rfl, sgX10_askedBook_18, if_neg (by decide)]
  · have kX := s_hasReach N (d + 2) (nI i) I J (73, 80)
    rw [b2i_t (hr_o hC.1 (by omega) hi)] at kX
    have kM : ∀ B : Nat → Nat → Int32, B 87 10 = nI P.1 → arun (N + 1000000) (d + 3) 169 [rv (some 87), iv (nI i)] (B, J, 73, 80) = some (iv 1, (B, J, 73, 80)) := fun B hB => by
      have := s_isReach N (d + 1) (nI i) B J (73, 80)
      rw [b2i_t (ir_o hB (by omega) hi)] at this
      exact this
    rcases ixc r 6 (by decide) with hr | ⟨j, hj, rfl⟩
    · refine Or.inl ⟨-1, I, I, by decide, by decide, ?_, ?_, h⟩
      · rw [enX9_refusePairs, sgX9_refusePairs_0, bI kX]
        try dsimp only
        rw [if_neg n10, bI (x_missB_1 _ _ hr _ _)]
        try dsimp only
        try dsimp only
        rw [if_neg (by decide)]
      · rw [enX10_askedBook, sgX10_askedBook_0, bI (kM _ hRf.1)]
        try dsimp only
        try dsimp only
        rw [if_neg n10, bI (m_askB_1 _ _ hr _ _ _)]
        try dsimp only
        try dsimp only
        rw [sgX10_askedBook_18, if_neg (by decide)]
    · rcases h.1.2 j hj with ⟨a, b⟩ | ⟨n, hn, a, b, c⟩
      · refine Or.inl ⟨-3, xF I 1, mF (xF I 1) 1, by decide, by decide, ?_, ?_, h.find (by decide)⟩
        · rw [enX9_refusePairs, sgX9_refusePairs_0, bI kX]
          try dsimp only
          rw [if_neg n10, bI (x_missN_1 _ _ hj _ _ a)]
          try dsimp only
          try dsimp only
          rw [if_neg (by decide)]
        · rw [enX10_askedBook, sgX10_askedBook_0, bI (kM _ (by rw [x87 1 87 (by decide) (by decide)]; exact hRf.1))]
          try dsimp only
          try dsimp only
          rw [if_neg n10, bI (m_askN_1 _ _ hj _ _ _ (by rw [x87 1 89 (by decide) (by decide)]; exact b))]
          try dsimp only
          try dsimp only
          rw [sgX10_askedBook_18, if_neg (by decide)]
      · have r2 : nI n - nI n / 2 * 2 = nI (n % 2) := pk_rem (d := 2) (by omega) (by omega) (by omega)
        have xs : ∀ {r : Option RES}, (if nI n - nI n / 2 * 2 = 0 then (if nI n ≤ 20 then (cI (arun (N + 1000000) (d + 3)) 65 [rv (some 1), iv (nI j), iv 99] (I, J, 73, 80)).bind fun r5 => if r5.1 = 0 then (cI (arun (N + 1000000) (d + 3)) 115 [rv (some 0), iv 3] r5.2).bind fun r6 => some (iv r6.1, r6.2) else some (iv 0, r5.2) else some (iv (-3), (xF I 5, J, 73, 80))) else some (iv (-3), (xF I 5, J, 73, 80))) = r → arun (N + 1000000) (d + 4) 123 [rv (some 0), iv (nI i), iv (nI j)] (I, J, 73, 80) = r := by
          intro r hr
          rw [enX9_refusePairs, sgX9_refusePairs_0, bI kX]
          try dsimp only
          rw [if_neg n10, bI (x_missO_1 _ _ hj _ _ a hn)]
          try dsimp only
          try dsimp only
          rw [if_pos rfl, bI (s_sizeOfN_1 _ _ hj _ _ _ a hn)]
          try dsimp only
          try dsimp only
          rw [bI (s_sizeOfN_1 _ _ hj _ _ _ a hn)]
          try dsimp only
          try dsimp only
          simp only [sgX9_refusePairs_55, bI (s_find5 N (d + 2) I J)]
          exact hr
        have ms : ∀ (B : Nat → Nat → Int32) {r : Option RES}, B 87 = I 87 → B 89 = I 89 → (if nI n - nI n / 2 * 2 = 0 then (if nI n ≤ 20 then EX10_askedBook (N + 1000000) (d + 3) (N + 999998) 55 [some (rv (some 87)), none, some (iv (nI j)), none, some (iv 0)] (B, J, 73, 80) else some (iv (-3), (mF B 5, J, 73, 80))) else some (iv (-3), (mF B 5, J, 73, 80))) = r → arun (N + 1000000) (d + 4) 216 [rv (some 87), iv (nI i), iv (nI j)] (B, J, 73, 80) = r := by
          intro B r e87 e89 hr
          rw [enX10_askedBook, sgX10_askedBook_0, bI (kM _ (by rw [e87]; exact hRf.1))]
          try dsimp only
          try dsimp only
          rw [if_neg n10, bI (m_askO_1 _ _ hj _ _ _ (by rw [e89]; exact b) hn)]
          try dsimp only
          try dsimp only
          rw [sgX10_askedBook_18, if_pos (by decide)]
          simp only [inb_t hj (show j < 2 ^ 31 by omega), nI_clamp (show j < 2 ^ 31 by omega), if_true, e89, b, sgX10_askedBook_46, bI (s_meet5 N (d + 2) B J (73, 80))]
          exact hr
        by_cases h2 : n % 2 = 0
        · have r20 : nI n - nI n / 2 * 2 = 0 := by rw [r2, h2]; rfl
          by_cases h20 : n ≤ 20
          · have l20 : nI n ≤ 20 := nI_le (b := 20) h20 (by decide)
            by_cases hall : ∀ k, k < n → WI 99 (I (3 + j) k)
            · have en : n = 2 * (n / 2) := by omega
              refine Or.inr ⟨i, j, n / 2, fun k => (I (3 + j) k).toNatClampNeg, hi, rfl, hj, rfl, by omega, by rw [← en]; exact a, by rw [← en]; exact b, fun k hk => ?_, xs ?_, ms I rfl rfl ?_⟩
              · obtain ⟨s, hs9, hs1⟩ := (hall k (by omega)).of (n := 99) (by decide)
                have e : (I (3 + j) k).toNatClampNeg = s := by rw [hs1, nI_clamp (by omega)]
                dsimp only
                refine ⟨?_, ?_, ?_⟩
                · rw [e]; exact hs1
                · rw [← c k (by omega), e]; exact hs1
                · rw [e]; exact hs9
              · rw [if_pos r20, if_pos l20, bI (s_withinO _ _ hj hn _ _ _ _ a hall)]
                try dsimp only
                try dsimp only
                rw [if_neg n10]
              · have l := l_mbookO N (d + 2) hj hn I J (73, 80) b (fun k hk => by rw [← c k hk]; exact hall k hk) n 0 (N + 999997 - n) (by omega)
                rw [nI_0] at l
                rw [if_pos r20, if_pos l20, show N + 999998 = N + 999997 - n + 1 + n by omega]
                exact l
            · have hex : ∃ k, k < n ∧ ¬ WI 99 (I (3 + j) k) := Classical.byContradiction fun q => hall fun k hk => Classical.byContradiction fun z => q ⟨k, hk, z⟩
              obtain ⟨k, hk, hv⟩ := hex
              refine Or.inl ⟨-3, xF I 3, mF (xF I 3) 3, by decide, by decide, xs ?_, ms _ (x87 3 87 (by decide) (by decide)) (x87 3 89 (by decide) (by decide)) ?_, h.find (by decide)⟩
              · rw [if_pos r20, if_pos l20, bI (s_withinN _ _ hj hn _ _ _ _ a hk hv)]
                try dsimp only
                try dsimp only
                rw [if_pos rfl, bI (s_find3 _ _ _ _)]
                try dsimp only
              · have l := l_mbookN N (d + 2) hj hn (xF I 3) J (73, 80) (by rw [x87 3 89 (by decide) (by decide)]; exact b) hk (by rw [x87 3 90 (by decide) (by decide), ← c k hk]; exact hv) k 0 (N + 999997 - k) (by omega)
                rw [nI_0] at l
                rw [if_pos r20, if_pos l20, show N + 999998 = N + 999997 - k + 1 + k by omega]
                exact l
          · have l20 : ¬ nI n ≤ 20 := nI_ge (a := 20) (by omega) (by omega)
            exact Or.inl ⟨-3, xF I 5, mF (xF I 5) 5, by decide, by decide, xs (by rw [if_pos r20, if_neg l20]), ms _ (x87 5 87 (by decide) (by decide)) (x87 5 89 (by decide) (by decide)) (by rw [if_pos r20, if_neg l20]), h.find (by decide)⟩
        · have r20 : ¬ nI n - nI n / 2 * 2 = 0 := by
            rw [r2, show n % 2 = 1 by omega]; decide
          exact Or.inl ⟨-3, xF I 5, mF (xF I 5) 5, by decide, by decide, xs (by rw [if_neg r20]), ms _ (x87 5 87 (by decide) (by decide)) (x87 5 89 (by decide) (by decide)) (by rw [if_neg r20]), h.find (by decide)⟩
/-- whether a KIND of a MEASURE does as the pairs from place i on say -/
def agN (k m : Nat) (v : Nat → Nat) : Nat → Nat → Nat → Bool
  | 0, _, _ => true
  | p + 1, i, w => if runN k m w false = v (i + 1) then agN k m v p (i + 2) (setN k (w - runN k m w false + v i)) else false
theorem l_agrees (N d : Nat) {k m : Nat} (hk : k ≤ 5) (hm : m ≤ 9) {j p : Nat} (hj : j < 6) (hp : p ≤ 10) {v : Nat → Nat} (I : Nat → Nat → Int32) (J : Nat → Nat → Int64) (h9 : I 9 j = nI (2 * p)) (hv : ∀ k, k < 2 * p → I (3 + j) k = nI (v k) ∧ v k ≤ 99) : ∀ (q i w f : Nat), i + 2 * q = 2 * p → w ≤ 99 → EX9_agrees (N + 1000000) (d + 3) (f + 1 + q) 6 [some (rv (some 0)), some (iv (nI k)), some (iv (nI m)), none, some (iv (nI j)), some (iv (nI w)), some (iv (nI i)), none] (I, J, 73, 80) = some (iv (if agN k m v q i w then 1 else 0), (I, J, 73, 80)) := by
  intro q
  induction q with
  | zero =>
    intro i w f hi hw
    have : i = 2 * p := by omega
    subst this
    rw [Nat.add_zero, sgX9_agrees_6, bI (s_sizeOfN_1 _ _ hj _ _ _ h9 (by omega))]
    try dsimp only
    try dsimp only
    rw [nI_1, if_pos (nI_le (by omega) (by omega))]
    rfl
  | succ q ih =>
    intro i w f hi hw
    have hl := runN_le k m w false
    have v0 := hv i (by omega)
    have v1 := hv (i + 1) (by omega)
    have er : (nI (runN k m w false) = nI (v (i + 1))) = (runN k m w false = v (i + 1)) := neq (by omega) (by omega)
    rw [show f + 1 + (q + 1) = f + 1 + q + 1 by omega, sgX9_agrees_6, bI (s_sizeOfN_1 _ _ hj _ _ _ h9 (by omega))]
    try dsimp only
    try dsimp only
    rw [nI_1, if_neg (nI_ge (by omega) (by omega)), bI (s_runFromF _ _ (by omega) (by omega) (by omega) _)]
    try dsimp only
    try dsimp only
    rw [bI (s_valueAt_1 _ _ hj _ _ _ h9 (by omega) (by omega))]
    try dsimp only
    try dsimp only
    rw [agN]
    by_cases c : runN k m w false = v (i + 1)
    · rw [if_pos (by rw [v1.1, c]), if_pos c, bI (s_valueAt_1 _ _ hj _ _ _ h9 (by omega) (by omega))]
      try dsimp only
      try dsimp only
      rw [v0.1, pk_sub hl, nI_add, bI (s_settle _ _ (by omega) (by omega) _)]
      try dsimp only
      try dsimp only
      rw [show nI i + 2 = nI (i + 2) from nI_add i 2]
      exact ih (i + 2) _ f (by omega) (setN_le _ _)
    · rw [if_neg (by rw [v1.1, er]; exact c), if_neg c]
      rfl
theorem s_agrees (N d : Nat) {k m : Nat} (hk : k ≤ 5) (hm : m ≤ 9) {j p w : Nat} (hj : j < 6) (hp : p ≤ 10) (hw : w ≤ 99) {v : Nat → Nat} (I : Nat → Nat → Int32) (J : Nat → Nat → Int64) (h9 : I 9 j = nI (2 * p)) (hv : ∀ k, k < 2 * p → I (3 + j) k = nI (v k) ∧ v k ≤ 99) : arun (N + 1000000) (d + 4) 132 [rv (some 0), iv (nI k), iv (nI m), iv (nI w), iv (nI j)] (I, J, 73, 80) = some (iv (if agN k m v p 0 w then 1 else 0), (I, J, 73, 80)) := by
  have l := l_agrees N d hk hm hj hp I J h9 hv p 0 w (N + 999998 - p) (by omega) hw
  rw [nI_0] at l
  rw [enX9_agrees, sgX9_agrees_0, show N + 999999 = N + 999998 - p + 1 + p by omega]
  exact l
theorem l_isSo (N d : Nat) {k m : Nat} (hk : k ≤ 5) (hm : m ≤ 9) {j p : Nat} (hj : j < 6) (hp : p ≤ 10) {v : Nat → Nat} (I : Nat → Nat → Int32) (J : Nat → Nat → Int64) (cd : Nat × Nat) (h89 : I 89 j = nI (2 * p)) (hv : ∀ k, k < 2 * p → I 90 (40 * j + k) = nI (v k) ∧ v k ≤ 99) : ∀ (q i w f : Nat), i + 2 * q = 2 * p → w ≤ 99 → 4 * q < f → EX10_isSo (N + 1000000) (d + 1) f 6 [some (rv (some 87)), some (iv (nI k)), some (iv (nI m)), none, some (iv (nI j)), some (iv (nI w)), some (iv (nI i)), none] (I, J, cd) = some (iv (if agN k m v q i w then 1 else 0), (I, J, cd)) := by
  intro q
  induction q with
  | zero =>
    intro i w f hi hw hf
    have : i = 2 * p := by omega
    subst this
    obtain ⟨g, rfl⟩ : ∃ g, f = g + 1 := ⟨f - 1, by omega⟩
    rw [sgX10_isSo_6, inb_t hj (by omega), if_pos rfl, nI_clamp (by omega), if_pos (by rw [h89]; exact Int32.le_refl _)]
    rfl
  | succ q ih =>
    intro i w f hi hw hf
    have hl := runN_le k m w false
    have v0 := hv i (by omega)
    have v1 := hv (i + 1) (by omega)
    have er : (nI (runN k m w false) = nI (v (i + 1))) = (runN k m w false = v (i + 1)) := neq (by omega) (by omega)
    have e4 : (nI k = 4) = (k = 4) := neq (b := 4) (by omega) (by omega)
    have e3 : (nI k = 3) = (k = 3) := neq (b := 3) (by omega) (by omega)
    -- the last step
    have s90 : ∀ g u, 4 * q < g → u ≤ 300 → EX10_isSo (N + 1000000) (d + 1) (g + 1) 90 [some (rv (some 87)), some (iv (nI k)), some (iv (nI m)), none, some (iv (nI j)), some (iv (nI u)), some (iv (nI i)), none] (I, J, cd) = some (iv (if agN k m v q (i + 2) (min 99 u) then 1 else 0), (I, J, cd)) := by
      intro g u hg hu
      rw [sgX10_isSo_90, show nI i + 2 = nI (i + 2) from nI_add i 2]
      by_cases c : u ≤ 99
      · rw [if_pos (show nI u ≤ 99 from nI_le (b := 99) c (by decide)), Nat.min_eq_right c]
        exact ih (i + 2) u g (by omega) c hg
      · rw [if_neg (show ¬ nI u ≤ 99 from nI_ge (a := 99) (by omega) (by omega)), Nat.min_eq_left (by omega)]
        exact ih (i + 2) 99 g (by omega) (by omega) hg
    have s37 : ∀ g, 4 * q < g → EX10_isSo (N + 1000000) (d + 1) (g + 1 + 1) 37 [some (rv (some 87)), some (iv (nI k)), some (iv (nI m)), none, some (iv (nI j)), some (iv (nI w)), some (iv (nI i)), some (iv (nI (runN k m w false)))] (I, J, cd) = some (iv (if agN k m v (q + 1) i w then 1 else 0), (I, J, cd)) := by
      intro g hg
      rw [sgX10_isSo_37, nI_1, bI (s_rowAt _ _ hj (by omega) _ _ _)]
      try dsimp only
      try dsimp only
      rw [agN]
      by_cases c : runN k m w false = v (i + 1)
      · have es : nI w + (nI (v i) - nI (runN k m w false)) = nI (w - runN k m w false + v i) := by
          have : nI w + (nI (v i) - nI (runN k m w false)) = nI w - nI (runN k m w false) + nI (v i) := by
            rw [Int32.sub_eq_add_neg, Int32.sub_eq_add_neg, Int32.add_assoc, Int32.add_comm (nI (v i))]
          rw [this, pk_sub hl, nI_add]
        rw [if_pos (by rw [v1.1, c]), if_pos c, bI (s_rowAt _ _ hj (by omega) _ _ _)]
        try dsimp only
        try dsimp only
        rw [v0.1]
        simp only [es, e3]
        rw [setN]
        by_cases c3 : k = 3
        · rw [if_pos c3, if_pos c3]
          by_cases z : w - runN k m w false + v i = 0
          · rw [z, if_pos (by decide), show nI 0 - 0 = nI 0 from rfl, s90 g 0 hg (by omega)]
          · rw [if_neg (nI_nle (by omega) (by omega)), show nI (w - runN k m w false + v i) - 1 = nI (w - runN k m w false + v i - 1) from pk_sub (b := 1) (by omega), s90 g _ hg (by omega)]
        · rw [if_neg c3, if_neg c3, Int32.sub_zero, s90 g _ hg (by omega)]
      · rw [if_neg (by rw [v1.1, er]; exact c), if_neg c]
        rfl
    obtain ⟨g, rfl⟩ : ∃ g, f = g + 1 + 1 + 1 + 1 := ⟨f - 4, by omega⟩
    rw [sgX10_isSo_6, inb_t hj (by omega), if_pos rfl, nI_clamp (by omega), if_neg (by rw [h89]; exact nI_ge (by omega) (by omega))]
    by_cases c4 : k = 4
    · rw [if_pos (by rw [e4]; exact c4)]
      by_cases cw : w ≤ m
      · have er2 : runN k m w false = w := by
          show (if k = 4 ∧ m < w then m else w) = w
          rw [if_neg (by omega)]
        rw [if_pos (nI_le cw (by omega)), sgX10_isSo_33]
        have := s37 g (by omega)
        rw [er2] at this
        exact this
      · have er2 : runN k m w false = m := by
          show (if k = 4 ∧ m < w then m else w) = m
          rw [if_pos ⟨c4, by omega⟩]
        rw [if_neg (nI_ge (by omega) (by omega))]
        have := s37 (g + 1) (by omega)
        rw [er2] at this
        exact this
    · have er2 : runN k m w false = w := by
        show (if k = 4 ∧ m < w then m else w) = w
        rw [if_neg (by omega)]
      rw [if_neg (by rw [e4]; exact c4), sgX10_isSo_33]
      have := s37 g (by omega)
      rw [er2] at this
      exact this
theorem s_isSo (N d : Nat) {k m : Nat} (hk : k ≤ 5) (hm : m ≤ 9) {j p w : Nat} (hj : j < 6) (hp : p ≤ 10) (hw : w ≤ 99) {v : Nat → Nat} (I : Nat → Nat → Int32) (J : Nat → Nat → Int64) (cd : Nat × Nat) (h89 : I 89 j = nI (2 * p)) (hv : ∀ k, k < 2 * p → I 90 (40 * j + k) = nI (v k) ∧ v k ≤ 99) : arun (N + 1000000) (d + 2) 217 [rv (some 87), iv (nI k), iv (nI m), iv (nI w), iv (nI j)] (I, J, cd) = some (iv (if agN k m v p 0 w then 1 else 0), (I, J, cd)) := by
  have l := l_isSo N d hk hm hj hp I J cd h89 hv p 0 w (N + 999999) (by omega) hw (by omega)
  rw [nI_0] at l
  rw [enX10_isSo, sgX10_isSo_0]
  exact l
/-- a set gathered bit by bit, both sides' way -/
def gaI (A : Nat → Bool) (a : Nat) : Nat → Int32
  | 0 => 0
  | n + 1 => if A (a + n) then gaI A a n ||| (1 <<< (nI (a + n) &&& 31)) else gaI A a n
theorem or0 (x : Int32) : x ||| 0 = x := by
  apply Int32.toBitVec_inj.1
  simp

theorem l_xkinds (N d : Nat) {P : RP} (hP : okP P) {ow : Nat → Nat} {F : FS} (hw : ∀ i, F.1 i ≤ 99) {i j p : Nat} (hi : i < P.1) (hj : j < 6) (hp : p ≤ 10) {v : Nat → Nat} (I : Nat → Nat → Int32) (J : Nat → Nat → Int64) (hC : courN P ow I 73) (hF : flowAt I F) (h9 : I 9 j = nI (2 * p)) (hv : ∀ k, k < 2 * p → I (3 + j) k = nI (v k) ∧ v k ≤ 99) : ∀ (q k f : Nat), k + q = 6 → EX9_kinds (N + 1000000) (d + 4) (f + 1 + q) 19 [some (rv (some 0)), some (iv (nI i)), some (iv (nI j)), none, some (iv (gaI (fun k => agN k (P.2.2.1 i) v p 0 (F.1 i)) 0 k)), some (iv (nI (0 + k)))] (I, J, 73, 80) = some (iv (gaI (fun k => agN k (P.2.2.1 i) v p 0 (F.1 i)) 0 6), (I, J, 73, 80)) := by
  have hn6 := hP.1
  have e74 : I 74 i = nI (P.2.1 i) := (hC.2.2.2.1 i hi).1
  have e75 : I 75 i = nI (P.2.2.1 i) := (hC.2.2.2.1 i hi).2.1
  have e20 : I 20 i = nI (F.1 i) := (hF.1 i (by omega)).1
  have k5 := hP.k hi
  have m9 := hP.m hi
  intro q
  induction q with
  | zero =>
    intro k f hk
    have : k = 6 := by omega
    subst this
    rw [Nat.add_zero, sgX9_kinds_19, if_pos (by decide)]
  | succ q ih =>
    intro k f hk
    have := ih (k + 1) f (by omega)
    rw [show f + 1 + (q + 1) = f + 1 + q + 1 by omega, sgX9_kinds_19, if_neg (show ¬ (5 : Int32) < nI (0 + k) from nI_nlt (a := 5) (by omega) (by omega)), inb_t (show i < 6 by omega) (by omega), if_pos rfl, if_pos rfl, nI_clamp (show i < 2 ^ 31 by omega), e75, e20, bI (s_agrees _ _ (k := 0 + k) (by omega) m9 hj hp (hw i) _ _ h9 hv)]
    try dsimp only
    try dsimp only
    simp only [gaI] at this
    rw [nI_1]
    have hcc : agN (0 + k) (P.2.2.1 i) v p 0 (F.1 i) = true ∨ agN (0 + k) (P.2.2.1 i) v p 0 (F.1 i) = false := by cases agN (0 + k) (P.2.2.1 i) v p 0 (F.1 i) <;> simp
    rcases hcc with c | c
    · rw [if_pos c] at this
      rw [if_neg (by rw [c]; decide)]
      exact this
    · rw [if_neg (by rw [c]; decide)] at this
      rw [if_pos (by rw [c]; decide)]
      exact this
theorem l_mkinds (N d : Nat) {P : RP} (hP : okP P) {ow : Nat → Nat} {F : FS} {t : Nat} (hw : ∀ i, F.1 i ≤ 99) {i j p : Nat} (hi : i < P.1) (hj : j < 6) (hp : p ≤ 10) {v : Nat → Nat} (I : Nat → Nat → Int32) (J : Nat → Nat → Int64) (cd : Nat × Nat) (hR : refAt P ow I F t) (h89 : I 89 j = nI (2 * p)) (hv : ∀ k, k < 2 * p → I 90 (40 * j + k) = nI (v k) ∧ v k ≤ 99) : ∀ (q k f : Nat), k + q = 6 → EX10_kinds (N + 1000000) (d + 2) (f + 1 + q) 19 [some (rv (some 87)), some (iv (nI i)), some (iv (nI j)), none, some (iv (gaI (fun k => agN k (P.2.2.1 i) v p 0 (F.1 i)) 0 k)), some (iv (nI (0 + k)))] (I, J, cd) = some (iv (gaI (fun k => agN k (P.2.2.1 i) v p 0 (F.1 i)) 0 6), (I, J, cd)) := by
  have hn6 := hP.1
  obtain ⟨e96, e97, e98, -, -⟩ := hR.2.2.2.1 i hi
  have k5 := hP.k hi
  have m9 := hP.m hi
  intro q
  induction q with
  | zero =>
    intro k f hk
    have : k = 6 := by omega
    subst this
    rw [Nat.add_zero, sgX10_kinds_19, if_pos (by decide)]
  | succ q ih =>
    intro k f hk
    have := ih (k + 1) f (by omega)
    rw [show f + 1 + (q + 1) = f + 1 + q + 1 by omega, sgX10_kinds_19, if_neg (show ¬ (5 : Int32) < nI (0 + k) from nI_nlt (a := 5) (by omega) (by omega)), inb_t (show i < 6 by omega) (by omega), if_pos rfl, if_pos rfl, nI_clamp (show i < 2 ^ 31 by omega), e97, e98, bI (s_isSo _ _ (k := 0 + k) (by omega) m9 hj hp (hw i) _ _ _ h89 hv)]
    try dsimp only
    try dsimp only
    simp only [gaI] at this
    rw [nI_1, or0]
    have hcc : agN (0 + k) (P.2.2.1 i) v p 0 (F.1 i) = true ∨ agN (0 + k) (P.2.2.1 i) v p 0 (F.1 i) = false := by cases agN (0 + k) (P.2.2.1 i) v p 0 (F.1 i) <;> simp
    rcases hcc with c | c
    · rw [if_pos c] at this
      rw [if_neg (by rw [c]; decide)]
      exact this
    · rw [if_neg (by rw [c]; decide)] at this
      rw [if_pos (by rw [c]; decide)]
      exact this
theorem op_kinds (x r : Int32) : OK2 100 218 [iv x, iv r] := by
  intro N d I J h
  obtain ⟨P, ow, F, D, hP, how, hC, hD, h25, hFl, hRf, h32, hw⟩ := h.un
  have hn := hP.1
  rcases pair_cases N (d + 15) h hP hC hRf x r with ⟨v, I1, I2, hv, hv2, kX, kM, hR⟩ | ⟨i, j, p, v, hi, rfl, hj, rfl, hp, h9, h89, hv, kX, kM⟩
  · refine ⟨iv v, I1, J, I2, J, ?_, ?_, hR⟩
    · rw [enX9_kinds, sgX9_kinds_0, bI kX]
      try dsimp only
      rw [if_neg hv]
    · rw [enX10_kinds, sgX10_kinds_0, bI kM]
      try dsimp only
      rw [if_neg hv2]
  · have lx := l_xkinds N (d + 15) hP hw hi hj hp I J hC hFl h9 (fun k hk => ⟨(hv k hk).1, (hv k hk).2.2⟩) 6 0 (N + 999998 - 6) (by omega)
    have lm := l_mkinds N (d + 17) hP hw hi hj hp I J (73, 80) hRf h89 (fun k hk => ⟨(hv k hk).2.1, (hv k hk).2.2⟩) 6 0 (N + 999998 - 6) (by omega)
    refine ⟨iv (gaI (fun k => agN k (P.2.2.1 i) v p 0 (F.1 i)) 0 6), I, J, I, J, ?_, ?_, h⟩
    · rw [enX9_kinds, sgX9_kinds_0, bI kX]
      try dsimp only
      rw [if_pos rfl, show N + 999999 = N + 999998 - 6 + 1 + 6 by omega]
      exact lx
    · rw [enX10_kinds, sgX10_kinds_0, bI kM]
      try dsimp only
      rw [if_pos (by decide), show N + 999999 = N + 999998 - 6 + 1 + 6 by omega]
      exact lm

theorem l_xmeasures (N d : Nat) {P : RP} (hP : okP P) {ow : Nat → Nat} {F : FS} (hw : ∀ i, F.1 i ≤ 99) {i j p : Nat} (hi : i < P.1) (hj : j < 6) (hp : p ≤ 10) {v : Nat → Nat} (I : Nat → Nat → Int32) (J : Nat → Nat → Int64) (hC : courN P ow I 73) (hF : flowAt I F) (h9 : I 9 j = nI (2 * p)) (hv : ∀ k, k < 2 * p → I (3 + j) k = nI (v k) ∧ v k ≤ 99) : ∀ (q k f : Nat), k + q = 9 → EX9_measures (N + 1000000) (d + 4) (f + 1 + q) 19 [some (rv (some 0)), some (iv (nI i)), some (iv (nI j)), none, some (iv (gaI (fun k => agN (P.2.1 i) k v p 0 (F.1 i)) 1 k)), some (iv (nI (1 + k)))] (I, J, 73, 80) = some (iv (gaI (fun k => agN (P.2.1 i) k v p 0 (F.1 i)) 1 9), (I, J, 73, 80)) := by
  have hn6 := hP.1
  have e74 : I 74 i = nI (P.2.1 i) := (hC.2.2.2.1 i hi).1
  have e75 : I 75 i = nI (P.2.2.1 i) := (hC.2.2.2.1 i hi).2.1
  have e20 : I 20 i = nI (F.1 i) := (hF.1 i (by omega)).1
  have k5 := hP.k hi
  have m9 := hP.m hi
  intro q
  induction q with
  | zero =>
    intro k f hk
    have : k = 9 := by omega
    subst this
    rw [Nat.add_zero, sgX9_measures_19, if_pos (by decide)]
  | succ q ih =>
    intro k f hk
    have := ih (k + 1) f (by omega)
    rw [show f + 1 + (q + 1) = f + 1 + q + 1 by omega, sgX9_measures_19, if_neg (show ¬ (9 : Int32) < nI (1 + k) from nI_nlt (a := 9) (by omega) (by omega)), inb_t (show i < 6 by omega) (by omega), if_pos rfl, if_pos rfl, nI_clamp (show i < 2 ^ 31 by omega), e74, e20, bI (s_agrees _ _ (m := 1 + k) k5 (by omega) hj hp (hw i) _ _ h9 hv)]
    try dsimp only
    try dsimp only
    simp only [gaI] at this
    rw [nI_1]
    have hcc : agN (P.2.1 i) (1 + k) v p 0 (F.1 i) = true ∨ agN (P.2.1 i) (1 + k) v p 0 (F.1 i) = false := by cases agN (P.2.1 i) (1 + k) v p 0 (F.1 i) <;> simp
    rcases hcc with c | c
    · rw [if_pos c] at this
      rw [if_neg (by rw [c]; decide)]
      exact this
    · rw [if_neg (by rw [c]; decide)] at this
      rw [if_pos (by rw [c]; decide)]
      exact this
theorem l_mmeasures (N d : Nat) {P : RP} (hP : okP P) {ow : Nat → Nat} {F : FS} {t : Nat} (hw : ∀ i, F.1 i ≤ 99) {i j p : Nat} (hi : i < P.1) (hj : j < 6) (hp : p ≤ 10) {v : Nat → Nat} (I : Nat → Nat → Int32) (J : Nat → Nat → Int64) (cd : Nat × Nat) (hR : refAt P ow I F t) (h89 : I 89 j = nI (2 * p)) (hv : ∀ k, k < 2 * p → I 90 (40 * j + k) = nI (v k) ∧ v k ≤ 99) : ∀ (q k f : Nat), k + q = 9 → EX10_measures (N + 1000000) (d + 2) (f + 1 + q) 19 [some (rv (some 87)), some (iv (nI i)), some (iv (nI j)), none, some (iv (gaI (fun k => agN (P.2.1 i) k v p 0 (F.1 i)) 1 k)), some (iv (nI (1 + k)))] (I, J, cd) = some (iv (gaI (fun k => agN (P.2.1 i) k v p 0 (F.1 i)) 1 9), (I, J, cd)) := by
  have hn6 := hP.1
  obtain ⟨e96, e97, e98, -, -⟩ := hR.2.2.2.1 i hi
  have k5 := hP.k hi
  have m9 := hP.m hi
  intro q
  induction q with
  | zero =>
    intro k f hk
    have : k = 9 := by omega
    subst this
    rw [Nat.add_zero, sgX10_measures_19, if_pos (by decide)]
  | succ q ih =>
    intro k f hk
    have := ih (k + 1) f (by omega)
    rw [show f + 1 + (q + 1) = f + 1 + q + 1 by omega, sgX10_measures_19, if_neg (show ¬ (9 : Int32) < nI (1 + k) from nI_nlt (a := 9) (by omega) (by omega)), inb_t (show i < 6 by omega) (by omega), if_pos rfl, if_pos rfl, nI_clamp (show i < 2 ^ 31 by omega), e96, e98, bI (s_isSo _ _ (m := 1 + k) k5 (by omega) hj hp (hw i) _ _ _ h89 hv)]
    try dsimp only
    try dsimp only
    simp only [gaI] at this
    rw [nI_1, or0]
    have hcc : agN (P.2.1 i) (1 + k) v p 0 (F.1 i) = true ∨ agN (P.2.1 i) (1 + k) v p 0 (F.1 i) = false := by cases agN (P.2.1 i) (1 + k) v p 0 (F.1 i) <;> simp
    rcases hcc with c | c
    · rw [if_pos c] at this
      rw [if_neg (by rw [c]; decide)]
      exact this
    · rw [if_neg (by rw [c]; decide)] at this
      rw [if_pos (by rw [c]; decide)]
      exact this
theorem op_measures (x r : Int32) : OK2 101 219 [iv x, iv r] := by
  intro N d I J h
  obtain ⟨P, ow, F, D, hP, how, hC, hD, h25, hFl, hRf, h32, hw⟩ := h.un
  have hn := hP.1
  rcases pair_cases N (d + 15) h hP hC hRf x r with ⟨v, I1, I2, hv, hv2, kX, kM, hR⟩ | ⟨i, j, p, v, hi, rfl, hj, rfl, hp, h9, h89, hv, kX, kM⟩
  · refine ⟨iv v, I1, J, I2, J, ?_, ?_, hR⟩
    · rw [enX9_measures, sgX9_measures_0, bI kX]
      try dsimp only
      rw [if_neg hv]
    · rw [enX10_measures, sgX10_measures_0, bI kM]
      try dsimp only
      rw [if_neg hv2]
  · have lx := l_xmeasures N (d + 15) hP hw hi hj hp I J hC hFl h9 (fun k hk => ⟨(hv k hk).1, (hv k hk).2.2⟩) 9 0 (N + 999998 - 9) (by omega)
    have lm := l_mmeasures N (d + 17) hP hw hi hj hp I J (73, 80) hRf h89 (fun k hk => ⟨(hv k hk).2.1, (hv k hk).2.2⟩) 9 0 (N + 999998 - 9) (by omega)
    refine ⟨iv (gaI (fun k => agN (P.2.1 i) k v p 0 (F.1 i)) 1 9), I, J, I, J, ?_, ?_, h⟩
    · rw [enX9_measures, sgX9_measures_0, bI kX]
      try dsimp only
      rw [if_pos rfl, show N + 999999 = N + 999998 - 9 + 1 + 9 by omega]
      exact lx
    · rw [enX10_measures, sgX10_measures_0, bI kM]
      try dsimp only
      rw [if_pos (by decide), show N + 999999 = N + 999998 - 9 + 1 + 9 by omega]
      exact lm
