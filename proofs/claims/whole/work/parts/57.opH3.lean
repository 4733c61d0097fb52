/-! fractions; ways, first -/
theorem gcd_st {a b : Nat} (h : b ≠ 0) : Nat.gcd b (a % b) = Nat.gcd a b := by rw [Nat.gcd_comm b, ← Nat.gcd_rec, Nat.gcd_comm]
theorem half {a b k : Nat} (hb : b < 2 ^ (k + 1)) (h : b ≠ 0) (h1 : a % b ≠ 0) : b % (a % b) < 2 ^ k := by
  have h2 : a % b < b := Nat.mod_lt _ (by omega)
  have h3 : b % (a % b) < a % b := Nat.mod_lt _ (by omega)
  have e : 2 ^ (k + 1) = 2 ^ k + 2 ^ k := by rw [Nat.pow_succ]; omega
  by_cases c : a % b < 2 ^ k
  · omega
  · have h4 : b % (a % b) ≤ b - a % b := by
      have hd := Nat.div_add_mod b (a % b)
      have : 1 ≤ b / (a % b) := (Nat.le_div_iff_mul_le (by omega)).mpr (by omega)
      have : a % b * 1 ≤ a % b * (b / (a % b)) := Nat.mul_le_mul_left _ this
      omega
    omega
theorem lgz {b : Nat} (hb : b < 2 ^ 63) : (lg_cmp (lN b) 0 = 0) = (b = 0) := by
  unfold lg_cmp
  rw [show (0 : Int64) = lN 0 from rfl]
  by_cases h : b = 0
  · subst h; exact propext ⟨fun _ => rfl, fun _ => by decide⟩
  · rw [if_pos (show lN b > lN 0 from (pk_lLT (by decide) hb).mpr (by omega))]
    exact propext ⟨fun q => absurd q (by decide), fun q => absurd q h⟩
theorem lnz {b : Nat} (hb : b < 2 ^ 63) (h : b ≠ 0) : ¬ lN b = 0 := fun q => h ((pk_lEQ (b := 0) hb (by decide)).mp q)
theorem l_gcdX (N d : Nat) (I : Nat → Nat → Int32) (J : Nat → Nat → Int64) (cd : Nat × Nat) : ∀ (k a b x f : Nat), a < 2 ^ 63 → b < 2 ^ 63 → b < 2 ^ k → x + 2 * k < 100 → 2 * k < f → EX9_commonDivisor (N + 1000000) d f 3 [some (jv (lN a)), none, some (jv (lN b)), none, some (iv (nI x)), none, none] (I, J, cd) = some (jv (lN (Nat.gcd a b)), (I, J, cd)) := by
  intro k
  induction k with
  | zero =>
    intro a b x f ha hb hk hx hf
    have : b = 0 := by simpa using hk
    subst this
    obtain ⟨g, rfl⟩ : ∃ g, f = g + 1 := ⟨f - 1, by omega⟩
    rw [sgX9_commonDivisor_3, if_neg (show ¬ (100 : Int32) ≤ nI x from nI_ge (b := 100) (by omega) (by decide)), if_pos (by rw [lgz (by decide)]), Nat.gcd_zero_right]
  | succ k ih =>
    intro a b x f ha hb hk hx hf
    obtain ⟨g, rfl⟩ : ∃ g, f = g + 1 + 1 := ⟨f - 2, by omega⟩
    rw [sgX9_commonDivisor_3, if_neg (show ¬ (100 : Int32) ≤ nI x from nI_ge (b := 100) (by omega) (by decide))]
    by_cases h0 : b = 0
    · subst h0
      rw [if_pos (by rw [lgz (by decide)]), Nat.gcd_zero_right]
    · have hr : a % b < b := Nat.mod_lt _ (by omega)
      rw [if_neg (by rw [lgz hb]; exact h0), if_neg (lnz hb h0), pk_lRem ha (by omega) hb, nI_1, sgX9_commonDivisor_3, if_neg (show ¬ (100 : Int32) ≤ nI (x + 1) from nI_ge (b := 100) (by omega) (by decide))]
      by_cases h1 : a % b = 0
      · rw [if_pos (by rw [lgz (by omega)]; exact h1), ← gcd_st h0, h1, Nat.gcd_zero_right]
      · rw [if_neg (by rw [lgz (by omega)]; exact h1), if_neg (lnz (by omega) h1), pk_lRem hb (by omega) (by omega), nI_1, ih (a % b) (b % (a % b)) (x + 1 + 1) g (by omega) (by have := Nat.mod_lt b (show 0 < a % b by omega); omega) (half hk h0 h1) (by omega) (by omega), gcd_st h1, gcd_st h0]
theorem l_gcdM (N d : Nat) (up low : Nat) (hup : up < 2 ^ 63) (hlow : low < 2 ^ 63) (I : Nat → Nat → Int32) (J : Nat → Nat → Int64) (cd : Nat × Nat) : ∀ (k a b f : Nat), a < 2 ^ 63 → b < 2 ^ 63 → b < 2 ^ k → 2 * k < f → 0 < Nat.gcd a b → EX10_part (N + 1000000) d f 6 [some (rv (some 87)), some (jv (lN up)), none, some (jv (lN low)), none, some (jv (lN a)), none, some (jv (lN b)), none, none, none] (I, J, cd) = some (iv 1, (I, wr (wr J 87 3 (lN (up / Nat.gcd a b))) 87 4 (lN (low / Nat.gcd a b)), cd)) := by
  have fin : ∀ a g, a < 2 ^ 63 → 0 < a → EX10_part (N + 1000000) d (g + 1) 6 [some (rv (some 87)), some (jv (lN up)), none, some (jv (lN low)), none, some (jv (lN a)), none, some (jv (lN 0)), none, none, none] (I, J, cd) = some (iv 1, (I, wr (wr J 87 3 (lN (up / a))) 87 4 (lN (low / a)), cd)) := by
    intro a g ha h
    rw [sgX10_part_6, if_pos (by rw [lgz (by decide)]), if_neg (lnz ha (by omega)), if_neg (lnz ha (by omega)), pk_lDiv hup h ha, pk_lDiv hlow h ha]
  intro k
  induction k with
  | zero =>
    intro a b f ha hb hk hf hg
    have : b = 0 := by simpa using hk
    subst this
    obtain ⟨g, rfl⟩ : ∃ g, f = g + 1 := ⟨f - 1, by omega⟩
    rw [Nat.gcd_zero_right] at hg ⊢
    exact fin a g ha hg
  | succ k ih =>
    intro a b f ha hb hk hf hg
    obtain ⟨g, rfl⟩ : ∃ g, f = g + 1 + 1 := ⟨f - 2, by omega⟩
    by_cases h0 : b = 0
    · subst h0
      rw [Nat.gcd_zero_right] at hg ⊢
      exact fin a (g + 1) ha hg
    · have hr : a % b < b := Nat.mod_lt _ (by omega)
      rw [sgX10_part_6, if_neg (by rw [lgz hb]; exact h0), if_neg (lnz hb h0), pk_lRem ha (by omega) hb]
      rw [← gcd_st h0] at hg ⊢
      by_cases h1 : a % b = 0
      · rw [h1, Nat.gcd_zero_right] at hg ⊢
        exact fin b g hb (by omega)
      · rw [sgX10_part_6, if_neg (by rw [lgz (by omega)]; exact h1), if_neg (lnz (by omega) h1), pk_lRem hb (by omega) (by omega)]
        rw [← gcd_st h1] at hg ⊢
        exact ih (a % b) (b % (a % b)) g (by omega) (by have := Nat.mod_lt b (show 0 < a % b by omega); omega) (half hk h0 h1) (by omega) hg
/-- a fraction is told -/
theorem s_fracX (N d : Nat) {up low : Nat} (hup : up < 2 ^ 63) (hl0 : 0 < low) (hlow : low < 2 ^ 44) (I : Nat → Nat → Int32) (J : Nat → Nat → Int64) : arun (N + 1000000) (d + 2) 113 [rv (some 0), jv (lN up), jv (lN low)] (I, J, 73, 80) = some (rv none, (I, wr (wr J 0 15 (lN (up / Nat.gcd up low))) 0 16 (lN (low / Nat.gcd up low)), 73, 80)) := by
  have hg : 0 < Nat.gcd up low := Nat.gcd_pos_of_pos_right _ hl0
  have hgl : Nat.gcd up low ≤ low := Nat.gcd_le_right _ hl0
  have l := l_gcdX N d I J (73, 80) 44 up low 0 (N + 999999) hup (by omega) hlow (by omega) (by omega)
  rw [nI_0] at l
  have rg : arun (N + 1000000) (d + 1) 114 [jv (lN up), jv (lN low)] (I, J, 73, 80) = some (jv (lN (Nat.gcd up low)), (I, J, 73, 80)) := by
    rw [enX9_commonDivisor, sgX9_commonDivisor_0]
    exact l
  rw [enX9_tellFraction, sgX9_tellFraction_0, bJ rg]
  try dsimp only
  rw [if_neg (by rw [lg_le]; exact fun z => z ((pk_lLT (a := 0) (by decide) (by omega)).mpr hg)), if_neg (lnz (by omega) (by omega)), if_neg (lnz (by omega) (by omega)), pk_lDiv hup hg (by omega), pk_lDiv (by omega) hg (by omega)]
theorem s_fracM (N d : Nat) {up low : Nat} (hup : up < 2 ^ 63) (hl0 : 0 < low) (hlow : low < 2 ^ 44) (I : Nat → Nat → Int32) (J : Nat → Nat → Int64) (cd : Nat × Nat) : arun (N + 1000000) (d + 1) 142 [rv (some 87), jv (lN up), jv (lN low)] (I, J, cd) = some (iv 1, (I, wr (wr J 87 3 (lN (up / Nat.gcd up low))) 87 4 (lN (low / Nat.gcd up low)), cd)) := by
  rw [enX10_part, sgX10_part_0]
  exact l_gcdM N d up low hup (by omega) I J cd 44 up low (N + 999999) hup (by omega) hlow (by omega) (Nat.gcd_pos_of_pos_right _ hl0)
theorem jj_ok (J : Nat → Nat → Int64) (u l : Int64) : (wr (wr (wr (wr J 0 15 u) 0 16 l) 87 3 u) 87 4 l) 0 15 = (wr (wr (wr (wr J 0 15 u) 0 16 l) 87 3 u) 87 4 l) 87 3 ∧ (wr (wr (wr (wr J 0 15 u) 0 16 l) 87 3 u) 87 4 l) 0 16 = (wr (wr (wr (wr J 0 15 u) 0 16 l) 87 3 u) 87 4 l) 87 4 := by
  simp [wr_at, up1_at]
-- seas in rows
theorem l_mseaO (N d : Nat) {j n : Nat} (hj : j < 6) (hl : n ≤ 40) (I : Nat → Nat → Int32) (J : Nat → Nat → Int64) (cd : Nat × Nat) (h89 : I 89 j = nI n) (hv : ∀ k, k < n → WI 999 (I 90 (40 * j + k))) : ∀ (m k f : Nat), k + m = n → EX10_askedSea (N + 1000000) (d + 1) (f + 1 + m) 56 [some (rv (some 87)), some (iv (nI j)), some (iv (nI k))] (I, J, cd) = some (iv 0, (I, J, cd)) := by
  intro m
  induction m with
  | zero =>
    intro k f hk
    have : k = n := by omega
    subst this
    rw [Nat.add_zero, sgX10_askedSea_56, inb_t hj (by omega), if_pos rfl, nI_clamp (by omega), if_pos (by rw [h89]; exact Int32.le_refl _)]
  | succ m ih =>
    intro k f hk
    rw [show f + 1 + (m + 1) = f + 1 + m + 1 by omega, sgX10_askedSea_56, inb_t hj (by omega), if_pos rfl, nI_clamp (by omega), if_neg (by rw [h89]; exact nI_ge (by omega) (by omega)), bI (s_rowAt _ _ hj (by omega) _ _ _)]
    try dsimp only
    try dsimp only
    rw [bI (s_in _ _ _ _ _ _)]
    try dsimp only
    try dsimp only
    rw [b2i_t (hv k (by omega)).in, if_neg n10, nI_1]
    exact ih (k + 1) f (by omega)
theorem l_mseaN (N d : Nat) {j n : Nat} (hj : j < 6) (hl : n ≤ 40) (I : Nat → Nat → Int32) (J : Nat → Nat → Int64) (cd : Nat × Nat) (h89 : I 89 j = nI n) {i : Nat} (hin : i < n) (hv : ¬ WI 999 (I 90 (40 * j + i))) : ∀ (m k f : Nat), k + m = i → EX10_askedSea (N + 1000000) (d + 1) (f + 1 + m) 56 [some (rv (some 87)), some (iv (nI j)), some (iv (nI k))] (I, J, cd) = some (iv (-3), (mF I 3, J, cd)) := by
  have bad : ∀ k f, k < n → ¬ WI 999 (I 90 (40 * j + k)) → EX10_askedSea (N + 1000000) (d + 1) (f + 1) 56 [some (rv (some 87)), some (iv (nI j)), some (iv (nI k))] (I, J, cd) = some (iv (-3), (mF I 3, J, cd)) := by
    intro k f hk c
    rw [sgX10_askedSea_56, inb_t hj (by omega), if_pos rfl, nI_clamp (by omega), if_neg (by rw [h89]; exact nI_ge (by omega) (by omega)), bI (s_rowAt _ _ hj (by omega) _ _ _)]
    try dsimp only
    try dsimp only
    rw [bI (s_in _ _ _ _ _ _)]
    try dsimp only
    try dsimp only
    rw [b2i_f (WI.nin c), if_pos rfl, bI (s_meet3 _ _ _ _ _)]
    try dsimp only
  intro m
  induction m with
  | zero =>
    intro k f hk
    have : k = i := by omega
    subst this
    rw [Nat.add_zero, bad k f hin hv]
  | succ m ih =>
    intro k f hk
    by_cases c : WI 999 (I 90 (40 * j + k))
    · rw [show f + 1 + (m + 1) = f + 1 + m + 1 by omega, sgX10_askedSea_56, inb_t hj (by omega), if_pos rfl, nI_clamp (by omega), if_neg (by rw [h89]; exact nI_ge (by omega) (by omega)), bI (s_rowAt _ _ hj (by omega) _ _ _)]
      try dsimp only
      try dsimp only
      rw [bI (s_in _ _ _ _ _ _)]
      try dsimp only
      try dsimp only
      rw [b2i_t c.in, if_neg n10, nI_1]
      exact ih (k + 1) f (by omega)
    · rw [show f + 1 + (m + 1) = f + 1 + m + 1 by omega, bad k _ (by omega) c]
theorem m_seaO (N d : Nat) {P : RP} (hP : okP P) (h0 : 0 < P.1) {j n : Nat} (hj : j < 6) (hn1 : 1 ≤ n) (hn : n ≤ 4) (I : Nat → Nat → Int32) (J : Nat → Nat → Int64) (cd : Nat × Nat) (h10 : I 87 10 = nI P.1) (h89 : I 89 j = nI n) (hv : ∀ k, k < n → WI 999 (I 90 (40 * j + k))) : arun (N + 1000000) (d + 4) 212 [rv (some 87), iv (nI j)] (I, J, cd) = some (iv 0, (I, J, cd)) := by
  have hn6 := hP.1
  have l := l_mseaO N (d + 2) hj (show n ≤ 40 by omega) I J cd h89 hv n 0 (N + 999998 - n) (by omega)
  rw [nI_0] at l
  have hin : ¬ nI n < 1 ∧ ¬ (4 : Int32) < nI n := ⟨nI_nlt (b := 1) (by omega) (by omega), nI_nlt (a := 4) (by omega) (by omega)⟩
  rw [enX10_askedSea, sgX10_askedSea_0, bI (s_isRow _ _ _ _)]
  try dsimp only
  try dsimp only
  rw [b2i_t (b2_row hj), if_neg n10, if_neg (by rw [h10]; exact nI_ne0 h0 (by omega)), inb_t hj (by omega), if_pos rfl, if_pos rfl, nI_clamp (by omega), if_pos (by rw [h89]; exact nI_pos' (by omega)), h89, bI (s_in _ _ _ _ _ _)]
  try dsimp only
  try dsimp only
  rw [b2i_t hin, if_neg n10, show N + 999999 = N + 999998 - n + 1 + n by omega]
  exact l
/-- seas are refused by both alike, or taken by both -/
theorem sea_cases (N d : Nat) {I : Nat → Nat → Int32} {J : Nat → Nat → Int64} (h : Rel I J) {P : RP} {ow : Nat → Nat} {F : FS} {D : Nat} (hP : okP P) (hC : courN P ow I 73) (hRf : refAt P ow I F D) (r : Int32) :
    (∃ (v : Int32) (I1 I2 : Nat → Nat → Int32), ¬ v = 0 ∧ ¬ 0 ≤ v ∧ arun (N + 1000000) (d + 6) 122 [rv (some 0), iv 1, iv r] (I, J, 73, 80) = some (iv v, (I1, J, 73, 80)) ∧ arun (N + 1000000) (d + 6) 212 [rv (some 87), iv r] (I1, J, 73, 80) = some (iv v, (I2, J, 73, 80)) ∧ Rel I2 J)
    ∨ (0 < P.1 ∧ ∃ (j n : Nat) (du : Nat → Nat), j < 6 ∧ r = nI j ∧ 1 ≤ n ∧ n ≤ 4 ∧ I 9 j = nI n ∧ I 89 j = nI n ∧ (∀ k, du k ≤ 999) ∧ (∀ k, k < n → I (3 + j) k = nI (du k) ∧ I 90 (40 * j + k) = nI (du k)) ∧ arun (N + 1000000) (d + 6) 122 [rv (some 0), iv 1, iv r] (I, J, 73, 80) = some (iv 0, (I, J, 73, 80))) := by
  have hn6 := hP.1
  have x87 : ∀ f a, a ≠ 0 → a ≠ 72 → xF I f a = I a := fun f a h1 h2 => by rw [xF, wr_ne h2, wr_ne h1]
  rcases ixc r 6 (by decide) with hr | ⟨j, hj, rfl⟩
  · refine Or.inl ⟨-1, I, I, by decide, by decide, ?_, ?_, h⟩
    · rw [enX9_refuseSeas, sgX9_refuseSeas_0, bI (x_riverB _ _ (Or.inr hr) _ _)]
      try dsimp only
      try dsimp only
      rw [if_neg (by decide)]
    · rw [enX10_askedSea, sgX10_askedSea_0, bI (s_isRow _ _ _ _)]
      try dsimp only
      try dsimp only
      rw [if_pos (b2i_f (b2_rowN hr))]
  · by_cases hz : P.1 = 0
    · refine Or.inl ⟨-4, I, I, by decide, by decide, ?_, ?_, h⟩
      · rw [enX9_refuseSeas, sgX9_refuseSeas_0, bI (x_river0 _ _ hj _ _ (by rw [hC.1, hz]; rfl))]
        try dsimp only
        try dsimp only
        rw [if_neg (by decide)]
      · rw [enX10_askedSea, sgX10_askedSea_0, bI (s_isRow _ _ _ _)]
        try dsimp only
        try dsimp only
        rw [b2i_t (b2_row hj), if_neg n10, if_pos (by rw [hRf.1, hz]; rfl)]
    · have h0 : 0 < P.1 := by omega
      have c73 : ¬ I 73 0 = 0 := by rw [hC.1]; exact nI_ne0 h0 (by omega)
      have ms : ∀ (B : Nat → Nat → Int32) {q : Option RES}, B 87 = I 87 → B 89 = I 89 → (if 0 ≤ I 89 j then ((cI (arun (N + 1000000) (d + 5)) 137 [iv (I 89 j), iv 1, iv 4] (B, J, 73, 80)).bind fun r2 => if r2.1 = 0 then (cI (arun (N + 1000000) (d + 5)) 138 [rv (some 87), iv 5] r2.2).bind fun r3 => some (iv r3.1, r3.2) else EX10_askedSea (N + 1000000) (d + 5) (N + 999999) 56 [some (rv (some 87)), some (iv (nI j)), some (iv 0)] r2.2) else (cI (arun (N + 1000000) (d + 5)) 138 [rv (some 87), iv 1] (B, J, 73, 80)).bind fun r4 => some (iv r4.1, r4.2)) = q → arun (N + 1000000) (d + 6) 212 [rv (some 87), iv (nI j)] (B, J, 73, 80) = q := by
        intro B q e87 e89 hq
        rw [enX10_askedSea, sgX10_askedSea_0, bI (s_isRow _ _ _ _)]
        try dsimp only
        try dsimp only
        rw [b2i_t (b2_row hj), if_neg n10, if_neg (by rw [e87, hRf.1]; exact nI_ne0 h0 (by omega))]
        simp only [inb_t hj (show j < 2 ^ 31 by omega), nI_clamp (show j < 2 ^ 31 by omega), if_true, e89]
        exact hq
      rcases h.1.2 j hj with ⟨a, b⟩ | ⟨n, hn, a, b, c⟩
      · refine Or.inl ⟨-3, xF I 1, mF (xF I 1) 1, by decide, by decide, ?_, ms _ (x87 1 87 (by decide) (by decide)) (x87 1 89 (by decide) (by decide)) ?_, h.find (by decide)⟩
        · rw [enX9_refuseSeas, sgX9_refuseSeas_0, bI (x_riverN _ _ hj _ _ c73 a)]
          try dsimp only
          try dsimp only
          rw [if_neg (by decide)]
        · rw [if_neg (by rw [b]; decide), bI (s_meet1 _ _ _ _ _)]
          try dsimp only
      · have xs : ∀ {q : Option RES}, (if nI n < 1 then some (iv (-3), (xF I 5, J, 73, 80)) else if nI n ≤ 4 then ((cI (arun (N + 1000000) (d + 5)) 65 [rv (some 1), iv (nI j), iv 999] (I, J, 73, 80)).bind fun r4 => if r4.1 = 0 then (cI (arun (N + 1000000) (d + 5)) 115 [rv (some 0), iv 3] r4.2).bind fun r5 => some (iv r5.1, r5.2) else some (iv 0, r4.2)) else some (iv (-3), (xF I 5, J, 73, 80))) = q → arun (N + 1000000) (d + 6) 122 [rv (some 0), iv 1, iv (nI j)] (I, J, 73, 80) = q := by
          intro q hq
          rw [enX9_refuseSeas, sgX9_refuseSeas_0, bI (x_riverO _ _ hj _ _ c73 a hn)]
          try dsimp only
          try dsimp only
          rw [if_pos rfl, bI (s_sizeOfN_1 _ _ hj _ _ _ a hn)]
          try dsimp only
          try dsimp only
          rw [bI (s_sizeOfN_1 _ _ hj _ _ _ a hn)]
          try dsimp only
          try dsimp only
          simp only [sgX9_refuseSeas_37, bI (s_find5 N (d + 4) I J)]
          exact hq
        have b0 : (0 : Int32) ≤ I 89 j := by rw [b]; exact nI_pos' (by omega)
        by_cases h14 : 1 ≤ n ∧ n ≤ 4
        · have hin : ¬ nI n < 1 ∧ ¬ (4 : Int32) < nI n := ⟨nI_nlt (b := 1) (by omega) (by omega), nI_nlt (a := 4) (by omega) (by omega)⟩
          by_cases hall : ∀ k, k < n → WI 999 (I (3 + j) k)
          · refine Or.inr ⟨h0, j, n, fun k => if k < n then (I (3 + j) k).toNatClampNeg else 0, hj, rfl, h14.1, h14.2, a, b, fun k => ?_, fun k hk => ?_, xs ?_⟩
            · dsimp only
              split
              · rename_i hk
                obtain ⟨s, hs9, hs1⟩ := (hall k hk).of (n := 999) (by decide)
                rw [hs1, nI_clamp (by omega)]; exact hs9
              · omega
            · obtain ⟨s, hs9, hs1⟩ := (hall k hk).of (n := 999) (by decide)
              have e : (I (3 + j) k).toNatClampNeg = s := by rw [hs1, nI_clamp (by omega)]
              dsimp only
              rw [if_pos hk, e]
              exact ⟨hs1, by rw [← c k hk]; exact hs1⟩
            · rw [if_neg hin.1, if_pos (show nI n ≤ 4 from nI_le (b := 4) (by omega) (by decide)), bI (s_withinO _ _ hj hn _ _ _ _ a hall)]
              try dsimp only
              try dsimp only
              rw [if_neg n10]
          · have hex : ∃ k, k < n ∧ ¬ WI 999 (I (3 + j) k) := Classical.byContradiction fun q => hall fun k hk => Classical.byContradiction fun z => q ⟨k, hk, z⟩
            obtain ⟨k, hk, hv⟩ := hex
            refine Or.inl ⟨-3, xF I 3, mF (xF I 3) 3, by decide, by decide, xs ?_, ms _ (x87 3 87 (by decide) (by decide)) (x87 3 89 (by decide) (by decide)) ?_, h.find (by decide)⟩
            · rw [if_neg hin.1, if_pos (show nI n ≤ 4 from nI_le (b := 4) (by omega) (by decide)), bI (s_withinN _ _ hj hn _ _ _ _ a hk hv)]
              try dsimp only
              try dsimp only
              rw [if_pos rfl, bI (s_find3 _ _ _ _)]
              try dsimp only
            · have l := l_mseaN N (d + 4) hj hn (xF I 3) J (73, 80) (by rw [x87 3 89 (by decide) (by decide)]; exact b) hk (by rw [x87 3 90 (by decide) (by decide), ← c k hk]; exact hv) k 0 (N + 999998 - k) (by omega)
              rw [nI_0] at l
              rw [if_pos b0, b, bI (s_in _ _ _ _ _ _)]
              try dsimp only
              try dsimp only
              rw [b2i_t hin, if_neg n10, show N + 999999 = N + 999998 - k + 1 + k by omega]
              exact l
        · refine Or.inl ⟨-3, xF I 5, mF (xF I 5) 5, by decide, by decide, xs ?_, ms _ (x87 5 87 (by decide) (by decide)) (x87 5 89 (by decide) (by decide)) ?_, h.find (by decide)⟩
          · by_cases z : n = 0
            · subst z; rw [if_pos (by decide)]
            · rw [if_neg (show ¬ nI n < 1 from nI_nlt (b := 1) (by omega) (by omega)), if_neg (show ¬ nI n ≤ 4 from nI_ge (a := 4) (by omega) (by omega))]
          · rw [if_pos b0, b, bI (s_in _ _ _ _ _ _)]
            try dsimp only
            try dsimp only
            rw [b2i_f (fun q => by
              by_cases z : n = 0
              · subst z; exact q.1 (by decide)
              · exact q.2 (nI_lt (a := 4) (by omega) (by omega))), if_pos rfl, bI (s_meet5 _ _ _ _ _)]
-- whether it comes so
theorem l_comes (N d : Nat) {P : RP} (hP : okP P) (h0 : 0 < P.1) {F : FS} (hw : ∀ i, F.1 i ≤ 99) {ow : Nat → Nat} (how : ∀ d, d < 7 → ow d ≤ 6) {t : Nat} (ht : t ≤ 40) {n j r : Nat} {due : Nat → Nat} (hdu : ∀ i, due i ≤ 999) (hn : n ≤ 4) (hj : j < 2 ^ 20) (hr : r < 6) {I C : Nat → Nat → Int32} (J : Nat → Nat → Int64) (cd : Nat × Nat) (hN : noteN P (I 107) 0 F t) (hrC : rAt P ow F t I C) (hR : I 87 32 = -9) (hm : msAt P I) (h89 : I 89 r = nI n) (h90 : ∀ k, k < n → I 90 (40 * r + k) = nI (due k)) :
    ∀ (m k f : Nat) (B : Nat → Nat → Int32), k + m = n → m + 2 ≤ f → mAt P P.2.2.2.2 ow t (plN P n j) F C k B → fitA P ow t F 3 due (plN P n j) k = true → ∃ B', EX10_comesSo (N + 1000000) (d + 3) f 5 [some (rv (some 87)), some (iv (nI j)), some (iv (nI r)), some (iv 1), some (iv (nI k))] (B, J, cd) = some (iv (if fitA P ow t F 3 due (plN P n j) n then 1 else 0), (B', J, cd)) ∧ rAt P ow F t I B' := by
  have hn6 := hP.1
  intro m
  induction m with
  | zero =>
    intro k f B hk hf hA hfit
    have : k = n := by omega
    subst this
    obtain ⟨g, rfl⟩ : ∃ g, f = g + 1 + 1 := ⟨f - 2, by omega⟩
    obtain ⟨B2, r2, hB2, -⟩ := m_bk N (d + 1) hn6 J cd hN hrC hA
    refine ⟨B2, ?_, hB2⟩
    have e89 : B 89 r = nI k := by rw [hA.1 89 (by decide), hrC.1 89 (by decide)]; exact h89
    rw [sgX10_comesSo_5, inb_t hr (by omega), if_pos rfl, nI_clamp (by omega), if_pos (by rw [e89]; exact Int32.le_refl _), sgX10_comesSo_59, bV r2]
    try dsimp only
    rw [if_pos rfl, hfit, if_pos rfl]
  | succ m ih =>
    intro k f B hk hf hA hfit
    obtain ⟨f', rfl⟩ : ∃ f', f = f' + 1 := ⟨f - 1, by omega⟩
    have e89 : B 89 r = nI n := by rw [hA.1 89 (by decide), hrC.1 89 (by decide)]; exact h89
    obtain ⟨B1, r1, hA1, -⟩ := m_step N d hP h0 hw how ht (R9 (by rw [hrC.2.1 32 (by decide)]; exact hR)) (k := k) (by omega) (plN_ok n j k) B J cd hA
    have hse : seaD P ow t F (plN P n j) k ≤ 99 := Nat.le_trans (ranN_le _ _ _ _) (wkN_le _ _ _ _ _ _ hw k _)
    have hdk := hdu k
    have c3 : (nI (seaD P ow t F (plN P n j) k) = nI (due k)) = (seaD P ow t F (plN P n j) k = due k) := neq (by omega) (by omega)
    have e90 : B1 90 (40 * r + k) = nI (due k) := by rw [hA1.1 90 (by decide), hrC.1 90 (by decide)]; exact h90 k (by omega)
    have efit : fitA P ow t F 3 due (plN P n j) (k + 1) = decide (seaD P ow t F (plN P n j) k = due k) := by
      show (fitA P ow t F 3 due (plN P n j) k && fitD P ow t F 3 due (plN P n j) k) = _
      rw [hfit, Bool.true_and, fitD, if_neg (by decide), if_pos rfl]
    have st : ∀ {q : Option RES}, (if seaD P ow t F (plN P n j) k = due k then EX10_comesSo (N + 1000000) (d + 3) f' 5 [some (rv (some 87)), some (iv (nI j)), some (iv (nI r)), some (iv 1), some (iv (nI (k + 1)))] (B1, J, cd) else EX10_comesSo (N + 1000000) (d + 3) f' 5 [some (rv (some 87)), some (iv (nI j)), some (iv (nI r)), some (iv 0), some (iv (nI (k + 1)))] (B1, J, cd)) = q → EX10_comesSo (N + 1000000) (d + 3) (f' + 1) 5 [some (rv (some 87)), some (iv (nI j)), some (iv (nI r)), some (iv 1), some (iv (nI k))] (B, J, cd) = q := by
      intro q hq
      rw [sgX10_comesSo_5, inb_t hr (by omega), if_pos rfl, if_pos rfl, nI_clamp (by omega), if_neg (by rw [e89]; exact nI_ge (by omega) (by omega)), if_neg n10, e89, bI (s_setOf _ _ hP (show k < n by omega) hn hj _ _ _ (hA.ms (hrC.ms hm)))]
      try dsimp only
      try dsimp only
      rw [bI r1]
      try dsimp only
      rw [bI (s_rowAt _ _ hr (by omega) _ _ _)]
      try dsimp only
      try dsimp only
      rw [nI_1, ← hq]
      by_cases c : seaD P ow t F (plN P n j) k = due k
      · rw [if_pos (by rw [e90]; exact congrArg nI c), if_pos c]
      · rw [if_neg (by rw [e90]; exact fun z => c (c3.mp z)), if_neg c]
    by_cases c : seaD P ow t F (plN P n j) k = due k
    · obtain ⟨B', r2, hB'⟩ := ih (k + 1) f' B1 (by omega) (by omega) hA1 (by rw [efit]; simp [c])
      refine ⟨B', st ?_, hB'⟩
      rw [if_pos c]
      exact r2
    · have hfn : fitA P ow t F 3 due (plN P n j) n = false := by
        have := fitA_mono P ow t F 3 due (plN P n j) (k := k + 1) (by rw [efit]; simp [c]) m
        rw [show k + 1 + m = n by omega] at this
        exact this
      obtain ⟨g, rfl⟩ : ∃ g, f' = g + 1 + 1 := ⟨f' - 2, by omega⟩
      obtain ⟨B2, r2, hB2, -⟩ := m_bk N (d + 1) hn6 J cd hN hrC hA1
      refine ⟨B2, st ?_, hB2⟩
      have e59 : EX10_comesSo (N + 1000000) (d + 3) (g + 1) 59 [some (rv (some 87)), none, none, some (iv 0), none] (B1, J, cd) = some (iv 0, (B2, J, cd)) := by
        rw [sgX10_comesSo_59, bV r2]
        try dsimp only
        rw [if_neg (by decide), if_pos rfl]
      have e891 : B1 89 r = nI n := by rw [hA1.1 89 (by decide), hrC.1 89 (by decide)]; exact h89
      rw [if_neg c, hfn, sgX10_comesSo_5, inb_t hr (by omega), if_pos rfl, nI_clamp (by omega)]
      by_cases z : n ≤ k + 1
      · rw [if_pos (by rw [e891]; exact nI_le z (by omega)), e59]; rfl
      · rw [if_neg (by rw [e891]; exact nI_ge (by omega) (by omega)), if_pos rfl, e59]; rfl
theorem s_comes (N d : Nat) {P : RP} (hP : okP P) (h0 : 0 < P.1) {F : FS} (hw : ∀ i, F.1 i ≤ 99) {ow : Nat → Nat} (how : ∀ d, d < 7 → ow d ≤ 6) {t : Nat} (ht : t ≤ 40) {n j r : Nat} {due : Nat → Nat} (hdu : ∀ i, due i ≤ 999) (hn : n ≤ 4) (hj : j < 2 ^ 20) (hr : r < 6) {I C : Nat → Nat → Int32} (J : Nat → Nat → Int64) (cd : Nat × Nat) (hN : noteN P (I 107) 0 F t) (hrC : rAt P ow F t I C) (hR : I 87 32 = -9) (hm : msAt P I) (h89 : I 89 r = nI n) (h90 : ∀ k, k < n → I 90 (40 * r + k) = nI (due k)) :
    ∃ B', arun (N + 1000000) (d + 4) 213 [rv (some 87), iv (nI j), iv (nI r)] (C, J, cd) = some (iv (if fitA P ow t F 3 due (plN P n j) n then 1 else 0), (B', J, cd)) ∧ rAt P ow F t I B' := by
  obtain ⟨B', r1, hB'⟩ := l_comes N d hP h0 hw how ht hdu hn hj hr J cd hN hrC hR hm h89 h90 n 0 (N + 999999) C (by omega) (by omega) hrC.m0 rfl
  rw [nI_0] at r1
  refine ⟨B', ?_, hB'⟩
  rw [enX10_comesSo, sgX10_comesSo_0]
  exact r1
theorem gai3 (P : RP) (ow : Nat → Nat) (t : Nat) (F : FS) (vil : Nat) (ss : Nat → Nat) : ∀ k, gaiA P ow t F 3 vil ss k = 0
  | 0 => rfl
  | k + 1 => by
    show gaiA P ow t F 3 vil ss k + gainD P ow t F 3 vil ss k = 0
    rw [gai3 P ow t F vil ss k, gainD, if_neg (by decide), if_neg (by decide), if_neg (by decide)]; rfl
/-- how the reference's count and common set stand beside the class's -/
def waR (P : RP) (σ : HS) (c a : Int32) : Prop := c = nI σ.1 ∧ ((σ.1 = 0 ∧ a = nI (gatN P) ∧ σ.2.2.2 = 0) ∨ (0 < σ.1 ∧ a = σ.2.2.2))
theorem ways_step {P : RP} {ow : Nat → Nat} {t : Nat} {F : FS} {vil : Nat} {due : Nat → Nat} {n : Nat} {σ : HS} {c a : Int32} (h : waR P σ c a) (j : Nat) : waR P (stpS P ow t F 3 vil due n j σ) (if fitA P ow t F 3 due (plN P n j) n then c + 1 else c) (if fitA P ow t F 3 due (plN P n j) n then a &&& nI (plN P n j 0) else a) := by
  rw [stpS]
  by_cases hf : fitA P ow t F 3 due (plN P n j) n = true
  · rw [if_pos hf, if_pos hf, if_pos hf]
    refine ⟨by rw [arrS_1, h.1, nI_1], Or.inr ⟨by rw [arrS_1]; omega, ?_⟩⟩
    show _ = (if σ.1 = 0 then nI (plN P n j 0) else σ.2.2.2 &&& nI (plN P n j 0))
    rcases h.2 with ⟨h1, h2, -⟩ | ⟨h1, h2⟩
    · rw [if_pos h1, h2, nx_and, Nat.and_comm, plN_ok]
    · rw [if_neg (by omega), h2]
  · rw [if_neg hf, if_neg hf, if_neg hf]
    exact h
theorem l_mways (N d : Nat) {P : RP} (hP : okP P) (h0 : 0 < P.1) {F : FS} (hw : ∀ i, F.1 i ≤ 99) {ow : Nat → Nat} (how : ∀ d, d < 7 → ow d ≤ 6) {t : Nat} (ht : t ≤ 40) {n r vil : Nat} {due : Nat → Nat} (hdu : ∀ i, due i ≤ 999) (hn1 : 1 ≤ n) (hn : n ≤ 4) (hr : r < 6) {I : Nat → Nat → Int32} (J : Nat → Nat → Int64) (cd : Nat × Nat) (hN : noteN P (I 107) 0 F t) (hR : I 87 32 = -9) (hm : msAt P I) (h89 : I 89 r = nI n) (h90 : ∀ k, k < n → I 90 (40 * r + k) = nI (due k)) :
    ∀ (m j f : Nat) (B : Nat → Nat → Int32) (c a : Int32), j + m = mS P ^ n → m < f → rAt P ow F t I B → waR P (fldS (stpS P ow t F 3 vil due n) 0 j σ0) c a → ∃ B', EX10_ways (N + 1000000) (d + 4) f 31 [some (rv (some 87)), some (iv (nI r)), none, some (iv c), some (iv a), some (iv (nI j))] (B, J, cd) = some (iv 1, (wr B' 87 2 (fldS (stpS P ow t F 3 vil due n) 0 (mS P ^ n) σ0).2.2.2, wr (wr J 87 3 (lN ((fldS (stpS P ow t F 3 vil due n) 0 (mS P ^ n) σ0).1 / Nat.gcd (fldS (stpS P ow t F 3 vil due n) 0 (mS P ^ n) σ0).1 1))) 87 4 (lN (1 / Nat.gcd (fldS (stpS P ow t F 3 vil due n) 0 (mS P ^ n) σ0).1 1)), cd)) ∧ rAt P ow F t I B' := by
  have hn6 := hP.1
  have hpw := pw8 (mS_le hP) hn
  intro m
  induction m with
  | zero =>
    intro j f B c a hj hf hB hA
    have : j = mS P ^ n := by omega
    subst this
    obtain ⟨g, rfl⟩ : ∃ g, f = g + 1 := ⟨f - 1, by omega⟩
    have hfd := fld_1 P ow t F 3 vil due n 0 (mS P ^ n) σ0
    rw [show σ0.1 = 0 from rfl] at hfd
    have e89 : B 89 r = nI n := by rw [hB.1 89 (by decide)]; exact h89
    refine ⟨B, ?_, hB⟩
    rw [sgX10_ways_31, inb_t hr (by omega), if_pos rfl, nI_clamp (by omega), e89, bI (s_plans _ _ hP hn _ _ _ (hB.ms hm))]
    try dsimp only
    try dsimp only
    rw [if_pos (Int32.le_refl _), hA.1, nI_l (by omega), show (1 : Int64) = lN 1 from rfl, bI (s_fracM _ _ (by omega) (by decide) (by decide) _ _ _)]
    try dsimp only
    try dsimp only
    rcases hA.2 with ⟨h1, h2, h3⟩ | ⟨h1, h2⟩
    · rw [if_pos (by rw [h1]; rfl), bI (s_ask _ _ _ _ _ _ _)]
      try dsimp only
      try dsimp only
      rw [h3]
    · rw [if_neg (nI_ne0 h1 (by omega)), bI (s_ask _ _ _ _ _ _ _)]
      try dsimp only
      try dsimp only
      rw [h2]
  | succ m ih =>
    intro j f B c a hj hf hB hA
    obtain ⟨g, rfl⟩ : ∃ g, f = g + 1 := ⟨f - 1, by omega⟩
    have e89 : B 89 r = nI n := by rw [hB.1 89 (by decide)]; exact h89
    obtain ⟨B1, r1, hB1⟩ := s_comes N d hP h0 hw how ht hdu hn (j := j) (by omega) hr J cd hN hB hR hm h89 h90
    have hst := ways_step (ow := ow) (t := t) (F := F) (vil := vil) (due := due) (n := n) hA j
    obtain ⟨B', r3, rest⟩ := ih (j + 1) g B1 _ _ (by omega) (by omega) hB1 (show waR P (stpS P ow t F 3 vil due n (0 + j) (fldS (stpS P ow t F 3 vil due n) 0 j σ0)) _ _ by rw [Nat.zero_add]; exact hst)
    refine ⟨B', ?_, rest⟩
    have e891 : B1 89 r = nI n := by rw [hB1.1 89 (by decide)]; exact h89
    rw [sgX10_ways_31, inb_t hr (by omega), if_pos rfl, nI_clamp (by omega), e89, bI (s_plans _ _ hP hn _ _ _ (hB.ms hm))]
    try dsimp only
    try dsimp only
    rw [if_neg (nI_ge (by omega) (by omega)), bI r1]
    try dsimp only
    have hcc : fitA P ow t F 3 due (plN P n j) n = true ∨ fitA P ow t F 3 due (plN P n j) n = false := by cases fitA P ow t F 3 due (plN P n j) n <;> simp
    rcases hcc with q | q
    · rw [if_pos q, if_pos q] at r3
      have so := s_setOf N (d + 3) hP (n := n) (j := j) (k := 0) (by omega) hn (by omega) B1 J cd (hB1.ms hm)
      rw [nI_0] at so
      rw [if_neg (by rw [q]; decide), if_pos rfl, e891, bI so]
      try dsimp only
      rw [nI_1]
      exact r3
    · rw [if_neg (by rw [q]; decide), if_neg (by rw [q]; decide)] at r3
      rw [if_pos (by rw [q]; decide), nI_1]
      exact r3
