/-! PLANS in rows: refused or followed -/
theorem x_riverB (N d : Nat) {x1 x2 : Int32} (h : x1 = 0 ∨ (x2 < 0 ∨ nI 6 ≤ x2)) (I : Nat → Nat → Int32) (J : Nat → Nat → Int64) : arun (N + 1000000) (d + 4) 120 [rv (some 0), iv x1, iv x2] (I, J, 73, 80) = some (iv (-1), (I, J, 73, 80)) := by
  rw [enX9_refuseWithoutRiver, sgX9_refuseWithoutRiver_0]
  by_cases h1 : x1 = 0
  · rw [if_pos h1]
  · rw [if_neg h1, bI (s_isOneN_1 _ _ (h.resolve_left h1) _)]
    try dsimp only
    try dsimp only
    rw [if_pos rfl]
theorem x_river0 (N d : Nat) {j : Nat} (hj : j < 6) (I : Nat → Nat → Int32) (J : Nat → Nat → Int64) (h : I 73 0 = 0) : arun (N + 1000000) (d + 4) 120 [rv (some 0), iv 1, iv (nI j)] (I, J, 73, 80) = some (iv (-4), (I, J, 73, 80)) := by
  rw [enX9_refuseWithoutRiver, sgX9_refuseWithoutRiver_0, if_neg n10, bI (s_isOne_1 _ _ hj _)]
  try dsimp only
  try dsimp only
  rw [if_neg n10, if_pos (show okc 73 2 = true from rfl), if_pos h]
theorem x_riverN (N d : Nat) {j : Nat} (hj : j < 6) (I : Nat → Nat → Int32) (J : Nat → Nat → Int64) (h : ¬ I 73 0 = 0) (h9 : I 9 j = -1) : arun (N + 1000000) (d + 4) 120 [rv (some 0), iv 1, iv (nI j)] (I, J, 73, 80) = some (iv (-3), (xF I 1, J, 73, 80)) := by
  rw [enX9_refuseWithoutRiver, sgX9_refuseWithoutRiver_0, if_neg n10, bI (s_isOne_1 _ _ hj _)]
  try dsimp only
  try dsimp only
  rw [if_neg n10, if_pos (show okc 73 2 = true from rfl), if_neg h, bI (x_missN_1 _ _ hj _ _ h9)]
  try dsimp only
theorem x_riverO (N d : Nat) {j n : Nat} (hj : j < 6) (I : Nat → Nat → Int32) (J : Nat → Nat → Int64) (h : ¬ I 73 0 = 0) (h9 : I 9 j = nI n) (hn : n ≤ 40) : arun (N + 1000000) (d + 4) 120 [rv (some 0), iv 1, iv (nI j)] (I, J, 73, 80) = some (iv 0, (I, J, 73, 80)) := by
  rw [enX9_refuseWithoutRiver, sgX9_refuseWithoutRiver_0, if_neg n10, bI (s_isOne_1 _ _ hj _)]
  try dsimp only
  try dsimp only
  rw [if_neg n10, if_pos (show okc 73 2 = true from rfl), if_neg h, bI (x_missO_1 _ _ hj _ _ h9 hn)]
  try dsimp only
theorem l_xplanO (N d : Nat) {P : RP} {ow : Nat → Nat} {j n : Nat} (hj : j < 6) (hn : n ≤ 40) (I : Nat → Nat → Int32) (J : Nat → Nat → Int64) (hC : courN P ow I 73) (h9 : I 9 j = nI n) (hv : ∀ k, k < n → CS (gatN P) (I (3 + j) k)) : ∀ (m k f : Nat), k + m = n → EX9_refusePlan (N + 1000000) (d + 4) (f + 1 + m) 37 [some (rv (some 0)), none, some (iv (nI j)), none, none, some (iv (nI k))] (I, J, 73, 80) = some (iv 0, (I, J, 73, 80)) := by
  intro m
  induction m with
  | zero =>
    intro k f hk
    have : k = n := by omega
    subst this
    rw [Nat.add_zero, sgX9_refusePlan_37, bI (s_sizeOfN_1 _ _ hj _ _ _ h9 hn)]
    try dsimp only
    try dsimp only
    rw [if_pos (Int32.le_refl _)]
  | succ m ih =>
    intro k f hk
    rw [show f + 1 + (m + 1) = f + 1 + m + 1 by omega, sgX9_refusePlan_37, bI (s_sizeOfN_1 _ _ hj _ _ _ h9 hn)]
    try dsimp only
    try dsimp only
    rw [if_neg (nI_ge (by omega) (by omega)), bI (s_valueAt_1 _ _ hj _ _ _ h9 hn (by omega))]
    try dsimp only
    try dsimp only
    rw [if_pos (show rcv [rv (some 73), iv _] 2 = true from rfl), bI (s_canShut _ _ _ _ _ _ hC)]
    try dsimp only
    try dsimp only
    rw [b2i_t (hv k (by omega)), if_neg n10, nI_1]
    exact ih (k + 1) f (by omega)
theorem l_xplanN (N d : Nat) {P : RP} {ow : Nat → Nat} {j n : Nat} (hj : j < 6) (hn : n ≤ 40) (I : Nat → Nat → Int32) (J : Nat → Nat → Int64) (hC : courN P ow I 73) (h9 : I 9 j = nI n) {i : Nat} (hi : i < n) (hv : ¬ CS (gatN P) (I (3 + j) i)) : ∀ (m k f : Nat), k + m = i → EX9_refusePlan (N + 1000000) (d + 4) (f + 1 + m) 37 [some (rv (some 0)), none, some (iv (nI j)), none, none, some (iv (nI k))] (I, J, 73, 80) = some (iv (-3), (xF I 3, J, 73, 80)) := by
  intro m
  induction m with
  | zero =>
    intro k f hk
    have : k = i := by omega
    subst this
    rw [Nat.add_zero, sgX9_refusePlan_37, bI (s_sizeOfN_1 _ _ hj _ _ _ h9 hn)]
    try dsimp only
    try dsimp only
    rw [if_neg (nI_ge (by omega) (by omega)), bI (s_valueAt_1 _ _ hj _ _ _ h9 hn (by omega))]
    try dsimp only
    try dsimp only
    rw [if_pos (show rcv [rv (some 73), iv _] 2 = true from rfl), bI (s_canShut _ _ _ _ _ _ hC)]
    try dsimp only
    try dsimp only
    rw [b2i_f hv, if_pos rfl, bI (s_find3 _ _ _ _)]
    try dsimp only
  | succ m ih =>
    intro k f hk
    rw [show f + 1 + (m + 1) = f + 1 + m + 1 by omega, sgX9_refusePlan_37, bI (s_sizeOfN_1 _ _ hj _ _ _ h9 hn)]
    try dsimp only
    try dsimp only
    rw [if_neg (nI_ge (by omega) (by omega)), bI (s_valueAt_1 _ _ hj _ _ _ h9 hn (by omega))]
    try dsimp only
    try dsimp only
    rw [if_pos (show rcv [rv (some 73), iv _] 2 = true from rfl), bI (s_canShut _ _ _ _ _ _ hC)]
    try dsimp only
    try dsimp only
    by_cases c : CS (gatN P) (I (3 + j) k)
    · rw [b2i_t c, if_neg n10, nI_1]
      exact ih (k + 1) f (by omega)
    · rw [b2i_f c, if_pos rfl, bI (s_find3 _ _ _ _)]
      try dsimp only
theorem l_mplanO (N d : Nat) {P : RP} (hP : okP P) {j n : Nat} (hj : j < 6) (hn : n ≤ 40) (I : Nat → Nat → Int32) (J : Nat → Nat → Int64) (cd : Nat × Nat) (h10 : I 87 10 = nI P.1) (h96 : ∀ i, i < P.1 → I 96 i = nI (P.2.1 i)) (h89 : I 89 j = nI n) (hv : ∀ k, k < n → CS (gatN P) (I 90 (40 * j + k))) : ∀ (m k f : Nat), k + m = n → EX10_askedPlan (N + 1000000) (d + 3) (f + 1 + m) 52 [some (rv (some 87)), some (iv (nI j)), none, some (iv (nI k))] (I, J, cd) = some (iv 0, (I, J, cd)) := by
  intro m
  induction m with
  | zero =>
    intro k f hk
    have : k = n := by omega
    subst this
    rw [Nat.add_zero, sgX10_askedPlan_52, inb_t hj (by omega), if_pos rfl, nI_clamp (by omega), if_pos (by rw [h89]; exact Int32.le_refl _)]
  | succ m ih =>
    intro k f hk
    rw [show f + 1 + (m + 1) = f + 1 + m + 1 by omega, sgX10_askedPlan_52, inb_t hj (by omega), if_pos rfl, nI_clamp (by omega), if_neg (by rw [h89]; exact nI_ge (by omega) (by omega)), bI (s_rowAt _ _ hj (by omega) _ _ _)]
    try dsimp only
    try dsimp only
    rw [bI (s_canShut10 _ _ hP _ _ _ _ h10 h96)]
    try dsimp only
    try dsimp only
    rw [b2i_t (hv k (by omega)), if_neg n10, nI_1]
    exact ih (k + 1) f (by omega)
theorem l_mplanN (N d : Nat) {P : RP} (hP : okP P) {j n : Nat} (hj : j < 6) (hn : n ≤ 40) (I : Nat → Nat → Int32) (J : Nat → Nat → Int64) (cd : Nat × Nat) (h10 : I 87 10 = nI P.1) (h96 : ∀ i, i < P.1 → I 96 i = nI (P.2.1 i)) (h89 : I 89 j = nI n) {i : Nat} (hi : i < n) (hv : ¬ CS (gatN P) (I 90 (40 * j + i))) : ∀ (m k f : Nat), k + m = i → EX10_askedPlan (N + 1000000) (d + 3) (f + 1 + m) 52 [some (rv (some 87)), some (iv (nI j)), none, some (iv (nI k))] (I, J, cd) = some (iv (-3), (mF I 3, J, cd)) := by
  intro m
  induction m with
  | zero =>
    intro k f hk
    have : k = i := by omega
    subst this
    rw [Nat.add_zero, sgX10_askedPlan_52, inb_t hj (by omega), if_pos rfl, nI_clamp (by omega), if_neg (by rw [h89]; exact nI_ge (by omega) (by omega)), bI (s_rowAt _ _ hj (by omega) _ _ _)]
    try dsimp only
    try dsimp only
    rw [bI (s_canShut10 _ _ hP _ _ _ _ h10 h96)]
    try dsimp only
    try dsimp only
    rw [b2i_f hv, if_pos rfl, bI (s_meet3 _ _ _ _ _)]
    try dsimp only
  | succ m ih =>
    intro k f hk
    rw [show f + 1 + (m + 1) = f + 1 + m + 1 by omega, sgX10_askedPlan_52, inb_t hj (by omega), if_pos rfl, nI_clamp (by omega), if_neg (by rw [h89]; exact nI_ge (by omega) (by omega)), bI (s_rowAt _ _ hj (by omega) _ _ _)]
    try dsimp only
    try dsimp only
    rw [bI (s_canShut10 _ _ hP _ _ _ _ h10 h96)]
    try dsimp only
    try dsimp only
    by_cases c : CS (gatN P) (I 90 (40 * j + k))
    · rw [b2i_t c, if_neg n10, nI_1]
      exact ih (k + 1) f (by omega)
    · rw [b2i_f c, if_pos rfl, bI (s_meet3 _ _ _ _ _)]
      try dsimp only
/-- the reference takes a PLAN -/
theorem m_planO (N d : Nat) {P : RP} (hP : okP P) (h0 : 0 < P.1) {j n mo : Nat} (hj : j < 6) (hm : mo ≤ 40) (hn : n ≤ mo) (I : Nat → Nat → Int32) (J : Nat → Nat → Int64) (cd : Nat × Nat) (h10 : I 87 10 = nI P.1) (h96 : ∀ i, i < P.1 → I 96 i = nI (P.2.1 i)) (h89 : I 89 j = nI n) (hv : ∀ k, k < n → CS (gatN P) (I 90 (40 * j + k))) : arun (N + 1000000) (d + 4) 195 [rv (some 87), iv (nI j), iv (nI mo)] (I, J, cd) = some (iv 0, (I, J, cd)) := by
  have hn6 := hP.1
  have l := l_mplanO N d hP hj (show n ≤ 40 by omega) I J cd h10 h96 h89 hv n 0 (N + 999998 - n) (by omega)
  rw [nI_0] at l
  rw [enX10_askedPlan, sgX10_askedPlan_0, bI (s_isRow _ _ _ _)]
  try dsimp only
  try dsimp only
  rw [b2i_t (b2_row hj), if_neg n10, if_neg (by rw [h10]; exact nI_ne0 h0 (by omega)), inb_t hj (by omega), if_pos rfl, if_pos rfl, nI_clamp (by omega), if_pos (by rw [h89]; exact nI_pos' (by omega)), if_pos (by rw [h89]; exact nI_le hn (by omega)), show N + 999999 = N + 999998 - n + 1 + n by omega]
  exact l
/-- a PLAN is refused by both alike, or taken by both -/
theorem plan_cases (N d : Nat) {I : Nat → Nat → Int32} {J : Nat → Nat → Int64} (h : Rel I J) {P : RP} {ow : Nat → Nat} {F : FS} {D : Nat} (hP : okP P) (hC : courN P ow I 73) (hRf : refAt P ow I F D) (r : Int32) {mo : Nat} (hm : mo ≤ 40) :
    (∃ (v : Int32) (I1 I2 : Nat → Nat → Int32), ¬ v = 0 ∧ ¬ 0 ≤ v ∧ ((r < 0 ∨ nI 6 ≤ r) → v = -1 ∧ I1 = I ∧ I2 = I) ∧ arun (N + 1000000) (d + 6) 121 [rv (some 0), iv 1, iv r, iv (nI mo)] (I, J, 73, 80) = some (iv v, (I1, J, 73, 80)) ∧ arun (N + 1000000) (d + 6) 195 [rv (some 87), iv r, iv (nI mo)] (I1, J, 73, 80) = some (iv v, (I2, J, 73, 80)) ∧ I1 87 10 = I 87 10 ∧ Rel I2 J)
    ∨ (0 < P.1 ∧ ∃ (j n : Nat) (ss : Nat → Nat), j < 6 ∧ r = nI j ∧ n ≤ mo ∧ I 9 j = nI n ∧ I 89 j = nI n ∧ (∀ k, k < n → I (3 + j) k = nI (ss k) ∧ I 90 (40 * j + k) = nI (ss k) ∧ ss k &&& gatN P = ss k) ∧ arun (N + 1000000) (d + 6) 121 [rv (some 0), iv 1, iv r, iv (nI mo)] (I, J, 73, 80) = some (iv 0, (I, J, 73, 80))) := by
  have hn6 := hP.1
  rcases ixc r 6 (by decide) with hr | ⟨j, hj, rfl⟩
  · refine Or.inl ⟨-1, I, I, by decide, by decide, fun _ => ⟨rfl, rfl, rfl⟩, ?_, ?_, rfl, h⟩
    · rw [enX9_refusePlan, sgX9_refusePlan_0, bI (x_riverB _ _ (Or.inr hr) _ _)]
      try dsimp only
      try dsimp only
      rw [if_neg (by decide)]
    · rw [enX10_askedPlan, sgX10_askedPlan_0, bI (s_isRow _ _ _ _)]
      try dsimp only
      try dsimp only
      rw [if_pos (b2i_f (b2_rowN hr))]
  · have nb : ¬ (nI j < 0 ∨ nI 6 ≤ nI j) := fun q => q.elim (nI_pos (by omega)) (nI_ge hj (by decide))
    by_cases hz : P.1 = 0
    · refine Or.inl ⟨-4, I, I, by decide, by decide, fun q => absurd q nb, ?_, ?_, rfl, h⟩
      · rw [enX9_refusePlan, sgX9_refusePlan_0, bI (x_river0 _ _ hj _ _ (by rw [hC.1, hz]; rfl))]
        try dsimp only
        try dsimp only
        rw [if_neg (by decide)]
      · rw [enX10_askedPlan, sgX10_askedPlan_0, bI (s_isRow _ _ _ _)]
        try dsimp only
        try dsimp only
        rw [b2i_t (b2_row hj), if_neg n10, if_pos (by rw [hRf.1, hz]; rfl)]
    · have h0 : 0 < P.1 := by omega
      have c73 : ¬ I 73 0 = 0 := by rw [hC.1]; exact nI_ne0 h0 (by omega)
      have x87 : ∀ f, f < 6 → ∀ a, a ≠ 0 → a ≠ 72 → xF I f a = I a := fun f _ a h1 h2 => by rw [xF, wr_ne h2, wr_ne h1]
      rcases h.1.2 j hj with ⟨a, b⟩ | ⟨n, hn, a, b, c⟩
      · refine Or.inl ⟨-3, xF I 1, mF (xF I 1) 1, by decide, by decide, fun q => absurd q nb, ?_, ?_, by rw [x87 1 (by decide) 87 (by decide) (by decide)], h.find (by decide)⟩
        · rw [enX9_refusePlan, sgX9_refusePlan_0, bI (x_riverN _ _ hj _ _ c73 a)]
          try dsimp only
          try dsimp only
          rw [if_neg (by decide)]
        · rw [enX10_askedPlan, sgX10_askedPlan_0, bI (s_isRow _ _ _ _)]
          try dsimp only
          try dsimp only
          rw [b2i_t (b2_row hj), if_neg n10, if_neg (by rw [x87 1 (by decide) 87 (by decide) (by decide), hRf.1]; exact nI_ne0 h0 (by omega)), inb_t hj (by omega), if_pos rfl, nI_clamp (by omega), if_neg (by rw [x87 1 (by decide) 89 (by decide) (by decide), b]; exact m9n), bI (s_meet1 _ _ _ _ _)]
          try dsimp only
      · by_cases hlen : n ≤ mo
        · by_cases hall : ∀ k, k < n → CS (gatN P) (I (3 + j) k)
          · refine Or.inr ⟨h0, j, n, fun k => (I (3 + j) k).toNatClampNeg, hj, rfl, hlen, a, b, fun k hk => ?_, ?_⟩
            · obtain ⟨s, hs6, hs1, hs2⟩ := (hall k hk).of hn6
              have e : (I (3 + j) k).toNatClampNeg = s := by rw [hs1, nI_clamp (by omega)]
              dsimp only
              refine ⟨?_, ?_, ?_⟩
              · rw [e]; exact hs1
              · rw [← c k hk, e]; exact hs1
              · rw [e]; exact hs2
            · have l := l_xplanO N (d + 1) hj hn I J hC a hall n 0 (N + 999998 - n) (by omega)
              rw [nI_0] at l
              rw [enX9_refusePlan, sgX9_refusePlan_0, bI (x_riverO _ _ hj _ _ c73 a hn)]
              try dsimp only
              try dsimp only
              rw [if_pos rfl, bI (s_sizeOfN_1 _ _ hj _ _ _ a hn)]
              try dsimp only
              try dsimp only
              rw [if_pos (nI_le hlen (by omega)), show N + 999999 = N + 999998 - n + 1 + n by omega]
              exact l
          · have hex : ∃ i, i < n ∧ ¬ CS (gatN P) (I (3 + j) i) := Classical.byContradiction fun q => hall fun k hk => Classical.byContradiction fun z => q ⟨k, hk, z⟩
            obtain ⟨i, hi, hv⟩ := hex
            refine Or.inl ⟨-3, xF I 3, mF (xF I 3) 3, by decide, by decide, fun q => absurd q nb, ?_, ?_, by rw [x87 3 (by decide) 87 (by decide) (by decide)], h.find (by decide)⟩
            · have l := l_xplanN N (d + 1) hj hn I J hC a hi hv i 0 (N + 999998 - i) (by omega)
              rw [nI_0] at l
              rw [enX9_refusePlan, sgX9_refusePlan_0, bI (x_riverO _ _ hj _ _ c73 a hn)]
              try dsimp only
              try dsimp only
              rw [if_pos rfl, bI (s_sizeOfN_1 _ _ hj _ _ _ a hn)]
              try dsimp only
              try dsimp only
              rw [if_pos (nI_le hlen (by omega)), show N + 999999 = N + 999998 - i + 1 + i by omega]
              exact l
            · have e87 := x87 3 (by decide) 87 (by decide) (by decide)
              have e89 := x87 3 (by decide) 89 (by decide) (by decide)
              have e90 := x87 3 (by decide) 90 (by decide) (by decide)
              have e96 := x87 3 (by decide) 96 (by decide) (by decide)
              have l := l_mplanN N (d + 2) hP hj hn (xF I 3) J (73, 80) (by rw [e87]; exact hRf.1) (fun i hi => by rw [e96]; exact (hRf.2.2.2.1 i hi).1) (by rw [e89]; exact b) hi (by rw [e90, ← c i hi]; exact hv) i 0 (N + 999998 - i) (by omega)
              rw [nI_0] at l
              rw [enX10_askedPlan, sgX10_askedPlan_0, bI (s_isRow _ _ _ _)]
              try dsimp only
              try dsimp only
              rw [b2i_t (b2_row hj), if_neg n10, if_neg (by rw [e87, hRf.1]; exact nI_ne0 h0 (by omega)), inb_t hj (by omega), if_pos rfl, if_pos rfl, nI_clamp (by omega), if_pos (by rw [e89, b]; exact nI_pos' (by omega)), if_pos (by rw [e89, b]; exact nI_le hlen (by omega)), show N + 999999 = N + 999998 - i + 1 + i by omega]
              exact l
        · refine Or.inl ⟨-3, xF I 5, mF (xF I 5) 5, by decide, by decide, fun q => absurd q nb, ?_, ?_, by rw [x87 5 (by decide) 87 (by decide) (by decide)], h.find (by decide)⟩
          · rw [enX9_refusePlan, sgX9_refusePlan_0, bI (x_riverO _ _ hj _ _ c73 a hn)]
            try dsimp only
            try dsimp only
            rw [if_pos rfl, bI (s_sizeOfN_1 _ _ hj _ _ _ a hn)]
            try dsimp only
            try dsimp only
            rw [if_neg (nI_ge (by omega) (by omega)), bI (s_find5 _ _ _ _)]
            try dsimp only
          · rw [enX10_askedPlan, sgX10_askedPlan_0, bI (s_isRow _ _ _ _)]
            try dsimp only
            try dsimp only
            rw [b2i_t (b2_row hj), if_neg n10, if_neg (by rw [x87 5 (by decide) 87 (by decide) (by decide), hRf.1]; exact nI_ne0 h0 (by omega)), inb_t hj (by omega), if_pos rfl, if_pos rfl, nI_clamp (by omega), if_pos (by rw [x87 5 (by decide) 89 (by decide) (by decide), b]; exact nI_pos' (by omega)), if_neg (by rw [x87 5 (by decide) 89 (by decide) (by decide), b]; exact nI_ge (by omega) (by omega)), bI (s_meet5 _ _ _ _ _)]
            try dsimp only
/-- the class follows a PLAN -/
theorem l_follow (N d : Nat) {P : RP} (hP : okP P) (h0 : 0 < P.1) {F : FS} (hw : ∀ i, F.1 i ≤ 99) {t : Nat} (ht : t ≤ 40) {ow : Nat → Nat} (how : ∀ d, d < 7 → ow d ≤ 6) {j n : Nat} (hj : j < 6) (hn : n ≤ 40) {ss : Nat → Nat} (I : Nat → Nat → Int32) (J : Nat → Nat → Int64) (hC : courN P ow I 73) (h9 : I 9 j = nI n) (hs : ∀ k, k < n → I (3 + j) k = nI (ss k) ∧ ss k &&& gatN P = ss k) :
    ∀ (m k f : Nat) (B : Nat → Nat → Int32), k + m = n → fr [39, 40, 42, 47] I B → B 39 0 = -1 → asAt P B (wkN P P.2.2.2.2 ow t ss F k) t → ∃ B', EX9_followPlan (N + 1000000) (d + 4) (f + 1 + m) 23 [some (rv (some 0)), some (iv (nI j)), some (iv (nI k))] (B, J, 73, 80) = some (rv none, (B', J, 73, 80)) ∧ fr [39, 40, 42, 47] I B' ∧ asAt P B' (wkN P P.2.2.2.2 ow t ss F n) t := by
  have hn6 := hP.1
  intro m
  induction m with
  | zero =>
    intro k f B hk hB hd hA
    have : k = n := by omega
    subst this
    refine ⟨B, ?_, hB, hA⟩
    rw [Nat.add_zero, sgX9_followPlan_23, bI (s_sizeOfN_1 _ _ hj _ _ _ (by rw [hB 9 (by decide)]; exact h9) hn)]
    try dsimp only
    try dsimp only
    rw [if_pos (Int32.le_refl _)]
  | succ m ih =>
    intro k f B hk hB hd hA
    have h9B : B 9 j = nI n := by rw [hB 9 (by decide)]; exact h9
    have e3 : B (3 + j) = I (3 + j) := hB _ (by simp; omega)
    have hCB : courN P ow B 73 := hC.eq (fun a h1 h2 => hB a (by simp; omega))
    obtain ⟨B1, r1, f1, e0, -, -, hA1⟩ := s_passOn N d hP h0 (sub64 hn6 (hs k (by omega)).2) (F := wkN P P.2.2.2.2 ow t ss F k) (wkN_le _ _ _ _ _ _ hw k) (t := t) (k := k) (by omega) how B J (73, 80) hCB hA (dry1 hd _)
    obtain ⟨B', r2, f2, hA2⟩ := ih (k + 1) f B1 (by omega) (hB.tr f1) (e0.trans hd) hA1
    refine ⟨B', ?_, f2, hA2⟩
    rw [show f + 1 + (m + 1) = f + 1 + m + 1 by omega, sgX9_followPlan_23, bI (s_sizeOfN_1 _ _ hj _ _ _ h9B hn)]
    try dsimp only
    try dsimp only
    rw [if_neg (nI_ge (by omega) (by omega)), bI (s_valueAt_1 _ _ hj _ _ _ h9B hn (by omega))]
    try dsimp only
    try dsimp only
    rw [e3, (hs k (by omega)).1, bV r1]
    try dsimp only
    rw [nI_1]
    exact r2
theorem s_follow (N d : Nat) {P : RP} (hP : okP P) (h0 : 0 < P.1) {F : FS} (hw : ∀ i, F.1 i ≤ 99) {t : Nat} (ht : t ≤ 40) {ow : Nat → Nat} (how : ∀ d, d < 7 → ow d ≤ 6) {j n : Nat} (hj : j < 6) (hn : n ≤ 40) {ss : Nat → Nat} (I : Nat → Nat → Int32) (J : Nat → Nat → Int64) (hC : courN P ow I 73) (h9 : I 9 j = nI n) (hs : ∀ k, k < n → I (3 + j) k = nI (ss k) ∧ ss k &&& gatN P = ss k) (h25 : I 25 0 = nI t) (hF : flowAt I F) :
    ∃ B', arun (N + 1000000) (d + 5) 130 [rv (some 0), iv (nI j)] (I, J, 73, 80) = some (rv none, (B', J, 73, 80)) ∧ fr [39, 40, 42, 47] I B' ∧ asAt P B' (wkN P P.2.2.2.2 ow t ss (zF F) n) t := by
  obtain ⟨B1, r1, f1, b6, b0, b3, b4, bv, bw⟩ := s_abegin_39 N (d + 2) (t := t) (by omega) I J (73, 80)
  have hC1 : courN P ow B1 73 := hC.eq (fun a h1 h2 => f1 a (by simp; omega))
  have hA1 : asAt P B1 (zF F) t := asAt.begin hF b6 b3 b4 bv bw
  obtain ⟨B', r2, f2, hA2⟩ := l_follow N d hP h0 (F := zF F) hw ht how hj hn B1 J hC1 (by rw [f1 9 (by decide)]; exact h9) (fun k hk => by rw [f1 (3 + j) (by simp; omega)]; exact hs k hk) n 0 (N + 999998 - n) B1 (by omega) fr.rf b0 hA1
  rw [nI_0] at r2
  refine ⟨B', ?_, (f1.mo (by intro a; simp <;> omega)).tr f2, hA2⟩
  rw [enX9_followPlan, sgX9_followPlan_0, h25, bV r1]
  try dsimp only
  rw [show N + 999999 = N + 999998 - n + 1 + n by omega]
  exact r2
