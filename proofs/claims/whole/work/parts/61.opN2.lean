/-! digest -/
def fdN (g : Nat → Int32) (h : Int64) : Nat → Int64
  | 0 => h
  | n + 1 => 31 * fdN g h n + (g n).toInt64
def fd2 (g1 g2 : Nat → Int32) (h : Int64) : Nat → Int64
  | 0 => h
  | n + 1 => 31 * (31 * fd2 g1 g2 h n + (g1 n).toInt64) + (g2 n).toInt64
def fdR (r : Nat → Nat → Int32) (h : Int64) : Nat → Int64
  | 0 => h
  | i + 1 => fdN (r i) (fdR r h i) 5
def fdS (z : Nat → Int32) (n : Nat → Nat) (v : Nat → Nat → Int32) (h : Int64) : Nat → Int64
  | 0 => h
  | r + 1 => fdN (v r) (31 * fdS z n v h r + (z r).toInt64) (n r)
theorem fdN_s (g : Nat → Int32) (h : Int64) (n : Nat) : 31 * fdN g h n + (g n).toInt64 = fdN g h (n + 1) := rfl
theorem fd2_s (g1 g2 : Nat → Int32) (h : Int64) (n : Nat) : 31 * (31 * fd2 g1 g2 h n + (g1 n).toInt64) + (g2 n).toInt64 = fd2 g1 g2 h (n + 1) := rfl
theorem fdN_ext {g g' : Nat → Int32} (h : Int64) : ∀ n, (∀ i, i < n → g' i = g i) → fdN g' h n = fdN g h n
  | 0, _ => rfl
  | n + 1, e => by
    show 31 * fdN g' h n + (g' n).toInt64 = 31 * fdN g h n + (g n).toInt64
    rw [fdN_ext h n (fun i hi => e i (by omega)), e n (by omega)]
theorem fdS_ext {z : Nat → Int32} {n : Nat → Nat} {v v' : Nat → Nat → Int32} (h : Int64) : ∀ r, (∀ j, j < r → ∀ i, i < n j → v' j i = v j i) → fdS z n v' h r = fdS z n v h r
  | 0, _ => rfl
  | r + 1, e => by
    show fdN (v' r) (31 * fdS z n v' h r + (z r).toInt64) (n r) = fdN (v r) (31 * fdS z n v h r + (z r).toInt64) (n r)
    rw [fdS_ext h r (fun j hj => e j (by omega)), fdN_ext _ (n r) (e r (by omega))]
def cntR (x : Int32) : Nat := if x = -1 then 0 else x.toNatClampNeg
/-- a row's length in both -/
def rwN (I : Nat → Nat → Int32) (SC PB MC MB LIM j : Nat) : Prop := (I SC j = -1 ∧ I MC j = -9 ∧ cntR (I SC j) = 0) ∨ (cntR (I SC j) ≤ LIM ∧ I SC j = nI (cntR (I SC j)) ∧ I MC j = nI (cntR (I SC j)) ∧ ∀ i, i < cntR (I SC j) → I (PB + j) i = I MB (LIM * j + i))
theorem RRow.n {I : Nat → Nat → Int32} {SC PB MC MB LIM j : Nat} (hl : LIM < 1000) (h : RRow I SC PB MC MB LIM j) : rwN I SC PB MC MB LIM j := by
  rcases h with ⟨a, b⟩ | ⟨n, hn, a, b, c⟩
  · exact Or.inl ⟨a, b, by rw [a]; rfl⟩
  · have e : cntR (I SC j) = n := by rw [a, cntR, if_neg (n1n n (by omega)), nI_clamp (by omega)]
    refine Or.inr ?_
    rw [e]
    exact ⟨hn, a, b, c⟩
theorem x_mixA_1 (N d : Nat) (I : Nat → Nat → Int32) (J : Nat → Nat → Int64) (cd : Nat × Nat) (h : Int64) {r : Nat} (hr : r < 6) (hw : rwN I 9 3 89 90 40 r) {K : Nat} (G : Option RES) (hG : ∀ f, K ≤ f → EX8_mixInto (N + 1000000) (d + 2) f 2 [some (rv (some 1)), some (jv (fdN (I (3 + r)) h (cntR (I 9 r)))), none, some (iv (nI (r + 1))), none] (I, J, cd) = G) : ∀ (m i f : Nat), i + m = cntR (I 9 r) → K + m + 1 ≤ f → EX8_mixInto (N + 1000000) (d + 2) f 28 [some (rv (some 1)), some (jv (fdN (I (3 + r)) h i)), none, some (iv (nI r)), some (iv (nI i))] (I, J, cd) = G := by
  have hmx : mxI 0 (I 9 r) = nI (cntR (I 9 r)) ∧ cntR (I 9 r) ≤ 40 := by
    rcases hw with ⟨a, b, e⟩ | ⟨l, a, b, e⟩
    · rw [e, a]; exact ⟨by decide, by decide⟩
    · refine ⟨?_, l⟩
      rw [mxI]
      by_cases q : 0 < I 9 r
      · rw [if_pos q]; exact a
      · rw [if_neg q]
        have : cntR (I 9 r) = 0 := Classical.byContradiction fun z => q (by rw [a]; exact nI_lt (a := 0) (by omega) (by omega))
        rw [this]; rfl
  intro m
  induction m with
  | zero =>
    intro i f hi hf
    have : i = cntR (I 9 r) := by omega
    subst this
    obtain ⟨g, rfl⟩ : ∃ g, f = g + 1 := ⟨f - 1, by omega⟩
    rw [sgX8_mixInto_1_28, bI (s_sizeOf_1 _ _ hr _ _ _)]
    try dsimp only
    try dsimp only
    rw [hmx.1, if_pos (Int32.le_refl _), nI_1]
    exact hG g (by omega)
  | succ m ih =>
    intro i f hi hf
    obtain ⟨g, rfl⟩ : ∃ g, f = g + 1 := ⟨f - 1, by omega⟩
    rw [sgX8_mixInto_1_28, bI (s_sizeOf_1 _ _ hr _ _ _)]
    try dsimp only
    try dsimp only
    rw [hmx.1, if_neg (nI_ge (by omega) (by omega)), inb_t hr (by omega), if_pos rfl, nI_clamp (show r < 2 ^ 31 by omega), RF_2 _ hr, Option.bind_some, al_2 r hr, inb_t (show i < 40 by omega) (by omega), if_pos rfl, nI_clamp (show i < 2 ^ 31 by omega), nI_1, fdN_s]
    exact ih (i + 1) g (by omega) (by omega)
theorem x_mixB_1 (N d : Nat) (I : Nat → Nat → Int32) (J : Nat → Nat → Int64) (cd : Nat × Nat) (h : Int64) (hw : ∀ r, r < 6 → rwN I 9 3 89 90 40 r) : ∀ (m r f : Nat), r + m = 6 → 42 * m + 1 ≤ f → EX8_mixInto (N + 1000000) (d + 2) f 2 [some (rv (some 1)), some (jv (fdS (I 9) (fun r => cntR (I 9 r)) (fun r => I (3 + r)) h r)), none, some (iv (nI r)), none] (I, J, cd) = some (jv (fdS (I 9) (fun r => cntR (I 9 r)) (fun r => I (3 + r)) h 6), (I, J, cd)) := by
  intro m
  induction m with
  | zero =>
    intro r f hr hf
    have : r = 6 := by omega
    subst this
    obtain ⟨g, rfl⟩ : ∃ g, f = g + 1 := ⟨f - 1, by omega⟩
    rw [sgX8_mixInto_1_2, if_pos (Int32.le_refl _)]
  | succ m ih =>
    intro r f hr hf
    obtain ⟨g, rfl⟩ : ∃ g, f = g + 1 := ⟨f - 1, by omega⟩
    have hl : cntR (I 9 r) ≤ 40 := by
      rcases hw r (by omega) with ⟨-, -, e⟩ | ⟨l, -⟩
      · omega
      · exact l
    rw [sgX8_mixInto_1_2, if_neg (nI_ge (by omega) (by omega)), inb_t (show r < 6 by omega) (by omega), if_pos rfl, nI_clamp (by omega)]
    exact x_mixA_1 N d I J cd _ (show r < 6 by omega) (hw r (by omega)) (K := 42 * m + 1) _ (fun f hf => ih (r + 1) f (by omega) hf) (cntR (I 9 r)) 0 g (by omega) (by omega)
theorem x_mix_1 (N d : Nat) (I : Nat → Nat → Int32) (J : Nat → Nat → Int64) (cd : Nat × Nat) (h : Int64) (hw : ∀ r, r < 6 → rwN I 9 3 89 90 40 r) : arun (N + 1000000) (d + 3) 67 [rv (some 1), jv h] (I, J, cd) = some (jv (fdS (I 9) (fun r => cntR (I 9 r)) (fun r => I (3 + r)) h 6), (I, J, cd)) := by
  rw [enX8_mixInto, sgX8_mixInto_1_0]
  exact x_mixB_1 N d I J cd h hw 6 0 (N + 999999) (by omega) (by omega)
theorem x_mixA_10 (N d : Nat) (I : Nat → Nat → Int32) (J : Nat → Nat → Int64) (cd : Nat × Nat) (h : Int64) {r : Nat} (hr : r < 4) (hw : rwN I 16 12 92 93 60 r) {K : Nat} (G : Option RES) (hG : ∀ f, K ≤ f → EX8_mixInto (N + 1000000) (d + 2) f 2 [some (rv (some 10)), some (jv (fdN (I (12 + r)) h (cntR (I 16 r)))), none, some (iv (nI (r + 1))), none] (I, J, cd) = G) : ∀ (m i f : Nat), i + m = cntR (I 16 r) → K + m + 1 ≤ f → EX8_mixInto (N + 1000000) (d + 2) f 28 [some (rv (some 10)), some (jv (fdN (I (12 + r)) h i)), none, some (iv (nI r)), some (iv (nI i))] (I, J, cd) = G := by
  have hmx : mxI 0 (I 16 r) = nI (cntR (I 16 r)) ∧ cntR (I 16 r) ≤ 60 := by
    rcases hw with ⟨a, b, e⟩ | ⟨l, a, b, e⟩
    · rw [e, a]; exact ⟨by decide, by decide⟩
    · refine ⟨?_, l⟩
      rw [mxI]
      by_cases q : 0 < I 16 r
      · rw [if_pos q]; exact a
      · rw [if_neg q]
        have : cntR (I 16 r) = 0 := Classical.byContradiction fun z => q (by rw [a]; exact nI_lt (a := 0) (by omega) (by omega))
        rw [this]; rfl
  intro m
  induction m with
  | zero =>
    intro i f hi hf
    have : i = cntR (I 16 r) := by omega
    subst this
    obtain ⟨g, rfl⟩ : ∃ g, f = g + 1 := ⟨f - 1, by omega⟩
    rw [sgX8_mixInto_10_28, bI (s_sizeOf_10 _ _ hr _ _ _)]
    try dsimp only
    try dsimp only
    rw [hmx.1, if_pos (Int32.le_refl _), nI_1]
    exact hG g (by omega)
  | succ m ih =>
    intro i f hi hf
    obtain ⟨g, rfl⟩ : ∃ g, f = g + 1 := ⟨f - 1, by omega⟩
    rw [sgX8_mixInto_10_28, bI (s_sizeOf_10 _ _ hr _ _ _)]
    try dsimp only
    try dsimp only
    rw [hmx.1, if_neg (nI_ge (by omega) (by omega)), inb_t hr (by omega), if_pos rfl, nI_clamp (show r < 2 ^ 31 by omega), RF_11 _ hr, Option.bind_some, al_11 r hr, inb_t (show i < 60 by omega) (by omega), if_pos rfl, nI_clamp (show i < 2 ^ 31 by omega), nI_1, fdN_s]
    exact ih (i + 1) g (by omega) (by omega)
theorem x_mixB_10 (N d : Nat) (I : Nat → Nat → Int32) (J : Nat → Nat → Int64) (cd : Nat × Nat) (h : Int64) (hw : ∀ r, r < 4 → rwN I 16 12 92 93 60 r) : ∀ (m r f : Nat), r + m = 4 → 62 * m + 1 ≤ f → EX8_mixInto (N + 1000000) (d + 2) f 2 [some (rv (some 10)), some (jv (fdS (I 16) (fun r => cntR (I 16 r)) (fun r => I (12 + r)) h r)), none, some (iv (nI r)), none] (I, J, cd) = some (jv (fdS (I 16) (fun r => cntR (I 16 r)) (fun r => I (12 + r)) h 4), (I, J, cd)) := by
  intro m
  induction m with
  | zero =>
    intro r f hr hf
    have : r = 4 := by omega
    subst this
    obtain ⟨g, rfl⟩ : ∃ g, f = g + 1 := ⟨f - 1, by omega⟩
    rw [sgX8_mixInto_10_2, if_pos (Int32.le_refl _)]
  | succ m ih =>
    intro r f hr hf
    obtain ⟨g, rfl⟩ : ∃ g, f = g + 1 := ⟨f - 1, by omega⟩
    have hl : cntR (I 16 r) ≤ 60 := by
      rcases hw r (by omega) with ⟨-, -, e⟩ | ⟨l, -⟩
      · omega
      · exact l
    rw [sgX8_mixInto_10_2, if_neg (nI_ge (by omega) (by omega)), inb_t (show r < 4 by omega) (by omega), if_pos rfl, nI_clamp (by omega)]
    exact x_mixA_10 N d I J cd _ (show r < 4 by omega) (hw r (by omega)) (K := 62 * m + 1) _ (fun f hf => ih (r + 1) f (by omega) hf) (cntR (I 16 r)) 0 g (by omega) (by omega)
theorem x_mix_10 (N d : Nat) (I : Nat → Nat → Int32) (J : Nat → Nat → Int64) (cd : Nat × Nat) (h : Int64) (hw : ∀ r, r < 4 → rwN I 16 12 92 93 60 r) : arun (N + 1000000) (d + 3) 67 [rv (some 10), jv h] (I, J, cd) = some (jv (fdS (I 16) (fun r => cntR (I 16 r)) (fun r => I (12 + r)) h 4), (I, J, cd)) := by
  rw [enX8_mixInto, sgX8_mixInto_10_0]
  exact x_mixB_10 N d I J cd h hw 4 0 (N + 999999) (by omega) (by omega)
theorem rf28d : ∀ k, k < 3 → RF (73, 80) 28 k = some (29 + 3 * k) ∧ okc (29 + 3 * k) 3 = true := by decide
/-- the class's digest, from its last loop to its first -/
theorem x_dg171 (N d : Nat) (I : Nat → Nat → Int32) (J : Nat → Nat → Int64) (h : Int64) (kq : Nat → Int32) (hk : ∀ k, k < 3 → (I 38 k = 0 ∧ kq k = -1) ∨ (¬ I 38 k = 0 ∧ I (29 + 3 * k) 0 = kq k)) (hR : ∀ r, r < 6 → rwN I 9 3 89 90 40 r) (hT : ∀ r, r < 4 → rwN I 16 12 92 93 60 r) : ∀ (m k f : Nat), k + m = 3 → m + 1 ≤ f → EX9_digest (N + 1000000) (d + 3) f 171 [some (rv (some 0)), some (jv (fdN kq h k)), none, some (iv (nI k)), none] (I, J, 73, 80) = some (jv (fdS (I 16) (fun r => cntR (I 16 r)) (fun r => I (12 + r)) (fdS (I 9) (fun r => cntR (I 9 r)) (fun r => I (3 + r)) (fdN kq h 3) 6) 4), (I, J, 73, 80)) := by
  intro m
  induction m with
  | zero =>
    intro k f hk' hf
    have : k = 3 := by omega
    subst this
    obtain ⟨g, rfl⟩ : ∃ g, f = g + 1 := ⟨f - 1, by omega⟩
    rw [sgX9_digest_171, if_pos (by decide), bJ (x_mix_1 N d I J (73, 80) _ hR)]
    try dsimp only
    try dsimp only
    rw [bJ (x_mix_10 N d I J (73, 80) _ hT)]
    try dsimp only
  | succ m ih =>
    intro k f hk' hf
    obtain ⟨g, rfl⟩ : ∃ g, f = g + 1 := ⟨f - 1, by omega⟩
    have h3 : k < 3 := by omega
    rw [sgX9_digest_171, if_neg (show ¬ (3 : Int32) ≤ nI k from nI_ge (b := 3) (by omega) (by decide)), inb_t h3 (by omega), if_pos rfl, nI_clamp (by omega)]
    rcases hk k h3 with ⟨a, b⟩ | ⟨a, b⟩
    · rw [if_pos a, ← b, fdN_s, nI_1]
      exact ih (k + 1) g (by omega) (by omega)
    · rw [if_neg a, if_pos rfl, (rf28d k h3).1, Option.bind_some, (rf28d k h3).2, if_pos rfl, b, fdN_s, nI_1]
      exact ih (k + 1) g (by omega) (by omega)
theorem x_dg136 (N d : Nat) {P : RP} {ow : Nat → Nat} {F : FS} (hn : P.1 ≤ 6) (I : Nat → Nat → Int32) (J : Nat → Nat → Int64) (hC : courN P ow I 73) (hF : flowAt I F) (h : Int64) {i : Nat} (hi : i < P.1) {K : Nat} (G : Option RES) (hG : ∀ f, K ≤ f → EX9_digest (N + 1000000) (d + 1) f 122 [some (rv (some 0)), some (jv (fdN (fun w => nI (rchN P F i w)) h 5)), none, some (iv (nI (i + 1))), none] (I, J, 73, 80) = G) : ∀ (m w f : Nat), w + m = 5 → K + m + 1 ≤ f → EX9_digest (N + 1000000) (d + 1) f 136 [some (rv (some 0)), some (jv (fdN (fun w => nI (rchN P F i w)) h w)), none, some (iv (nI i)), some (iv (nI w))] (I, J, 73, 80) = G := by
  intro m
  induction m with
  | zero =>
    intro w f hw hf
    have : w = 5 := by omega
    subst this
    obtain ⟨g, rfl⟩ : ∃ g, f = g + 1 := ⟨f - 1, by omega⟩
    rw [sgX9_digest_136, if_pos (by decide), nI_1]
    exact hG g (by omega)
  | succ m ih =>
    intro w f hw hf
    obtain ⟨g, rfl⟩ : ∃ g, f = g + 1 := ⟨f - 1, by omega⟩
    rw [sgX9_digest_136, if_neg (show ¬ (4 : Int32) < nI w from nI_nlt (a := 4) (by omega) (by decide)), bI (s_ofReach _ _ hn hi (show w ≤ 4 by omega) _ _ hC hF)]
    try dsimp only
    try dsimp only
    rw [fdN_s (fun w => nI (rchN P F i w)), nI_1]
    exact ih (w + 1) g (by omega) (by omega)
theorem x_dg122 (N d : Nat) {P : RP} {ow : Nat → Nat} {F : FS} (hn : P.1 ≤ 6) (I : Nat → Nat → Int32) (J : Nat → Nat → Int64) (hC : courN P ow I 73) (hF : flowAt I F) (h : Int64) {K : Nat} (G : Option RES) (hG : ∀ f, K ≤ f → EX9_digest (N + 1000000) (d + 1) f 171 [some (rv (some 0)), some (jv (fdR (fun i w => nI (rchN P F i w)) h P.1)), none, some (iv 0), none] (I, J, 73, 80) = G) : ∀ (m i f : Nat), i + m = P.1 → K + 7 * m + 1 ≤ f → EX9_digest (N + 1000000) (d + 1) f 122 [some (rv (some 0)), some (jv (fdR (fun i w => nI (rchN P F i w)) h i)), none, some (iv (nI i)), none] (I, J, 73, 80) = G := by
  intro m
  induction m with
  | zero =>
    intro i f hi hf
    have : i = P.1 := by omega
    subst this
    obtain ⟨g, rfl⟩ : ∃ g, f = g + 1 := ⟨f - 1, by omega⟩
    rw [sgX9_digest_122, if_pos (by rw [hC.1]; exact Int32.le_refl _)]
    exact hG g (by omega)
  | succ m ih =>
    intro i f hi hf
    obtain ⟨g, rfl⟩ : ∃ g, f = g + 1 := ⟨f - 1, by omega⟩
    rw [sgX9_digest_122, if_neg (by rw [hC.1]; exact nI_ge (by omega) (by omega))]
    exact x_dg136 N d hn I J hC hF _ (show i < P.1 by omega) (K := K + 7 * m + 1) G (fun f hf => ih (i + 1) f (by omega) hf) 5 0 g (by omega) (by omega)
theorem x_dg91 (N d : Nat) (I : Nat → Nat → Int32) (J : Nat → Nat → Int64) (g7 : Nat → Int32) (hg : ∀ v, v < 7 → I 23 v = g7 v) (h : Int64) {K : Nat} (G : Option RES) (hG : ∀ f, K ≤ f → EX9_digest (N + 1000000) d f 122 [some (rv (some 0)), some (jv (fdN g7 h 7)), none, some (iv 0), none] (I, J, 73, 80) = G) : ∀ (m v f : Nat), v + m = 7 → K + m + 1 ≤ f → EX9_digest (N + 1000000) d f 91 [some (rv (some 0)), some (jv (fdN g7 h v)), none, some (iv (nI v)), none] (I, J, 73, 80) = G := by
  intro m
  induction m with
  | zero =>
    intro v f hv hf
    have : v = 7 := by omega
    subst this
    obtain ⟨g, rfl⟩ : ∃ g, f = g + 1 := ⟨f - 1, by omega⟩
    rw [sgX9_digest_91, if_pos (by decide)]
    exact hG g (by omega)
  | succ m ih =>
    intro v f hv hf
    obtain ⟨g, rfl⟩ : ∃ g, f = g + 1 := ⟨f - 1, by omega⟩
    rw [sgX9_digest_91, if_neg (show ¬ (7 : Int32) ≤ nI v from nI_ge (b := 7) (by omega) (by decide)), inb_t (show v < 7 by omega) (by omega), if_pos rfl, nI_clamp (by omega), hg v (by omega), fdN_s, nI_1]
    exact ih (v + 1) g (by omega) (by omega)
theorem x_dg33 (N d : Nat) (I : Nat → Nat → Int32) (J : Nat → Nat → Int64) {n : Nat} (hn : n ≤ 6) (h73 : I 73 0 = nI n) (g1 g2 : Nat → Int32) (hg : ∀ e, e < 7 → I 77 e = g1 e ∧ I 78 e = g2 e) (h : Int64) {K : Nat} (G : Option RES) (hG : ∀ f, K ≤ f → EX9_digest (N + 1000000) d f 91 [some (rv (some 0)), some (jv (if n = 0 then h else fd2 g1 g2 h 7)), none, some (iv 0), none] (I, J, 73, 80) = G) : ∀ (m e f : Nat), e + m = 7 → K + m + 1 ≤ f → (n = 0 → e = 0) → EX9_digest (N + 1000000) d f 33 [some (rv (some 0)), some (jv (fd2 g1 g2 h e)), none, some (iv (nI e)), none] (I, J, 73, 80) = G := by
  intro m
  induction m with
  | zero =>
    intro e f he hf hz
    have : e = 7 := by omega
    subst this
    obtain ⟨g, rfl⟩ : ∃ g, f = g + 1 := ⟨f - 1, by omega⟩
    have e1 := hG g (by omega)
    rw [if_neg (show ¬ n = 0 from fun q => absurd (hz q) (by decide))] at e1
    rw [sgX9_digest_33, if_pos (by decide)]
    exact e1
  | succ m ih =>
    intro e f he hf hz
    obtain ⟨g, rfl⟩ : ∃ g, f = g + 1 := ⟨f - 1, by omega⟩
    rw [sgX9_digest_33, if_neg (show ¬ (7 : Int32) ≤ nI e from nI_ge (b := 7) (by omega) (by decide))]
    by_cases q : n = 0
    · have e1 := hG g (by omega)
      have e0 := hz q
      subst e0
      rw [if_pos q] at e1
      rw [if_pos (by rw [h73, q]; decide)]
      exact e1
    · rw [if_neg (show ¬ I 73 0 ≤ 0 by rw [h73]; exact nI_ge (a := 0) (by omega) (by omega)), inb_t (show e < 7 by omega) (by omega), if_pos rfl, if_pos rfl, nI_clamp (by omega), (hg e (by omega)).1, (hg e (by omega)).2, fd2_s, nI_1]
      exact ih (e + 1) g (by omega) (by omega) (fun z => absurd z q)
theorem x_dg6 (N d : Nat) (I : Nat → Nat → Int32) (J : Nat → Nat → Int64) (v : Nat → Int32) (hv : ∀ k, k < 11 → arun (N + 1000000) d 134 [rv (some 0), iv (nI k)] (I, J, 73, 80) = some (iv (v k), (I, J, 73, 80))) (h : Int64) {K : Nat} (G : Option RES) (hG : ∀ f, K ≤ f → EX9_digest (N + 1000000) d f 33 [some (rv (some 0)), some (jv (fdN v h 11)), none, some (iv 0), none] (I, J, 73, 80) = G) : ∀ (m k f : Nat), k + m = 11 → K + m + 1 ≤ f → EX9_digest (N + 1000000) d f 6 [some (rv (some 0)), some (jv (fdN v h k)), none, some (iv (nI k)), none] (I, J, 73, 80) = G := by
  intro m
  induction m with
  | zero =>
    intro k f hk hf
    have : k = 11 := by omega
    subst this
    obtain ⟨g, rfl⟩ : ∃ g, f = g + 1 := ⟨f - 1, by omega⟩
    rw [sgX9_digest_6, if_pos (by decide)]
    exact hG g (by omega)
  | succ m ih =>
    intro k f hk hf
    obtain ⟨g, rfl⟩ : ∃ g, f = g + 1 := ⟨f - 1, by omega⟩
    rw [sgX9_digest_6, if_neg (show ¬ (11 : Int32) ≤ nI k from nI_ge (b := 11) (by omega) (by decide)), bI (hv k (by omega))]
    try dsimp only
    try dsimp only
    rw [fdN_s, nI_1]
    exact ih (k + 1) g (by omega) (by omega)
-- the reference's
theorem wr_wr {α : Type} (J : Nat → Nat → α) (a i : Nat) (x y : α) : wr (wr J a i x) a i y = wr J a i y := by
  funext b j
  simp only [wr_at, up1_at]
  by_cases e : b = a
  · subst e
    simp only [if_true]
    by_cases q : j = i
    · simp [up1_at, q]
    · simp [up1_at, q]
  · simp [e]
theorem s_mix (N d : Nat) (x : Int32) (I : Nat → Nat → Int32) (J : Nat → Nat → Int64) (h : Int64) (cd : Nat × Nat) : arun (N + 1000000) (d + 1) 235 [rv (some 87), iv x] (I, wr J 87 35 h, cd) = some (rv none, (I, wr J 87 35 (31 * h + x.toInt64), cd)) := by
  rw [enX10_mix, sgX10_mix_0, wr_wr, wr_eq]
theorem m_mixA_101 (N d : Nat) (I : Nat → Nat → Int32) (J : Nat → Nat → Int64) (cd : Nat × Nat) (h : Int64) {r : Nat} (hr : r < 4) (hw : rwN I 16 12 92 93 60 r) {K : Nat} (G : Option RES) (hG : ∀ f, K ≤ f → EX10_digest (N + 1000000) (d + 1) f 101 [some (rv (some 87)), some (iv (nI (r + 1))), none] (I, wr J 87 35 (fdN (I (12 + r)) h (cntR (I 16 r))), cd) = G) : ∀ (m i f : Nat), i + m = cntR (I 16 r) → K + m + 1 ≤ f → EX10_digest (N + 1000000) (d + 1) f 131 [some (rv (some 87)), some (iv (nI r)), some (iv (nI i))] (I, wr J 87 35 (fdN (I (12 + r)) h i), cd) = G := by
  intro m
  induction m with
  | zero =>
    intro i f hi hf
    have : i = cntR (I 16 r) := by omega
    subst this
    obtain ⟨g, rfl⟩ : ∃ g, f = g + 1 := ⟨f - 1, by omega⟩
    rw [sgX10_digest_131, inb_t hr (by omega), if_pos rfl, nI_clamp (by omega), if_pos (by
      rcases hw with ⟨a, b, e⟩ | ⟨l, a, b, e⟩
      · rw [e, b]; decide
      · rw [b]; exact Int32.le_refl _), nI_1]
    exact hG g (by omega)
  | succ m ih =>
    intro i f hi hf
    obtain ⟨g, rfl⟩ : ∃ g, f = g + 1 := ⟨f - 1, by omega⟩
    rcases hw with ⟨a, b, e⟩ | ⟨l, a, b, e⟩
    · omega
    · rw [sgX10_digest_131, inb_t hr (by omega), if_pos rfl, nI_clamp (by omega), if_neg (by rw [b]; exact nI_ge (by omega) (by omega)), ix60, inb_t (show 60 * r + i < 240 by omega) (by omega), if_pos rfl, nI_clamp (by omega)]
      try dsimp only
      rw [← e i (by omega), bV (s_mix _ _ _ _ _ _ _)]
      try dsimp only
      try dsimp only
      rw [fdN_s (I (12 + r)), nI_1]
      exact ih (i + 1) g (by omega) (by omega)
theorem m_mixB_101 (N d : Nat) (I : Nat → Nat → Int32) (J : Nat → Nat → Int64) (cd : Nat × Nat) (h : Int64) (hw : ∀ r, r < 4 → rwN I 16 12 92 93 60 r) {K : Nat} (G : Option RES) (hG : ∀ f, K ≤ f → some (jv (fdS (I 16) (fun r => cntR (I 16 r)) (fun r => I (12 + r)) h 4), (I, wr J 87 35 (fdS (I 16) (fun r => cntR (I 16 r)) (fun r => I (12 + r)) h 4), cd)) = G) : ∀ (m r f : Nat), r + m = 4 → K + 62 * m + 1 ≤ f → EX10_digest (N + 1000000) (d + 1) f 101 [some (rv (some 87)), some (iv (nI r)), none] (I, wr J 87 35 (fdS (I 16) (fun r => cntR (I 16 r)) (fun r => I (12 + r)) h r), cd) = G := by
  intro m
  induction m with
  | zero =>
    intro r f hr hf
    have : r = 4 := by omega
    subst this
    obtain ⟨g, rfl⟩ : ∃ g, f = g + 1 := ⟨f - 1, by omega⟩
    rw [sgX10_digest_101, if_pos (by decide), wr_eq]
    exact hG g (by omega)
  | succ m ih =>
    intro r f hr hf
    obtain ⟨g, rfl⟩ : ∃ g, f = g + 1 := ⟨f - 1, by omega⟩
    have hrc : r < 4 := by omega
    have hl : cntR (I 16 r) ≤ 60 := by
      rcases hw r hrc with ⟨-, -, e⟩ | ⟨l, -⟩
      · omega
      · exact l
    have nx := m_mixA_101 N d I J cd (31 * fdS (I 16) (fun r => cntR (I 16 r)) (fun r => I (12 + r)) h r + (I 16 r).toInt64) hrc (hw r hrc) (K := K + 62 * m + 1) G (fun f hf => ih (r + 1) f (by omega) hf) (cntR (I 16 r)) 0 g (by omega) (by omega)
    rw [nI_0, show fdN (I (12 + r)) (31 * fdS (I 16) (fun r => cntR (I 16 r)) (fun r => I (12 + r)) h r + (I 16 r).toInt64) 0 = 31 * fdS (I 16) (fun r => cntR (I 16 r)) (fun r => I (12 + r)) h r + (I 16 r).toInt64 from rfl] at nx
    rw [sgX10_digest_101, if_neg (show ¬ (4 : Int32) ≤ nI r from nI_ge (b := 4) (by omega) (by decide)), inb_t hrc (by omega), if_pos rfl, nI_clamp (by omega)]
    rcases hw r hrc with ⟨a, b, e⟩ | ⟨l, a, b, e⟩
    · rw [if_neg (by rw [b]; decide), bV (s_mix _ _ _ _ _ _ _)]
      try dsimp only
      try dsimp only
      rw [← a]
      exact nx
    · rw [if_pos (by rw [b]; exact nI_pos' (by omega)), if_pos rfl, bV (s_mix _ _ _ _ _ _ _)]
      try dsimp only
      try dsimp only
      rw [b, ← a]
      exact nx
theorem m_mixA_36 (N d : Nat) (I : Nat → Nat → Int32) (J : Nat → Nat → Int64) (cd : Nat × Nat) (h : Int64) {r : Nat} (hr : r < 6) (hw : rwN I 9 3 89 90 40 r) {K : Nat} (G : Option RES) (hG : ∀ f, K ≤ f → EX10_digest (N + 1000000) (d + 1) f 36 [some (rv (some 87)), some (iv (nI (r + 1))), none] (I, wr J 87 35 (fdN (I (3 + r)) h (cntR (I 9 r))), cd) = G) : ∀ (m i f : Nat), i + m = cntR (I 9 r) → K + m + 1 ≤ f → EX10_digest (N + 1000000) (d + 1) f 67 [some (rv (some 87)), some (iv (nI r)), some (iv (nI i))] (I, wr J 87 35 (fdN (I (3 + r)) h i), cd) = G := by
  intro m
  induction m with
  | zero =>
    intro i f hi hf
    have : i = cntR (I 9 r) := by omega
    subst this
    obtain ⟨g, rfl⟩ : ∃ g, f = g + 1 := ⟨f - 1, by omega⟩
    rw [sgX10_digest_67, inb_t hr (by omega), if_pos rfl, nI_clamp (by omega), if_pos (by
      rcases hw with ⟨a, b, e⟩ | ⟨l, a, b, e⟩
      · rw [e, b]; decide
      · rw [b]; exact Int32.le_refl _), nI_1]
    exact hG g (by omega)
  | succ m ih =>
    intro i f hi hf
    obtain ⟨g, rfl⟩ : ∃ g, f = g + 1 := ⟨f - 1, by omega⟩
    rcases hw with ⟨a, b, e⟩ | ⟨l, a, b, e⟩
    · omega
    · rw [sgX10_digest_67, inb_t hr (by omega), if_pos rfl, nI_clamp (by omega), if_neg (by rw [b]; exact nI_ge (by omega) (by omega)), bI (s_rowAt _ _ hr (show i < 40 by omega) _ _ _)]
      try dsimp only
      try dsimp only
      rw [← e i (by omega), bV (s_mix _ _ _ _ _ _ _)]
      try dsimp only
      try dsimp only
      rw [fdN_s (I (3 + r)), nI_1]
      exact ih (i + 1) g (by omega) (by omega)
theorem m_mixB_36 (N d : Nat) (I : Nat → Nat → Int32) (J : Nat → Nat → Int64) (cd : Nat × Nat) (h : Int64) (hw : ∀ r, r < 6 → rwN I 9 3 89 90 40 r) {K : Nat} (G : Option RES) (hG : ∀ f, K ≤ f → EX10_digest (N + 1000000) (d + 1) f 101 [some (rv (some 87)), some (iv 0), none] (I, wr J 87 35 (fdS (I 9) (fun r => cntR (I 9 r)) (fun r => I (3 + r)) h 6), cd) = G) : ∀ (m r f : Nat), r + m = 6 → K + 42 * m + 1 ≤ f → EX10_digest (N + 1000000) (d + 1) f 36 [some (rv (some 87)), some (iv (nI r)), none] (I, wr J 87 35 (fdS (I 9) (fun r => cntR (I 9 r)) (fun r => I (3 + r)) h r), cd) = G := by
  intro m
  induction m with
  | zero =>
    intro r f hr hf
    have : r = 6 := by omega
    subst this
    obtain ⟨g, rfl⟩ : ∃ g, f = g + 1 := ⟨f - 1, by omega⟩
    rw [sgX10_digest_36, if_pos (by decide)]
    exact hG g (by omega)
  | succ m ih =>
    intro r f hr hf
    obtain ⟨g, rfl⟩ : ∃ g, f = g + 1 := ⟨f - 1, by omega⟩
    have hrc : r < 6 := by omega
    have hl : cntR (I 9 r) ≤ 40 := by
      rcases hw r hrc with ⟨-, -, e⟩ | ⟨l, -⟩
      · omega
      · exact l
    have nx := m_mixA_36 N d I J cd (31 * fdS (I 9) (fun r => cntR (I 9 r)) (fun r => I (3 + r)) h r + (I 9 r).toInt64) hrc (hw r hrc) (K := K + 42 * m + 1) G (fun f hf => ih (r + 1) f (by omega) hf) (cntR (I 9 r)) 0 g (by omega) (by omega)
    rw [nI_0, show fdN (I (3 + r)) (31 * fdS (I 9) (fun r => cntR (I 9 r)) (fun r => I (3 + r)) h r + (I 9 r).toInt64) 0 = 31 * fdS (I 9) (fun r => cntR (I 9 r)) (fun r => I (3 + r)) h r + (I 9 r).toInt64 from rfl] at nx
    rw [sgX10_digest_36, if_neg (show ¬ (6 : Int32) ≤ nI r from nI_ge (b := 6) (by omega) (by decide)), inb_t hrc (by omega), if_pos rfl, nI_clamp (by omega)]
    rcases hw r hrc with ⟨a, b, e⟩ | ⟨l, a, b, e⟩
    · rw [if_neg (by rw [b]; decide), bV (s_mix _ _ _ _ _ _ _)]
      try dsimp only
      try dsimp only
      rw [← a]
      exact nx
    · rw [if_pos (by rw [b]; exact nI_pos' (by omega)), if_pos rfl, bV (s_mix _ _ _ _ _ _ _)]
      try dsimp only
      try dsimp only
      rw [b, ← a]
      exact nx
theorem m_dg9 (N d : Nat) (I : Nat → Nat → Int32) (J : Nat → Nat → Int64) (v : Nat → Int32) (hv : ∀ k, k < 11 → ∀ J', arun (N + 1000000) (d + 1) 231 [rv (some 87), iv (nI k)] (I, J', 73, 80) = some (iv (v k), (I, J', 73, 80))) (h h' : Int64) (hr : arun (N + 1000000) (d + 1) 236 [rv (some 87)] (I, wr J 87 35 (fdN v h 11), 73, 80) = some (rv none, (I, wr J 87 35 h', 73, 80))) {K : Nat} (G : Option RES) (hG : ∀ f, K ≤ f → EX10_digest (N + 1000000) (d + 1) f 36 [some (rv (some 87)), some (iv 0), none] (I, wr J 87 35 h', 73, 80) = G) : ∀ (m k f : Nat), k + m = 11 → K + m + 1 ≤ f → EX10_digest (N + 1000000) (d + 1) f 9 [some (rv (some 87)), some (iv (nI k)), none] (I, wr J 87 35 (fdN v h k), 73, 80) = G := by
  intro m
  induction m with
  | zero =>
    intro k f hk hf
    have : k = 11 := by omega
    subst this
    obtain ⟨g, rfl⟩ : ∃ g, f = g + 1 := ⟨f - 1, by omega⟩
    rw [sgX10_digest_9, if_pos (by decide), bV hr]
    exact hG g (by omega)
  | succ m ih =>
    intro k f hk hf
    obtain ⟨g, rfl⟩ : ∃ g, f = g + 1 := ⟨f - 1, by omega⟩
    rw [sgX10_digest_9, if_neg (show ¬ (10 : Int32) < nI k from nI_nlt (a := 10) (by omega) (by decide)), bI (hv k (by omega) _)]
    try dsimp only
    try dsimp only
    rw [bV (s_mix _ _ _ _ _ _ _)]
    try dsimp only
    try dsimp only
    rw [fdN_s, nI_1]
    exact ih (k + 1) g (by omega) (by omega)
theorem ix1107 : ∀ k, k < 3 → ((1107 : Int32) * nI k + 1080) + 1 = nI (1107 * k + 1081) := by decide +kernel
theorem m_mr106 (N d : Nat) (I : Nat → Nat → Int32) (J : Nat → Nat → Int64) (cd : Nat × Nat) (h : Int64) (kq : Nat → Int32) (hk : ∀ k, k < 3 → (¬ I 105 k = 1 ∧ kq k = -1) ∨ (I 105 k = 1 ∧ I 106 (1107 * k + 1081) = kq k)) : ∀ (m k f : Nat), k + m = 3 → m + 1 ≤ f → EX10_mixRiver (N + 1000000) (d + 1) f 106 [some (rv (some 87)), some (iv (nI k)), none] (I, wr J 87 35 (fdN kq h k), cd) = some (rv none, (I, wr J 87 35 (fdN kq h 3), cd)) := by
  intro m
  induction m with
  | zero =>
    intro k f hk' hf
    have : k = 3 := by omega
    subst this
    obtain ⟨g, rfl⟩ : ∃ g, f = g + 1 := ⟨f - 1, by omega⟩
    rw [sgX10_mixRiver_106, if_pos (by decide)]
  | succ m ih =>
    intro k f hk' hf
    obtain ⟨g, rfl⟩ : ∃ g, f = g + 1 := ⟨f - 1, by omega⟩
    have h3 : k < 3 := by omega
    rw [sgX10_mixRiver_106, if_neg (show ¬ (3 : Int32) ≤ nI k from nI_ge (b := 3) (by omega) (by decide)), inb_t h3 (by omega), if_pos rfl, nI_clamp (show k < 2 ^ 31 by omega)]
    rcases hk k h3 with ⟨a, b⟩ | ⟨a, b⟩
    · rw [if_neg a, bV (s_mix _ _ _ _ _ _ _)]
      try dsimp only
      try dsimp only
      rw [← b, fdN_s, nI_1]
      exact ih (k + 1) g (by omega) (by omega)
    · rw [if_pos a, ix1107 k h3, inb_t (show 1107 * k + 1081 < 3321 by omega) (by omega), if_pos rfl, nI_clamp (by omega), bV (s_mix _ _ _ _ _ _ _)]
      try dsimp only
      try dsimp only
      rw [b, fdN_s, nI_1]
      exact ih (k + 1) g (by omega) (by omega)
theorem m_mr77 (N d : Nat) {P : RP} {ow : Nat → Nat} {F : FS} {t : Nat} (hn : P.1 ≤ 6) (I : Nat → Nat → Int32) (J : Nat → Nat → Int64) (cd : Nat × Nat) (hR : refAt P ow I F t) (h : Int64) {i : Nat} (hi : i < P.1) {K : Nat} (G : Option RES) (hG : ∀ f, K ≤ f → EX10_mixRiver (N + 1000000) (d + 1) f 67 [some (rv (some 87)), some (iv (nI (i + 1))), none] (I, wr J 87 35 (fdN (fun w => nI (rchN P F i w)) h 5), cd) = G) : ∀ (m w f : Nat), w + m = 5 → K + m + 1 ≤ f → EX10_mixRiver (N + 1000000) (d + 1) f 77 [some (rv (some 87)), some (iv (nI i)), some (iv (nI w))] (I, wr J 87 35 (fdN (fun w => nI (rchN P F i w)) h w), cd) = G := by
  intro m
  induction m with
  | zero =>
    intro w f hw hf
    have : w = 5 := by omega
    subst this
    obtain ⟨g, rfl⟩ : ∃ g, f = g + 1 := ⟨f - 1, by omega⟩
    rw [sgX10_mixRiver_77, if_pos (by decide), nI_1]
    exact hG g (by omega)
  | succ m ih =>
    intro w f hw hf
    obtain ⟨g, rfl⟩ : ∃ g, f = g + 1 := ⟨f - 1, by omega⟩
    rw [sgX10_mixRiver_77, if_neg (show ¬ (4 : Int32) < nI w from nI_nlt (a := 4) (by omega) (by decide)), bI (s_reachOf _ _ hn hi (show w ≤ 4 by omega) _ _ _ hR)]
    try dsimp only
    try dsimp only
    rw [bV (s_mix _ _ _ _ _ _ _)]
    try dsimp only
    try dsimp only
    rw [fdN_s (fun w => nI (rchN P F i w)), nI_1]
    exact ih (w + 1) g (by omega) (by omega)
theorem m_mr67 (N d : Nat) {P : RP} {ow : Nat → Nat} {F : FS} {t : Nat} (hn : P.1 ≤ 6) (I : Nat → Nat → Int32) (J : Nat → Nat → Int64) (cd : Nat × Nat) (hR : refAt P ow I F t) (h : Int64) {K : Nat} (G : Option RES) (hG : ∀ f, K ≤ f → EX10_mixRiver (N + 1000000) (d + 1) f 106 [some (rv (some 87)), some (iv 0), none] (I, wr J 87 35 (fdR (fun i w => nI (rchN P F i w)) h P.1), cd) = G) : ∀ (m i f : Nat), i + m = P.1 → K + 7 * m + 1 ≤ f → EX10_mixRiver (N + 1000000) (d + 1) f 67 [some (rv (some 87)), some (iv (nI i)), none] (I, wr J 87 35 (fdR (fun i w => nI (rchN P F i w)) h i), cd) = G := by
  intro m
  induction m with
  | zero =>
    intro i f hi hf
    have : i = P.1 := by omega
    subst this
    obtain ⟨g, rfl⟩ : ∃ g, f = g + 1 := ⟨f - 1, by omega⟩
    rw [sgX10_mixRiver_67, if_pos (by rw [hR.1]; exact Int32.le_refl _)]
    exact hG g (by omega)
  | succ m ih =>
    intro i f hi hf
    obtain ⟨g, rfl⟩ : ∃ g, f = g + 1 := ⟨f - 1, by omega⟩
    rw [sgX10_mixRiver_67, if_neg (by rw [hR.1]; exact nI_ge (by omega) (by omega))]
    exact m_mr77 N d hn I J cd hR _ (show i < P.1 by omega) (K := K + 7 * m + 1) G (fun f hf => ih (i + 1) f (by omega) hf) 5 0 g (by omega) (by omega)
theorem m_mr43 (N d : Nat) (I : Nat → Nat → Int32) (J : Nat → Nat → Int64) (cd : Nat × Nat) (g7 : Nat → Int32) (hg : ∀ v, v < 7 → I 101 v = g7 v) (h : Int64) {K : Nat} (G : Option RES) (hG : ∀ f, K ≤ f → EX10_mixRiver (N + 1000000) (d + 1) f 67 [some (rv (some 87)), some (iv 0), none] (I, wr J 87 35 (fdN g7 h 7), cd) = G) : ∀ (m v f : Nat), v + m = 7 → K + m + 1 ≤ f → EX10_mixRiver (N + 1000000) (d + 1) f 43 [some (rv (some 87)), some (iv (nI v)), none] (I, wr J 87 35 (fdN g7 h v), cd) = G := by
  intro m
  induction m with
  | zero =>
    intro v f hv hf
    have : v = 7 := by omega
    subst this
    obtain ⟨g, rfl⟩ : ∃ g, f = g + 1 := ⟨f - 1, by omega⟩
    rw [sgX10_mixRiver_43, if_pos (by decide)]
    exact hG g (by omega)
  | succ m ih =>
    intro v f hv hf
    obtain ⟨g, rfl⟩ : ∃ g, f = g + 1 := ⟨f - 1, by omega⟩
    rw [sgX10_mixRiver_43, if_neg (show ¬ (7 : Int32) ≤ nI v from nI_ge (b := 7) (by omega) (by decide)), inb_t (show v < 7 by omega) (by omega), if_pos rfl, nI_clamp (by omega), hg v (by omega), bV (s_mix _ _ _ _ _ _ _)]
    try dsimp only
    try dsimp only
    rw [fdN_s, nI_1]
    exact ih (v + 1) g (by omega) (by omega)
theorem m_mr2 (N d : Nat) (I : Nat → Nat → Int32) (J : Nat → Nat → Int64) (cd : Nat × Nat) {n : Nat} (hn : n ≤ 6) (h87 : I 87 10 = nI n) (g1 g2 : Nat → Int32) (hg : ∀ e, e < 7 → I 94 e = g1 e ∧ I 95 e = g2 e) (h : Int64) {K : Nat} (G : Option RES) (hG : ∀ f, K ≤ f → EX10_mixRiver (N + 1000000) (d + 1) f 43 [some (rv (some 87)), some (iv 0), none] (I, wr J 87 35 (if n = 0 then h else fd2 g1 g2 h 7), cd) = G) : ∀ (m e f : Nat), e + m = 7 → K + m + 1 ≤ f → (n = 0 → e = 0) → EX10_mixRiver (N + 1000000) (d + 1) f 2 [some (rv (some 87)), some (iv (nI e)), none] (I, wr J 87 35 (fd2 g1 g2 h e), cd) = G := by
  intro m
  induction m with
  | zero =>
    intro e f he hf hz
    have : e = 7 := by omega
    subst this
    obtain ⟨g, rfl⟩ : ∃ g, f = g + 1 := ⟨f - 1, by omega⟩
    have e1 := hG g (by omega)
    rw [if_neg (show ¬ n = 0 from fun q => absurd (hz q) (by decide))] at e1
    rw [sgX10_mixRiver_2, if_pos (by decide)]
    exact e1
  | succ m ih =>
    intro e f he hf hz
    obtain ⟨g, rfl⟩ : ∃ g, f = g + 1 := ⟨f - 1, by omega⟩
    rw [sgX10_mixRiver_2, if_neg (show ¬ (7 : Int32) ≤ nI e from nI_ge (b := 7) (by omega) (by decide))]
    by_cases q : n = 0
    · have e1 := hG g (by omega)
      have e0 := hz q
      subst e0
      rw [if_pos q] at e1
      rw [if_pos (by rw [h87, q]; decide)]
      exact e1
    · rw [if_neg (show ¬ I 87 10 ≤ 0 by rw [h87]; exact nI_ge (a := 0) (by omega) (by omega)), inb_t (show e < 7 by omega) (by omega), if_pos rfl, nI_clamp (by omega), (hg e (by omega)).1, bV (s_mix _ _ _ _ _ _ _)]
      try dsimp only
      try dsimp only
      rw [if_pos rfl, (hg e (by omega)).2, bV (s_mix _ _ _ _ _ _ _)]
      try dsimp only
      try dsimp only
      rw [fd2_s, nI_1]
      exact ih (e + 1) g (by omega) (by omega) (fun z => absurd z q)
theorem op_digest : OK2 111 237 [] := by
  intro N d I J h
  obtain ⟨v, hv⟩ := cnt_both h
  obtain ⟨P, ow, F, D, kp, KD, hP, hC, h25, hFl, hRf, hz, hk⟩ := h.un3
  have hn := hP.1
  have hR : ∀ r, r < 6 → rwN I 9 3 89 90 40 r := fun r hr => (h.1.2 r hr).n (by decide)
  have hT : ∀ r, r < 4 → rwN I 16 12 92 93 60 r := fun r hr => (h.2.1.2 r hr).n (by decide)
  have x5 := fun y => x_dg171 N (d + 16) I J y (fun k => if kp k then nI (KD k) else -1) (fun k hk3 => by
    obtain ⟨a, b, c⟩ := hk k hk3
    cases e : kp k with
    | true => exact Or.inr ⟨by rw [a, e]; decide, by rw [(c e).1]; simp [e]⟩
    | false => exact Or.inl ⟨by rw [a, e]; rfl, by simp [e]⟩) hR hT 3 0
  have m5 := fun y => m_mr106 N (d + 17) I J (73, 80) y (fun k => if kp k then nI (KD k) else -1) (fun k hk3 => by
    obtain ⟨a, b, c⟩ := hk k hk3
    cases e : kp k with
    | true => exact Or.inr ⟨by rw [b, e]; rfl, by rw [(c e).2]; simp [e]⟩
    | false => exact Or.inl ⟨by rw [b, e]; decide, by simp [e]⟩) 3 0
  have x4 := fun y => x_dg122 N (d + 18) hn I J hC hFl y (K := 4) _ (fun f hf => x5 _ f (by omega) hf) P.1 0
  have m4 := fun y => m_mr67 N (d + 17) hn I J (73, 80) hRf y (K := 4) _ (fun f hf => m5 _ f (by omega) hf) P.1 0
  have x3 := fun y => x_dg91 N (d + 19) I J (fun u => nI (F.2.2.2 u)) (fun u hu => hFl.2 u hu) y (K := 47) _ (fun f hf => x4 _ f (by omega) (by omega)) 7 0
  have m3 := fun y => m_mr43 N (d + 17) I J (73, 80) (fun u => nI (F.2.2.2 u)) (fun u hu => (hRf.2.2.2.2 u hu).2.2) y (K := 47) _ (fun f hf => m4 _ f (by omega) (by omega)) 7 0
  have x2 := fun y => x_dg33 N (d + 19) I J hn hC.1 (fun e => nI (P.2.2.2.2 e)) (fun e => nI (ow e)) (fun e he => hC.2.2.2.2.1 e he) y (K := 55) _ (fun f hf => x3 _ f (by omega) (by omega)) 7 0
  have m2 := fun y => m_mr2 N (d + 17) I J (73, 80) hn hRf.1 (fun e => nI (P.2.2.2.2 e)) (fun e => nI (ow e)) (fun e he => ⟨(hRf.2.2.2.2 e he).1, (hRf.2.2.2.2 e he).2.1⟩) y (K := 55) _ (fun f hf => m3 _ f (by omega) (by omega)) 7 0
  have x1 := x_dg6 N (d + 19) I J v (fun k hk => (hv k hk N (d + 14) J).1) 17 (K := 63) _ (fun f hf => x2 _ f (by omega) (by omega) (fun _ => rfl)) 11 0 (N + 999999) (by omega) (by omega)
  have mr := m2 (fdN v 17 11) (N + 999999) (by omega) (by omega) (fun _ => rfl)
  have mr' := ((enX10_mixRiver (N + 1000000) (d + 18) 87 (I, wr J 87 35 (fdN v 17 11), 73, 80)).trans (sgX10_mixRiver_0 (N + 1000000) (d + 18) (N + 999999) I (wr J 87 35 (fdN v 17 11)) (73, 80))).trans mr
  have t1 := fun y => m_mixB_101 N (d + 18) I J (73, 80) y hT (K := 0) _ (fun f hf => rfl) 4 0
  have t2 := fun y => m_mixB_36 N (d + 18) I J (73, 80) y hR (K := 249) _ (fun f hf => t1 _ f (by omega) (by omega)) 6 0
  have t3 := m_dg9 N (d + 18) I J v (fun k hk J' => (hv k hk N (d + 14) J').2) 17 _ mr' (K := 502) _ (fun f hf => t2 _ f (by omega) (by omega)) 11 0 (N + 999999) (by omega) (by omega)
  refine ⟨_, _, _, _, _, ((enX9_digest (N + 1000000) (d + 19) 0 (I, J, 73, 80)).trans (sgX9_digest_0 (N + 1000000) (d + 19) (N + 999999) I J)).trans x1, ((enX10_digest (N + 1000000) (d + 19) 87 (I, J, 73, 80)).trans (sgX10_digest_0 (N + 1000000) (d + 19) (N + 999999) I J (73, 80))).trans t3, h.1, h.2.1, h.2.2.1, ⟨h.2.2.2.1.1, ?_, ?_⟩, h.2.2.2.2⟩
  · rw [wr_ne (by decide), wr_nj (by decide)]; exact h.2.2.2.1.2.1
  · rw [wr_ne (by decide), wr_nj (by decide)]; exact h.2.2.2.1.2.2
