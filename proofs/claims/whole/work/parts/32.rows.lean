/-! specs of Rows (a shelf of rows; of texts) for places that there are -/
theorem n10 : ¬ (1 : Int32) = 0 := by decide
theorem rt_2 : ∀ j, j < 6 → rt 2 j = some (3 + j) := by decide
theorem rt_11 : ∀ j, j < 4 → rt 11 j = some (12 + j) := by decide
theorem al_2 : ∀ j, j < 6 → alen 0 (3 + j) = 40 := by decide
theorem al_11 : ∀ j, j < 4 → alen 0 (12 + j) = 60 := by decide
theorem RF_2 (cd : Nat × Nat) {j : Nat} (hj : j < 6) : RF cd 2 j = some (3 + j) := rt_2 j hj
theorem RF_11 (cd : Nat × Nat) {j : Nat} (hj : j < 4) : RF cd 11 j = some (12 + j) := rt_11 j hj
/-- the first n places are v -/
def fillF (f : Nat → Int32) (n : Nat) (v : Int32) : Nat → Int32 := fun i => if i < n then v else f i
theorem fillF_0 (f : Nat → Int32) (v : Int32) : fillF f 0 v = f := by
  funext i
  simp [fillF]
theorem fillF_s (f : Nat → Int32) (n : Nat) (v : Int32) : up1 (fillF f n v) n v = fillF f (n + 1) v := by
  funext i
  simp only [up1, fillF]
  by_cases h : i = n
  · subst h; simp
  · by_cases h2 : i < n
    · simp [h, h2, Nat.lt_succ_of_lt h2]
    · simp [h, h2, show ¬ i < n + 1 by omega]
/-- the first n places as those of another -/
def takeF (f g : Nat → Int32) (n : Nat) : Nat → Int32 := fun i => if i < n then g i else f i
theorem takeF_0 (f g : Nat → Int32) : takeF f g 0 = f := by
  funext i
  simp [takeF]
theorem takeF_s (f g : Nat → Int32) (n : Nat) : up1 (takeF f g n) n (g n) = takeF f g (n + 1) := by
  funext i
  simp only [up1, takeF]
  by_cases h : i = n
  · subst h; simp
  · by_cases h2 : i < n
    · simp [h, h2, Nat.lt_succ_of_lt h2]
    · simp [h, h2, show ¬ i < n + 1 by omega]

theorem s_isOne_1 (N d : Nat) {j : Nat} (hj : j < 6) (A : AH) : arun (N + 1000000) (d + 1) 52 [rv (some 1), iv (nI j)] A = some (iv 1, A) := by
  obtain ⟨I, J, cd⟩ := A
  rw [enX8_isOne, sgX8_isOne_1_0, if_neg (nI_pos (by omega)), if_neg (nI_ge hj (by omega))]
theorem s_isOneN_1 (N d : Nat) {r : Int32} (h : r < 0 ∨ nI 6 ≤ r) (A : AH) : arun (N + 1000000) (d + 1) 52 [rv (some 1), iv r] A = some (iv 0, A) := by
  obtain ⟨I, J, cd⟩ := A
  rw [enX8_isOne, sgX8_isOne_1_0]
  rcases h with h | h
  · rw [if_pos h]
  · rw [if_pos h]
    split <;> rfl
theorem s_isThere_1 (N d : Nat) {j : Nat} (hj : j < 6) (I : Nat → Nat → Int32) (J : Nat → Nat → Int64) (cd : Nat × Nat) : arun (N + 1000000) (d + 2) 53 [rv (some 1), iv (nI j)] (I, J, cd) = some (iv (b2i (¬ I 9 j = -1)), (I, J, cd)) := by
  rw [enX8_isThere, sgX8_isThere_1_0, bI (s_isOne_1 _ _ hj _)]
  try dsimp only
  rw [if_neg n10, inb_t hj (by omega), nI_clamp (by omega), if_pos rfl]
  by_cases h : I 9 j = -1
  · rw [if_pos h, b2i_f (fun q => q h)]
  · rw [if_neg h, b2i_t h]
theorem s_sizeOf_1 (N d : Nat) {j : Nat} (hj : j < 6) (I : Nat → Nat → Int32) (J : Nat → Nat → Int64) (cd : Nat × Nat) : arun (N + 1000000) (d + 2) 54 [rv (some 1), iv (nI j)] (I, J, cd) = some (iv (mxI 0 (I 9 j)), (I, J, cd)) := by
  rw [enX8_sizeOf, sgX8_sizeOf_1_0, bI (s_isOne_1 _ _ hj _)]
  try dsimp only
  rw [if_neg n10, inb_t hj (by omega), nI_clamp (by omega), if_pos rfl, bI (s_max _ _ _ _ _)]
  try dsimp only
theorem s_sizeOfN_1 (N d : Nat) {j n : Nat} (hj : j < 6) (I : Nat → Nat → Int32) (J : Nat → Nat → Int64) (cd : Nat × Nat) (hn : I 9 j = nI n) (hl : n ≤ 40) : arun (N + 1000000) (d + 2) 54 [rv (some 1), iv (nI j)] (I, J, cd) = some (iv (nI n), (I, J, cd)) := by
  rw [s_sizeOf_1 _ _ hj, hn, show (0 : Int32) = nI 0 from rfl, mx_N (by omega) (by omega), Nat.max_eq_right (by omega)]
theorem s_holds_1 (N d : Nat) {j : Nat} (hj : j < 6) (i : Int32) (I : Nat → Nat → Int32) (J : Nat → Nat → Int64) (cd : Nat × Nat) : arun (N + 1000000) (d + 2) 55 [rv (some 1), iv (nI j), iv i] (I, J, cd) = some (iv (b2i (¬ i < 0 ∧ ¬ I 9 j ≤ i)), (I, J, cd)) := by
  rw [enX8_holds, sgX8_holds_1_0, bI (s_isOne_1 _ _ hj _)]
  try dsimp only
  rw [if_neg n10, inb_t hj (by omega), nI_clamp (by omega), if_pos rfl]
  by_cases h : i < 0
  · rw [if_pos h, b2i_f (fun q => q.1 h)]
  · rw [if_neg h]
    by_cases h2 : I 9 j ≤ i
    · rw [if_pos h2, b2i_f (fun q => q.2 h2)]
    · rw [if_neg h2, b2i_t ⟨h, h2⟩]
theorem s_holdsT_1 (N d : Nat) {j k n : Nat} (hj : j < 6) (I : Nat → Nat → Int32) (J : Nat → Nat → Int64) (cd : Nat × Nat) (hn : I 9 j = nI n) (hl : n ≤ 40) (hk : k < n) : arun (N + 1000000) (d + 2) 55 [rv (some 1), iv (nI j), iv (nI k)] (I, J, cd) = some (iv 1, (I, J, cd)) := by
  rw [s_holds_1 _ _ hj, b2i_t ⟨nI_pos (by omega), by rw [hn]; exact nI_ge hk (by omega)⟩]
theorem s_valueAt_1 (N d : Nat) {j k n : Nat} (hj : j < 6) (I : Nat → Nat → Int32) (J : Nat → Nat → Int64) (cd : Nat × Nat) (hn : I 9 j = nI n) (hl : n ≤ 40) (hk : k < n) : arun (N + 1000000) (d + 3) 57 [rv (some 1), iv (nI j), iv (nI k)] (I, J, cd) = some (iv (I (3 + j) k), (I, J, cd)) := by
  rw [enX8_valueAt, sgX8_valueAt_1_0, bI (s_holdsT_1 _ _ hj I J cd hn hl hk)]
  try dsimp only
  rw [if_neg n10, inb_t hj (by omega), nI_clamp (show j < 2 ^ 31 by omega), if_pos rfl, RF_2 _ hj, Option.bind_some, al_2 j hj, inb_t (by omega) (by omega), nI_clamp (by omega), if_pos rfl]
theorem s_change_1 (N d : Nat) {j k n : Nat} (hj : j < 6) (v : Int32) (I : Nat → Nat → Int32) (J : Nat → Nat → Int64) (cd : Nat × Nat) (hn : I 9 j = nI n) (hl : n ≤ 40) (hk : k < n) : arun (N + 1000000) (d + 3) 58 [rv (some 1), iv (nI j), iv (nI k), iv v] (I, J, cd) = some (rv none, (wr I (3 + j) k v, J, cd)) := by
  rw [enX8_change, sgX8_change_1_0, bI (s_holdsT_1 _ _ hj I J cd hn hl hk)]
  try dsimp only
  rw [if_neg n10, inb_t hj (by omega), nI_clamp (show j < 2 ^ 31 by omega), if_pos rfl, RF_2 _ hj, Option.bind_some, al_2 j hj, inb_t (by omega) (by omega), nI_clamp (by omega), if_pos rfl]
theorem l_make_1 (N d : Nat) {j n : Nat} (hj : j < 6) (hl : n ≤ 40) (v : Int32) (I : Nat → Nat → Int32) (J : Nat → Nat → Int64) (cd : Nat × Nat) : ∀ (m k f : Nat), k + m = n → m < f → EX8_make (N + 1000000) d f 30 [some (rv (some 1)), some (iv (nI j)), some (iv (nI n)), some (iv v), some (iv (nI k))] (wrC I (3 + j) (fillF (I (3 + j)) k v), J, cd) = some (rv none, (wrC I (3 + j) (fillF (I (3 + j)) n v), J, cd)) := by
  intro m
  induction m with
  | zero =>
    intro k f hk hf
    obtain ⟨g, rfl⟩ : ∃ g, f = g + 1 := ⟨f - 1, by omega⟩
    have : k = n := by omega
    subst this
    rw [sgX8_make_1_30, if_pos (Int32.le_refl _)]
  | succ m ih =>
    intro k f hk hf
    obtain ⟨g, rfl⟩ : ∃ g, f = g + 1 := ⟨f - 1, by omega⟩
    rw [sgX8_make_1_30, if_neg (nI_ge (by omega) (by omega)), inb_t hj (by omega), nI_clamp (show j < 2 ^ 31 by omega), if_pos rfl, RF_2 _ hj, Option.bind_some, al_2 j hj, inb_t (by omega) (by omega), nI_clamp (by omega), if_pos rfl, wr_wrC, fillF_s, nI_1]
    exact ih (k + 1) g (by omega) (by omega)
set_option maxHeartbeats 100000 in
theorem s_make_1 (N d : Nat) {j n : Nat} (hj : j < 6) (hl : n ≤ 40) (v : Int32) (I : Nat → Nat → Int32) (J : Nat → Nat → Int64) (cd : Nat × Nat) (hlim : I 1 0 = nI 40) : arun (N + 1000000) (d + 2) 59 [rv (some 1), iv (nI j), iv (nI n), iv v] (I, J, cd) = some (rv none, (wrC (wr I 9 j (nI n)) (3 + j) (fillF (I (3 + j)) n v), J, cd)) := by
  have e : ¬ I 1 0 < nI n := by rw [hlim]; exact nI_nlt (by omega) (by omega)
  have e2 : (wr I 9 j (nI n)) (3 + j) = I (3 + j) := by rw [wr_at, if_neg (by omega)]
  have h := l_make_1 N (d + 1) hj hl v (wr I 9 j (nI n)) J cd n 0 (N + 999999) (by omega) (by omega)
  rw [fillF_0, wrC_id, nI_0, e2] at h
  rw [enX8_make, sgX8_make_1_0, bI (s_isOne_1 _ _ hj _)]
  dsimp only
  rw [if_neg n10, if_neg (nI_pos (by omega)), if_neg e, inb_t hj (by omega), nI_clamp (by omega), if_pos rfl]
  exact h

theorem s_isOne_10 (N d : Nat) {j : Nat} (hj : j < 4) (A : AH) : arun (N + 1000000) (d + 1) 52 [rv (some 10), iv (nI j)] A = some (iv 1, A) := by
  obtain ⟨I, J, cd⟩ := A
  rw [enX8_isOne, sgX8_isOne_10_0, if_neg (nI_pos (by omega)), if_neg (nI_ge hj (by omega))]
theorem s_isOneN_10 (N d : Nat) {r : Int32} (h : r < 0 ∨ nI 4 ≤ r) (A : AH) : arun (N + 1000000) (d + 1) 52 [rv (some 10), iv r] A = some (iv 0, A) := by
  obtain ⟨I, J, cd⟩ := A
  rw [enX8_isOne, sgX8_isOne_10_0]
  rcases h with h | h
  · rw [if_pos h]
  · rw [if_pos h]
    split <;> rfl
theorem s_isThere_10 (N d : Nat) {j : Nat} (hj : j < 4) (I : Nat → Nat → Int32) (J : Nat → Nat → Int64) (cd : Nat × Nat) : arun (N + 1000000) (d + 2) 53 [rv (some 10), iv (nI j)] (I, J, cd) = some (iv (b2i (¬ I 16 j = -1)), (I, J, cd)) := by
  rw [enX8_isThere, sgX8_isThere_10_0, bI (s_isOne_10 _ _ hj _)]
  try dsimp only
  rw [if_neg n10, inb_t hj (by omega), nI_clamp (by omega), if_pos rfl]
  by_cases h : I 16 j = -1
  · rw [if_pos h, b2i_f (fun q => q h)]
  · rw [if_neg h, b2i_t h]
theorem s_sizeOf_10 (N d : Nat) {j : Nat} (hj : j < 4) (I : Nat → Nat → Int32) (J : Nat → Nat → Int64) (cd : Nat × Nat) : arun (N + 1000000) (d + 2) 54 [rv (some 10), iv (nI j)] (I, J, cd) = some (iv (mxI 0 (I 16 j)), (I, J, cd)) := by
  rw [enX8_sizeOf, sgX8_sizeOf_10_0, bI (s_isOne_10 _ _ hj _)]
  try dsimp only
  rw [if_neg n10, inb_t hj (by omega), nI_clamp (by omega), if_pos rfl, bI (s_max _ _ _ _ _)]
  try dsimp only
theorem s_sizeOfN_10 (N d : Nat) {j n : Nat} (hj : j < 4) (I : Nat → Nat → Int32) (J : Nat → Nat → Int64) (cd : Nat × Nat) (hn : I 16 j = nI n) (hl : n ≤ 60) : arun (N + 1000000) (d + 2) 54 [rv (some 10), iv (nI j)] (I, J, cd) = some (iv (nI n), (I, J, cd)) := by
  rw [s_sizeOf_10 _ _ hj, hn, show (0 : Int32) = nI 0 from rfl, mx_N (by omega) (by omega), Nat.max_eq_right (by omega)]
theorem s_holds_10 (N d : Nat) {j : Nat} (hj : j < 4) (i : Int32) (I : Nat → Nat → Int32) (J : Nat → Nat → Int64) (cd : Nat × Nat) : arun (N + 1000000) (d + 2) 55 [rv (some 10), iv (nI j), iv i] (I, J, cd) = some (iv (b2i (¬ i < 0 ∧ ¬ I 16 j ≤ i)), (I, J, cd)) := by
  rw [enX8_holds, sgX8_holds_10_0, bI (s_isOne_10 _ _ hj _)]
  try dsimp only
  rw [if_neg n10, inb_t hj (by omega), nI_clamp (by omega), if_pos rfl]
  by_cases h : i < 0
  · rw [if_pos h, b2i_f (fun q => q.1 h)]
  · rw [if_neg h]
    by_cases h2 : I 16 j ≤ i
    · rw [if_pos h2, b2i_f (fun q => q.2 h2)]
    · rw [if_neg h2, b2i_t ⟨h, h2⟩]
theorem s_holdsT_10 (N d : Nat) {j k n : Nat} (hj : j < 4) (I : Nat → Nat → Int32) (J : Nat → Nat → Int64) (cd : Nat × Nat) (hn : I 16 j = nI n) (hl : n ≤ 60) (hk : k < n) : arun (N + 1000000) (d + 2) 55 [rv (some 10), iv (nI j), iv (nI k)] (I, J, cd) = some (iv 1, (I, J, cd)) := by
  rw [s_holds_10 _ _ hj, b2i_t ⟨nI_pos (by omega), by rw [hn]; exact nI_ge hk (by omega)⟩]
theorem s_valueAt_10 (N d : Nat) {j k n : Nat} (hj : j < 4) (I : Nat → Nat → Int32) (J : Nat → Nat → Int64) (cd : Nat × Nat) (hn : I 16 j = nI n) (hl : n ≤ 60) (hk : k < n) : arun (N + 1000000) (d + 3) 57 [rv (some 10), iv (nI j), iv (nI k)] (I, J, cd) = some (iv (I (12 + j) k), (I, J, cd)) := by
  rw [enX8_valueAt, sgX8_valueAt_10_0, bI (s_holdsT_10 _ _ hj I J cd hn hl hk)]
  try dsimp only
  rw [if_neg n10, inb_t hj (by omega), nI_clamp (show j < 2 ^ 31 by omega), if_pos rfl, RF_11 _ hj, Option.bind_some, al_11 j hj, inb_t (by omega) (by omega), nI_clamp (by omega), if_pos rfl]
theorem s_change_10 (N d : Nat) {j k n : Nat} (hj : j < 4) (v : Int32) (I : Nat → Nat → Int32) (J : Nat → Nat → Int64) (cd : Nat × Nat) (hn : I 16 j = nI n) (hl : n ≤ 60) (hk : k < n) : arun (N + 1000000) (d + 3) 58 [rv (some 10), iv (nI j), iv (nI k), iv v] (I, J, cd) = some (rv none, (wr I (12 + j) k v, J, cd)) := by
  rw [enX8_change, sgX8_change_10_0, bI (s_holdsT_10 _ _ hj I J cd hn hl hk)]
  try dsimp only
  rw [if_neg n10, inb_t hj (by omega), nI_clamp (show j < 2 ^ 31 by omega), if_pos rfl, RF_11 _ hj, Option.bind_some, al_11 j hj, inb_t (by omega) (by omega), nI_clamp (by omega), if_pos rfl]
theorem l_make_10 (N d : Nat) {j n : Nat} (hj : j < 4) (hl : n ≤ 60) (v : Int32) (I : Nat → Nat → Int32) (J : Nat → Nat → Int64) (cd : Nat × Nat) : ∀ (m k f : Nat), k + m = n → m < f → EX8_make (N + 1000000) d f 30 [some (rv (some 10)), some (iv (nI j)), some (iv (nI n)), some (iv v), some (iv (nI k))] (wrC I (12 + j) (fillF (I (12 + j)) k v), J, cd) = some (rv none, (wrC I (12 + j) (fillF (I (12 + j)) n v), J, cd)) := by
  intro m
  induction m with
  | zero =>
    intro k f hk hf
    obtain ⟨g, rfl⟩ : ∃ g, f = g + 1 := ⟨f - 1, by omega⟩
    have : k = n := by omega
    subst this
    rw [sgX8_make_10_30, if_pos (Int32.le_refl _)]
  | succ m ih =>
    intro k f hk hf
    obtain ⟨g, rfl⟩ : ∃ g, f = g + 1 := ⟨f - 1, by omega⟩
    rw [sgX8_make_10_30, if_neg (nI_ge (by omega) (by omega)), inb_t hj (by omega), nI_clamp (show j < 2 ^ 31 by omega), if_pos rfl, RF_11 _ hj, Option.bind_some, al_11 j hj, inb_t (by omega) (by omega), nI_clamp (by omega), if_pos rfl, wr_wrC, fillF_s, nI_1]
    exact ih (k + 1) g (by omega) (by omega)
set_option maxHeartbeats 100000 in
theorem s_make_10 (N d : Nat) {j n : Nat} (hj : j < 4) (hl : n ≤ 60) (v : Int32) (I : Nat → Nat → Int32) (J : Nat → Nat → Int64) (cd : Nat × Nat) (hlim : I 10 0 = nI 60) : arun (N + 1000000) (d + 2) 59 [rv (some 10), iv (nI j), iv (nI n), iv v] (I, J, cd) = some (rv none, (wrC (wr I 16 j (nI n)) (12 + j) (fillF (I (12 + j)) n v), J, cd)) := by
  have e : ¬ I 10 0 < nI n := by rw [hlim]; exact nI_nlt (by omega) (by omega)
  have e2 : (wr I 16 j (nI n)) (12 + j) = I (12 + j) := by rw [wr_at, if_neg (by omega)]
  have h := l_make_10 N (d + 1) hj hl v (wr I 16 j (nI n)) J cd n 0 (N + 999999) (by omega) (by omega)
  rw [fillF_0, wrC_id, nI_0, e2] at h
  rw [enX8_make, sgX8_make_10_0, bI (s_isOne_10 _ _ hj _)]
  dsimp only
  rw [if_neg n10, if_neg (nI_pos (by omega)), if_neg e, inb_t hj (by omega), nI_clamp (by omega), if_pos rfl]
  exact h
