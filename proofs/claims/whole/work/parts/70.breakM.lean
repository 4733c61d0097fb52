/-! BREAKING: the reference; mid, odds -/
theorem l_shutM (N d : Nat) {j n : Nat} (hj : j < 6) (hn : n ≤ 4) {ss : Nat → Nat} (hs : ∀ k, ss k < 64) (I : Nat → Nat → Int32) (J : Nat → Nat → Int64) (cd : Nat × Nat) (h89 : I 89 j = nI n) (h90 : ∀ k, k < n → I 90 (40 * j + k) = nI (ss k)) : ∀ (m k f : Nat), k + m = n → EX10_shutMany (N + 1000000) (d + 1) (f + 1 + m) 4 [some (rv (some 87)), some (iv (nI j)), some (iv (nI (shN ss k))), some (iv (nI k))] (I, J, cd) = some (iv (nI (shN ss n)), (I, J, cd)) := by
  intro m
  induction m with
  | zero =>
    intro k f hk
    have : k = n := by omega
    subst this
    rw [Nat.add_zero, sgX10_shutMany_4, inb_t hj (by omega), if_pos rfl, nI_clamp (by omega), if_pos (by rw [h89]; exact Int32.le_refl _)]
  | succ m ih =>
    intro k f hk
    have es : nI (shN ss k) + nI (pc6 (ss k)) = nI (shN ss (k + 1)) := nI_add _ _
    rw [show f + 1 + (m + 1) = f + 1 + m + 1 by omega, sgX10_shutMany_4, inb_t hj (by omega), if_pos rfl, nI_clamp (by omega), if_neg (by rw [h89]; exact nI_ge (by omega) (by omega)), bI (s_rowAt _ _ hj (show k < 40 by omega) _ _ _)]
    try dsimp only
    try dsimp only
    rw [h90 k (by omega), bI (s_bits10 _ _ (hs k) _)]
    try dsimp only
    try dsimp only
    rw [es, nI_1]
    exact ih (k + 1) f (by omega)
theorem s_hasB (N d : Nat) {x k : Nat} (hx : x < 2 ^ 31) (hk : k < 16) (A : AH) : arun (N + 1000000) (d + 1) 140 [iv (nI x), iv (nI k)] A = some (iv (if x.testBit k then 1 else 0), A) := by
  obtain ⟨I, J, cd⟩ := A
  have e : x.testBit k = decide (x / 2 ^ k % 2 = 1) := Nat.testBit_eq_decide_div_mod_eq
  rw [enX10_has, sgX10_has_0, bitL hx hk]
  have hm : x / 2 ^ k % 2 = 0 ∨ x / 2 ^ k % 2 = 1 := by omega
  rcases hm with c | c
  · rw [c, if_neg (by decide), e, c]; rfl
  · rw [c, if_pos (show nI 1 = 1 from rfl), e, c]; rfl
theorem l_holdB (N d : Nat) {s b from_ : Nat} (hs : s < 64) (hb' : b < 2 ^ 13) (hf : from_ + 6 ≤ 15) (I : Nat → Nat → Int32) (J : Nat → Nat → Int64) (cd : Nat × Nat) : ∀ (m i f : Nat), i + m = 6 → EX10_holds (N + 1000000) (d + 1) (f + 1 + m) 8 [some (iv (nI s)), some (iv (nI b)), none, some (iv (nI (hbA s (b / 2 ^ from_) i).1)), some (iv (nI (from_ + (hbA s (b / 2 ^ from_) i).2))), some (iv (nI i))] (I, J, cd) = some (iv (nI (hb s (b / 2 ^ from_))), (I, J, cd)) := by
  intro m
  induction m with
  | zero =>
    intro i f hi
    have : i = 6 := by omega
    subst this
    rw [Nat.add_zero, sgX10_holds_8, if_pos (by decide)]
    rfl
  | succ m ih =>
    intro i f hi
    have i6 : i < 6 := by omega
    have ih1 := ih (i + 1) f (by omega)
    have l1 := hbA_1 s (b / 2 ^ from_) i
    have l64 : (hbA s (b / 2 ^ from_) i).1 < 64 := Nat.lt_of_lt_of_le l1 (Nat.pow_le_pow_right (n := 2) (by decide) (by omega : i ≤ 6))
    have l2 : (hbA s (b / 2 ^ from_) i).2 ≤ i := by rw [hbA_2]; exact pcN_le s i
    rw [show f + 1 + (m + 1) = f + 1 + m + 1 by omega, sgX10_holds_8, if_neg (show ¬ (6 : Int32) ≤ nI i from nI_ge (b := 6) (by omega) (by decide)), bI (s_hasB N d (show s < 2 ^ 31 by omega) (show i < 16 by omega) _)]
    try dsimp only
    try dsimp only
    by_cases c : s.testBit i = true
    · have et : (b / 2 ^ from_).testBit (hbA s (b / 2 ^ from_) i).2 = b.testBit (from_ + (hbA s (b / 2 ^ from_) i).2) := by rw [Nat.add_comm]; exact Nat.testBit_div_two_pow _ _
      rw [hbA_t c, et] at ih1
      rw [if_neg (by rw [c]; decide), bI (s_hasB N d (show b < 2 ^ 31 by omega) (show from_ + (hbA s (b / 2 ^ from_) i).2 < 16 by omega) _)]
      try dsimp only
      try dsimp only
      rw [nI_1, nI_1]
      by_cases c2 : b.testBit (from_ + (hbA s (b / 2 ^ from_) i).2) = true
      · rw [if_pos c2, Nat.add_zero] at ih1
        rw [if_neg (by rw [c2]; decide), or_zero _ l64]
        exact ih1
      · rw [if_neg c2] at ih1
        rw [if_pos (by rw [if_neg c2]), or_bit i i6 _ l64 l1]
        exact ih1
    · rw [hbA_f c] at ih1
      rw [if_pos (by rw [if_neg c]), nI_1]
      exact ih1
theorem s_holds10 (N d : Nat) {s b from_ : Nat} (hs : s < 64) (hb' : b < 2 ^ 13) (hf : from_ + 6 ≤ 15) (A : AH) : arun (N + 1000000) (d + 2) 221 [iv (nI s), iv (nI b), iv (nI from_)] A = some (iv (nI (hb s (b / 2 ^ from_))), A) := by
  obtain ⟨I, J, cd⟩ := A
  have l := l_holdB N d hs hb' hf I J cd 6 0 (N + 999992) (by omega)
  rw [show (hbA s (b / 2 ^ from_) 0).1 = 0 from rfl, show (hbA s (b / 2 ^ from_) 0).2 = 0 from rfl, Nat.add_zero, nI_0, show N + 999992 + 1 + 6 = N + 999999 from rfl] at l
  rw [enX10_holds, sgX10_holds_0]
  exact l
/-- the sets that hold, by what broke -/
def hR (ss : Nat → Nat) (b : Nat) : Nat → Nat := exB ss (fun _ => 0) 0 b
theorem hR_at (ss : Nat → Nat) (b k : Nat) : hR ss b k = hb (ss k) (b / 2 ^ shN ss k) := by
  unfold hR exB
  rw [if_neg (by omega), Nat.sub_zero, Dk0]
theorem hR_ok {P : RP} (hn : P.1 ≤ 6) {ss : Nat → Nat} (hs : ∀ k, ss k &&& gatN P = ss k) (b k : Nat) : hR ss b k &&& gatN P = hR ss b k := by
  rw [hR_at]
  exact and_sub (hb_sub (sub64 hn (hs k))) (hs k)
theorem sh12 {P : RP} (hP : okP P) {ss : Nat → Nat} (hs : ∀ k, ss k &&& gatN P = ss k) (n : Nat) : shN ss n ≤ 3 * n := by
  rw [← Dk0]; exact DkN_le hP hs n 0
theorem l_sums44 (N d : Nat) {P : RP} (hP : okP P) (h0 : 0 < P.1) {F : FS} (hw : ∀ i, F.1 i ≤ 99) {ow : Nat → Nat} (how : ∀ d, d < 7 → ow d ≤ 6) {t : Nat} (ht : t ≤ 40) {n j b : Nat} (hn : n ≤ 4) (hj : j < 6) (hb' : b < 2 ^ 13) {ss : Nat → Nat} (hs : ∀ k, ss k &&& gatN P = ss k) (x2 x3 x4 x5 : Int32) (y6 : Int64) {I : Nat → Nat → Int32} (J : Nat → Nat → Int64) (cd : Nat × Nat) (hR9 : I 87 32 = -9) (h89 : I 89 j = nI n) (h90 : ∀ k, k < n → I 90 (40 * j + k) = nI (ss k)) :
    ∀ (m k f : Nat) (B : Nat → Nat → Int32), k + m = n → mAt P P.2.2.2.2 ow t (hR ss b) F I k B → ∃ B', EX10_sums (N + 1000000) (d + 3) (f + 1 + m) 44 [some (rv (some 87)), some (iv (nI j)), some (iv x2), some (iv x3), some (iv x4), some (iv x5), some (jv y6), none, some (iv (nI b)), some (iv (nI (shN ss k))), some (iv 0), some (jv (lN (seT P ow t F (hR ss b) k))), none, some (iv (nI k)), none] (B, J, cd) = EX10_sums (N + 1000000) (d + 3) f 103 [some (rv (some 87)), some (iv (nI j)), some (iv x2), some (iv x3), some (iv x4), some (iv x5), some (jv y6), none, some (iv (nI b)), none, some (iv 0), some (jv (lN (seT P ow t F (hR ss b) n))), none, some (iv 0), none] (B', J, cd) ∧ mAt P P.2.2.2.2 ow t (hR ss b) F I n B' := by
  have hn6 := hP.1
  intro m
  induction m with
  | zero =>
    intro k f B hk hA
    have : k = n := by omega
    subst this
    refine ⟨B, ?_, hA⟩
    rw [Nat.add_zero, sgX10_sums_44, inb_t hj (by omega), if_pos rfl, nI_clamp (by omega), if_pos (by rw [hA.1 89 (by decide), h89]; exact Int32.le_refl _)]
  | succ m ih =>
    intro k f B hk hA
    have hsk := sub64 hn6 (hs k)
    have hsh := sh12 hP hs k
    obtain ⟨B1, r1, hA1, -⟩ := m_step N d hP h0 hw how ht (R9 hR9) (k := k) (by omega) (hR_ok hn6 hs b k) B J cd hA
    rw [hR_at] at r1
    obtain ⟨B', r2, rest⟩ := ih (k + 1) f B1 (by omega) hA1
    have hse : seaD P ow t F (hR ss b) k ≤ 99 := Nat.le_trans (ranN_le _ _ _ _) (wkN_le _ _ _ _ _ _ hw k _)
    have e1 : lN (seT P ow t F (hR ss b) k) + Int32.toInt64 (nI (seaN P (wkN P P.2.2.2.2 ow t (hR ss b) F k).1 (hb (ss k) (b / 2 ^ shN ss k)))) = lN (seT P ow t F (hR ss b) (k + 1)) := by
      rw [← hR_at]
      show lN (seT P ow t F (hR ss b) k) + Int32.toInt64 (nI (seaD P ow t F (hR ss b) k)) = _
      rw [nI_l (show seaD P ow t F (hR ss b) k < 2 ^ 31 by omega), lN_add]; rfl
    have es : nI (shN ss k) + nI (pc6 (ss k)) = nI (shN ss (k + 1)) := nI_add _ _
    refine ⟨B', ?_, rest⟩
    rw [show f + 1 + (m + 1) = f + 1 + m + 1 by omega, sgX10_sums_44, inb_t hj (by omega), if_pos rfl, nI_clamp (by omega), if_neg (by rw [hA.1 89 (by decide), h89]; exact nI_ge (by omega) (by omega)), bI (s_rowAt _ _ hj (show k < 40 by omega) _ _ _)]
    try dsimp only
    try dsimp only
    rw [hA.1 90 (by decide), h90 k (by omega), bI (s_holds10 N (d + 1) hsk hb' (by omega) _)]
    try dsimp only
    try dsimp only
    rw [bI r1]
    try dsimp only
    rw [bI (s_rowAt _ _ hj (show k < 40 by omega) _ _ _)]
    try dsimp only
    try dsimp only
    rw [hA1.1 90 (by decide), h90 k (by omega), bI (s_bits10 _ _ hsk _)]
    try dsimp only
    try dsimp only
    rw [e1, es, nI_1]
    exact r2
theorem l_sums103 (N d : Nat) {c b : Nat} (hc : c ≤ 12) (hb' : b < 2 ^ 13) (x1 x2 x3 x5 : Int32) (y6 y11 : Int64) (A : AH) : ∀ (m k f : Nat), k + m = c → EX10_sums (N + 1000000) d (f + m) 103 [some (rv (some 87)), some (iv x1), some (iv x2), some (iv x3), some (iv (nI c)), some (iv x5), some (jv y6), none, some (iv (nI b)), none, some (iv (nI (pcN b k))), some (jv y11), none, some (iv (nI k)), none] A = EX10_sums (N + 1000000) d f 103 [some (rv (some 87)), some (iv x1), some (iv x2), some (iv x3), some (iv (nI c)), some (iv x5), some (jv y6), none, some (iv (nI b)), none, some (iv (nI (pcN b c))), some (jv y11), none, some (iv (nI c)), none] A := by
  obtain ⟨I, J, cd⟩ := A
  intro m
  induction m with
  | zero =>
    intro k f hk
    have : k = c := by omega
    subst this
    rfl
  | succ m ih =>
    intro k f hk
    have e : nI (pcN b k) + ((nI b >>> (nI k &&& 31)) &&& 1) = nI (pcN b (k + 1)) := by
      rw [bitL (by omega) (by omega), nI_add]
      show nI (pcN b k + b / 2 ^ k % 2) = nI (pcN b k + (if b.testBit k then 1 else 0))
      rw [Nat.testBit_eq_decide_div_mod_eq]
      have hm : b / 2 ^ k % 2 = 0 ∨ b / 2 ^ k % 2 = 1 := by omega
      rcases hm with c | c <;> rw [c] <;> rfl
    rw [show f + (m + 1) = f + m + 1 by omega, sgX10_sums_103, if_neg (nI_ge (by omega) (by omega)), e, nI_1]
    exact ih (k + 1) f (by omega)
/-- what a way of breaking adds -/
def trB (p : Nat) (ss : Nat → Nat) (n : Nat) (V : (Nat → Nat) → Nat) (b : Nat) : Nat := V (hR ss b) * (p ^ pcN b (shN ss n) * (12 - p) ^ (shN ss n - pcN b (shN ss n)))
theorem sh1 : ∀ c, c ≤ 12 → (1 : Int32) <<< (nI c &&& 31) = nI (2 ^ c) := by decide +kernel
theorem l_sums (N d : Nat) {P : RP} (hP : okP P) (h0 : 0 < P.1) {F : FS} (hw : ∀ i, F.1 i ≤ 99) {ow : Nat → Nat} (how : ∀ d, d < 7 → ow d ≤ 6) {t : Nat} (ht : t ≤ 40) {n j p : Nat} (hn : n ≤ 4) (hj : j < 6) (hp : p ≤ 12) {ss : Nat → Nat} (hs : ∀ k, ss k &&& gatN P = ss k) {x2 : Int32} {V : (Nat → Nat) → Nat} (hV : (x2 = -1 ∧ V = V1 P ow t F n) ∨ ∃ og, og ≤ 99 ∧ x2 = nI og ∧ V = V2 P ow t F n og) {I : Nat → Nat → Int32} (J : Nat → Nat → Int64) (cd : Nat × Nat) (hN : noteN P (I 107) 0 F t) (hR9 : I 87 32 = -9) (h89 : I 89 j = nI n) (h90 : ∀ k, k < n → I 90 (40 * j + k) = nI (ss k)) (hup : sumN (trB p ss n V) (2 ^ shN ss n) < 2 ^ 63) :
    ∀ (m b f : Nat) (B : Nat → Nat → Int32), b + m = 2 ^ shN ss n → 30 * m < f → rAt P ow F t I B → ∃ B', EX10_sums (N + 1000000) (d + 3) f 23 [some (rv (some 87)), some (iv (nI j)), some (iv x2), some (iv (nI p)), some (iv (nI (shN ss n))), some (iv (nI (sumN F.2.1 P.1))), some (jv (lN (sumN (trB p ss n V) b))), none, some (iv (nI b)), none, none, none, none, none, none] (B, J, cd) = some (iv 1, (B', wr (wr J 87 3 (lN (sumN (trB p ss n V) (2 ^ shN ss n) / Nat.gcd (sumN (trB p ss n V) (2 ^ shN ss n)) (12 ^ shN ss n)))) 87 4 (lN (12 ^ shN ss n / Nat.gcd (sumN (trB p ss n V) (2 ^ shN ss n)) (12 ^ shN ss n))), cd)) ∧ rAt P ow F t I B' := by
  have hn6 := hP.1
  have hc := sh12 hP hs n
  have hc12 : shN ss n ≤ 12 := by omega
  have h2c : 2 ^ shN ss n ≤ 4096 := Nat.pow_le_pow_right (n := 2) (j := 12) (by decide) hc12
  have h12 : 12 ^ shN ss n < 2 ^ 44 := Nat.lt_of_le_of_lt (Nat.pow_le_pow_right (n := 12) (j := 12) (by decide) hc12) (by decide)
  intro m
  induction m with
  | zero =>
    intro b f B hb hf hB
    have : b = 2 ^ shN ss n := by omega
    subst this
    obtain ⟨g, rfl⟩ : ∃ g, f = g + 1 := ⟨f - 1, by omega⟩
    refine ⟨B, ?_, hB⟩
    rw [sgX10_sums_23, sh1 _ hc12, if_pos (Int32.le_refl _), show (12 : Int64) = lN 12 from rfl, bJ (s_powM N (d + 2) (show shN ss n ≤ 40 by omega) _)]
    try dsimp only
    try dsimp only
    rw [bI (s_fracM N (d + 2) hup (Nat.pow_pos (by decide)) h12 _ _ _)]
    try dsimp only
  | succ m ih =>
    intro b f B hb hf hB
    obtain ⟨g, rfl⟩ : ∃ g, f = g + 1 + 1 + shN ss n + 1 + n + 1 := ⟨f - (4 + shN ss n + n), by omega⟩
    have e0 : shN ss 0 = 0 := rfl
    obtain ⟨B1, r1, hA1⟩ := l_sums44 N d hP h0 hw how ht hn hj (b := b) (by omega) hs x2 (nI p) (nI (shN ss n)) (nI (sumN F.2.1 P.1)) (lN (sumN (trB p ss n V) b)) J cd (I := B) (by rw [hB.2.1 32 (by decide)]; exact hR9) (by rw [hB.1 89 (by decide)]; exact h89) (by rw [hB.1 90 (by decide)]; exact h90) n 0 (g + 1 + 1 + shN ss n) B (by omega) hB.m0
    rw [e0, nI_0, show lN (seT P ow t F (hR ss b) 0) = 0 from rfl] at r1
    have r2 := l_sums103 N (d + 3) hc12 (b := b) (by omega) (nI j) x2 (nI p) (nI (sumN F.2.1 P.1)) (lN (sumN (trB p ss n V) b)) (lN (seT P ow t F (hR ss b) n)) (B1, J, cd) (shN ss n) 0 (g + 1 + 1) (by omega)
    rw [show pcN b 0 = 0 from rfl, nI_0] at r2
    obtain ⟨B2, r3, hB2, -⟩ := m_bk N (d + 1) hn6 J cd hN hB hA1
    obtain ⟨B', r4, hB'⟩ := ih (b + 1) g B2 (by omega) (by omega) hB2
    have hpl := pcN_le b (shN ss n)
    have z := wkN_z P P.2.2.2.2 ow t (hR ss b) F n
    have eg : nI (sumN (wkN P P.2.2.2.2 ow t (hR ss b) F n).2.1 P.1) - nI (sumN F.2.1 P.1) = nI (gtN P ow t F (hR ss b) n) := by
      rw [sumN_sub z.2.1, pk_sub (by omega), Nat.add_sub_cancel_left, gt_eq hn6]
    have hgt := gt_le P ow t F (hR ss b) n
    -- the last step
    have st : ∀ y, y = lN (V (hR ss b)) → EX10_sums (N + 1000000) (d + 3) (g + 1) 155 [some (rv (some 87)), some (iv (nI j)), some (iv x2), some (iv (nI p)), some (iv (nI (shN ss n))), some (iv (nI (sumN F.2.1 P.1))), some (jv (lN (sumN (trB p ss n V) b))), none, some (iv (nI b)), none, some (iv (nI (pcN b (shN ss n)))), none, none, some (jv y), none] (B1, J, cd) = some (iv 1, (B', wr (wr J 87 3 (lN (sumN (trB p ss n V) (2 ^ shN ss n) / Nat.gcd (sumN (trB p ss n V) (2 ^ shN ss n)) (12 ^ shN ss n)))) 87 4 (lN (12 ^ shN ss n / Nat.gcd (sumN (trB p ss n V) (2 ^ shN ss n)) (12 ^ shN ss n))), cd)) := by
      intro y hy
      have e12 : (12 : Int32) - nI p = nI (12 - p) := pk_sub (a := 12) hp
      have ec : nI (shN ss n) - nI (pcN b (shN ss n)) = nI (shN ss n - pcN b (shN ss n)) := pk_sub hpl
      have et : lN (sumN (trB p ss n V) b) + lN (V (hR ss b)) * lN (p ^ pcN b (shN ss n)) * lN ((12 - p) ^ (shN ss n - pcN b (shN ss n))) = lN (sumN (trB p ss n V) (b + 1)) := by
        rw [lN_mul, lN_mul, lN_add, Nat.mul_assoc]; rfl
      rw [sgX10_sums_155, nI_l (show p < 2 ^ 31 by omega), bJ (s_powM N (d + 2) (show pcN b (shN ss n) ≤ 40 by omega) _)]
      try dsimp only
      try dsimp only
      rw [e12, ec, nI_l (show 12 - p < 2 ^ 31 by omega), bJ (s_powM N (d + 2) (show shN ss n - pcN b (shN ss n) ≤ 40 by omega) _)]
      try dsimp only
      try dsimp only
      rw [bV r3]
      try dsimp only
      rw [hy, et, nI_1]
      exact r4
    refine ⟨B', ?_, hB'⟩
    rw [sgX10_sums_23, sh1 _ hc12, if_neg (nI_ge (by omega) (by omega)), r1, r2, sgX10_sums_103, if_pos (Int32.le_refl _)]
    rcases hV with ⟨hx, hv⟩ | ⟨og, hog, hx, hv⟩
    · rw [if_neg (by rw [hx]; decide)]
      exact st _ (by rw [hv]; rfl)
    · rw [if_pos (by rw [hx]; exact nI_pos' (by omega)), bI (s_groundMany _ _ hn6 _ _ _ hA1.2.2)]
      try dsimp only
      try dsimp only
      rw [eg]
      by_cases c : og ≤ gtN P ow t F (hR ss b) n
      · rw [if_neg (by rw [hx]; exact nI_nlt c (by omega))]
        exact st _ (by rw [hv, V2, if_pos c]; rfl)
      · rw [if_pos (by rw [hx]; exact nI_lt (by omega) (by omega))]
        exact st _ (by rw [hv, V2, if_neg c]; rfl)
theorem sum_cl {P : RP} (hn : P.1 ≤ 6) {p : Nat} {ss : Nat → Nat} (hs : ∀ k, ss k &&& gatN P = ss k) {V : (Nat → Nat) → Nat} {n : Nat} (hV : ∀ h h', (∀ j, j < n → h j = h' j) → V h = V h') : sumN (trB p ss n V) (2 ^ shN ss n) = clT P p ss V n 0 (fun _ => 0) 1 := by
  rw [← br_eq hn (p := p) hs hV n 0 (fun _ => 0) 1 (by omega), Dk0]
  apply sumN_ext
  intro b _
  show V (hR ss b) * _ = 1 * V (hR ss b) * _
  rw [Nat.one_mul]
theorem V1_ext (P : RP) (ow : Nat → Nat) (t : Nat) (F : FS) (n : Nat) : ∀ h h', (∀ j, j < n → h j = h' j) → V1 P ow t F n h = V1 P ow t F n h' := fun h h' e => seT_ext P ow t F e
theorem V2_ext (P : RP) (ow : Nat → Nat) (t : Nat) (F : FS) (n og : Nat) : ∀ h h', (∀ j, j < n → h j = h' j) → V2 P ow t F n og h = V2 P ow t F n og h' := fun h h' e => by
  unfold V2
  rw [gtN_ext P ow t F e]
theorem up_lt {P : RP} (hP : okP P) {p : Nat} (hp : p ≤ 12) {ss : Nat → Nat} (hs : ∀ k, ss k &&& gatN P = ss k) {V : (Nat → Nat) → Nat} {n : Nat} (hn : n ≤ 4) (hV : ∀ h, V h ≤ 400) : clT P p ss V n 0 (fun _ => 0) 1 < 2 ^ 63 := by
  have h1 := clT_le hP.1 hp hs hV n 0 (fun _ => 0) 1
  have h2 : 12 ^ DkN ss n 0 ≤ 12 ^ 12 := Nat.pow_le_pow_right (by decide) (Nat.le_trans (DkN_le hP hs n 0) (by omega))
  have h3 : 1 * 400 * 12 ^ DkN ss n 0 ≤ 1 * 400 * 12 ^ 12 := Nat.mul_le_mul_left _ h2
  exact Nat.lt_of_le_of_lt (Nat.le_trans h1 h3) (by decide)
theorem s_sums (N d : Nat) {P : RP} (hP : okP P) (h0 : 0 < P.1) {F : FS} (hw : ∀ i, F.1 i ≤ 99) {ow : Nat → Nat} (how : ∀ d, d < 7 → ow d ≤ 6) {t : Nat} (ht : t ≤ 40) {n j p : Nat} (hn : n ≤ 4) (hj : j < 6) (hp : p ≤ 12) {ss : Nat → Nat} (hs : ∀ k, ss k &&& gatN P = ss k) {x2 : Int32} {V : (Nat → Nat) → Nat} (hV : (x2 = -1 ∧ V = V1 P ow t F n) ∨ ∃ og, og ≤ 99 ∧ x2 = nI og ∧ V = V2 P ow t F n og) (I : Nat → Nat → Int32) (J : Nat → Nat → Int64) (cd : Nat × Nat) (hA : refAt P ow I F t) (hR9 : I 87 32 = -9) (h89 : I 89 j = nI n) (h90 : ∀ k, k < n → I 90 (40 * j + k) = nI (ss k)) (hup : clT P p ss V n 0 (fun _ => 0) 1 < 2 ^ 63) (hVe : ∀ h h', (∀ j, j < n → h j = h' j) → V h = V h') :
    ∃ B, arun (N + 1000000) (d + 4) 223 [rv (some 87), iv (nI j), iv x2, iv (nI p)] (I, J, cd) = some (iv 1, (B, wr (wr J 87 3 (lN (clT P p ss V n 0 (fun _ => 0) 1 / Nat.gcd (clT P p ss V n 0 (fun _ => 0) 1) (12 ^ shN ss n)))) 87 4 (lN (12 ^ shN ss n / Nat.gcd (clT P p ss V n 0 (fun _ => 0) 1) (12 ^ shN ss n))), cd)) ∧ fr [87, 98, 99, 100, 101, 107, 108] I B ∧ f87 [18, 25, 31] I B ∧ refAt P ow B F t := by
  have hn6 := hP.1
  have hc := sh12 hP hs n
  have h2c : 2 ^ shN ss n ≤ 4096 := Nat.pow_le_pow_right (n := 2) (j := 12) (by decide) (by omega)
  obtain ⟨B4, r4, f4, n4⟩ := s_begin N (d + 1) hn6 I J cd hA
  have ls := l_shutM N (d + 2) hj hn (ss := ss) (fun k => sub64 hn6 (hs k)) I J cd h89 h90 n 0 (N + 999998 - n) (by omega)
  rw [show shN ss 0 = 0 from rfl, nI_0, show N + 999998 - n + 1 + n = N + 999999 by omega] at ls
  have rs : arun (N + 1000000) (d + 3) 220 [rv (some 87), iv (nI j)] (I, J, cd) = some (iv (nI (shN ss n)), (I, J, cd)) := by
    have ls' := l_shutM N (d + 1) hj hn (ss := ss) (fun k => sub64 hn6 (hs k)) I J cd h89 h90 n 0 (N + 999998 - n) (by omega)
    rw [show shN ss 0 = 0 from rfl, nI_0, show N + 999998 - n + 1 + n = N + 999999 by omega] at ls'
    rw [enX10_shutMany, sgX10_shutMany_0]
    exact ls'
  rw [← sum_cl hn6 hs hVe] at hup ⊢
  obtain ⟨B, r, hB⟩ := l_sums N d hP h0 hw how ht hn hj hp hs hV J cd n4 (by rw [f4 87 (by decide)]; exact hR9) (by rw [f4 89 (by decide)]; exact h89) (by rw [f4 90 (by decide)]; exact h90) hup (2 ^ shN ss n) 0 (N + 999999) B4 (by omega) (by omega) ⟨fr.rf, f87.rf, hA.eq (fun a h1 h2 => f4 a (by simp; omega)) (by rw [f4 87 (by decide)]) (by rw [f4 87 (by decide)]) (by rw [f4 87 (by decide)])⟩
  rw [show sumN (trB p ss n V) 0 = 0 from rfl, show lN 0 = (0 : Int64) from rfl, nI_0] at r
  refine ⟨B, ?_, (f4.mo (by decide)).tr (hB.1.mo (by decide)), fun k hk => by rw [hB.2.1 k hk, f4 87 (by decide)], hB.2.2⟩
  rw [enX10_sums, sgX10_sums_0, bI rs]
  try dsimp only
  rw [bI (s_groundMany _ _ hn6 _ _ _ hA)]
  try dsimp only
  try dsimp only
  rw [bV r4]
  exact r
theorem s_twO (N d : Nat) {p : Nat} (hp : p ≤ 12) (A : AH) : arun (N + 1000000) (d + 1) 126 [iv (nI p)] A = some (iv 1, A) := by
  obtain ⟨I, J, cd⟩ := A
  rw [enX9_isOfTwelve, sgX9_isOfTwelve_0, if_neg (nI_pos (by omega)), if_neg (show ¬ (12 : Int32) < nI p from nI_nlt (a := 12) hp (by decide))]
theorem s_twB (N d : Nat) {x : Int32} (h : x < 0 ∨ nI 13 ≤ x) (A : AH) : arun (N + 1000000) (d + 1) 126 [iv x] A = some (iv 0, A) := by
  obtain ⟨I, J, cd⟩ := A
  rw [enX9_isOfTwelve, sgX9_isOfTwelve_0]
  by_cases c : x < 0
  · rw [if_pos c]
  · rw [if_neg c, if_pos (show (12 : Int32) < x from i_le_lt (k := 12) (by decide) (h.resolve_left c))]
/-- what both come to, once the PLAN is taken -/
theorem br_main (N d : Nat) {I : Nat → Nat → Int32} {J : Nat → Nat → Int64} (h : Rel I J) {P : RP} {ow : Nat → Nat} {F : FS} {D : Nat} (hP : okP P) (how : ∀ d, d < 7 → ow d ≤ 6) (hC : courN P ow I 73) (hD : D ≤ 40) (h25 : I 25 0 = nI D) (hFl : flowAt I F) (hRf : refAt P ow I F D) (h32 : I 87 32 = -9) (hw : ∀ i, F.1 i ≤ 99) (h0 : 0 < P.1) {j n p og : Nat} (hj : j < 6) (hn : n ≤ 4) (hp : p ≤ 12) (hog : og ≤ 99) {ss : Nat → Nat} (hs : ∀ k, ss k &&& gatN P = ss k) (h9 : I 9 j = nI n) (h89 : I 89 j = nI n) (hv : ∀ k, k < n → I (3 + j) k = nI (ss k) ∧ I 90 (40 * j + k) = nI (ss k)) :
    ∃ B1 B2 J2, arun (N + 1000000) (d + 19) 61 [rv (some 1), iv (nI j), rv (some 62)] (I, J, 73, 80) = some (rv none, (B1, J, 73, 80)) ∧ B1 25 0 = nI D ∧ B1 9 j = nI n ∧ arun (N + 1000000) (d + 19) 11 [rv (some 61), rv (some 73), rv (some 20), iv (nI D), iv (nI n), iv (nI og), iv (nI p)] (B1, J, 73, 80) = some (rv none, (B2, J2, 73, 80)) ∧
      (∀ {x2 : Int32} {V : (Nat → Nat) → Nat} {f : Nat}, ((x2 = -1 ∧ V = V1 P ow D F n ∧ f = 1) ∨ (x2 = nI og ∧ V = V2 P ow D F n og ∧ f = 2)) → ∃ J3 B4 J4, arun (N + 1000000) (d + 19) 113 [rv (some 0), jv (J2 61 f), jv (J2 61 3)] (B2, J2, 73, 80) = some (rv none, (B2, J3, 73, 80)) ∧ arun (N + 1000000) (d + 19) 195 [rv (some 87), iv (nI j), iv 4] (B2, J3, 73, 80) = some (iv 0, (B2, J3, 73, 80)) ∧ arun (N + 1000000) (d + 19) 223 [rv (some 87), iv (nI j), iv x2, iv (nI p)] (B2, J3, 73, 80) = some (iv 1, (B4, J4, 73, 80)) ∧ Rel B4 J4) := by
  have hn6 := hP.1
  obtain ⟨B1, r1, f1, x1⟩ := s_give_62 N (d + 16) hj hn I J (73, 80) h9
  obtain ⟨B2, J2, r2, f2, jj, j1, j2, j3⟩ := s_weigh N (d + 7) hP h0 hog hp hD hw hn hs B1 J (73, 80) (hC.eq (fun a h1 h2 => f1 a (by simp; omega))) (hFl.eq (fun a h1 h2 => f1 a (by simp; omega))) (fun i hi => by rw [x1 i hi]; exact (hv i hi).1)
  refine ⟨B1, B2, J2, r1, by rw [f1 25 (by decide)]; exact h25, by rw [f1 9 (by decide)]; exact h9, r2, ?_⟩
  intro x2 V f hc
  have fX : fr [61, 62, 63, 64, 66, 67, 68, 69, 70, 71] I B2 := (f1.mo (by intro a; simp <;> omega)).tr (f2.mo (by intro a; simp <;> omega))
  have hR2 : refAt P ow B2 F D := hRf.eq (fun a h1 h2 => fX a (by simp; omega)) (by rw [fX 87 (by decide)]) (by rw [fX 87 (by decide)]) (by rw [fX 87 (by decide)])
  have hVl : ∀ h, V h ≤ 400 := by
    rcases hc with ⟨-, hv, -⟩ | ⟨-, hv, -⟩
    · intro h; rw [hv]; have := seT_le P ow D F hw h n; show seT P ow D F h n ≤ 400; omega
    · intro h; rw [hv]; unfold V2; split <;> omega
  have hVe : ∀ h h', (∀ j, j < n → h j = h' j) → V h = V h' := by
    rcases hc with ⟨-, hv, -⟩ | ⟨-, hv, -⟩
    · rw [hv]; exact V1_ext P ow D F n
    · rw [hv]; exact V2_ext P ow D F n og
  have ejf : J2 61 f = lN (clT P p ss V n 0 (fun _ => 0) 1) := by
    rcases hc with ⟨-, hv, hf⟩ | ⟨-, hv, hf⟩
    · rw [hv, hf]; exact j1
    · rw [hv, hf]; exact j2
  have hup := up_lt hP hp hs hn hVl
  have hcc := sh12 hP hs n
  have h12 : 12 ^ shN ss n < 2 ^ 44 := Nat.lt_of_le_of_lt (Nat.pow_le_pow_right (n := 12) (j := 12) (by decide) (by omega)) (by decide)
  have hx : (x2 = -1 ∧ V = V1 P ow D F n) ∨ ∃ og, og ≤ 99 ∧ x2 = nI og ∧ V = V2 P ow D F n og := hc.elim (fun q => Or.inl ⟨q.1, q.2.1⟩) (fun q => Or.inr ⟨og, hog, q.1, q.2.1⟩)
  have rX := s_fracX N (d + 17) hup (Nat.pow_pos (n := shN ss n) (show 0 < 12 by decide)) h12 B2 J2
  obtain ⟨B4, r4, f4, g4, hR4⟩ := s_sums N (d + 15) hP h0 hw how hD hn hj hp hs hx B2 (wr (wr J2 0 15 (lN (clT P p ss V n 0 (fun _ => 0) 1 / Nat.gcd (clT P p ss V n 0 (fun _ => 0) 1) (12 ^ shN ss n)))) 0 16 (lN (12 ^ shN ss n / Nat.gcd (clT P p ss V n 0 (fun _ => 0) 1) (12 ^ shN ss n)))) (73, 80) hR2 (by rw [fX 87 (by decide)]; exact h32) (by rw [fX 89 (by decide)]; exact h89) (fun k hk => by rw [fX 90 (by decide)]; exact (hv k hk).2) hup hVe
  have kM := m_planO N (d + 15) hP h0 (j := j) (mo := 4) hj (by omega) hn B2 (wr (wr J2 0 15 (lN (clT P p ss V n 0 (fun _ => 0) 1 / Nat.gcd (clT P p ss V n 0 (fun _ => 0) 1) (12 ^ shN ss n)))) 0 16 (lN (12 ^ shN ss n / Nat.gcd (clT P p ss V n 0 (fun _ => 0) 1) (12 ^ shN ss n)))) (73, 80) hR2.1 (fun i hi => (hR2.2.2.2.1 i hi).1) (by rw [fX 89 (by decide)]; exact h89) (fun k hk => by rw [fX 90 (by decide), (hv k hk).2]; exact CS.in hn6 (hs k))
  rw [show nI 4 = (4 : Int32) from rfl] at kM
  refine ⟨_, B4, _, by rw [ejf, j3]; exact rX, kM, r4, ?_⟩
  have e0 : B4 0 = I 0 := by rw [f4 0 (by decide), fX 0 (by decide)]
  have e87 : ∀ k, k ∉ [18, 25, 31] → B4 87 k = I 87 k := fun k hk => by rw [g4 k hk, fX 87 (by decide)]
  exact h.trial hn6 hRf hR4 ((fX.mo (by decide)).tr (f4.mo (by decide))) (fun i _ => by rw [e0]) (e87 0 (by decide)) (e87 32 (by decide)) (by rw [e0, e87 2 (by decide)]; exact h.2.2.2.1.1) (jj_ok _ _ _)
def s0 (n : Nat) (ss : Nat → Nat) : Nat → Nat := fun k => if k < n then ss k else 0
theorem op_mid (r x : Int32) : OK2 102 224 [iv r, iv x] := by
  intro N d I J h
  obtain ⟨P, ow, F, D, hP, how, hC, hD, h25, hFl, hRf, h32, hw⟩ := h.un
  have hn := hP.1
  have in12 : ∀ {k : Nat}, k ≤ 12 → (¬ nI k < 0 ∧ ¬ (12 : Int32) < nI k) := fun hk => ⟨nI_pos (by omega), nI_nlt (a := 12) hk (by decide)⟩
  rcases ixc x 13 (by decide) with hx | ⟨p, hp, rfl⟩
  · refine ⟨iv (-1), I, J, I, J, ?_, ?_, h⟩
    · rw [enX9_mid, sgX9_mid_0, bI (s_twB _ _ hx _)]
      try dsimp only
      try dsimp only
      rw [bI (x_planB _ _ _ _ _ _)]
      try dsimp only
      try dsimp only
      rw [if_neg (by decide)]
    · rw [enX10_mid, sgX10_mid_0, bI (s_in _ _ _ _ _ _)]
      try dsimp only
      try dsimp only
      rw [b2i_f (fun q => hx.elim q.1 (fun z => q.2 (i_le_lt (k := 12) (by decide) z))), if_pos rfl, show N + 999999 = N + 999998 + 1 from rfl, sgX10_mid_21, if_neg (by decide)]
  · have pc := plan_cases N (d + 13) h hP hC hRf r (mo := 4) (by omega)
    rw [show nI 4 = (4 : Int32) from rfl] at pc
    rcases pc with ⟨v, I1, I2, hv, hv2, -, kX, kM, -, hR⟩ | ⟨h0, j, n, ss, hj, rfl, hnm, h9, h89, hss, kX⟩
    · refine ⟨iv v, I1, J, I2, J, ?_, ?_, hR⟩
      · rw [enX9_mid, sgX9_mid_0, bI (s_twO _ _ (show p ≤ 12 by omega) _)]
        try dsimp only
        try dsimp only
        rw [bI kX]
        try dsimp only
        rw [if_neg hv]
      · rw [enX10_mid, sgX10_mid_0, bI (s_in _ _ _ _ _ _)]
        try dsimp only
        try dsimp only
        rw [b2i_t (in12 (by omega)), if_neg n10, bI kM]
        try dsimp only
        rw [show N + 999999 = N + 999998 + 1 from rfl, sgX10_mid_21, if_neg hv2]
    · have hs0 : ∀ k, s0 n ss k &&& gatN P = s0 n ss k := fun k => by
        unfold s0
        by_cases c : k < n
        · rw [if_pos c]; exact (hss k c).2.2
        · rw [if_neg c, Nat.zero_and]
      obtain ⟨B1, B2, J2, r1, q25, q9, r2, fin⟩ := br_main N d h hP how hC hD h25 hFl hRf h32 hw h0 hj hnm (p := p) (og := 0) (by omega) (by omega) hs0 h9 h89 (fun k hk => by rw [show s0 n ss k = ss k from if_pos hk]; exact ⟨(hss k hk).1, (hss k hk).2.1⟩)
      obtain ⟨J3, B4, J4, r3, r4, r5, hR⟩ := fin (Or.inl ⟨rfl, rfl, rfl⟩)
      rw [nI_0] at r2
      refine ⟨iv 1, B2, J3, B4, J4, ?_, ?_, hR⟩
      · rw [enX9_mid, sgX9_mid_0, bI (s_twO _ _ (show p ≤ 12 by omega) _)]
        try dsimp only
        try dsimp only
        rw [bI kX]
        try dsimp only
        rw [if_pos rfl, bV r1]
        try dsimp only
        rw [bI (s_sizeOfN_1 N (d + 17) hj B1 J (73, 80) q9 (by omega))]
        try dsimp only
        try dsimp only
        rw [q25, bV r2]
        try dsimp only
        rw [bV r3]
      · rw [enX10_mid, sgX10_mid_0, bI (s_in _ _ _ _ _ _)]
        try dsimp only
        try dsimp only
        rw [b2i_t (in12 (by omega)), if_neg n10, bI r4]
        try dsimp only
        rw [show N + 999999 = N + 999998 + 1 from rfl, sgX10_mid_21, if_pos (by decide), bI r5]
theorem op_odds (r g x : Int32) : OK2 103 225 [iv r, iv g, iv x] := by
  intro N d I J h
  obtain ⟨P, ow, F, D, hP, how, hC, hD, h25, hFl, hRf, h32, hw⟩ := h.un
  have hn := hP.1
  have in12 : ∀ {k : Nat}, k ≤ 12 → (¬ nI k < 0 ∧ ¬ (12 : Int32) < nI k) := fun hk => ⟨nI_pos (by omega), nI_nlt (a := 12) hk (by decide)⟩
  have badX : ∀ (n : Nat), EX9_odds (N + 1000000) (d + 19) (n + 1) 30 [some (rv (some 0)), some (iv r), some (iv g), some (iv x), some (iv (-1))] (I, J, 73, 80) = some (iv (-1), (I, J, 73, 80)) := fun n => by
    rw [sgX9_odds_30, if_neg (by decide)]
  have badM : ∀ (n : Nat), EX10_odds (N + 1000000) (d + 19) (n + 1 + 1) 20 [some (rv (some 87)), some (iv r), some (iv g), some (iv x), none] (I, J, 73, 80) = some (iv (-1), (I, J, 73, 80)) := fun n => by
    rw [sgX10_odds_20, sgX10_odds_32, if_neg (by decide)]
  rcases ixc x 13 (by decide) with hx | ⟨p, hp, rfl⟩
  · refine ⟨iv (-1), I, J, I, J, ?_, ?_, h⟩
    · rw [enX9_odds, sgX9_odds_0, bI (s_twB _ _ hx _)]
      try dsimp only
      try dsimp only
      rw [if_pos rfl, bI (x_planB _ _ _ _ _ _)]
      try dsimp only
      try dsimp only
      exact badX (N + 999998)
    · rw [enX10_odds, sgX10_odds_0, bI (s_in _ _ _ _ _ _)]
      try dsimp only
      try dsimp only
      rw [b2i_f (fun q => hx.elim q.1 (fun z => q.2 (i_le_lt (k := 12) (by decide) z))), if_pos rfl]
      exact badM (N + 999997)
  · rcases ixc g 100 (by decide) with hg | ⟨og, hog, rfl⟩
    · refine ⟨iv (-1), I, J, I, J, ?_, ?_, h⟩
      · rw [enX9_odds, sgX9_odds_0, bI (s_twO _ _ (show p ≤ 12 by omega) _)]
        try dsimp only
        try dsimp only
        rw [if_neg n10]
        by_cases c : g < 0
        · rw [if_pos c, bI (x_planB _ _ _ _ _ _)]
          try dsimp only
          try dsimp only
          exact badX (N + 999998)
        · rw [if_neg c, if_pos (show (99 : Int32) < g from i_le_lt (k := 99) (by decide) (hg.resolve_left c)), bI (x_planB _ _ _ _ _ _)]
          try dsimp only
          try dsimp only
          exact badX (N + 999998)
      · rw [enX10_odds, sgX10_odds_0, bI (s_in _ _ _ _ _ _)]
        try dsimp only
        try dsimp only
        rw [b2i_t (in12 (by omega)), if_neg n10, bI (s_in _ _ _ _ _ _)]
        try dsimp only
        try dsimp only
        rw [b2i_f (fun q => hg.elim q.1 (fun z => q.2 (i_le_lt (k := 99) (by decide) z))), if_pos rfl]
        exact badM (N + 999997)
    · have in99 : (¬ nI og < 0 ∧ ¬ (99 : Int32) < nI og) := ⟨nI_pos (by omega), nI_nlt (a := 99) (by omega) (by decide)⟩
      have pc := plan_cases N (d + 13) h hP hC hRf r (mo := 4) (by omega)
      rw [show nI 4 = (4 : Int32) from rfl] at pc
      rcases pc with ⟨v, I1, I2, hv, hv2, -, kX, kM, -, hR⟩ | ⟨h0, j, n, ss, hj, rfl, hnm, h9, h89, hss, kX⟩
      · refine ⟨iv v, I1, J, I2, J, ?_, ?_, hR⟩
        · rw [enX9_odds, sgX9_odds_0, bI (s_twO _ _ (show p ≤ 12 by omega) _)]
          try dsimp only
          try dsimp only
          rw [if_neg n10, if_neg in99.1, if_neg in99.2, bI kX]
          try dsimp only
          rw [show N + 999999 = N + 999998 + 1 from rfl, sgX9_odds_30, if_neg hv]
        · rw [enX10_odds, sgX10_odds_0, bI (s_in _ _ _ _ _ _)]
          try dsimp only
          try dsimp only
          rw [b2i_t (in12 (by omega)), if_neg n10, bI (s_in _ _ _ _ _ _)]
          try dsimp only
          try dsimp only
          rw [b2i_t in99, if_neg n10, bI kM]
          try dsimp only
          rw [show N + 999999 = N + 999998 + 1 from rfl, sgX10_odds_32, if_neg hv2]
      · have hs0 : ∀ k, s0 n ss k &&& gatN P = s0 n ss k := fun k => by
          unfold s0
          by_cases c : k < n
          · rw [if_pos c]; exact (hss k c).2.2
          · rw [if_neg c, Nat.zero_and]
        obtain ⟨B1, B2, J2, r1, q25, q9, r2, fin⟩ := br_main N d h hP how hC hD h25 hFl hRf h32 hw h0 hj hnm (p := p) (og := og) (by omega) (by omega) hs0 h9 h89 (fun k hk => by rw [show s0 n ss k = ss k from if_pos hk]; exact ⟨(hss k hk).1, (hss k hk).2.1⟩)
        obtain ⟨J3, B4, J4, r3, r4, r5, hR⟩ := fin (Or.inr ⟨rfl, rfl, rfl⟩)
        refine ⟨iv 1, B2, J3, B4, J4, ?_, ?_, hR⟩
        · rw [enX9_odds, sgX9_odds_0, bI (s_twO _ _ (show p ≤ 12 by omega) _)]
          try dsimp only
          try dsimp only
          rw [if_neg n10, if_neg in99.1, if_neg in99.2, bI kX]
          try dsimp only
          rw [show N + 999999 = N + 999998 + 1 from rfl, sgX9_odds_30, if_pos rfl, bV r1]
          try dsimp only
          rw [bI (s_sizeOfN_1 N (d + 17) hj B1 J (73, 80) q9 (by omega))]
          try dsimp only
          try dsimp only
          rw [q25, bV r2]
          try dsimp only
          rw [bV r3]
        · rw [enX10_odds, sgX10_odds_0, bI (s_in _ _ _ _ _ _)]
          try dsimp only
          try dsimp only
          rw [b2i_t (in12 (by omega)), if_neg n10, bI (s_in _ _ _ _ _ _)]
          try dsimp only
          try dsimp only
          rw [b2i_t in99, if_neg n10, bI r4]
          try dsimp only
          rw [show N + 999999 = N + 999998 + 1 from rfl, sgX10_odds_32, if_pos (by decide), bI r5]
