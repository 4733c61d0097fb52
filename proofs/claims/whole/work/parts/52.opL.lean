/-! lots -/
/-- the bit of a LOT that a gate takes -/
def lbN (P : RP) : Nat → Nat
  | 0 => 3
  | i + 1 => lbN P i + (if isG (P.2.1 i) then 1 else 0)
/-- what is SHUT by a LOT -/
def lsN (P : RP) (q n : Nat) : Nat := bitsN (fun i => isG (P.2.1 i) && decide (q / 2 ^ lbN P i % 2 = 1)) n
theorem lb_le (P : RP) : ∀ i, lbN P i ≤ 3 + i
  | 0 => by simp [lbN]
  | i + 1 => by
    have := lb_le P i
    simp only [lbN]
    split <;> omega
theorem ls_sub (P : RP) (q : Nat) : lsN P q P.1 &&& gatN P = lsN P q P.1 := by
  apply Nat.eq_of_testBit_eq
  intro i
  rw [Nat.testBit_and, lsN, gatN, bitsN_test, bitsN_test]
  cases decide (i < P.1) <;> cases isG (P.2.1 i) <;> simp
theorem sm31 : ∀ b, b < 16 → ((nI b &&& 31).toBitVec.smod 32).toNat = b := by decide +kernel
theorem sh0 : ∀ i, i < 6 → (0 : Int32) <<< (nI i &&& 31) = 0 := by decide +kernel
theorem bitL {q b : Nat} (hq : q < 2 ^ 31) (hb : b < 16) : (nI q >>> (nI b &&& 31)) &&& 1 = nI (q / 2 ^ b % 2) := by
  rw [pk_shrN hq _ b (sm31 b hb)]
  have : q / 2 ^ b ≤ q := Nat.div_le_self _ _
  exact pk_andN (by omega) 1 (by decide)
theorem l_byLot (N d : Nat) {P : RP} (hP : okP P) {ow : Nat → Nat} {q : Nat} (hq : q < 2 ^ 31) (I : Nat → Nat → Int32) (J : Nat → Nat → Int64) (cd : Nat × Nat) (hC : courN P ow I 73) : ∀ (m i f : Nat), i + m = P.1 → EX2_setByLot (N + 1000000) d (f + 1 + m) 7 [some (rv (some 73)), some (iv (nI q)), some (iv (nI (lsN P q i))), some (iv (nI (lbN P i))), some (iv (nI i))] (I, J, cd) = some (iv (nI (lsN P q P.1)), (I, J, cd)) := by
  have hn := hP.1
  have hg6 : gatN P < 64 := bitsN_64 _ hn
  intro m
  induction m with
  | zero =>
    intro i f hi
    have : i = P.1 := by omega
    subst this
    rw [Nat.add_zero, sgX2_setByLot_7, if_pos (by rw [hC.1]; exact Int32.le_refl _)]
  | succ m ih =>
    intro i f hi
    have hil : i < P.1 := by omega
    have hb := bitsN_lt (fun i => isG (P.2.1 i) && decide (q / 2 ^ lbN P i % 2 = 1)) i
    have hb6 := bitsN_64 (fun i => isG (P.2.1 i) && decide (q / 2 ^ lbN P i % 2 = 1)) (n := i) (by omega)
    have htb : (gatN P).testBit i = isG (P.2.1 i) := by
      rw [gatN, bitsN_test]; simp [hil]
    have sb := sh_bit _ hg6 i (show i < 6 by omega)
    have hlb := lb_le P i
    have := ih (i + 1) f (by omega)
    rw [show f + 1 + (m + 1) = f + 1 + m + 1 by omega, sgX2_setByLot_7, if_neg (by rw [hC.1]; exact nI_ge hil (by omega)), nI_1]
    have hcc : isG (P.2.1 i) = true ∨ isG (P.2.1 i) = false := by cases isG (P.2.1 i) <;> simp
    rcases hcc with c | c
    · rw [htb, c] at sb
      rw [if_neg (by rw [hC.2.1, sb]; decide), bitL hq (by omega), nI_1]
      have e2 : lbN P (i + 1) = lbN P i + 1 := by simp only [lbN, c, if_true]
      rw [e2] at this
      have h2 : q / 2 ^ lbN P i % 2 = 0 ∨ q / 2 ^ lbN P i % 2 = 1 := by omega
      rcases h2 with z | z
      · have e1 : lsN P q (i + 1) = lsN P q i := by
          show bitsN _ i + _ = _
          simp [z, lsN]
        rw [e1] at this
        rw [z, show nI 0 = 0 from rfl, sh0 i (by omega), or0]
        exact this
      · have e1 : lsN P q (i + 1) = lsN P q i + 2 ^ i := by
          show bitsN _ i + _ = _
          simp [z, c, lsN]
        rw [e1] at this
        rw [z, show nI 1 = 1 from rfl, lsN, or_bit i (by omega) _ hb6 hb]
        exact this
    · rw [htb, c] at sb
      have e2 : lbN P (i + 1) = lbN P i := by simp [lbN, c]
      have e1 : lsN P q (i + 1) = lsN P q i := by
        show bitsN _ i + _ = _
        simp [c, lsN]
      rw [e1, e2] at this
      rw [if_pos (by rw [hC.2.1, sb]; decide)]
      exact this
theorem s_byLot (N d : Nat) {P : RP} (hP : okP P) {ow : Nat → Nat} {q : Nat} (hq : q < 2 ^ 31) (I : Nat → Nat → Int32) (J : Nat → Nat → Int64) (cd : Nat × Nat) (hC : courN P ow I 73) : arun (N + 1000000) (d + 1) 21 [rv (some 73), iv (nI q)] (I, J, cd) = some (iv (nI (lsN P q P.1)), (I, J, cd)) := by
  have hn := hP.1
  have l := l_byLot N d hP hq I J cd hC P.1 0 (N + 999998 - P.1) (by omega)
  rw [show lsN P q 0 = 0 from rfl, show lbN P 0 = 3 from rfl, nI_0] at l
  rw [enX2_setByLot, sgX2_setByLot_0, show N + 999999 = N + 999998 - P.1 + 1 + P.1 by omega]
  exact l
def qN (q0 : Nat) : Nat → Nat
  | 0 => q0
  | k + 1 => qN q0 k * 48271 % 2147483647
def lotD (P : RP) (ow : Nat → Nat) (D q0 : Nat) (sh vl : Nat → Nat) : Nat → (Nat → Nat) × (Nat → Nat)
  | 0 => (sh, vl)
  | k + 1 => (up1 (lotD P ow D q0 sh vl k).1 (D + k) (lsN P (qN q0 (k + 1)) P.1), up1 (lotD P ow D q0 sh vl k).2 (D + k) (ow ((D + k) % 7)))
def lotC (P : RP) (ow : Nat → Nat) (D q0 : Nat) (sh vl : Nat → Nat) : Nat → Nat
  | 0 => 0
  | k + 1 => lotC P ow D q0 sh vl k + seaN P (flowN P (lotD P ow D q0 sh vl k).1 (lotD P ow D q0 sh vl k).2 (D + k)).1 (lsN P (qN q0 (k + 1)) P.1)
theorem qN_lt {q0 : Nat} (h : q0 < 2147483647) : ∀ k, qN q0 k < 2147483647
  | 0 => h
  | k + 1 => Nat.mod_lt _ (by decide)
theorem qN_l {q0 : Nat} (h : q0 < 2147483647) (k : Nat) : lN (qN q0 k) * 48271 - lN (qN q0 k) * 48271 / 2147483647 * 2147483647 = lN (qN q0 (k + 1)) := by
  have := qN_lt h k
  rw [show (48271 : Int64) = lN 48271 from rfl, show (2147483647 : Int64) = lN 2147483647 from rfl, lN_mul]
  exact pk_lRem (by omega) (by decide) (by decide)
theorem l_xlots (N d : Nat) {P : RP} (hP : okP P) (h0 : 0 < P.1) {ow : Nat → Nat} (how : ∀ d, d < 7 → ow d ≤ 6) {D n q0 : Nat} (hDn : D + n ≤ 40) (hq0 : q0 < 2147483647) {sh vl : Nat → Nat} (I : Nat → Nat → Int32) (J : Nat → Nat → Int64) (hC : courN P ow I 73) :
    ∀ (m k f : Nat) (B : Nat → Nat → Int32), k + m = n → fr [20, 21, 22, 23, 24, 25, 26, 27] I B → XS P (D + k) (lotD P ow D q0 sh vl k).1 (lotD P ow D q0 sh vl k).2 B → ∃ B', EX9_lots (N + 1000000) (d + 4) (f + 1 + m) 66 [some (rv (some 0)), some (iv (nI n)), none, some (jv (lN (qN q0 k))), none, some (iv (nI (lotC P ow D q0 sh vl k))), some (iv (nI k))] (B, J, 73, 80) = some (iv (nI (lotC P ow D q0 sh vl n)), (B', J, 73, 80)) ∧ fr [20, 21, 22, 23, 24, 25, 26, 27] I B' ∧ XS P (D + n) (lotD P ow D q0 sh vl n).1 (lotD P ow D q0 sh vl n).2 B' := by
  have hn := hP.1
  intro m
  induction m with
  | zero =>
    intro k f B hk hB hX
    have : k = n := by omega
    subst this
    exact ⟨B, by rw [Nat.add_zero, sgX9_lots_66, if_pos (Int32.le_refl _)], hB, hX⟩
  | succ m ih =>
    intro k f B hk hB hX
    have hCB : courN P ow B 73 := hC.eq (fun a h1 h2 => hB a (by simp; omega))
    have hql := qN_lt hq0 (k + 1)
    obtain ⟨B1, r1, f1, hX1⟩ := s_passTruly N d hP h0 how (D := D + k) (by omega) (ls_sub P (qN q0 (k + 1))) B J hCB hX
    obtain ⟨B', r2, f2, hX2⟩ := ih (k + 1) f B1 (by omega) (hB.tr f1) hX1
    refine ⟨B', ?_, f2, hX2⟩
    rw [show f + 1 + (m + 1) = f + 1 + m + 1 by omega, sgX9_lots_66, if_neg (nI_ge (by omega) (by omega)), qN_l hq0 k, lN_i, bI (s_byLot _ _ hP (by omega) _ _ _ hCB)]
    try dsimp only
    try dsimp only
    rw [bI r1]
    try dsimp only
    rw [nI_add, nI_1]
    exact r2
theorem l_mlots2 (N d : Nat) {P : RP} (hP : okP P) {q : Nat} (hq : q < 2 ^ 31) (x1 x5 x6 : Int32) (I : Nat → Nat → Int32) (J : Nat → Nat → Int64) (cd : Nat × Nat) (h10 : I 87 10 = nI P.1) (h96 : ∀ i, i < P.1 → I 96 i = nI (P.2.1 i)) : ∀ (m i f : Nat), i + m = P.1 → 2 * m < f → ∃ g, f ≤ g + 1 + 2 * m ∧ EX10_lots (N + 1000000) (d + 1) f 85 [some (rv (some 87)), some (iv x1), none, some (jv (lN q)), none, some (iv x5), some (iv x6), some (iv (nI (lsN P q i))), some (jv (lN (q / 2 ^ lbN P i))), none, some (iv (nI i))] (I, J, cd) = (cI (arun (N + 1000000) (d + 1)) 181 [rv (some 87), iv (nI (lsN P q P.1))] (I, J, cd)).bind fun r1 => EX10_lots (N + 1000000) (d + 1) g 56 [some (rv (some 87)), some (iv x1), none, some (jv (lN q)), none, some (iv (x5 + r1.1)), some (iv (x6 + 1)), none, none, none, none] r1.2 := by
  have hn := hP.1
  intro m
  induction m with
  | zero =>
    intro i f hi hf
    have : i = P.1 := by omega
    subst this
    obtain ⟨g, rfl⟩ : ∃ g, f = g + 1 := ⟨f - 1, by omega⟩
    exact ⟨g, by omega, by rw [sgX10_lots_85, if_pos (by rw [h10]; exact Int32.le_refl _)]⟩
  | succ m ih =>
    intro i f hi hf
    have hil : i < P.1 := by omega
    have hb := bitsN_lt (fun i => isG (P.2.1 i) && decide (q / 2 ^ lbN P i % 2 = 1)) i
    have hb6 := bitsN_64 (fun i => isG (P.2.1 i) && decide (q / 2 ^ lbN P i % 2 = 1)) (n := i) (by omega)
    have hcc : isG (P.2.1 i) = true ∨ isG (P.2.1 i) = false := by cases isG (P.2.1 i) <;> simp
    have hql : q / 2 ^ lbN P i ≤ q := Nat.div_le_self _ _
    rcases hcc with c | c
    · obtain ⟨f', rfl⟩ : ∃ f', f = f' + 1 + 1 := ⟨f - 2, by omega⟩
      obtain ⟨g, hg, e⟩ := ih (i + 1) f' (by omega) (by omega)
      refine ⟨g, by omega, ?_⟩
      rw [sgX10_lots_85, if_neg (by rw [h10]; exact nI_ge hil (by omega)), inb_t (show i < 6 by omega) (by omega), if_pos rfl, nI_clamp (by omega), h96 i hil, bI (s_isGate _ _ (hP.k hil) _)]
      try dsimp only
      try dsimp only
      have e2 : lbN P (i + 1) = lbN P i + 1 := by simp only [lbN, c, if_true]
      have e3 : lN (q / 2 ^ lbN P i) / 2 = lN (q / 2 ^ lbN P (i + 1)) := by
        rw [show (2 : Int64) = lN 2 from rfl, pk_lDiv (by omega) (by decide) (by decide), Nat.div_div_eq_div_mul, e2, Nat.pow_succ]
      have e4 : lN (q / 2 ^ lbN P i) - lN (q / 2 ^ lbN P i) / 2 * 2 = lN (q / 2 ^ lbN P i % 2) := by
        rw [show (2 : Int64) = lN 2 from rfl]
        exact pk_lRem (by omega) (by decide) (by decide)
      rw [if_neg (by rw [c]; decide)]
      have h2 : q / 2 ^ lbN P i % 2 = 0 ∨ q / 2 ^ lbN P i % 2 = 1 := by omega
      rcases h2 with z | z
      · have e1 : lsN P q (i + 1) = lsN P q i := by
          show bitsN _ i + _ = _
          simp [z, lsN]
        rw [if_neg (by rw [e4, z]; decide), sgX10_lots_131, e3, nI_1, lsN, or_zero _ hb6]
        rw [e1] at e
        exact e
      · have e1 : lsN P q (i + 1) = lsN P q i + 2 ^ i := by
          show bitsN _ i + _ = _
          simp [z, c, lsN]
        rw [if_pos (by rw [e4, z]; decide), sgX10_lots_131, e3, nI_1, lsN, or_bit i (by omega) _ hb6 hb]
        rw [e1] at e
        exact e
    · obtain ⟨f', rfl⟩ : ∃ f', f = f' + 1 := ⟨f - 1, by omega⟩
      obtain ⟨g, hg, e⟩ := ih (i + 1) f' (by omega) (by omega)
      refine ⟨g, by omega, ?_⟩
      have e2 : lbN P (i + 1) = lbN P i := by simp [lbN, c]
      have e1 : lsN P q (i + 1) = lsN P q i := by
        show bitsN _ i + _ = _
        simp [c, lsN]
      rw [e1, e2] at e
      rw [sgX10_lots_85, if_neg (by rw [h10]; exact nI_ge hil (by omega)), inb_t (show i < 6 by omega) (by omega), if_pos rfl, nI_clamp (by omega), h96 i hil, bI (s_isGate _ _ (hP.k hil) _)]
      try dsimp only
      try dsimp only
      rw [if_pos (by rw [c]; decide), nI_1]
      exact e
theorem l_mlots (N d : Nat) {P : RP} (hP : okP P) (h0 : 0 < P.1) {ow : Nat → Nat} (how : ∀ d, d < 7 → ow d ≤ 6) {D n q0 : Nat} (hDn : D + n ≤ 40) (hq0 : q0 < 2147483647) {sh vl : Nat → Nat} (I : Nat → Nat → Int32) (J : Nat → Nat → Int64) (cd : Nat × Nat) (h32 : I 87 32 = -9) :
    ∀ (m k f : Nat) (B : Nat → Nat → Int32), k + m = n → 20 * m < f → fr [87, 98, 99, 100, 101, 104, 108] I B → f87 [18, 25, 31] I B → MS P ow (D + k) (lotD P ow D q0 sh vl k).1 (lotD P ow D q0 sh vl k).2 B → ∃ B', EX10_lots (N + 1000000) (d + 4) f 56 [some (rv (some 87)), some (iv (nI n)), none, some (jv (lN (qN q0 k))), none, some (iv (nI (lotC P ow D q0 sh vl k))), some (iv (nI k)), none, none, none, none] (B, J, cd) = some (iv (nI (lotC P ow D q0 sh vl n)), (B', J, cd)) ∧ fr [87, 98, 99, 100, 101, 104, 108] I B' ∧ f87 [18, 25, 31] I B' ∧ MS P ow (D + n) (lotD P ow D q0 sh vl n).1 (lotD P ow D q0 sh vl n).2 B' := by
  have hn := hP.1
  intro m
  induction m with
  | zero =>
    intro k f B hk hf hB hB7 hM
    have : k = n := by omega
    subst this
    obtain ⟨g, rfl⟩ : ∃ g, f = g + 1 := ⟨f - 1, by omega⟩
    exact ⟨B, by rw [sgX10_lots_56, if_pos (Int32.le_refl _)], hB, hB7, hM⟩
  | succ m ih =>
    intro k f B hk hf hB hB7 hM
    obtain ⟨g, rfl⟩ : ∃ g, f = g + 1 := ⟨f - 1, by omega⟩
    have hql := qN_lt hq0 (k + 1)
    obtain ⟨B1, r1, f1, g1, hM1⟩ := s_dayTruly N d hP h0 how (D := D + k) (by omega) (ls_sub P (qN q0 (k + 1))) B J cd (by rw [hB7 32 (by decide)]; exact h32) hM
    obtain ⟨g', hg', e⟩ := l_mlots2 N (d + 3) hP (q := qN q0 (k + 1)) (by omega) (nI n) (nI (lotC P ow D q0 sh vl k)) (nI k) B J cd hM.1.1 (fun i hi => (hM.1.2.2.2.1 i hi).1) P.1 0 g (by omega) (by omega)
    obtain ⟨B', r2, f2, g2, hM2⟩ := ih (k + 1) g' B1 (by omega) (by omega) (hB.tr f1) (hB7.tr g1) hM1
    refine ⟨B', ?_, f2, g2, hM2⟩
    have e8 : (48271 : Int64) * lN (qN q0 k) - 48271 * lN (qN q0 k) / 2147483647 * 2147483647 = lN (qN q0 (k + 1)) := by
      rw [Int64.mul_comm]; exact qN_l hq0 k
    have e9 : lN (qN q0 (k + 1)) / 8 = lN (qN q0 (k + 1) / 2 ^ lbN P 0) := by
      rw [show (8 : Int64) = lN 8 from rfl, pk_lDiv (by omega) (by decide) (by decide)]; rfl
    rw [show lsN P (qN q0 (k + 1)) 0 = 0 from rfl, nI_0] at e
    rw [sgX10_lots_56, if_neg (nI_ge (by omega) (by omega)), e8, e9, e, bI r1]
    try dsimp only
    rw [nI_add, nI_1]
    exact r2
theorem op_lots (x y : Int32) : OK2 104 226 [iv x, iv y] := by
  intro N d I J h
  obtain ⟨P, ow, D, sh, vl, kp, KD, ksh, kvl, hP, how, hC, hX, h0, hK, hM, h32⟩ := h.2.2.2.2.un2
  have hn := hP.1
  have hD := hX.1.1
  have hxb : (x < 1 ∨ nI 21 ≤ x) ∨ ∃ n, 1 ≤ n ∧ n ≤ 20 ∧ x = nI n := by
    rcases ixc x 21 (by decide) with q | ⟨o, ho, rfl⟩
    · rcases q with q | q
      · exact Or.inl (Or.inl (Int32.lt_trans q (by decide)))
      · exact Or.inl (Or.inr q)
    · by_cases z : o = 0
      · subst z; exact Or.inl (Or.inl (by decide))
      · exact Or.inr ⟨o, by omega, by omega, rfl⟩
  rcases hxb with hx | ⟨n, hn1, hn20, rfl⟩
  · have hb : ¬ (¬ x < 1 ∧ ¬ (20 : Int32) < x) := fun q => hx.elim q.1 (fun z => q.2 (i_le_lt (k := 20) (by decide) z))
    refine ⟨iv (-1), I, J, I, J, ?_, ?_, h⟩
    · rw [enX9_lots, sgX9_lots_0]
      rcases hx with q | q
      · rw [if_pos q]
      · rw [if_pos (show (20 : Int32) < x from i_le_lt (k := 20) (by decide) q)]
        split <;> rfl
    · rw [enX10_lots, sgX10_lots_0, bI (s_in _ _ _ _ _ _)]
      try dsimp only
      try dsimp only
      rw [b2i_f hb, if_pos rfl]
  · have hin : ¬ nI n < 1 ∧ ¬ (20 : Int32) < nI n := ⟨nI_nlt (b := 1) (by omega) (by omega), nI_nlt (a := 20) (by omega) (by omega)⟩
    have hyb : (y < 1 ∨ y = nI 2147483647) ∨ ∃ q, 1 ≤ q ∧ q < 2147483647 ∧ y = nI q := by
      by_cases q : y < 1
      · exact Or.inl (Or.inl q)
      · have q0 : ¬ y < 0 := fun z => q (Int32.lt_trans z (by decide))
        obtain ⟨k, hk, rfl⟩ := nI_of q0
        by_cases e : k = 2147483647
        · exact Or.inl (Or.inr (by rw [e]))
        · refine Or.inr ⟨k, ?_, by omega, rfl⟩
          rcases Nat.lt_or_ge k 1 with z | z
          · have : k = 0 := by omega
            subst this
            exact absurd (by decide) q
          · exact z
    rcases hyb with hy | ⟨q0, hq1, hq0, rfl⟩
    · refine ⟨iv (-1), I, J, I, J, ?_, ?_, h⟩
      · rw [enX9_lots, sgX9_lots_0, if_neg hin.1, if_neg hin.2]
        rcases hy with q | rfl
        · rw [if_pos q]
        · rw [if_neg (by decide), if_neg (by decide)]
      · rw [enX10_lots, sgX10_lots_0, bI (s_in _ _ _ _ _ _)]
        try dsimp only
        try dsimp only
        rw [b2i_t hin, if_neg n10, bI (s_in _ _ _ _ _ _)]
        try dsimp only
        try dsimp only
        rw [b2i_f (by rcases hy with q | rfl; exact fun z => z.1 q; decide), if_pos rfl]
    · have hy1 : ¬ nI q0 < 1 ∧ ¬ (2147483646 : Int32) < nI q0 := ⟨nI_nlt (b := 1) (by omega) (by omega), nI_nlt (a := 2147483646) (b := q0) (by omega) (by omega) |> fun _ => nI_nlt (a := 2147483646) (b := q0) (by omega) (by decide)⟩
      have hcl : lg_cmp (nI q0).toInt64 2147483647 < 0 := by
        rw [nI_l (by omega), show (2147483647 : Int64) = lN 2147483647 from rfl]
        unfold lg_cmp
        rw [if_neg (fun z => absurd ((pk_lLT (by omega) (by omega)).mp z) (by omega)), if_neg (fun z => absurd ((pk_lEQ (by omega) (by omega)).mp z) (by omega))]
        decide
      by_cases hz : P.1 = 0
      · refine ⟨iv (-4), I, J, I, J, ?_, ?_, h⟩
        · rw [enX9_lots, sgX9_lots_0, if_neg hin.1, if_neg hin.2, if_neg hy1.1, if_pos hcl, if_pos (by rw [hC.1, hz]; rfl)]
        · rw [enX10_lots, sgX10_lots_0, bI (s_in _ _ _ _ _ _)]
          try dsimp only
          try dsimp only
          rw [b2i_t hin, if_neg n10, bI (s_in _ _ _ _ _ _)]
          try dsimp only
          try dsimp only
          rw [b2i_t hy1, if_neg n10, if_pos (by rw [hM.1.1, hz]; rfl)]
      · have h0' : 0 < P.1 := by omega
        have c73 : ¬ I 73 0 = 0 := by rw [hC.1]; exact nI_ne0 h0' (by omega)
        by_cases hf : D + n ≤ 40
        · obtain ⟨B1, r1, f1, hX1⟩ := l_xlots N (d + 15) hP h0' how hf hq0 I J hC n 0 (N + 999998 - n) I (by omega) fr.rf hX
          have hM1 : MS P ow D sh vl B1 := hM.eq (fun a h1 h2 => f1 a (by simp; omega)) (f1 87 (by decide))
          obtain ⟨B2, r2, f2, g2, hM2⟩ := l_mlots N (d + 15) hP h0' how hf hq0 B1 J (73, 80) (by rw [f1 87 (by decide)]; exact h32) n 0 (N + 999999) B1 (by omega) (by omega) fr.rf f87.rf hM1
          rw [show lotC P ow D q0 sh vl 0 = 0 from rfl, nI_0] at r1 r2
          refine ⟨iv (nI (lotC P ow D q0 sh vl n)), B1, J, B2, J, ?_, ?_, ?_⟩
          · rw [enX9_lots, sgX9_lots_0, if_neg hin.1, if_neg hin.2, if_neg hy1.1, if_pos hcl, if_neg c73, if_pos (by rw [hX.1.2.1, nI_add]; exact nI_le (b := 40) hf (by decide)), nI_l (by omega), show N + 999999 = N + 999998 - n + 1 + n by omega]
            exact r1
          · rw [enX10_lots, sgX10_lots_0, bI (s_in _ _ _ _ _ _)]
            try dsimp only
            try dsimp only
            rw [b2i_t hin, if_neg n10, bI (s_in _ _ _ _ _ _)]
            try dsimp only
            try dsimp only
            rw [b2i_t hy1, if_neg n10, if_neg (by rw [hM1.1.1]; exact nI_ne0 h0' (by omega)), if_pos (by rw [hM1.1.2.2.1, nI_add]; exact nI_le (b := 40) hf (by decide)), nI_l (by omega)]
            exact r2
          · refine h.mkV ((f1.mo (by decide)).tr (f2.mo (by decide))) ?_ ?_ (RelV.mk2 hP how (hC.eq (fun a h1 h2 => ((f2 a (by simp; omega)).trans (f1 a (by simp; omega))))) (hX1.eq (fun a h1 h2 => f2 a (by simp; omega))) (fun q => absurd q hz) (hK.eq (fun a h1 h2 => ((f2 a (by simp; omega)).trans (f1 a (by simp; omega)))) ((f2 105 (by decide)).trans (f1 105 (by decide))) ((f2 106 (by decide)).trans (f1 106 (by decide)))) hM2 ?_)
            · rw [g2 0 (by decide), f1 87 (by decide)]
            · rw [g2 2 (by decide), f1 87 (by decide)]
            · rw [g2 32 (by decide), f1 87 (by decide)]; exact h32
        · refine ⟨iv (-2), I, J, I, J, ?_, ?_, h⟩
          · rw [enX9_lots, sgX9_lots_0, if_neg hin.1, if_neg hin.2, if_neg hy1.1, if_pos hcl, if_neg c73, if_neg (by rw [hX.1.2.1, nI_add]; exact nI_ge (a := 40) (by omega) (by omega))]
          · rw [enX10_lots, sgX10_lots_0, bI (s_in _ _ _ _ _ _)]
            try dsimp only
            try dsimp only
            rw [b2i_t hin, if_neg n10, bI (s_in _ _ _ _ _ _)]
            try dsimp only
            try dsimp only
            rw [b2i_t hy1, if_neg n10, if_neg (by rw [hM.1.1]; exact nI_ne0 h0' (by omega)), if_neg (by rw [hM.1.2.2.1, nI_add]; exact nI_ge (a := 40) (by omega) (by omega))]
