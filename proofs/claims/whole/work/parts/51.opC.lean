/-! copy -/
theorem lg_pos (x y : Int64) : (0 < lg_cmp x y) = (y < x) := by
  unfold lg_cmp
  by_cases h : x > y
  · rw [if_pos h]; exact propext ⟨fun _ => h, fun _ => by decide⟩
  · rw [if_neg h]
    by_cases e : x = y
    · rw [if_pos e]; exact propext ⟨fun q => absurd q (by decide), fun q => absurd q h⟩
    · rw [if_neg e]; exact propext ⟨fun q => absurd q (by decide), fun q => absurd q h⟩
theorem lg_le (x y : Int64) : (lg_cmp x y ≤ 0) = ¬ (y < x) := by
  rw [← lg_pos]
  exact propext ⟨fun q => Int32.not_lt.mpr q, fun q => Int32.not_lt.mp q⟩
/-- a run of n places from x on lies in v places -/
abbrev HR (v x n : Int32) : Prop := ¬ x < 0 ∧ ¬ n < 0 ∧ ¬ v.toInt64 < x.toInt64 + n.toInt64
theorem HR.of {v sz : Nat} {x n : Int32} (hs : sz < 2 ^ 31) (h : HR (nI sz) x n) : ∃ a c, x = nI a ∧ n = nI c ∧ a + c ≤ sz := by
  obtain ⟨h1, h2, h3⟩ := h
  obtain ⟨a, ha, rfl⟩ := nI_of h1
  obtain ⟨c, hc, rfl⟩ := nI_of h2
  rw [nI_l hs, nI_l ha, nI_l hc, lN_add, pk_lLT (by omega) (by omega)] at h3
  exact ⟨a, c, rfl, rfl, by omega⟩
theorem s_holdsRun (N d : Nat) {j : Nat} (hj : j < 6) (x n : Int32) (I : Nat → Nat → Int32) (J : Nat → Nat → Int64) (cd : Nat × Nat) : arun (N + 1000000) (d + 2) 56 [rv (some 1), iv (nI j), iv x, iv n] (I, J, cd) = some (iv (b2i (HR (I 9 j) x n)), (I, J, cd)) := by
  rw [enX8_holdsRun, sgX8_holdsRun_0, bI (s_isOne_1 _ _ hj _)]
  try dsimp only
  try dsimp only
  rw [if_neg n10, inb_t hj (by omega), if_pos rfl, nI_clamp (by omega)]
  simp only [lg_pos]
  by_cases h1 : x < 0
  · rw [if_pos h1, b2i_f (fun q => q.1 h1)]
  · rw [if_neg h1]
    by_cases h2 : n < 0
    · rw [if_pos h2, b2i_f (fun q => q.2.1 h2)]
    · rw [if_neg h2]
      by_cases h3 : (I 9 j).toInt64 < x.toInt64 + n.toInt64
      · rw [if_pos h3, b2i_f (fun q => q.2.2 h3)]
      · rw [if_neg h3, b2i_t ⟨h1, h2, h3⟩]
theorem l_mcopy1 (N d : Nat) {j a c : Nat} (hj : j < 6) (hac : a + c ≤ 40) (x3 x4 : Int32) (I : Nat → Nat → Int32) (J : Nat → Nat → Int64) (cd : Nat × Nat) : ∀ (m k f : Nat) (B : Nat → Nat → Int32), k + m = c → fr [91] I B → (∀ i, i < k → B 91 i = I 90 (40 * j + (a + i))) → ∃ B', EX10_copy (N + 1000000) (d + 1) (f + 1 + m) 104 [some (rv (some 87)), some (iv (nI j)), some (iv (nI a)), some (iv x3), some (iv x4), some (iv (nI c)), some (iv (nI k))] (B, J, cd) = EX10_copy (N + 1000000) (d + 1) f 136 [some (rv (some 87)), none, none, some (iv x3), some (iv x4), some (iv (nI c)), some (iv 0)] (B', J, cd) ∧ fr [91] I B' ∧ (∀ i, i < c → B' 91 i = I 90 (40 * j + (a + i))) := by
  intro m
  induction m with
  | zero =>
    intro k f B hk hB hx
    have : k = c := by omega
    subst this
    exact ⟨B, by rw [Nat.add_zero, sgX10_copy_104, if_pos (Int32.le_refl _)], hB, hx⟩
  | succ m ih =>
    intro k f B hk hB hx
    rw [show f + 1 + (m + 1) = f + 1 + m + 1 by omega, sgX10_copy_104, if_neg (nI_ge (by omega) (by omega)), nI_add, bI (s_rowAt _ _ hj (by omega) _ _ _)]
    try dsimp only
    try dsimp only
    rw [inb_t (show k < 40 by omega) (by omega), if_pos rfl, nI_clamp (by omega), nI_1, hB 90 (by decide)]
    refine ih (k + 1) f _ (by omega) (hB.w (by simp)) (fun i hi => ?_)
    by_cases e : i = k
    · subst e; rw [wr_eq]
    · rw [wr_nj e]; exact hx i (by omega)
theorem l_mcopy2 (N d : Nat) {t b c : Nat} (ht : t < 6) (hbc : b + c ≤ 40) (I : Nat → Nat → Int32) (J : Nat → Nat → Int64) (cd : Nat × Nat) : ∀ (m k f : Nat) (B : Nat → Nat → Int32), k + m = c → fr [90] I B → (∀ i, i < k → B 90 (40 * t + (b + i)) = I 91 i) → (∀ i, i < 40 * t + b ∨ 40 * t + (b + k) ≤ i → B 90 i = I 90 i) → ∃ B', EX10_copy (N + 1000000) (d + 1) (f + 1 + m) 136 [some (rv (some 87)), none, none, some (iv (nI t)), some (iv (nI b)), some (iv (nI c)), some (iv (nI k))] (B, J, cd) = some (iv 1, (B', J, cd)) ∧ fr [90] I B' ∧ (∀ i, i < c → B' 90 (40 * t + (b + i)) = I 91 i) ∧ (∀ i, i < 40 * t + b ∨ 40 * t + (b + c) ≤ i → B' 90 i = I 90 i) := by
  intro m
  induction m with
  | zero =>
    intro k f B hk hB hx ho
    have : k = c := by omega
    subst this
    exact ⟨B, by rw [Nat.add_zero, sgX10_copy_136, if_pos (Int32.le_refl _)], hB, hx, ho⟩
  | succ m ih =>
    intro k f B hk hB hx ho
    rw [show f + 1 + (m + 1) = f + 1 + m + 1 by omega, sgX10_copy_136, if_neg (nI_ge (by omega) (by omega)), inb_t (show k < 40 by omega) (by omega), if_pos rfl, nI_clamp (by omega), nI_add, bV (s_setRow _ _ ht (by omega) _ _ _ _)]
    try dsimp only
    try dsimp only
    rw [nI_1, hB 91 (by decide)]
    refine ih (k + 1) f _ (by omega) (hB.w (by simp)) (fun i hi => ?_) (fun i hi => ?_)
    · by_cases e : i = k
      · subst e; rw [wr_eq]
      · rw [wr_nj (by omega)]; exact hx i (by omega)
    · rw [wr_nj (by omega)]; exact ho i (by omega)
theorem n5n (x : Int32) : (0 ≤ x) = ¬ x < 0 := propext ⟨fun q => Int32.not_lt.mpr q, fun q => Int32.not_lt.mp q⟩
theorem op_copy (r x to y n : Int32) : OK2 72 153 [iv r, iv x, iv to, iv y, iv n] := by
  intro N d I J h
  have x87 : ∀ f a, a ≠ 0 → a ≠ 72 → xF I f a = I a := fun f a h1 h2 => by rw [xF, wr_ne h2, wr_ne h1]
  rcases ixc r 6 (by decide) with hr | ⟨j, hj, rfl⟩
  · refine ⟨iv (-1), I, J, I, J, ?_, ?_, h⟩
    · rw [enX9_copy, sgX9_copy_0, bI (s_isOneN_1 _ _ hr _)]
      try dsimp only
      try dsimp only
      rw [if_pos rfl]
    · rw [enX10_copy, sgX10_copy_0, bI (s_isRow _ _ _ _)]
      try dsimp only
      try dsimp only
      rw [b2i_f (b2_rowN hr), if_pos rfl]
  · rcases ixc to 6 (by decide) with ht | ⟨t, ht, rfl⟩
    · refine ⟨iv (-1), I, J, I, J, ?_, ?_, h⟩
      · rw [enX9_copy, sgX9_copy_0, bI (s_isOne_1 _ _ hj _)]
        try dsimp only
        try dsimp only
        rw [if_neg n10, bI (s_isOneN_1 _ _ ht _)]
        try dsimp only
        try dsimp only
        rw [if_pos rfl]
      · rw [enX10_copy, sgX10_copy_0, bI (s_isRow _ _ _ _)]
        try dsimp only
        try dsimp only
        rw [b2i_t (b2_row hj), if_neg n10, bI (s_isRow _ _ _ _)]
        try dsimp only
        try dsimp only
        rw [b2i_f (b2_rowN ht), if_pos rfl]
    · by_cases hn : n < 0
      · refine ⟨iv (-3), xF I 5, J, mF (xF I 5) 5, J, ?_, ?_, h.find (by decide)⟩
        · rw [enX9_copy, sgX9_copy_0, bI (s_isOne_1 _ _ hj _)]
          try dsimp only
          try dsimp only
          rw [if_neg n10, bI (s_isOne_1 _ _ ht _)]
          try dsimp only
          try dsimp only
          rw [if_neg n10, if_neg (i_neg hn), bI (s_find5 _ _ _ _)]
          try dsimp only
        · rw [enX10_copy, sgX10_copy_0, bI (s_isRow _ _ _ _)]
          try dsimp only
          try dsimp only
          rw [b2i_t (b2_row hj), if_neg n10, bI (s_isRow _ _ _ _)]
          try dsimp only
          try dsimp only
          rw [b2i_t (b2_row ht), if_neg n10, if_neg (i_neg hn), bI (s_meet5 _ _ _ _ _)]
          try dsimp only
      · have hn0 : 0 ≤ n := Int32.not_lt.mp hn
        have xs : ∀ {q : Option RES}, ((cI (arun (N + 1000000) (d + 19)) 53 [rv (some 1), iv (nI j)] (I, J, 73, 80)).bind fun r3 => if r3.1 = 0 then EX9_copy (N + 1000000) (d + 19) (N + 999999) 57 [some (rv (some 0)), none, none, none, none, none] r3.2 else (cI (arun (N + 1000000) (d + 19)) 53 [rv (some 1), iv (nI t)] r3.2).bind fun r4 => if r4.1 = 0 then EX9_copy (N + 1000000) (d + 19) (N + 999999) 57 [some (rv (some 0)), none, none, none, none, none] r4.2 else (cI (arun (N + 1000000) (d + 19)) 56 [rv (some 1), iv (nI j), iv x, iv n] r4.2).bind fun r5 => if r5.1 = 0 then EX9_copy (N + 1000000) (d + 19) (N + 999999) 92 [some (rv (some 0)), none, none, none, none, none] r5.2 else (cI (arun (N + 1000000) (d + 19)) 56 [rv (some 1), iv (nI t), iv y, iv n] r5.2).bind fun r6 => if r6.1 = 0 then EX9_copy (N + 1000000) (d + 19) (N + 999999) 92 [some (rv (some 0)), none, none, none, none, none] r6.2 else (cV (arun (N + 1000000) (d + 19)) 63 [rv (some 1), iv (nI j), iv x, iv (nI t), iv y, iv n] r6.2).bind fun r7 => some (iv 1, r7)) = q → arun (N + 1000000) (d + 20) 72 [rv (some 0), iv (nI j), iv x, iv (nI t), iv y, iv n] (I, J, 73, 80) = q := by
          intro q hq
          rw [enX9_copy, sgX9_copy_0, bI (s_isOne_1 _ _ hj _)]
          try dsimp only
          try dsimp only
          rw [if_neg n10, bI (s_isOne_1 _ _ ht _)]
          try dsimp only
          try dsimp only
          rw [if_neg n10, if_pos hn0]
          exact hq
        have ms : ∀ (B : Nat → Nat → Int32) {q : Option RES}, (if B 89 j < 0 then some (iv (-3), (mF B 1, J, 73, 80)) else if 0 ≤ B 89 t then (if HR (B 89 j) x n ∧ HR (B 89 t) y n then EX10_copy (N + 1000000) (d + 19) (N + 999999) 104 [some (rv (some 87)), some (iv (nI j)), some (iv x), some (iv (nI t)), some (iv y), some (iv n), some (iv 0)] (B, J, 73, 80) else some (iv (-3), (mF B 2, J, 73, 80))) else some (iv (-3), (mF B 1, J, 73, 80))) = q → arun (N + 1000000) (d + 20) 153 [rv (some 87), iv (nI j), iv x, iv (nI t), iv y, iv n] (B, J, 73, 80) = q := by
          intro B q hq
          rw [enX10_copy, sgX10_copy_0, bI (s_isRow _ _ _ _)]
          try dsimp only
          try dsimp only
          rw [b2i_t (b2_row hj), if_neg n10, bI (s_isRow _ _ _ _)]
          try dsimp only
          try dsimp only
          rw [b2i_t (b2_row ht), if_neg n10, if_pos hn0]
          simp only [inb_t hj (show j < 2 ^ 31 by omega), nI_clamp (show j < 2 ^ 31 by omega), inb_t ht (show t < 2 ^ 31 by omega), nI_clamp (show t < 2 ^ 31 by omega), if_true, sgX10_copy_45, sgX10_copy_95, bI (s_meet1 N (d + 18) B J (73, 80)), bI (s_meet2 N (d + 18) B J (73, 80)), lg_pos, lg_le]
          rw [← hq]
          by_cases a1 : B 89 j < 0
          · rw [if_pos a1, if_pos a1]
          · rw [if_neg a1, if_neg a1]
            by_cases a2 : 0 ≤ B 89 t
            · rw [if_pos a2, if_pos a2]
              by_cases b1 : x < 0
              · rw [if_pos b1, if_neg (fun z => z.1.1 b1)]
              · rw [if_neg b1]
                by_cases b2 : y < 0
                · rw [if_pos b2, if_neg (fun z => z.2.1 b2)]
                · rw [if_neg b2]
                  by_cases b3 : (B 89 j).toInt64 < x.toInt64 + n.toInt64
                  · rw [if_pos b3, if_neg (fun z => z.1.2.2 b3)]
                  · rw [if_neg b3]
                    by_cases b4 : (B 89 t).toInt64 < y.toInt64 + n.toInt64
                    · rw [if_neg (fun z => z b4), if_neg (fun z => z.2.2.2 b4)]
                    · rw [if_pos b4, if_pos ⟨⟨b1, hn, b3⟩, ⟨b2, hn, b4⟩⟩]
            · rw [if_neg a2, if_neg a2]
        have miss : ∀ {q : Nat}, q < 6 → (I 9 q = -1 ∧ I 89 q = -9) ∨ ∃ k, k ≤ 40 ∧ I 9 q = nI k ∧ I 89 q = nI k ∧ ∀ i, i < k → I (3 + q) i = I 90 (40 * q + i) := fun hq => h.1.2 _ hq
        rcases miss hj with ⟨a, b⟩ | ⟨s1, hs1, a, b, c⟩
        · refine ⟨iv (-3), xF I 1, J, mF (xF I 1) 1, J, xs ?_, ms _ ?_, h.find (by decide)⟩
          · rw [bI (s_isThere_1 _ _ hj _ _ _)]
            try dsimp only
            try dsimp only
            rw [b2i_f (fun q => q a), if_pos rfl, sgX9_copy_57, bI (s_find1 _ _ _ _)]
            try dsimp only
          · rw [if_pos (by rw [x87 1 89 (by decide) (by decide), b]; decide)]
        · rcases miss ht with ⟨a', b'⟩ | ⟨s2, hs2, a', b', c'⟩
          · refine ⟨iv (-3), xF I 1, J, mF (xF I 1) 1, J, xs ?_, ms _ ?_, h.find (by decide)⟩
            · rw [bI (s_isThere_1 _ _ hj _ _ _)]
              try dsimp only
              try dsimp only
              rw [b2i_t (by rw [a]; exact n1n s1 (by omega)), if_neg n10, bI (s_isThere_1 _ _ ht _ _ _)]
              try dsimp only
              try dsimp only
              rw [b2i_f (fun q => q a'), if_pos rfl, sgX9_copy_57, bI (s_find1 _ _ _ _)]
              try dsimp only
            · rw [if_neg (by rw [x87 1 89 (by decide) (by decide), b]; exact nI_pos (by omega)), if_neg (by rw [x87 1 89 (by decide) (by decide), b']; decide)]
          · have xs2 : ∀ {q : Option RES}, (if HR (nI s1) x n ∧ HR (nI s2) y n then (cV (arun (N + 1000000) (d + 19)) 63 [rv (some 1), iv (nI j), iv x, iv (nI t), iv y, iv n] (I, J, 73, 80)).bind fun r7 => some (iv 1, r7) else some (iv (-3), (xF I 2, J, 73, 80))) = q → arun (N + 1000000) (d + 20) 72 [rv (some 0), iv (nI j), iv x, iv (nI t), iv y, iv n] (I, J, 73, 80) = q := by
              intro q hq
              apply xs
              rw [bI (s_isThere_1 _ _ hj _ _ _)]
              try dsimp only
              try dsimp only
              rw [b2i_t (by rw [a]; exact n1n s1 (by omega)), if_neg n10, bI (s_isThere_1 _ _ ht _ _ _)]
              try dsimp only
              try dsimp only
              rw [b2i_t (by rw [a']; exact n1n s2 (by omega)), if_neg n10, bI (s_holdsRun _ _ hj _ _ _ _ _)]
              try dsimp only
              try dsimp only
              simp only [a, a']
              rw [← hq]
              by_cases e1 : HR (nI s1) x n
              · rw [b2i_t e1, if_neg n10, bI (s_holdsRun _ _ ht _ _ _ _ _)]
                try dsimp only
                try dsimp only
                simp only [a']
                by_cases e2 : HR (nI s2) y n
                · rw [b2i_t e2, if_neg n10, if_pos ⟨e1, e2⟩]
                · rw [b2i_f e2, if_pos rfl, sgX9_copy_92, bI (s_find2 _ _ _ _)]
                  try dsimp only
                  rw [if_neg (fun z => e2 z.2)]
              · rw [b2i_f e1, if_pos rfl, sgX9_copy_92, bI (s_find2 _ _ _ _)]
                try dsimp only
                rw [if_neg (fun z => e1 z.1)]
            by_cases e : HR (nI s1) x n ∧ HR (nI s2) y n
            · obtain ⟨a1, c1, rfl, rfl, hac⟩ := HR.of (v := 0) (by omega) e.1
              obtain ⟨b1, c2, rfl, hc2, hbc⟩ := HR.of (v := 0) (by omega) e.2
              have : c2 = c1 := by
                obtain ⟨z1, hz1, hz⟩ := nI_of (show ¬ nI c1 < 0 from hn)
                have q1 : c1 < 2 ^ 31 ∨ 2 ^ 31 ≤ c1 := by omega
                exact (nI_inj (by omega) (by omega) hc2).symm
              subst this
              have hok : okcp (3 + j) (3 + t) (nI a1) (nI b1) (nI c2) = true := by
                unfold okcp
                rw [al_2 j hj, al_2 t ht, nI_clamp (by omega), nI_clamp (by omega), nI_clamp (by omega)]
                simp [show ¬ nI a1 < 0 from nI_pos (by omega), show ¬ nI b1 < 0 from nI_pos (by omega), show ¬ nI c2 < 0 from nI_pos (by omega), show a1 + c2 ≤ 40 by omega, show b1 + c2 ≤ 40 by omega]
              have f1 : fr [3 + t] I (wrC I (3 + t) (va_cpy (I (3 + j)) (I (3 + t)) a1 b1 c2)) := fr.rf.wC (by simp)
              have rt : arun (N + 1000000) (d + 19) 63 [rv (some 1), iv (nI j), iv (nI a1), iv (nI t), iv (nI b1), iv (nI c2)] (I, J, 73, 80) = some (rv none, (wrC I (3 + t) (va_cpy (I (3 + j)) (I (3 + t)) a1 b1 c2), J, 73, 80)) := by
                rw [enX8_transfer, sgX8_transfer_0, bI (s_holdsRun _ _ hj _ _ _ _ _)]
                try dsimp only
                try dsimp only
                rw [b2i_t (by rw [a]; exact e.1), if_neg n10, bI (s_holdsRun _ _ ht _ _ _ _ _)]
                try dsimp only
                try dsimp only
                rw [b2i_t (by rw [a']; exact e.2), if_neg n10, inb_t hj (by omega), inb_t ht (by omega), if_pos rfl, if_pos rfl, nI_clamp (show j < 2 ^ 31 by omega), nI_clamp (show t < 2 ^ 31 by omega), RF_2 _ hj, RF_2 _ ht, Option.bind_some, Option.bind_some, hok, if_pos rfl, nI_clamp (by omega), nI_clamp (by omega), nI_clamp (by omega)]
              obtain ⟨B1, r1, g1, m1⟩ := l_mcopy1 N (d + 18) hj (a := a1) (c := c2) (by omega) (nI t) (nI b1) (wrC I (3 + t) (va_cpy (I (3 + j)) (I (3 + t)) a1 b1 c2)) J (73, 80) c2 0 (N + 999998 - c2) _ (by omega) fr.rf (fun i hi => absurd hi (by omega))
              obtain ⟨B2, r2, g2, m2, o2⟩ := l_mcopy2 N (d + 18) ht (b := b1) (c := c2) (by omega) B1 J (73, 80) c2 0 (N + 999998 - c2 - 1 - c2) B1 (by omega) fr.rf (fun i hi => absurd hi (by omega)) (fun i _ => rfl)
              rw [nI_0] at r1 r2
              have e90 : ∀ i, i < c2 → B2 90 (40 * t + (b1 + i)) = I 90 (40 * j + (a1 + i)) := fun i hi => by rw [m2 i hi, m1 i hi, f1 90 (by simp; omega)]
              have o90 : ∀ i, i < 40 * t + b1 ∨ 40 * t + (b1 + c2) ≤ i → B2 90 i = I 90 i := fun i hi => by rw [o2 i hi, g1 90 (by decide), f1 90 (by simp; omega)]
              have eA : ∀ q, q ≠ 90 → q ≠ 91 → B2 q = wrC I (3 + t) (va_cpy (I (3 + j)) (I (3 + t)) a1 b1 c2) q := fun q h1 h2 => (g2 q (by simpa using h1)).trans (g1 q (by simpa using h2))
              refine ⟨iv 1, wrC I (3 + t) (va_cpy (I (3 + j)) (I (3 + t)) a1 b1 c2), J, B2, J, xs2 ?_, ms _ ?_, ?_⟩
              · rw [if_pos e, bV rt]
              · rw [f1 89 (by simp; omega), if_neg (by rw [b]; exact nI_pos (by omega)), if_pos (by rw [b']; exact nI_pos' (by omega)), if_pos (by rw [b, b']; exact e), show N + 999999 = N + 999998 - c2 + 1 + c2 by omega, r1, show N + 999998 - c2 = N + 999998 - c2 - 1 - c2 + 1 + c2 by omega]
                exact r2
              · refine h.ofRows ⟨?_, ?_⟩ ?_ ?_ ?_ ?_
                · rw [eA 1 (by decide) (by decide), f1 1 (by simp; omega)]; exact h.1.1
                · refine RRow_upd h.1.2 (j := t) ?_ ?_ ?_ (Or.inr ⟨s2, hs2, ?_, ?_, ?_⟩)
                  · intro q hq
                    rw [eA 9 (by decide) (by decide), eA 89 (by decide) (by decide), f1 9 (by simp; omega), f1 89 (by simp; omega)]
                    exact ⟨rfl, rfl⟩
                  · intro q hq hqt
                    rw [eA (3 + q) (by omega) (by omega), f1 (3 + q) (by simp; omega)]
                  · intro q hq hqt i hi
                    exact o90 _ (by omega)
                  · rw [eA 9 (by decide) (by decide), f1 9 (by simp; omega)]; exact a'
                  · rw [eA 89 (by decide) (by decide), f1 89 (by simp; omega)]; exact b'
                  · intro i hi
                    rw [eA (3 + t) (by omega) (by omega), wrC_at, if_pos rfl]
                    by_cases q : b1 ≤ i ∧ i < b1 + c2
                    · rw [pk_cpy_in q.1 q.2]
                      have := e90 (i - b1) (by omega)
                      rw [show b1 + (i - b1) = i by omega] at this
                      rw [this]
                      exact c _ (by omega)
                    · rw [pk_cpy_out (by omega), o90 _ (by omega)]
                      exact c' i hi
                · intro q h1 h2 h3 h4 h5 h6
                  rw [eA q h3 h4, f1 q (by simp; omega)]
                · intro i hi
                  rw [eA 0 (by decide) (by decide), f1 0 (by simp; omega)]
                · intro i hi
                  rw [eA 87 (by decide) (by decide), f1 87 (by simp; omega)]
                · rw [eA 0 (by decide) (by decide), eA 87 (by decide) (by decide), f1 0 (by simp; omega), f1 87 (by simp; omega)]
                  exact h.2.2.2.1.1
            · refine ⟨iv (-3), xF I 2, J, mF (xF I 2) 2, J, xs2 ?_, ms _ ?_, h.find (by decide)⟩
              · rw [if_neg e]
              · rw [x87 2 89 (by decide) (by decide), if_neg (by rw [b]; exact nI_pos (by omega)), if_pos (by rw [b']; exact nI_pos' (by omega)), if_neg (by rw [b, b']; exact e)]
