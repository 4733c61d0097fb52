/-! day, undo, keep, on -/
theorem XS.eq {P : RP} {D : Nat} {sh vl : Nat → Nat} {I B : Nat → Nat → Int32} (h : XS P D sh vl I) (e : ∀ a, 20 ≤ a → a ≤ 27 → B a = I a) : XS P D sh vl B := ⟨h.1.eq (e 25 (by omega) (by omega)) (e (25 + 1) (by omega) (by omega)) (e (25 + 2) (by omega) (by omega)), h.2.eq (fun a h1 h2 => e a h1 (by omega))⟩
theorem MS.eq {P : RP} {ow : Nat → Nat} {D : Nat} {sh vl : Nat → Nat} {I B : Nat → Nat → Int32} (h : MS P ow D sh vl I) (e : ∀ a, 94 ≤ a → a ≤ 104 → B a = I a) (e7 : B 87 = I 87) : MS P ow D sh vl B := ⟨h.1.eq (fun a h1 h2 => e a h1 (by omega)) (by rw [e7]) (by rw [e7]) (by rw [e7]), by rw [e 104 (by omega) (by omega)]; exact h.2⟩
theorem op_day (x : Int32) : OK2 83 182 [iv x] := by
  intro N d I J h
  obtain ⟨P, ow, D, sh, vl, kp, KD, ksh, kvl, hP, how, hC, hX, h0, hK, hM, h32⟩ := h.2.2.2.2.un2
  have hn := hP.1
  have hD := hX.1.1
  have kX := s_canShut N (d + 18) x I J (73, 80) hC
  have kM := s_canShut10 N (d + 16) hP x I J (73, 80) hM.1.1 (fun i hi => (hM.1.2.2.2.1 i hi).1)
  by_cases hx : CS (gatN P) x
  · rw [b2i_t hx] at kX kM
    by_cases hz : P.1 = 0
    · refine ⟨iv (-4), I, J, I, J, ?_, ?_, h⟩
      · rw [enX9_day, sgX9_day_0, bI kX]
        try dsimp only
        rw [if_neg n10, if_pos (show okc 73 2 = true from rfl), if_pos (by rw [hC.1, hz]; rfl)]
      · rw [enX10_day, sgX10_day_0, bI kM]
        try dsimp only
        rw [if_neg n10, if_pos (by rw [hM.1.1, hz]; rfl)]
    · have h0' : 0 < P.1 := by omega
      have c73 : ¬ I 73 0 = 0 := by rw [hC.1]; exact nI_ne0 h0' (by omega)
      by_cases hf : D < 40
      · obtain ⟨s, hs6, rfl, hs⟩ := hx.of hn
        obtain ⟨B1, r1, f1, hX1⟩ := s_passTruly N (d + 15) hP h0' how hf hs I J hC hX
        have hM1 : MS P ow D sh vl B1 := hM.eq (fun a h1 h2 => f1 a (by simp; omega)) (f1 87 (by decide))
        obtain ⟨B2, r2, f2, g2, hM2⟩ := s_dayTruly N (d + 15) hP h0' how hf hs B1 J (73, 80) (by rw [f1 87 (by decide)]; exact h32) hM1
        have kM1 := s_canShut10 N (d + 16) hP (nI s) B1 J (73, 80) hM1.1.1 (fun i hi => (hM1.1.2.2.2.1 i hi).1)
        rw [b2i_t hx] at kM1
        refine ⟨iv (nI (seaN P (flowN P sh vl D).1 s)), B1, J, B2, J, ?_, ?_, ?_⟩
        · rw [enX9_day, sgX9_day_0, bI kX]
          try dsimp only
          rw [if_neg n10, if_pos (show okc 73 2 = true from rfl), if_neg c73, if_pos (by rw [hX.1.2.1]; exact nI_lt (b := 40) hf (by decide)), bI r1]
        · rw [enX10_day, sgX10_day_0, bI kM1]
          try dsimp only
          rw [if_neg n10, if_neg (by rw [hM1.1.1]; exact nI_ne0 h0' (by omega)), if_neg (by rw [hM1.1.2.2.1]; exact fun q => absurd (nI_inj (b := 40) (by omega) (by omega) q) (by omega)), bI r2]
        · refine h.mkV ((f1.mo (by decide)).tr (f2.mo (by decide))) ?_ ?_ (RelV.mk2 hP how (hC.eq (fun a h1 h2 => ((f2 a (by simp; omega)).trans (f1 a (by simp; omega))))) (hX1.eq (fun a h1 h2 => f2 a (by simp; omega))) (fun q => absurd q hz) (hK.eq (fun a h1 h2 => ((f2 a (by simp; omega)).trans (f1 a (by simp; omega)))) ((f2 105 (by decide)).trans (f1 105 (by decide))) ((f2 106 (by decide)).trans (f1 106 (by decide)))) hM2 ?_)
          · rw [g2 0 (by decide), f1 87 (by decide)]
          · rw [g2 2 (by decide), f1 87 (by decide)]
          · rw [g2 32 (by decide), f1 87 (by decide)]; exact h32
      · refine ⟨iv (-2), I, J, I, J, ?_, ?_, h⟩
        · rw [enX9_day, sgX9_day_0, bI kX]
          try dsimp only
          rw [if_neg n10, if_pos (show okc 73 2 = true from rfl), if_neg c73, if_neg (by rw [hX.1.2.1]; exact nI_nlt (b := 40) (by omega) (by omega))]
        · rw [enX10_day, sgX10_day_0, bI kM]
          try dsimp only
          rw [if_neg n10, if_neg (by rw [hM.1.1]; exact nI_ne0 h0' (by omega)), if_pos (by rw [hM.1.2.2.1, show D = 40 by omega]; rfl)]
  · rw [b2i_f hx] at kX kM
    refine ⟨iv (-1), I, J, I, J, ?_, ?_, h⟩
    · rw [enX9_day, sgX9_day_0, bI kX]
      try dsimp only
      rw [if_pos rfl]
    · rw [enX10_day, sgX10_day_0, bI kM]
      try dsimp only
      rw [if_pos rfl]
theorem op_undo (x : Int32) : OK2 84 183 [iv x] := by
  intro N d I J h
  obtain ⟨P, ow, D, sh, vl, kp, KD, ksh, kvl, hP, how, hC, hX, h0, hK, hM, h32⟩ := h.2.2.2.2.un2
  have hn := hP.1
  have hD := hX.1.1
  rcases ixc x (D + 1) (by omega) with hx | ⟨n, hnD, rfl⟩
  · have hb : ¬ (¬ x < 0 ∧ ¬ I 87 25 < x) := fun q => hx.elim q.1 (fun z => q.2 (by rw [hM.1.2.2.1]; exact i_le_lt (by omega) z))
    refine ⟨iv (-1), I, J, I, J, ?_, ?_, h⟩
    · rw [enX9_undo, sgX9_undo_0]
      rcases hx with q | q
      · rw [if_pos q]
      · rw [if_neg (show ¬ x ≤ I 25 0 by rw [hX.1.2.1]; exact i_nlt (by omega) q)]
        split <;> rfl
    · rw [enX10_undo, sgX10_undo_0, bI (s_in _ _ _ _ _ _)]
      try dsimp only
      try dsimp only
      rw [b2i_f hb, if_pos rfl]
  · have f1 : fr [25] I (wr I 25 0 (nI n)) := fr.rf.w (by simp)
    have hd1 : deedN P (wr I 25 0 (nI n)) 25 n sh vl := ⟨by omega, wr_eq, fun t ht => by
      rw [wr_ne (show 25 + 1 ≠ 25 by decide), wr_ne (show 25 + 2 ≠ 25 by decide)]
      exact hX.1.2.2 t (by omega)⟩
    have hC1 : courN P ow (wr I 25 0 (nI n)) 73 := hC.eq (fun a h1 h2 => f1 a (by simp; omega))
    have h0n : 0 < P.1 ∨ n = 0 := by
      by_cases q : P.1 = 0
      · right; have := h0 q; omega
      · left; omega
    obtain ⟨B2, r2, f2, g2⟩ := s_replay N (d + 15) hP h0n _ J hC1 hd1
    have rc : arun (N + 1000000) (d + 19) 27 [rv (some 25), iv (nI n)] (I, J, 73, 80) = some (rv none, (wr I 25 0 (nI n), J, 73, 80)) := by
      rw [enX3_cutTo, sgX3_cutTo_0, hX.1.2.1, bI (s_min _ _ _ _ _)]
      try dsimp only
      try dsimp only
      rw [mn_N (by omega) (by omega), Nat.min_eq_left (by omega), show (0 : Int32) = nI 0 from rfl, bI (s_max _ _ _ _ _)]
      try dsimp only
      try dsimp only
      rw [mx_N (by omega) (by omega), Nat.max_eq_right (by omega)]
    have fX : fr [20, 21, 22, 23, 24, 25] I B2 := (f1.mo (by intro a; simp <;> omega)).tr (f2.mo (by intro a; simp <;> omega))
    have hM1 : MS P ow D sh vl B2 := hM.eq (fun a h1 h2 => fX a (by simp; omega)) (fX 87 (by decide))
    have hin : ¬ nI n < 0 ∧ ¬ B2 87 25 < nI n := ⟨nI_pos (by omega), by rw [hM1.1.2.2.1]; exact nI_nlt (by omega) (by omega)⟩
    have hX2 : XS P n sh vl B2 := ⟨hd1.eq (f2 25 (by decide)) (f2 (25 + 1) (by decide)) (f2 (25 + 2) (by decide)), g2⟩
    have rx : arun (N + 1000000) (d + 20) 84 [rv (some 0), iv (nI n)] (I, J, 73, 80) = some (iv (nI (D - n)), (B2, J, 73, 80)) := by
      rw [enX9_undo, sgX9_undo_0, if_neg (nI_pos (by omega)), if_pos (by rw [hX.1.2.1]; exact nI_le (by omega) (by omega)), bV rc]
      try dsimp only
      rw [bV r2]
      try dsimp only
      rw [hX.1.2.1, pk_sub (by omega)]
    have e25 : B2 87 25 - nI n = nI (D - n) := by rw [hM1.1.2.2.1, pk_sub (by omega)]
    by_cases hw : D - n = 0
    · have e : n = D := by omega
      refine ⟨iv (nI (D - n)), B2, J, B2, J, rx, ?_, h.mkV (fX.mo (by decide)) (by rw [fX 87 (by decide)]) (by rw [fX 87 (by decide)]) (RelV.mk2 hP how (hC.eq (fun a h1 h2 => fX a (by simp; omega))) hX2 (fun q => by have := h0 q; omega) (hK.eq (fun a h1 h2 => fX a (by simp; omega)) (fX 105 (by decide)) (fX 106 (by decide))) (by rw [e]; exact hM1) (by rw [fX 87 (by decide)]; exact h32))⟩
      rw [enX10_undo, sgX10_undo_0, bI (s_in _ _ _ _ _ _)]
      try dsimp only
      try dsimp only
      rw [b2i_t hin, if_neg n10, if_pos (by rw [e25, hw]; decide), e25]
    · have hN := hM1.2 n (by omega)
      obtain ⟨B3, r3, f3, g3, hR3⟩ := s_read_104 N (d + 18) (at_ := 27 * n) (by omega) hn B2 J (73, 80) hM1.1 hN
      refine ⟨iv (nI (D - n)), B2, J, B3, J, rx, ?_, ?_⟩
      · rw [enX10_undo, sgX10_undo_0, bI (s_in _ _ _ _ _ _)]
        try dsimp only
        try dsimp only
        rw [b2i_t hin, if_neg n10, if_neg (by rw [e25]; exact nI_nle (by omega) (by omega)), e25, show (27 : Int32) * nI n = nI (27 * n) from pk_mul 27 n, bV r3]
      · refine h.mkV ((fX.mo (by decide)).tr (f3.mo (by decide))) ?_ ?_ (RelV.mk2 hP how (hC.eq (fun a h1 h2 => ((f3 a (by simp; omega)).trans (fX a (by simp; omega))))) (hX2.eq (fun a h1 h2 => f3 a (by simp; omega))) (fun q => by have := h0 q; omega) (hK.eq (fun a h1 h2 => ((f3 a (by simp; omega)).trans (fX a (by simp; omega)))) ((f3 105 (by decide)).trans (fX 105 (by decide))) ((f3 106 (by decide)).trans (fX 106 (by decide)))) ⟨hR3, fun t ht => ?_⟩ ?_)
        · rw [g3 0 (by decide), fX 87 (by decide)]
        · rw [g3 2 (by decide), fX 87 (by decide)]
        · rw [f3 104 (by decide)]; exact hM1.2 t (by omega)
        · rw [g3 32 (by decide), fX 87 (by decide)]; exact h32
theorem rf28 {k : Nat} (hk : k < 3) : RF (73, 80) 28 k = some (29 + 3 * k) := by
  have c : k = 0 ∨ k = 1 ∨ k = 2 := by omega
  rcases c with rfl | rfl | rfl <;> rfl
theorem rf29 {k : Nat} (hk : k < 3) : okc (29 + 3 * k) 3 = true ∧ RF (73, 80) (29 + 3 * k) 1 = some (29 + 3 * k + 1) ∧ RF (73, 80) (29 + 3 * k) 2 = some (29 + 3 * k + 2) ∧ okcp 26 (29 + 3 * k + 1) 0 0 40 = true ∧ okcp 27 (29 + 3 * k + 2) 0 0 40 = true ∧ okcp (29 + 3 * k + 1) 26 0 0 40 = true ∧ okcp (29 + 3 * k + 2) 27 0 0 40 = true := by
  have c : k = 0 ∨ k = 1 ∨ k = 2 := by omega
  rcases c with rfl | rfl | rfl <;> decide
theorem s_becomeK (N d : Nat) {k : Nat} (hk : k < 3) {P : RP} {D : Nat} {sh vl : Nat → Nat} (I : Nat → Nat → Int32) (J : Nat → Nat → Int64) (h : deedN P I 25 D sh vl) :
    ∃ B, arun (N + 1000000) (d + 1) 28 [rv (some (29 + 3 * k)), rv (some 25)] (I, J, 73, 80) = some (rv none, (B, J, 73, 80)) ∧ fr [29 + 3 * k, 29 + 3 * k + 1, 29 + 3 * k + 2] I B ∧ deedN P B (29 + 3 * k) D sh vl := by
  obtain ⟨o, r1, r2, o1, o2, -, -⟩ := rf29 hk
  refine ⟨_, by rw [enX3_become, sgX3_become_keep_0, o, if_pos rfl, if_pos rfl, r1, Option.bind_some, o1, if_pos rfl, if_pos rfl, r2, Option.bind_some, o2, if_pos rfl], ((fr.rf.w (by simp)).wC (by simp)).wC (by simp), ?_⟩
  obtain ⟨h1, h2, h3⟩ := h
  refine ⟨h1, ?_, fun t ht => ?_⟩
  · rw [wrC_at, if_neg (by omega), wrC_at, if_neg (by omega), wr_eq]; exact h2
  · have q := h3 t ht
    rw [wrC_at, if_neg (by omega), wrC_at, if_pos rfl, wrC_at, if_pos rfl, pk_cpy_in (by omega) (by omega), pk_cpy_in (by omega) (by omega), wr_ne (by omega), wrC_at, if_neg (by omega), wr_ne (by omega), Nat.zero_add, Nat.sub_zero]
    exact q
theorem s_becomeO (N d : Nat) {k : Nat} (hk : k < 3) {P : RP} {D : Nat} {sh vl : Nat → Nat} (I : Nat → Nat → Int32) (J : Nat → Nat → Int64) (h : deedN P I (29 + 3 * k) D sh vl) :
    ∃ B, arun (N + 1000000) (d + 1) 28 [rv (some 25), rv (some (29 + 3 * k))] (I, J, 73, 80) = some (rv none, (B, J, 73, 80)) ∧ fr [25, 26, 27] I B ∧ deedN P B 25 D sh vl := by
  obtain ⟨o, r1, r2, -, -, o1, o2⟩ := rf29 hk
  refine ⟨_, by rw [enX3_become, sgX3_become_on_0, o, if_pos rfl, if_pos rfl, r1, Option.bind_some, o1, if_pos rfl, if_pos rfl, r2, Option.bind_some, o2, if_pos rfl], ((fr.rf.w (by simp)).wC (by simp)).wC (by simp), ?_⟩
  obtain ⟨h1, h2, h3⟩ := h
  refine ⟨h1, ?_, fun t ht => ?_⟩
  · rw [wrC_at, if_neg (by omega), wrC_at, if_neg (by omega), wr_eq]; exact h2
  · have q := h3 t ht
    rw [wrC_at, if_neg (by omega), wrC_at, if_pos rfl, wrC_at, if_pos rfl, pk_cpy_in (by omega) (by omega), pk_cpy_in (by omega) (by omega), wr_ne (by omega), wrC_at, if_neg (by omega), wr_ne (by omega), Nat.zero_add, Nat.sub_zero]
    exact q
theorem l_mkeep (N d : Nat) {P : RP} (hn : P.1 ≤ 6) {ow : Nat → Nat} {F : FS} {D k : Nat} (hD : D ≤ 40) (hk : k < 3) (I : Nat → Nat → Int32) (J : Nat → Nat → Int64) (cd : Nat × Nat) (hA : refAt P ow I F D) :
    ∀ (m i f : Nat) (B : Nat → Nat → Int32), i + m = 27 * D → fr [106] I B → (∀ j, j < i → B 106 (1107 * k + j) = I 104 j) → (∀ j, j < 1107 * k ∨ 1107 * k + 27 * D ≤ j → B 106 j = I 106 j) → ∃ B', EX10_keep (N + 1000000) (d + 1) (f + 1 + m) 29 [some (rv (some 87)), some (iv (nI k)), some (iv (nI (1107 * k))), some (iv (nI i))] (B, J, cd) = some (iv (nI D), (wr B' 105 k 1, J, cd)) ∧ fr [106] I B' ∧ (∀ j, j < 27 * D → B' 106 (1107 * k + j) = I 104 j) ∧ noteN P (B' 106) (1107 * k + 1080) F D ∧ (∀ j, j < 1107 * k ∨ 1107 * k + 1107 ≤ j → B' 106 j = I 106 j) := by
  intro m
  induction m with
  | zero =>
    intro i f B hi hB hx ho
    have : i = 27 * D := by omega
    subst this
    have hAB : refAt P ow B F D := hA.eq (fun a h1 h2 => hB a (by simp; omega)) (by rw [hB 87 (by decide)]) (by rw [hB 87 (by decide)]) (by rw [hB 87 (by decide)])
    obtain ⟨B1, r1, f1, n1, o1⟩ := s_write_106 N d (at_ := 1107 * k + 1080) (by omega) hn B J cd hAB
    refine ⟨B1, ?_, hB.tr f1, fun j hj => by rw [o1 _ (by omega)]; exact hx j hj, n1, fun j hj => by rw [o1 _ (by omega)]; exact ho j (by omega)⟩
    have e25 : B1 87 25 = nI D := by rw [f1 87 (by decide)]; exact hAB.2.2.1
    rw [Nat.add_zero, sgX10_keep_29, if_pos (by rw [hAB.2.2.1, show (27 : Int32) * nI D = nI (27 * D) from pk_mul 27 D]; exact Int32.le_refl _), show nI (1107 * k) + 1080 = nI (1107 * k + 1080) from nI_add _ 1080, bV r1]
    try dsimp only
    rw [inb_t hk (by omega), if_pos rfl, nI_clamp (by omega), e25]
  | succ m ih =>
    intro i f B hi hB hx ho
    have e25 : B 87 25 = nI D := by rw [hB 87 (by decide)]; exact hA.2.2.1
    rw [show f + 1 + (m + 1) = f + 1 + m + 1 by omega, sgX10_keep_29, if_neg (by rw [e25, show (27 : Int32) * nI D = nI (27 * D) from pk_mul 27 D]; exact nI_ge (by omega) (by omega)), nI_add, inb_t (show i < 1080 by omega) (by omega), inb_t (show 1107 * k + i < 3321 by omega) (by omega), if_pos rfl, if_pos rfl, nI_clamp (show i < 2 ^ 31 by omega), nI_clamp (show 1107 * k + i < 2 ^ 31 by omega), nI_1, hB 104 (by decide)]
    refine ih (i + 1) f _ (by omega) (hB.w (by simp)) (fun j hj => ?_) (fun j hj => ?_)
    · by_cases e : j = i
      · subst e; rw [wr_eq]
      · rw [wr_nj (by omega)]; exact hx j (by omega)
    · rw [wr_nj (by omega)]; exact ho j hj
theorem op_keep (x : Int32) : OK2 85 184 [iv x] := by
  intro N d I J h
  obtain ⟨P, ow, D, sh, vl, kp, KD, ksh, kvl, hP, how, hC, hX, h0, hK, hM, h32⟩ := h.2.2.2.2.un2
  have hn := hP.1
  have hD := hX.1.1
  rcases ixc x 3 (by omega) with hx | ⟨k, hk, rfl⟩
  · have hb : ¬ (¬ x < 0 ∧ ¬ (2 : Int32) < x) := fun q => hx.elim q.1 (fun z => q.2 (i_le_lt (k := 2) (by decide) z))
    refine ⟨iv (-1), I, J, I, J, ?_, ?_, h⟩
    · rw [enX9_keep, sgX9_keep_0]
      rcases hx with q | q
      · rw [if_pos q]
      · rw [if_neg (show ¬ x < 3 from Int32.not_lt.mpr (show (3 : Int32) ≤ x from q))]
        split <;> rfl
    · rw [enX10_keep, sgX10_keep_0, bI (s_in _ _ _ _ _ _)]
      try dsimp only
      try dsimp only
      rw [b2i_f hb, if_pos rfl]
  · have hin : ¬ nI k < 0 ∧ ¬ (2 : Int32) < nI k := ⟨nI_pos (by omega), nI_nlt (a := 2) (by omega) (by omega)⟩
    have hlt : nI k < 3 := nI_lt (b := 3) hk (by decide)
    by_cases hz : P.1 = 0
    · refine ⟨iv (-4), I, J, I, J, ?_, ?_, h⟩
      · rw [enX9_keep, sgX9_keep_0, if_neg (nI_pos (by omega)), if_pos hlt, if_pos (by rw [hC.1, hz]; rfl)]
      · rw [enX10_keep, sgX10_keep_0, bI (s_in _ _ _ _ _ _)]
        try dsimp only
        try dsimp only
        rw [b2i_t hin, if_neg n10, if_pos (by rw [hM.1.1, hz]; rfl)]
    · have h0' : 0 < P.1 := by omega
      obtain ⟨B1, r1, f1, hd1⟩ := s_becomeK N (d + 18) hk I J hX.1
      have fX : fr [29 + 3 * k, 29 + 3 * k + 1, 29 + 3 * k + 2, 38] I (wr B1 38 k 1) := (f1.mo (by intro a; simp <;> omega)).w (by simp)
      have hM1 : MS P ow D sh vl (wr B1 38 k 1) := hM.eq (fun a h1 h2 => fX a (by simp; omega)) (fX 87 (by simp; omega))
      obtain ⟨B2, r2, f2, c2, n2, o2⟩ := l_mkeep N (d + 18) hn hD hk (wr B1 38 k 1) J (73, 80) hM1.1 (27 * D) 0 (N + 999998 - 27 * D) (wr B1 38 k 1) (by omega) fr.rf (fun j hj => absurd hj (by omega)) (fun j _ => rfl)
      rw [nI_0] at r2
      have e25 : B1 25 0 = nI D := by rw [f1 25 (by simp; omega)]; exact hX.1.2.1
      have fA : fr [29, 30, 31, 32, 33, 34, 35, 36, 37, 38, 105, 106] I (wr B2 105 k 1) := ((fX.mo (by intro a; simp <;> omega)).tr (f2.mo (by intro a; simp <;> omega))).w (by simp)
      refine ⟨iv (nI D), wr B1 38 k 1, J, wr B2 105 k 1, J, ?_, ?_, ?_⟩
      · rw [enX9_keep, sgX9_keep_0, if_neg (nI_pos (by omega)), if_pos hlt, if_neg (by rw [hC.1]; exact nI_ne0 h0' (by omega)), inb_t hk (by omega), if_pos rfl, nI_clamp (by omega), rf28 hk, if_pos (show rcv [rv (some (29 + 3 * k)), rv (some 25)] 3 = true from (rf29 hk).1), bV r1]
        try dsimp only
        rw [if_pos rfl, e25]
        rfl
      · rw [enX10_keep, sgX10_keep_0, bI (s_in _ _ _ _ _ _)]
        try dsimp only
        try dsimp only
        rw [b2i_t hin, if_neg n10, if_neg (by rw [hM1.1.1]; exact nI_ne0 h0' (by omega)), show (1107 : Int32) * nI k = nI (1107 * k) from pk_mul 1107 k, show N + 999999 = N + 999998 - 27 * D + 1 + 27 * D by omega]
        exact r2
      · refine h.mkV (fA.mo (by decide)) (by rw [fA 87 (by decide)]) (by rw [fA 87 (by decide)]) (RelV.mk2 (kp := up1 kp k true) (KD := up1 KD k D) (ksh := up1 ksh k sh) (kvl := up1 kvl k vl) hP how (hC.eq (fun a h1 h2 => fA a (by simp; omega))) (hX.eq (fun a h1 h2 => fA a (by simp; omega))) h0 (fun k' hk' => ?_) (hM.eq (fun a h1 h2 => fA a (by simp; omega)) (fA 87 (by decide))) (by rw [fA 87 (by decide)]; exact h32))
        have e38 : ∀ j, wr B2 105 k 1 38 j = wr B1 38 k 1 38 j := fun j => by rw [wr_ne (show 38 ≠ 105 by decide), f2 38 (by decide)]
        have e106 : wr B2 105 k 1 106 = B2 106 := wr_ne (by decide)
        by_cases e : k' = k
        · subst e
          simp only [up1_at, if_true]
          refine ⟨by rw [e38, wr_eq], wr_eq, fun _ => ⟨?_, fun t ht => ?_, ?_, h0'⟩⟩
          · refine hd1.eq ?_ ?_ ?_
            · rw [wr_ne (by omega), f2 _ (by simp; omega), wr_ne (by omega)]
            · rw [wr_ne (by omega), f2 _ (by simp; omega), wr_ne (by omega)]
            · rw [wr_ne (by omega), f2 _ (by simp; omega), wr_ne (by omega)]
          · rw [e106]
            refine (hM1.2 t ht).mv hn (fun i hi => ?_)
            rw [Nat.add_assoc]
            exact c2 _ (by omega)
          · rw [e106]; exact n2
        · have q := hK k' hk'
          simp only [up1_at, if_neg e]
          rw [e38, wr_nj e, f1 38 (by simp; omega), wr_nj e, f2 105 (by decide), fX 105 (by simp; omega), e106]
          refine ⟨q.1, q.2.1, fun z => ?_⟩
          obtain ⟨a1, a2, a3, a4⟩ := q.2.2 z
          refine ⟨a1.eq ?_ ?_ ?_, fun t ht => (a2 t ht).mv hn (fun i hi => ?_), a3.mv hn (fun i hi => ?_), a4⟩
          · rw [wr_ne (by omega), f2 _ (by simp; omega), fX _ (by simp; omega)]
          · rw [wr_ne (by omega), f2 _ (by simp; omega), fX _ (by simp; omega)]
          · rw [wr_ne (by omega), f2 _ (by simp; omega), fX _ (by simp; omega)]
          · have hh := a1.1
            rw [o2 _ (by omega), fX 106 (by simp; omega)]
          · rw [o2 _ (by omega), fX 106 (by simp; omega)]
theorem l_mon (N d : Nat) {D k : Nat} (hD : D ≤ 40) (hk : k < 3) (I : Nat → Nat → Int32) (J : Nat → Nat → Int64) (cd : Nat × Nat) (h25 : I 87 25 = nI D) :
    ∀ (m i f : Nat) (B : Nat → Nat → Int32), i + m = 27 * D → fr [104] I B → (∀ j, j < i → B 104 j = I 106 (1107 * k + j)) → ∃ B', EX10_on (N + 1000000) d (f + 1 + m) 47 [some (rv (some 87)), none, some (iv (nI (1107 * k))), some (iv (nI i))] (B, J, cd) = some (iv (nI D), (B', J, cd)) ∧ fr [104] I B' ∧ (∀ j, j < 27 * D → B' 104 j = I 106 (1107 * k + j)) := by
  intro m
  induction m with
  | zero =>
    intro i f B hi hB hx
    have : i = 27 * D := by omega
    subst this
    have e25 : B 87 25 = nI D := by rw [hB 87 (by decide)]; exact h25
    refine ⟨B, ?_, hB, hx⟩
    rw [Nat.add_zero, sgX10_on_47, if_pos (by rw [e25, show (27 : Int32) * nI D = nI (27 * D) from pk_mul 27 D]; exact Int32.le_refl _), e25]
  | succ m ih =>
    intro i f B hi hB hx
    have e25 : B 87 25 = nI D := by rw [hB 87 (by decide)]; exact h25
    rw [show f + 1 + (m + 1) = f + 1 + m + 1 by omega, sgX10_on_47, if_neg (by rw [e25, show (27 : Int32) * nI D = nI (27 * D) from pk_mul 27 D]; exact nI_ge (by omega) (by omega)), nI_add, inb_t (show i < 1080 by omega) (by omega), inb_t (show 1107 * k + i < 3321 by omega) (by omega), if_pos rfl, if_pos rfl, nI_clamp (show i < 2 ^ 31 by omega), nI_clamp (show 1107 * k + i < 2 ^ 31 by omega), nI_1, hB 106 (by decide)]
    refine ih (i + 1) f _ (by omega) (hB.w (by simp)) (fun j hj => ?_)
    by_cases e : j = i
    · subst e; rw [wr_eq]
    · rw [wr_nj (by omega)]; exact hx j (by omega)
theorem op_on (x : Int32) : OK2 86 185 [iv x] := by
  intro N d I J h
  obtain ⟨P, ow, D, sh, vl, kp, KD, ksh, kvl, hP, how, hC, hX, h0, hK, hM, h32⟩ := h.2.2.2.2.un2
  have hn := hP.1
  have hD := hX.1.1
  rcases ixc x 3 (by omega) with hx | ⟨k, hk, rfl⟩
  · have hb : ¬ (¬ x < 0 ∧ ¬ (2 : Int32) < x) := fun q => hx.elim q.1 (fun z => q.2 (i_le_lt (k := 2) (by decide) z))
    refine ⟨iv (-1), I, J, I, J, ?_, ?_, h⟩
    · rw [enX9_on, sgX9_on_0]
      rcases hx with q | q
      · rw [if_pos q]
      · rw [if_neg (show ¬ x < 3 from Int32.not_lt.mpr (show (3 : Int32) ≤ x from q))]
        split <;> rfl
    · rw [enX10_on, sgX10_on_0, bI (s_in _ _ _ _ _ _)]
      try dsimp only
      try dsimp only
      rw [b2i_f hb, if_pos rfl]
  · have hin : ¬ nI k < 0 ∧ ¬ (2 : Int32) < nI k := ⟨nI_pos (by omega), nI_nlt (a := 2) (by omega) (by omega)⟩
    have hlt : nI k < 3 := nI_lt (b := 3) hk (by decide)
    have q := hK k hk
    have hcc : kp k = true ∨ kp k = false := by cases kp k <;> simp
    rcases hcc with hc | hc
    · rw [hc] at q
      obtain ⟨a1, a2, a3, h0'⟩ := q.2.2 rfl
      have hKD := a1.1
      obtain ⟨B1, r1, f1, hd1⟩ := s_becomeO N (d + 18) hk I J a1
      have hC1 : courN P ow B1 73 := hC.eq (fun a h1 h2 => f1 a (by simp; omega))
      obtain ⟨B2, r2, f2, g2⟩ := s_replay N (d + 15) hP (Or.inl h0') B1 J hC1 hd1
      have fX : fr [20, 21, 22, 23, 24, 25, 26, 27] I B2 := (f1.mo (by intro a; simp <;> omega)).tr (f2.mo (by intro a; simp <;> omega))
      have hX2 : XS P (KD k) (ksh k) (kvl k) B2 := ⟨hd1.eq (f2 25 (by decide)) (f2 (25 + 1) (by decide)) (f2 (25 + 2) (by decide)), g2⟩
      have hM1 : MS P ow D sh vl B2 := hM.eq (fun a h1 h2 => fX a (by simp; omega)) (fX 87 (by decide))
      obtain ⟨B3, r3, f3, g3, hR3⟩ := s_read_106 N (d + 18) (at_ := 1107 * k + 1080) (by omega) hn B2 J (73, 80) hM1.1 (by rw [fX 106 (by decide)]; exact a3)
      obtain ⟨B4, r4, f4, c4⟩ := l_mon N (d + 19) hKD hk B3 J (73, 80) hR3.2.2.1 (27 * KD k) 0 (N + 999998 - 27 * KD k) B3 (by omega) fr.rf (fun j hj => absurd hj (by omega))
      rw [nI_0] at r4
      have fA : fr [20, 21, 22, 23, 24, 25, 26, 27, 87, 98, 99, 100, 101, 104] I B4 := ((fX.mo (by intro a; simp <;> omega)).tr (f3.mo (by intro a; simp <;> omega))).tr (f4.mo (by intro a; simp <;> omega))
      have e87 : ∀ j, j ∉ [18, 25] → B4 87 j = I 87 j := fun j hj => by rw [f4 87 (by decide), g3 j hj, fX 87 (by decide)]
      refine ⟨iv (nI (KD k)), B2, J, B4, J, ?_, ?_, ?_⟩
      · rw [enX9_on, sgX9_on_0, if_neg (nI_pos (by omega)), if_pos hlt, inb_t hk (by omega), if_pos rfl, nI_clamp (by omega), if_neg (by rw [q.1]; decide), if_pos rfl, rf28 hk, bV r1]
        try dsimp only
        rw [bV r2]
        try dsimp only
        rw [hX2.1.2.1]
      · rw [enX10_on, sgX10_on_0, bI (s_in _ _ _ _ _ _)]
        try dsimp only
        try dsimp only
        rw [b2i_t hin, if_neg n10, inb_t hk (by omega), if_pos rfl, nI_clamp (by omega), if_neg (by rw [fX 105 (by decide), q.2.1]; decide), show (1107 : Int32) * nI k = nI (1107 * k) from pk_mul 1107 k, show nI (1107 * k) + 1080 = nI (1107 * k + 1080) from nI_add _ 1080, bV r3]
        try dsimp only
        rw [show N + 999999 = N + 999998 - 27 * KD k + 1 + 27 * KD k by omega]
        exact r4
      · refine h.mkV (fA.mo (by decide)) (e87 0 (by decide)) (e87 2 (by decide)) (RelV.mk2 hP how (hC.eq (fun a h1 h2 => fA a (by simp; omega))) (hX2.eq (fun a h1 h2 => (f4 a (by simp; omega)).trans (f3 a (by simp; omega)))) (fun z => absurd z (by omega)) (hK.eq (fun a h1 h2 => fA a (by simp; omega)) (fA 105 (by decide)) (fA 106 (by decide))) ⟨hR3.eq (fun a h1 h2 => f4 a (by simp; omega)) (by rw [f4 87 (by decide)]) (by rw [f4 87 (by decide)]) (by rw [f4 87 (by decide)]), fun t ht => ?_⟩ (by rw [e87 32 (by decide)]; exact h32))
        refine (a2 t ht).mv hn (fun i hi => ?_)
        rw [c4 _ (by omega), f3 106 (by decide), fX 106 (by decide), Nat.add_assoc]
    · rw [hc] at q
      refine ⟨iv (-3), xF I 1, J, mF (xF I 1) 1, J, ?_, ?_, h.find (by decide)⟩
      · rw [enX9_on, sgX9_on_0, if_neg (nI_pos (by omega)), if_pos hlt, inb_t hk (by omega), if_pos rfl, nI_clamp (by omega), if_pos (by rw [q.1]; decide), bI (s_find1 _ _ _ _)]
        try dsimp only
      · rw [enX10_on, sgX10_on_0, bI (s_in _ _ _ _ _ _)]
        try dsimp only
        try dsimp only
        rw [b2i_t hin, if_neg n10, inb_t hk (by omega), if_pos rfl, nI_clamp (by omega), if_pos (show xF I 1 105 k = 0 by rw [xF, wr_ne (by decide), wr_ne (by decide), q.2.1]; decide), bI (s_meet1 _ _ _ _ _)]
        try dsimp only
