/-! swap, reach, mark, mean, kinds, measures -/
theorem op_swap (x y : Int32) : OK2 81 191 [iv x, iv y] := by
  intro N d I J h
  obtain ⟨P, ow, D, sh, vl, kp, KD, ksh, kvl, hP, how, hC, hX, h0, hK, hM, h32⟩ := h.2.2.2.2.un2
  have hn := hP.1
  have hD := hX.1.1
  rcases ixc x 7 (by decide) with hx | ⟨i, hi, rfl⟩
  · refine ⟨iv (-1), I, J, I, J, ?_, ?_, h⟩
    · rw [enX9_swap, sgX9_swap_0, bI (s_isWeekdayB _ _ hx _)]
      try dsimp only
      try dsimp only
      rw [if_pos rfl]
    · rw [enX10_swap, sgX10_swap_0, bI (s_isDay _ _ _ _)]
      try dsimp only
      try dsimp only
      rw [b2i_f (b2_dayN hx), if_pos rfl]
  · rcases ixc y 7 (by decide) with hy | ⟨j, hj, rfl⟩
    · refine ⟨iv (-1), I, J, I, J, ?_, ?_, h⟩
      · rw [enX9_swap, sgX9_swap_0, bI (s_isWeekdayO _ _ hi _)]
        try dsimp only
        try dsimp only
        rw [if_neg n10, bI (s_isWeekdayB _ _ hy _)]
        try dsimp only
        try dsimp only
        rw [if_pos rfl]
      · rw [enX10_swap, sgX10_swap_0, bI (s_isDay _ _ _ _)]
        try dsimp only
        try dsimp only
        rw [b2i_t (b2_day hi), if_neg n10, bI (s_isDay _ _ _ _)]
        try dsimp only
        try dsimp only
        rw [b2i_f (b2_dayN hy), if_pos rfl]
    · have hX0 : ∀ {r : Option RES}, (if nI i = nI j then some (iv (-1), (I, J, 73, 80)) else if okc 73 2 = true then (if I 73 0 = 0 then some (iv (-4), (I, J, 73, 80)) else some (iv 1, (wr (wr I 78 i (I 78 j)) 78 j (I 78 i), J, 73, 80))) else none) = r → arun (N + 1000000) (d + 20) 81 [rv (some 0), iv (nI i), iv (nI j)] (I, J, 73, 80) = r := by
        intro r hr
        rw [enX9_swap, sgX9_swap_0, bI (s_isWeekdayO _ _ hi _)]
        try dsimp only
        try dsimp only
        rw [if_neg n10, bI (s_isWeekdayO _ _ hj _)]
        try dsimp only
        try dsimp only
        rw [if_neg n10]
        simp only [show RF (73, 80) 73 8 = some 78 from rfl, Option.bind_some, show alen 0 78 = 7 from rfl, inb_t hi (show i < 2 ^ 31 by omega), inb_t hj (show j < 2 ^ 31 by omega), nI_clamp (show i < 2 ^ 31 by omega), nI_clamp (show j < 2 ^ 31 by omega), show okc 73 2 = true from rfl, if_true] at hr ⊢
        exact hr
      have hM0 : ∀ (B : Nat → Nat → Int32) {r : Option RES}, (if nI i = nI j then some (iv (-1), (B, J, 73, 80)) else (if B 87 10 = 0 then some (iv (-4), (B, J, 73, 80)) else some (iv 1, (wr (wr B 95 i (B 95 j)) 95 j (B 95 i), J, 73, 80)))) = r → arun (N + 1000000) (d + 20) 191 [rv (some 87), iv (nI i), iv (nI j)] (B, J, 73, 80) = r := by
        intro B r hr
        rw [enX10_swap, sgX10_swap_0, bI (s_isDay _ _ _ _)]
        try dsimp only
        try dsimp only
        rw [b2i_t (b2_day hi), if_neg n10, bI (s_isDay _ _ _ _)]
        try dsimp only
        try dsimp only
        rw [b2i_t (b2_day hj), if_neg n10]
        simp only [inb_t hi (show i < 2 ^ 31 by omega), inb_t hj (show j < 2 ^ 31 by omega), nI_clamp (show i < 2 ^ 31 by omega), nI_clamp (show j < 2 ^ 31 by omega), if_true] at hr ⊢
        exact hr
      by_cases e : i = j
      · subst e
        exact ⟨iv (-1), I, J, I, J, hX0 (by rw [if_pos rfl]), hM0 I (by rw [if_pos rfl]), h⟩
      · have e' : ¬ nI i = nI j := fun q => e (nI_inj (by omega) (by omega) q)
        by_cases hz : P.1 = 0
        · exact ⟨iv (-4), I, J, I, J, hX0 (by rw [if_neg e', if_pos (show okc 73 2 = true from rfl), if_pos (by rw [hC.1, hz]; rfl)]), hM0 I (by rw [if_neg e', if_pos (by rw [hM.1.1, hz]; rfl)]), h⟩
        · have f1 : fr [78] I (wr (wr I 78 i (I 78 j)) 78 j (I 78 i)) := (fr.rf.w (by simp)).w (by simp)
          have f2 : fr [78, 95] I (wr (wr (wr (wr I 78 i (I 78 j)) 78 j (I 78 i)) 95 i (I 95 j)) 95 j (I 95 i)) := ((f1.mo (by intro a; simp <;> omega)).w (by simp)).w (by simp)
          refine ⟨iv 1, wr (wr I 78 i (I 78 j)) 78 j (I 78 i), J, wr (wr (wr (wr I 78 i (I 78 j)) 78 j (I 78 i)) 95 i (I 95 j)) 95 j (I 95 i), J, hX0 (by rw [if_neg e', if_pos (show okc 73 2 = true from rfl), if_neg (by rw [hC.1]; exact nI_ne0 (by omega) (by omega))]), hM0 _ (by rw [if_neg e', if_neg (by rw [f1 87 (by decide), hM.1.1]; exact nI_ne0 (by omega) (by omega)), f1 95 (by decide)]), ?_⟩
          have sw : ∀ u, u < 7 → up1 (up1 ow i (ow j)) j (ow i) u ≤ 6 := by
            intro u hu
            rw [up1_at]
            split
            · exact how i hi
            · rw [up1_at]
              split
              · exact how j hj
              · exact how u hu
          refine h.mkV (f2.mo (by decide)) (by rw [f2 87 (by decide)]) (by rw [f2 87 (by decide)]) (RelV.mk2 (ow := up1 (up1 ow i (ow j)) j (ow i)) hP sw ?_ (hX.eq (fun a h1 h2 => f2 a (by simp; omega))) h0 (hK.eq (fun a h1 h2 => f2 a (by simp; omega)) (f2 105 (by decide)) (f2 106 (by decide))) ⟨⟨?_, ?_, ?_, ?_, ?_⟩, ?_⟩ (by rw [f2 87 (by decide)]; exact h32))
          · obtain ⟨c0, c1, c2, c3, c4, c5⟩ := hC
            refine ⟨?_, ?_, ?_, ?_, ?_, ?_⟩
            · rw [f2 73 (by decide)]; exact c0
            · rw [f2 73 (by decide)]; exact c1
            · rw [f2 73 (by decide)]; exact c2
            · rw [f2 (73 + 1) (by decide), f2 (73 + 2) (by decide), f2 (73 + 3) (by decide)]; exact c3
            · intro u hu
              rw [f2 (73 + 4) (by decide)]
              refine ⟨(c4 u hu).1, ?_⟩
              rw [wr_ne (by decide), wr_ne (by decide), up1_at]
              by_cases u1 : u = j
              · rw [u1, wr_eq, if_pos rfl]; exact (c4 i hi).2
              · rw [wr_nj u1, if_neg u1, up1_at]
                by_cases u2 : u = i
                · rw [u2, wr_eq, if_pos rfl]; exact (c4 j hj).2
                · rw [wr_nj u2, if_neg u2]; exact (c4 u hu).2
            · rw [f2 73 (by decide), f2 (73 + 6) (by decide)]; exact c5
          · rw [f2 87 (by decide)]; exact hM.1.1
          · rw [f2 87 (by decide)]; exact hM.1.2.1
          · rw [f2 87 (by decide)]; exact hM.1.2.2.1
          · rw [f2 96 (by decide), f2 97 (by decide), f2 98 (by decide), f2 99 (by decide), f2 100 (by decide)]; exact hM.1.2.2.2.1
          · intro u hu
            have c4 := hM.1.2.2.2.2
            rw [f2 94 (by decide), f2 101 (by decide)]
            refine ⟨(c4 u hu).1, ?_, (c4 u hu).2.2⟩
            rw [up1_at]
            by_cases u1 : u = j
            · rw [u1, wr_eq, if_pos rfl]; exact (c4 i hi).2.1
            · rw [wr_nj u1, if_neg u1, up1_at]
              by_cases u2 : u = i
              · rw [u2, wr_eq, if_pos rfl]; exact (c4 j hj).2.1
              · rw [wr_nj u2, if_neg u2, f1 95 (by decide)]; exact (c4 u hu).2.1
          · rw [f2 104 (by decide)]; exact hM.2
/-- what can be asked of a REACH -/
def rchN (P : RP) (F : FS) (i k : Nat) : Nat := if k = 0 then P.2.1 i else if k = 1 then P.2.2.1 i else if k = 2 then F.1 i else if k = 3 then F.2.1 i else F.2.2.1 i
theorem s_ofReach (N d : Nat) {P : RP} {ow : Nat → Nat} {F : FS} {i k : Nat} (hn : P.1 ≤ 6) (hi : i < P.1) (hk : k ≤ 4) (I : Nat → Nat → Int32) (J : Nat → Nat → Int64) (hC : courN P ow I 73) (hF : flowAt I F) : arun (N + 1000000) (d + 1) 133 [rv (some 0), iv (nI i), iv (nI k)] (I, J, 73, 80) = some (iv (nI (rchN P F i k)), (I, J, 73, 80)) := by
  have e74 : I 74 i = nI (P.2.1 i) := (hC.2.2.2.1 i hi).1
  have e75 : I 75 i = nI (P.2.2.1 i) := (hC.2.2.2.1 i hi).2.1
  obtain ⟨e20, e21, e22⟩ := hF.1 i (by omega)
  rw [enX9_ofReach, sgX9_ofReach_0]
  simp only [inb_t (show i < 6 by omega) (show i < 2 ^ 31 by omega), nI_clamp (show i < 2 ^ 31 by omega), if_true, e74, e75, e20, e21, e22]
  have c : k = 0 ∨ k = 1 ∨ k = 2 ∨ k = 3 ∨ k = 4 := by omega
  rcases c with rfl | rfl | rfl | rfl | rfl <;> rfl
theorem s_reachOf (N d : Nat) {P : RP} {ow : Nat → Nat} {F : FS} {i k t : Nat} (hn : P.1 ≤ 6) (hi : i < P.1) (hk : k ≤ 4) (I : Nat → Nat → Int32) (J : Nat → Nat → Int64) (cd : Nat × Nat) (hR : refAt P ow I F t) : arun (N + 1000000) (d + 1) 186 [rv (some 87), iv (nI i), iv (nI k)] (I, J, cd) = some (iv (nI (rchN P F i k)), (I, J, cd)) := by
  obtain ⟨e96, e97, e98, e99, e100⟩ := hR.2.2.2.1 i hi
  rw [enX10_reachOf, sgX10_reachOf_0]
  simp only [inb_t (show i < 6 by omega) (show i < 2 ^ 31 by omega), nI_clamp (show i < 2 ^ 31 by omega), if_true, e96, e97, e98, e99, e100]
  have c : k = 0 ∨ k = 1 ∨ k = 2 ∨ k = 3 ∨ k = 4 := by omega
  rcases c with rfl | rfl | rfl | rfl | rfl <;> rfl
theorem op_reach (x y : Int32) : OK2 78 187 [iv x, iv y] := by
  intro N d I J h
  obtain ⟨P, ow, F, D, hP, how, hC, hD, h25, hFl, hRf, h32, hw⟩ := h.un
  have hn := hP.1
  rcases ixc x P.1 (by omega) with hx | ⟨i, hi, rfl⟩
  · have kX := s_hasReach N (d + 18) x I J (73, 80)
    rw [b2i_f (hr_b hC.1 hx)] at kX
    have kM := s_isReach N (d + 17) x I J (73, 80)
    rw [b2i_f (ir_b hRf.1 (by omega) hx)] at kM
    refine ⟨iv (-1), I, J, I, J, ?_, ?_, h⟩
    · rw [enX9_reach, sgX9_reach_0, bI kX]
      try dsimp only
      rw [if_pos rfl]
    · rw [enX10_reach, sgX10_reach_0, bI kM]
      try dsimp only
      rw [if_pos rfl]
  · have kX := s_hasReach N (d + 18) (nI i) I J (73, 80)
    rw [b2i_t (hr_o hC.1 (by omega) hi)] at kX
    rcases ixc y 5 (by decide) with hy | ⟨k, hk, rfl⟩
    · have kM := s_isReach N (d + 17) (nI i) I J (73, 80)
      rw [b2i_t (ir_o hRf.1 (by omega) hi)] at kM
      have hb : ¬ (¬ y < 0 ∧ ¬ (4 : Int32) < y) := fun q => hy.elim q.1 (fun z => q.2 (i_le_lt (k := 4) (by decide) z))
      refine ⟨iv (-1), I, J, I, J, ?_, ?_, h⟩
      · rw [enX9_reach, sgX9_reach_0, bI kX]
        try dsimp only
        rw [if_neg n10]
        rcases hy with q | q
        · rw [if_pos q]
        · rw [if_neg (show ¬ y ≤ 4 from i_nlt (k := 4) (by decide) q)]
          split <;> rfl
      · rw [enX10_reach, sgX10_reach_0, bI kM]
        try dsimp only
        rw [if_neg n10, bI (s_in _ _ _ _ _ _)]
        try dsimp only
        try dsimp only
        rw [b2i_f hb, if_pos rfl]
    · have hin : ¬ nI k < 0 ∧ ¬ (4 : Int32) < nI k := ⟨nI_pos (by omega), nI_nlt (a := 4) (by omega) (by omega)⟩
      have kM := s_isReach N (d + 17) (nI i) (wr I 0 14 (nI (rchN P F i k))) J (73, 80)
      rw [b2i_t (ir_o (n := P.1) (by rw [wr_ne (by decide)]; exact hRf.1) (by omega) hi)] at kM
      have hR1 : refAt P ow (wr I 0 14 (nI (rchN P F i k))) F D := hRf.eq (fun a h1 h2 => wr_ne (by omega)) (by rw [wr_ne (by decide)]) (by rw [wr_ne (by decide)]) (by rw [wr_ne (by decide)])
      refine ⟨iv 1, wr I 0 14 (nI (rchN P F i k)), J, wr (wr I 0 14 (nI (rchN P F i k))) 87 2 (nI (rchN P F i k)), J, ?_, ?_, h.tell _⟩
      · rw [enX9_reach, sgX9_reach_0, bI kX]
        try dsimp only
        rw [if_neg n10, if_neg (nI_pos (by omega)), if_pos (show nI k ≤ 4 from nI_le (b := 4) (by omega) (by decide)), bI (s_ofReach _ _ hn hi (by omega) _ _ hC hFl)]
        try dsimp only
        try dsimp only
        rw [bI (s_tell _ _ _ _ _)]
        try dsimp only
      · rw [enX10_reach, sgX10_reach_0, bI kM]
        try dsimp only
        rw [if_neg n10, bI (s_in _ _ _ _ _ _)]
        try dsimp only
        try dsimp only
        rw [b2i_t hin, if_neg n10, bI (s_reachOf _ _ hn hi (by omega) _ _ _ hR1)]
        try dsimp only
        try dsimp only
        rw [bI (s_ask _ _ _ _ _ _ _)]
        try dsimp only
def isAN (k o : Nat) : Bool := decide (k = o) || (decide (o = 1) && isG k) || (decide (o = 2) && isM k)
theorem isO_b : ∀ k, k ≤ 5 → ∀ o, o ≤ 5 → 1 ≤ o → b2i (nI o = 0 ∨ (nI o = 1 ∧ (nI k = 1 ∨ nI k = 3 ∨ nI k = 4)) ∨ (nI o = 2 ∧ (nI k = 2 ∨ nI k = 5)) ∨ (¬ nI o = 1 ∧ ¬ nI o = 2 ∧ nI k = nI o)) = if isAN k o then 1 else 0 := by decide +kernel
theorem s_isA (N d : Nat) {k o i : Nat} (hk : k ≤ 5) (ho : o ≤ 5) (hi : i < 6) (I : Nat → Nat → Int32) (J : Nat → Nat → Int64) (cd : Nat × Nat) (h96 : I 96 i = nI k) : arun (N + 1000000) (d + 2) 188 [rv (some 87), iv (nI i), iv (nI o)] (I, J, cd) = some (iv (if isAN k o then 1 else 0), (I, J, cd)) := by
  have e0 : (nI k = nI o) = (k = o) := neq (by omega) (by omega)
  have e1 : (nI o = 1) = (o = 1) := neq (b := 1) (by omega) (by omega)
  have e2 : (nI o = 2) = (o = 2) := neq (b := 2) (by omega) (by omega)
  have r27 : ∀ n, EX10_isA (N + 1000000) (d + 1) (n + 1) 27 [some (rv (some 87)), some (iv (nI i)), some (iv (nI o))] (I, J, cd) = some (iv (if decide (o = 2) && isM k then 1 else 0), (I, J, cd)) := by
    intro n
    rw [sgX10_isA_27]
    simp only [inb_t hi (show i < 2 ^ 31 by omega), nI_clamp (show i < 2 ^ 31 by omega), if_true, h96, e2]
    by_cases c : o = 2
    · rw [if_pos c, bI (s_isMill _ _ hk _)]
      try dsimp only
      try dsimp only
      have hcc : isM k = true ∨ isM k = false := by cases isM k <;> simp
      rcases hcc with q | q
      · rw [if_neg (by rw [q]; decide)]; simp [c, q]
      · rw [if_pos (by rw [q]; decide)]; simp [q]
    · rw [if_neg c]; simp [c]
  rw [enX10_isA, sgX10_isA_0]
  simp only [inb_t hi (show i < 2 ^ 31 by omega), nI_clamp (show i < 2 ^ 31 by omega), if_true, h96, e0, e1]
  by_cases c0 : k = o
  · rw [if_pos c0]; simp [isAN, c0]
  · rw [if_neg c0]
    by_cases c1 : o = 1
    · rw [if_pos c1, bI (s_isGate _ _ hk _)]
      try dsimp only
      try dsimp only
      have hcc : isG k = true ∨ isG k = false := by cases isG k <;> simp
      rcases hcc with q | q
      · rw [if_neg (by rw [q]; decide)]; simp [isAN, c1, q]
      · rw [if_pos (by rw [q]; decide), r27]
        simp [isAN, c0, q]
    · rw [if_neg c1, r27]; simp [isAN, c0, c1]
theorem op_mark (x y : Int32) : OK2 79 189 [iv x, iv y] := by
  intro N d I J h
  obtain ⟨P, ow, F, D, hP, how, hC, hD, h25, hFl, hRf, h32, hw⟩ := h.un
  have hn := hP.1
  rcases ixc x P.1 (by omega) with hx | ⟨i, hi, rfl⟩
  · have kX := s_hasReach N (d + 18) x I J (73, 80)
    rw [b2i_f (hr_b hC.1 hx)] at kX
    have kM := s_isReach N (d + 17) x I J (73, 80)
    rw [b2i_f (ir_b hRf.1 (by omega) hx)] at kM
    refine ⟨iv (-1), I, J, I, J, ?_, ?_, h⟩
    · rw [enX9_mark, sgX9_mark_0, bI kX]
      try dsimp only
      rw [if_pos rfl]
    · rw [enX10_mark, sgX10_mark_0, bI kM]
      try dsimp only
      rw [if_pos rfl]
  · have kX := s_hasReach N (d + 18) (nI i) I J (73, 80)
    rw [b2i_t (hr_o hC.1 (by omega) hi)] at kX
    have kM : ∀ B : Nat → Nat → Int32, B 87 10 = nI P.1 → arun (N + 1000000) (d + 19) 169 [rv (some 87), iv (nI i)] (B, J, 73, 80) = some (iv 1, (B, J, 73, 80)) := fun B hB => by
      have := s_isReach N (d + 17) (nI i) B J (73, 80)
      rw [b2i_t (ir_o hB (by omega) hi)] at this
      exact this
    have hyb : (y < 1 ∨ nI 6 ≤ y) ∨ ∃ o, 1 ≤ o ∧ o ≤ 5 ∧ y = nI o := by
      rcases ixc y 6 (by decide) with q | ⟨o, ho, rfl⟩
      · rcases q with q | q
        · exact Or.inl (Or.inl (Int32.lt_trans q (by decide)))
        · exact Or.inl (Or.inr q)
      · by_cases z : o = 0
        · subst z; exact Or.inl (Or.inl (by decide))
        · exact Or.inr ⟨o, by omega, by omega, rfl⟩
    rcases hyb with hy | ⟨o, ho1, ho, rfl⟩
    · have hb : ¬ (¬ y < 1 ∧ ¬ (5 : Int32) < y) := fun q => hy.elim q.1 (fun z => q.2 (i_le_lt (k := 5) (by decide) z))
      refine ⟨iv (-1), I, J, I, J, ?_, ?_, h⟩
      · rw [enX9_mark, sgX9_mark_0, bI kX]
        try dsimp only
        rw [if_neg n10]
        rcases hy with q | q
        · rw [if_pos q]
        · rw [if_neg (show ¬ y ≤ 5 from i_nlt (k := 5) (by decide) q)]
          split <;> rfl
      · rw [enX10_mark, sgX10_mark_0, bI (kM _ hRf.1)]
        try dsimp only
        try dsimp only
        rw [if_neg n10, bI (s_in _ _ _ _ _ _)]
        try dsimp only
        try dsimp only
        rw [b2i_f hb, if_pos rfl]
    · have hin : ¬ nI o < 1 ∧ ¬ (5 : Int32) < nI o := ⟨nI_nlt (b := 1) (by omega) (by omega), nI_nlt (a := 5) (by omega) (by omega)⟩
      have k5 := hP.k hi
      have m9 := hP.m hi
      have m1 := (hP.2.1 i hi).2.1
      have e74 : I 74 i = nI (P.2.1 i) := (hC.2.2.2.1 i hi).1
      have e75 : I 75 i = nI (P.2.2.1 i) := (hC.2.2.2.1 i hi).2.1
      have e20 : I 20 i = nI (F.1 i) := (hFl.1 i (by omega)).1
      obtain ⟨e96, e97, e98, -, -⟩ := hRf.2.2.2.1 i hi
      have kO := s_isOf N (d + 18) (nI (P.2.1 i)) (nI o) (I, J, 73, 80)
      rw [isO_b _ k5 _ ho ho1] at kO
      have hcc : isAN (P.2.1 i) o = true ∨ isAN (P.2.1 i) o = false := by cases isAN (P.2.1 i) o <;> simp
      rcases hcc with hc | hc
      · rw [hc, if_pos rfl] at kO
        have kA := s_isA N (d + 17) k5 ho (show i < 6 by omega) I J (73, 80) e96
        rw [hc, if_pos rfl] at kA
        have hX0 : ∀ {r : Option RES}, ((cI (arun (N + 1000000) (d + 19)) 44 [iv (nI o), iv (nI (P.2.2.1 i)), iv (nI (F.1 i))] (I, J, 73, 80)).bind fun r6 => some (iv r6.1, r6.2)) = r → arun (N + 1000000) (d + 20) 79 [rv (some 0), iv (nI i), iv (nI o)] (I, J, 73, 80) = r := by
          intro r hr
          rw [enX9_mark, sgX9_mark_0, bI kX]
          try dsimp only
          rw [if_neg n10, if_neg hin.1, if_pos (show nI o ≤ 5 from nI_le (b := 5) ho (by decide)), if_pos (show okc 73 2 = true from rfl), show RF (73, 80) 73 4 = some 74 from rfl, Option.bind_some, show alen 0 74 = 6 from rfl, inb_t (show i < 6 by omega) (by omega), if_pos rfl, nI_clamp (by omega), e74, bI kO]
          try dsimp only
          rw [if_neg n10, if_pos (show okc 73 2 = true from rfl), show RF (73, 80) 73 5 = some 75 from rfl, Option.bind_some, show alen 0 75 = 6 from rfl, inb_t (show i < 6 by omega) (by omega), if_pos rfl, if_pos rfl, e75, e20]
          exact hr
        have hM0 : ∀ {r : Option RES}, (if nI o = 1 then (if nI (P.2.2.1 i) ≤ nI (F.1 i) then some (iv (nI (P.2.2.1 i)), (I, J, 73, 80)) else some (iv (nI (F.1 i)), (I, J, 73, 80))) else if nI o = 2 then (cI (arun (N + 1000000) (d + 19)) 141 [iv 0, iv (nI (P.2.2.1 i) - nI (F.1 i))] (I, J, 73, 80)).bind fun r5 => some (iv r5.1, r5.2) else if nI o = 3 then some (iv (nI (F.1 i)), (I, J, 73, 80)) else if nI o = 4 then (if nI (P.2.2.1 i) = 0 then none else some (iv ((nI (F.1 i) + nI (P.2.2.1 i) - 1) / nI (P.2.2.1 i)), (I, J, 73, 80))) else (cI (arun (N + 1000000) (d + 19)) 141 [iv 0, iv (nI (F.1 i) - nI (P.2.2.1 i) - 2)] (I, J, 73, 80)).bind fun r6 => some (iv r6.1, r6.2)) = r → arun (N + 1000000) (d + 20) 189 [rv (some 87), iv (nI i), iv (nI o)] (I, J, 73, 80) = r := by
          intro r hr
          rw [enX10_mark, sgX10_mark_0, bI (kM _ hRf.1)]
          try dsimp only
          try dsimp only
          rw [if_neg n10, bI (s_in _ _ _ _ _ _)]
          try dsimp only
          try dsimp only
          rw [b2i_t hin, if_neg n10, bI kA]
          try dsimp only
          rw [if_neg n10]
          simp only [inb_t (show i < 6 by omega) (show i < 2 ^ 31 by omega), nI_clamp (show i < 2 ^ 31 by omega), if_true, e97, e98]
          exact hr
        have c : o = 1 ∨ o = 2 ∨ o = 3 ∨ o = 4 ∨ o = 5 := by omega
        rcases c with rfl | rfl | rfl | rfl | rfl
        · refine ⟨iv (mnI (nI (F.1 i)) (nI (P.2.2.1 i))), I, J, I, J, hX0 ?_, hM0 ?_, h⟩
          · rw [bI (x := mnI (nI (F.1 i)) (nI (P.2.2.1 i))) (B := (I, J, 73, 80))]
            rw [enX6_signOf, sgX6_signOf_0, if_pos (by decide), bI (s_min _ _ _ _ _)]
            try dsimp only
          · rw [if_pos (by decide), mnI]
            by_cases q : nI (P.2.2.1 i) ≤ nI (F.1 i)
            · rw [if_pos q]
              by_cases q2 : nI (P.2.2.1 i) < nI (F.1 i)
              · rw [if_pos q2]
              · rw [if_neg q2, Int32.le_antisymm q (Int32.not_lt.mp q2)]
            · rw [if_neg q, if_neg (fun z => q (Int32.le_of_lt z))]
        · refine ⟨iv (mxI 0 (nI (P.2.2.1 i) - nI (F.1 i))), I, J, I, J, hX0 ?_, hM0 ?_, h⟩
          · rw [bI (x := mxI 0 (nI (P.2.2.1 i) - nI (F.1 i))) (B := (I, J, 73, 80))]
            rw [enX6_signOf, sgX6_signOf_0, if_neg (by decide), if_pos (by decide), bI (s_max _ _ _ _ _)]
            try dsimp only
          · rw [if_neg (by decide), if_pos (by decide), bI (s_greater _ _ _ _ _)]
            try dsimp only
        · refine ⟨iv (nI (F.1 i)), I, J, I, J, hX0 ?_, hM0 ?_, h⟩
          · rw [bI (x := nI (F.1 i)) (B := (I, J, 73, 80))]
            rw [enX6_signOf, sgX6_signOf_0, if_neg (by decide), if_neg (by decide), if_pos (by decide)]
          · rw [if_neg (by decide), if_neg (by decide), if_pos (by decide)]
        · have hm0 : ¬ nI (P.2.2.1 i) = 0 := nI_ne0 (by omega) (by omega)
          refine ⟨iv ((nI (F.1 i) + nI (P.2.2.1 i) - 1) / nI (P.2.2.1 i)), I, J, I, J, hX0 ?_, hM0 ?_, h⟩
          · rw [bI (x := (nI (F.1 i) + nI (P.2.2.1 i) - 1) / nI (P.2.2.1 i)) (B := (I, J, 73, 80))]
            rw [enX6_signOf, sgX6_signOf_0, if_neg (by decide), if_neg (by decide), if_neg (by decide), if_pos (by decide), if_pos (show (1 : Int32) ≤ nI (P.2.2.1 i) from nI_le (a := 1) m1 (by omega)), if_neg hm0]
          · rw [if_neg (by decide), if_neg (by decide), if_neg (by decide), if_pos (by decide), if_neg hm0]
        · refine ⟨iv (mxI 0 (nI (F.1 i) - nI (P.2.2.1 i) - 2)), I, J, I, J, hX0 ?_, hM0 ?_, h⟩
          · rw [bI (x := mxI 0 (nI (F.1 i) - nI (P.2.2.1 i) - 2)) (B := (I, J, 73, 80))]
            rw [enX6_signOf, sgX6_signOf_0, if_neg (by decide), if_neg (by decide), if_neg (by decide), if_neg (by decide), bI (s_max _ _ _ _ _)]
            try dsimp only
          · rw [if_neg (by decide), if_neg (by decide), if_neg (by decide), if_neg (by decide), bI (s_greater _ _ _ _ _)]
            try dsimp only
      · rw [hc, if_neg (by decide)] at kO
        have kA := s_isA N (d + 17) k5 ho (show i < 6 by omega) (xF I 3) J (73, 80) (by rw [xF, wr_ne (by decide), wr_ne (by decide)]; exact e96)
        rw [hc, if_neg (by decide)] at kA
        refine ⟨iv (-3), xF I 3, J, mF (xF I 3) 3, J, ?_, ?_, h.find (by decide)⟩
        · rw [enX9_mark, sgX9_mark_0, bI kX]
          try dsimp only
          rw [if_neg n10, if_neg hin.1, if_pos (show nI o ≤ 5 from nI_le (b := 5) ho (by decide)), if_pos (show okc 73 2 = true from rfl), show RF (73, 80) 73 4 = some 74 from rfl, Option.bind_some, show alen 0 74 = 6 from rfl, inb_t (show i < 6 by omega) (by omega), if_pos rfl, nI_clamp (by omega), e74, bI kO]
          try dsimp only
          rw [if_pos rfl, bI (s_find3 _ _ _ _)]
          try dsimp only
        · rw [enX10_mark, sgX10_mark_0, bI (kM _ (by rw [xF, wr_ne (by decide), wr_ne (by decide)]; exact hRf.1))]
          try dsimp only
          try dsimp only
          rw [if_neg n10, bI (s_in _ _ _ _ _ _)]
          try dsimp only
          try dsimp only
          rw [b2i_t hin, if_neg n10, bI kA]
          try dsimp only
          rw [if_pos rfl, bI (s_meet3 _ _ _ _ _)]
          try dsimp only
-- mean
/-- the sum of the first numbers, as a long -/
def sumJ (f : Nat → Int32) : Nat → Int64
  | 0 => 0
  | n + 1 => sumJ f n + (f n).toInt64
theorem sumJ_ext {f g : Nat → Int32} : ∀ n, (∀ i, i < n → f i = g i) → sumJ f n = sumJ g n
  | 0, _ => rfl
  | n + 1, h => by simp only [sumJ]; rw [sumJ_ext n (fun i hi => h i (by omega)), h n (by omega)]
theorem l_sumOf (N d : Nat) {j n : Nat} (hj : j < 6) (hl : n ≤ 40) (I : Nat → Nat → Int32) (J : Nat → Nat → Int64) (cd : Nat × Nat) (h9 : I 9 j = nI n) : ∀ (m k f : Nat), k + m = n → EX8_sumOf (N + 1000000) (d + 2) (f + 1 + m) 5 [some (rv (some 1)), some (iv (nI j)), some (jv (sumJ (I (3 + j)) k)), none, some (iv (nI k))] (I, J, cd) = some (jv (sumJ (I (3 + j)) n), (I, J, cd)) := by
  intro m
  induction m with
  | zero =>
    intro k f hk
    have : k = n := by omega
    subst this
    rw [Nat.add_zero, sgX8_sumOf_5, bI (s_sizeOfN_1 _ _ hj _ _ _ h9 hl)]
    try dsimp only
    try dsimp only
    rw [if_pos (Int32.le_refl _)]
  | succ m ih =>
    intro k f hk
    rw [show f + 1 + (m + 1) = f + 1 + m + 1 by omega, sgX8_sumOf_5, bI (s_sizeOfN_1 _ _ hj _ _ _ h9 hl)]
    try dsimp only
    try dsimp only
    rw [if_neg (nI_ge (by omega) (by omega)), inb_t hj (by omega), if_pos rfl, nI_clamp (show j < 2 ^ 31 by omega), RF_2 _ hj, Option.bind_some, al_2 j hj, inb_t (show k < 40 by omega) (by omega), if_pos rfl, nI_clamp (show k < 2 ^ 31 by omega), nI_1]
    exact ih (k + 1) f (by omega)
theorem l_mmean (N d : Nat) {j n : Nat} (hj : j < 6) (hl : n ≤ 40) (h0 : 0 < n) (I : Nat → Nat → Int32) (J : Nat → Nat → Int64) (cd : Nat × Nat) (h89 : I 89 j = nI n) : ∀ (m k f : Nat), k + m = n → EX10_mean (N + 1000000) (d + 1) (f + 1 + m) 17 [some (rv (some 87)), some (iv (nI j)), none, some (jv (sumJ (fun k => I 90 (40 * j + k)) k)), none, some (iv (nI k))] (I, J, cd) = some (iv 1, (wr I 87 2 (Int64.toInt32 (sumJ (fun k => I 90 (40 * j + k)) n / (nI n).toInt64)), J, cd)) := by
  intro m
  induction m with
  | zero =>
    intro k f hk
    have : k = n := by omega
    subst this
    have z : ¬ (nI k).toInt64 = 0 := by
      rw [nI_l (by omega)]
      exact fun q => absurd ((lN_eq (b := 0) (by omega) (by omega)).mp q) (by omega)
    rw [Nat.add_zero, sgX10_mean_17, inb_t hj (by omega), if_pos rfl, if_pos rfl, if_pos rfl, nI_clamp (show j < 2 ^ 31 by omega), if_pos (by rw [h89]; exact Int32.le_refl _), if_neg (by rw [h89]; exact nI_ne0 h0 (by omega)), if_neg (by rw [h89]; exact z), h89, bI (s_ask _ _ _ _ _ _ _)]
    try dsimp only
  | succ m ih =>
    intro k f hk
    rw [show f + 1 + (m + 1) = f + 1 + m + 1 by omega, sgX10_mean_17, inb_t hj (by omega), if_pos rfl, if_pos rfl, nI_clamp (show j < 2 ^ 31 by omega), if_neg (by rw [h89]; exact nI_ge (by omega) (by omega)), bI (s_rowAt _ _ hj (by omega) _ _ _)]
    try dsimp only
    try dsimp only
    rw [nI_1]
    exact ih (k + 1) f (by omega)
theorem op_mean (r : Int32) : OK2 73 154 [iv r] := by
  intro N d I J h
  rcases ixc r 6 (by decide) with hr | ⟨j, hj, rfl⟩
  · refine ⟨iv (-1), I, J, I, J, ?_, ?_, h⟩
    · rw [enX9_mean, sgX9_mean_0, bI (x_missB_1 _ _ hr _ _)]
      try dsimp only
      try dsimp only
      rw [if_neg (by decide)]
    · rw [enX10_mean, sgX10_mean_0, bI (m_askB_1 _ _ hr _ _ _)]
      try dsimp only
      try dsimp only
      rw [if_neg (by decide)]
  · have x89 : ∀ f a, a ≠ 0 → a ≠ 72 → xF I f a = I a := fun f a h1 h2 => by rw [xF, wr_ne h2, wr_ne h1]
    rcases h.1.2 j hj with ⟨a, b⟩ | ⟨n, hn, a, b, c⟩
    · refine ⟨iv (-3), xF I 1, J, mF (xF I 1) 1, J, ?_, ?_, h.find (by decide)⟩
      · rw [enX9_mean, sgX9_mean_0, bI (x_missN_1 _ _ hj _ _ a)]
        try dsimp only
        try dsimp only
        rw [if_neg (by decide)]
      · rw [enX10_mean, sgX10_mean_0, bI (m_askN_1 _ _ hj _ _ _ (by rw [x89 1 89 (by decide) (by decide)]; exact b))]
        try dsimp only
        try dsimp only
        rw [if_neg (by decide)]
    · by_cases h0 : n = 0
      · subst h0
        refine ⟨iv (-3), xF I 4, J, mF (xF I 4) 4, J, ?_, ?_, h.find (by decide)⟩
        · rw [enX9_mean, sgX9_mean_0, bI (x_missO_1 _ _ hj _ _ a hn)]
          try dsimp only
          try dsimp only
          rw [if_pos rfl, bI (s_sizeOfN_1 _ _ hj _ _ _ a hn)]
          try dsimp only
          try dsimp only
          rw [if_neg (by decide), bI (s_find4 _ _ _ _)]
          try dsimp only
        · have b' : xF I 4 89 j = nI 0 := by rw [x89 4 89 (by decide) (by decide)]; exact b
          rw [enX10_mean, sgX10_mean_0, bI (m_askO_1 _ _ hj _ _ _ b' hn)]
          try dsimp only
          try dsimp only
          rw [if_pos (by decide), sgX10_mean_17, inb_t hj (by omega), if_pos rfl, if_pos rfl, nI_clamp (show j < 2 ^ 31 by omega), if_pos (by rw [b']; decide), if_pos (by rw [b']; rfl), bI (s_meet4 _ _ _ _ _)]
          try dsimp only
      · have z : ¬ (nI n).toInt64 = 0 := by
          rw [nI_l (by omega)]
          exact fun q => absurd ((lN_eq (b := 0) (by omega) (by omega)).mp q) (by omega)
        have es : sumJ (fun k => I 90 (40 * j + k)) n = sumJ (I (3 + j)) n := sumJ_ext n (fun i hi => (c i hi).symm)
        refine ⟨iv 1, wr I 0 14 (Int64.toInt32 (sumJ (I (3 + j)) n / (nI n).toInt64)), J, wr (wr I 0 14 (Int64.toInt32 (sumJ (I (3 + j)) n / (nI n).toInt64))) 87 2 (Int64.toInt32 (sumJ (I (3 + j)) n / (nI n).toInt64)), J, ?_, ?_, h.tell _⟩
        · have l := l_sumOf N (d + 16) hj hn I J (73, 80) a n 0 (N + 999998 - n) (by omega)
          rw [nI_0] at l
          rw [enX9_mean, sgX9_mean_0, bI (x_missO_1 _ _ hj _ _ a hn)]
          try dsimp only
          try dsimp only
          rw [if_pos rfl, bI (s_sizeOfN_1 _ _ hj _ _ _ a hn)]
          try dsimp only
          try dsimp only
          rw [if_pos (show (1 : Int32) ≤ nI n from nI_le (a := 1) (by omega) (by omega)), bJ (x := sumJ (I (3 + j)) n) (B := (I, J, 73, 80))]
          · try dsimp only
            rw [if_neg z, bI (s_tell _ _ _ _ _)]
            try dsimp only
          · rw [enX8_sumOf, sgX8_sumOf_0, show N + 999999 = N + 999998 - n + 1 + n by omega]
            exact l
        · have b' : wr I 0 14 (Int64.toInt32 (sumJ (I (3 + j)) n / (nI n).toInt64)) 89 j = nI n := by rw [wr_ne (by decide)]; exact b
          have l := l_mmean N (d + 18) hj hn (by omega) (wr I 0 14 (Int64.toInt32 (sumJ (I (3 + j)) n / (nI n).toInt64))) J (73, 80) b' n 0 (N + 999998 - n) (by omega)
          rw [wr_ne (show 90 ≠ 0 by decide), nI_0, es] at l
          rw [enX10_mean, sgX10_mean_0, bI (m_askO_1 _ _ hj _ _ _ b' hn)]
          try dsimp only
          try dsimp only
          rw [if_pos (by decide), show N + 999999 = N + 999998 - n + 1 + n by omega]
          exact l
