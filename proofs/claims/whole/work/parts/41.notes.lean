/-! the reference's notes of the RIVER: written, read; how often it GROUND -/
theorem nI_ad2 (a b c : Nat) : nI a + nI b + nI c = nI (a + b + c) := by rw [nI_add, nI_add]
theorem ixa {a k i : Nat} : nI a + nI k + nI i = nI (a + k + i) := nI_ad2 a k i

theorem l_write1_104 (N d : Nat) {at_ : Nat} (ha : at_ + 27 ≤ 1080) (I : Nat → Nat → Int32) (J : Nat → Nat → Int64) (cd : Nat × Nat) :
    ∀ (m i f : Nat) (B : Nat → Nat → Int32), i + m = 6 → fr [104] I B → (∀ j, j < i → B 104 (at_ + 2 + j) = I 98 j ∧ B 104 (at_ + 8 + j) = I 99 j ∧ B 104 (at_ + 14 + j) = I 100 j) → (∀ j, j < at_ + 2 ∨ at_ + 20 ≤ j → B 104 j = wr (wr I 104 at_ (I 87 18)) 104 (at_ + 1) (I 87 25) 104 j) → ∃ B', EX10_write (N + 1000000) d (f + 1 + m) 18 [some (rv (some 87)), some (rv (some 104)), some (iv (nI at_)), some (iv (nI i))] (B, J, cd) = EX10_write (N + 1000000) d f 73 [some (rv (some 87)), some (rv (some 104)), some (iv (nI at_)), some (iv 0)] (B', J, cd) ∧ fr [104] I B' ∧ (∀ j, j < 6 → B' 104 (at_ + 2 + j) = I 98 j ∧ B' 104 (at_ + 8 + j) = I 99 j ∧ B' 104 (at_ + 14 + j) = I 100 j) ∧ (∀ j, j < at_ + 2 ∨ at_ + 20 ≤ j → B' 104 j = wr (wr I 104 at_ (I 87 18)) 104 (at_ + 1) (I 87 25) 104 j) := by
  intro m
  induction m with
  | zero =>
    intro i f B hi hB hx ho
    have : i = 6 := by omega
    subst this
    exact ⟨B, by rw [Nat.add_zero, sgX10_write_104_18, if_pos (by decide)], hB, hx, ho⟩
  | succ m ih =>
    intro i f B hi hB hx ho
    have i31 : i < 2 ^ 31 := by omega
    have e2 : nI at_ + 2 + nI i = nI (at_ + 2 + i) := ixa (k := 2)
    have e8 : nI at_ + 8 + nI i = nI (at_ + 8 + i) := ixa (k := 8)
    have e14 : nI at_ + 14 + nI i = nI (at_ + 14 + i) := ixa (k := 14)
    have st : EX10_write (N + 1000000) d (f + 1 + m + 1) 18 [some (rv (some 87)), some (rv (some 104)), some (iv (nI at_)), some (iv (nI i))] (B, J, cd) = EX10_write (N + 1000000) d (f + 1 + m) 18 [some (rv (some 87)), some (rv (some 104)), some (iv (nI at_)), some (iv (nI (i + 1)))] (wr (wr (wr B 104 (at_ + 2 + i) (I 98 i)) 104 (at_ + 8 + i) (I 99 i)) 104 (at_ + 14 + i) (I 100 i), J, cd) := by
      rw [sgX10_write_104_18, if_neg (show ¬ (6 : Int32) ≤ nI i from nI_ge (b := 6) (by omega) (by decide))]
      simp only [e2, e8, e14, inb_t (show i < 6 by omega) i31, nI_clamp i31, inb_t (show at_ + 2 + i < 1080 by omega) (show at_ + 2 + i < 2 ^ 31 by omega), nI_clamp (show at_ + 2 + i < 2 ^ 31 by omega), inb_t (show at_ + 8 + i < 1080 by omega) (show at_ + 8 + i < 2 ^ 31 by omega), nI_clamp (show at_ + 8 + i < 2 ^ 31 by omega), inb_t (show at_ + 14 + i < 1080 by omega) (show at_ + 14 + i < 2 ^ 31 by omega), nI_clamp (show at_ + 14 + i < 2 ^ 31 by omega), if_true, wr_ne (show 98 ≠ 104 by decide), wr_ne (show 99 ≠ 104 by decide), wr_ne (show 100 ≠ 104 by decide), hB 98 (by decide), hB 99 (by decide), hB 100 (by decide), nI_1]
    rw [show f + 1 + (m + 1) = f + 1 + m + 1 by omega, st]
    refine ih (i + 1) f _ (by omega) (((hB.w (by simp)).w (by simp)).w (by simp)) (fun j hj => ?_) (fun j hj => ?_)
    · by_cases e : j = i
      · subst e
        rw [wr_nj (show at_ + 2 + j ≠ at_ + 14 + j by omega), wr_nj (show at_ + 2 + j ≠ at_ + 8 + j by omega), wr_eq, wr_nj (show at_ + 8 + j ≠ at_ + 14 + j by omega), wr_eq, wr_eq]
        exact ⟨rfl, rfl, rfl⟩
      · have := hx j (by omega)
        rw [wr_nj (show at_ + 2 + j ≠ at_ + 14 + i by omega), wr_nj (show at_ + 2 + j ≠ at_ + 8 + i by omega), wr_nj (show at_ + 2 + j ≠ at_ + 2 + i by omega), wr_nj (show at_ + 8 + j ≠ at_ + 14 + i by omega), wr_nj (show at_ + 8 + j ≠ at_ + 8 + i by omega), wr_nj (show at_ + 8 + j ≠ at_ + 2 + i by omega), wr_nj (show at_ + 14 + j ≠ at_ + 14 + i by omega), wr_nj (show at_ + 14 + j ≠ at_ + 8 + i by omega), wr_nj (show at_ + 14 + j ≠ at_ + 2 + i by omega)]
        exact this
    · rw [wr_nj (by omega), wr_nj (by omega), wr_nj (by omega)]
      exact ho j hj
theorem l_write2_104 (N d : Nat) {at_ : Nat} (ha : at_ + 27 ≤ 1080) (I : Nat → Nat → Int32) (J : Nat → Nat → Int64) (cd : Nat × Nat) :
    ∀ (m i f : Nat) (B : Nat → Nat → Int32), i + m = 7 → fr [104] I B → (∀ j, j < i → B 104 (at_ + 20 + j) = I 101 j) → (∀ j, j < at_ + 20 ∨ at_ + 27 ≤ j → B 104 j = I 104 j) → ∃ B', EX10_write (N + 1000000) d (f + 1 + m) 73 [some (rv (some 87)), some (rv (some 104)), some (iv (nI at_)), some (iv (nI i))] (B, J, cd) = some (rv none, (B', J, cd)) ∧ fr [104] I B' ∧ (∀ j, j < 7 → B' 104 (at_ + 20 + j) = I 101 j) ∧ (∀ j, j < at_ + 20 ∨ at_ + 27 ≤ j → B' 104 j = I 104 j) := by
  intro m
  induction m with
  | zero =>
    intro i f B hi hB hx ho
    have : i = 7 := by omega
    subst this
    exact ⟨B, by rw [Nat.add_zero, sgX10_write_104_73, if_pos (by decide)], hB, hx, ho⟩
  | succ m ih =>
    intro i f B hi hB hx ho
    have i31 : i < 2 ^ 31 := by omega
    have e2 : nI at_ + 20 + nI i = nI (at_ + 20 + i) := ixa (k := 20)
    have st : EX10_write (N + 1000000) d (f + 1 + m + 1) 73 [some (rv (some 87)), some (rv (some 104)), some (iv (nI at_)), some (iv (nI i))] (B, J, cd) = EX10_write (N + 1000000) d (f + 1 + m) 73 [some (rv (some 87)), some (rv (some 104)), some (iv (nI at_)), some (iv (nI (i + 1)))] (wr B 104 (at_ + 20 + i) (I 101 i), J, cd) := by
      rw [sgX10_write_104_73, if_neg (show ¬ (7 : Int32) ≤ nI i from nI_ge (b := 7) (by omega) (by decide))]
      simp only [e2, inb_t (show i < 7 by omega) i31, nI_clamp i31, inb_t (show at_ + 20 + i < 1080 by omega) (show at_ + 20 + i < 2 ^ 31 by omega), nI_clamp (show at_ + 20 + i < 2 ^ 31 by omega), if_true, hB 101 (by decide), nI_1]
    rw [show f + 1 + (m + 1) = f + 1 + m + 1 by omega, st]
    refine ih (i + 1) f _ (by omega) (hB.w (by simp)) (fun j hj => ?_) (fun j hj => ?_)
    · by_cases e : j = i
      · subst e
        rw [wr_eq]
      · rw [wr_nj (by omega)]
        exact hx j (by omega)
    · rw [wr_nj (by omega)]
      exact ho j hj
theorem s_write_104 (N d : Nat) {at_ : Nat} (ha : at_ + 27 ≤ 1080) {P : RP} (hn : P.1 ≤ 6) {ow : Nat → Nat} {F : FS} {t : Nat} (I : Nat → Nat → Int32) (J : Nat → Nat → Int64) (cd : Nat × Nat) (hA : refAt P ow I F t) :
    ∃ B, arun (N + 1000000) (d + 1) 173 [rv (some 87), rv (some 104), iv (nI at_)] (I, J, cd) = some (rv none, (B, J, cd)) ∧ fr [104] I B ∧ noteN P (B 104) at_ F t ∧ (∀ j, j < at_ ∨ at_ + 27 ≤ j → B 104 j = I 104 j) := by
  obtain ⟨a10, a18, a25, aR, aW⟩ := hA
  have f0 : fr [104] I (wr (wr I 104 at_ (I 87 18)) 104 (at_ + 1) (I 87 25)) := (fr.rf.w (by simp)).w (by simp)
  obtain ⟨B1, r1, f1, g1, o1⟩ := l_write1_104 N d ha I J cd 6 0 (N + 999992) (wr (wr I 104 at_ (I 87 18)) 104 (at_ + 1) (I 87 25)) (by omega) f0 (fun j hj => absurd hj (by omega)) (fun j _ => rfl)
  obtain ⟨B2, r2, f2, g2, o2⟩ := l_write2_104 N d ha B1 J cd 7 0 (N + 999984) B1 (by omega) fr.rf (fun j hj => absurd hj (by omega)) (fun j _ => rfl)
  rw [nI_0] at r1 r2
  refine ⟨B2, ?_, f1.tr f2, ⟨?_, ?_, ?_, ?_⟩, ?_⟩
  · rw [enX10_write, sgX10_write_104_0, show nI at_ + 1 = nI (at_ + 1) from nI_1 _, inb_t (show at_ < 1080 by omega) (show at_ < 2 ^ 31 by omega), nI_clamp (show at_ < 2 ^ 31 by omega), inb_t (show at_ + 1 < 1080 by omega) (show at_ + 1 < 2 ^ 31 by omega), nI_clamp (show at_ + 1 < 2 ^ 31 by omega), if_pos rfl, if_pos rfl]
    exact r1.trans r2
  · rw [o2 _ (by omega), o1 _ (by omega), wr_nj (by omega), wr_eq]; exact a18
  · rw [o2 _ (by omega), o1 _ (by omega), wr_eq]; exact a25
  · intro i hi
    rw [o2 _ (by omega), o2 _ (by omega), o2 _ (by omega), (g1 i (by omega)).1, (g1 i (by omega)).2.1, (g1 i (by omega)).2.2]
    exact (aR i hi).2.2
  · intro v hv
    rw [g2 v hv, f1 101 (by decide)]
    exact (aW v hv).2.2
  · intro j hj
    rw [o2 _ (by omega), o1 _ (by omega), wr_nj (by omega), wr_nj (by omega)]
theorem l_read1_104 (N d : Nat) {at_ : Nat} (ha : at_ + 27 ≤ 1080) (I : Nat → Nat → Int32) (J : Nat → Nat → Int64) (cd : Nat × Nat) :
    ∀ (m i f : Nat) (B : Nat → Nat → Int32), i + m = 6 → fr [98, 99, 100] I B → (∀ j, j < i → B 98 j = I 104 (at_ + 2 + j) ∧ B 99 j = I 104 (at_ + 8 + j) ∧ B 100 j = I 104 (at_ + 14 + j)) → ∃ B', EX10_read (N + 1000000) d (f + 1 + m) 18 [some (rv (some 87)), some (rv (some 104)), some (iv (nI at_)), some (iv (nI i))] (B, J, cd) = EX10_read (N + 1000000) d f 73 [some (rv (some 87)), some (rv (some 104)), some (iv (nI at_)), some (iv 0)] (B', J, cd) ∧ fr [98, 99, 100] I B' ∧ (∀ j, j < 6 → B' 98 j = I 104 (at_ + 2 + j) ∧ B' 99 j = I 104 (at_ + 8 + j) ∧ B' 100 j = I 104 (at_ + 14 + j)) := by
  intro m
  induction m with
  | zero =>
    intro i f B hi hB hx
    have : i = 6 := by omega
    subst this
    exact ⟨B, by rw [Nat.add_zero, sgX10_read_104_18, if_pos (by decide)], hB, hx⟩
  | succ m ih =>
    intro i f B hi hB hx
    have i31 : i < 2 ^ 31 := by omega
    have e2 : nI at_ + 2 + nI i = nI (at_ + 2 + i) := ixa (k := 2)
    have e8 : nI at_ + 8 + nI i = nI (at_ + 8 + i) := ixa (k := 8)
    have e14 : nI at_ + 14 + nI i = nI (at_ + 14 + i) := ixa (k := 14)
    have st : EX10_read (N + 1000000) d (f + 1 + m + 1) 18 [some (rv (some 87)), some (rv (some 104)), some (iv (nI at_)), some (iv (nI i))] (B, J, cd) = EX10_read (N + 1000000) d (f + 1 + m) 18 [some (rv (some 87)), some (rv (some 104)), some (iv (nI at_)), some (iv (nI (i + 1)))] (wr (wr (wr B 98 i (I 104 (at_ + 2 + i))) 99 i (I 104 (at_ + 8 + i))) 100 i (I 104 (at_ + 14 + i)), J, cd) := by
      rw [sgX10_read_104_18, if_neg (show ¬ (6 : Int32) ≤ nI i from nI_ge (b := 6) (by omega) (by decide))]
      simp only [e2, e8, e14, inb_t (show i < 6 by omega) i31, nI_clamp i31, inb_t (show at_ + 2 + i < 1080 by omega) (show at_ + 2 + i < 2 ^ 31 by omega), nI_clamp (show at_ + 2 + i < 2 ^ 31 by omega), inb_t (show at_ + 8 + i < 1080 by omega) (show at_ + 8 + i < 2 ^ 31 by omega), nI_clamp (show at_ + 8 + i < 2 ^ 31 by omega), inb_t (show at_ + 14 + i < 1080 by omega) (show at_ + 14 + i < 2 ^ 31 by omega), nI_clamp (show at_ + 14 + i < 2 ^ 31 by omega), if_true, wr_ne (show 104 ≠ 98 by decide), wr_ne (show 104 ≠ 99 by decide), wr_ne (show 104 ≠ 100 by decide), hB 104 (by decide), nI_1]
    rw [show f + 1 + (m + 1) = f + 1 + m + 1 by omega, st]
    refine ih (i + 1) f _ (by omega) (((hB.w (by simp)).w (by simp)).w (by simp)) (fun j hj => ?_)
    rw [wr_ne (show 98 ≠ 100 by decide), wr_ne (show 98 ≠ 99 by decide), wr_ne (show 99 ≠ 100 by decide)]
    by_cases e : j = i
    · subst e
      rw [wr_eq, wr_eq, wr_eq]
      exact ⟨rfl, rfl, rfl⟩
    · have := hx j (by omega)
      rw [wr_nj e, wr_nj e, wr_nj e, wr_ne (show 99 ≠ 98 by decide), wr_ne (show 100 ≠ 99 by decide), wr_ne (show 100 ≠ 98 by decide)]
      exact this
theorem l_read2_104 (N d : Nat) {at_ : Nat} (ha : at_ + 27 ≤ 1080) (I : Nat → Nat → Int32) (J : Nat → Nat → Int64) (cd : Nat × Nat) :
    ∀ (m i f : Nat) (B : Nat → Nat → Int32), i + m = 7 → fr [101] I B → (∀ j, j < i → B 101 j = I 104 (at_ + 20 + j)) → ∃ B', EX10_read (N + 1000000) d (f + 1 + m) 73 [some (rv (some 87)), some (rv (some 104)), some (iv (nI at_)), some (iv (nI i))] (B, J, cd) = some (rv none, (B', J, cd)) ∧ fr [101] I B' ∧ (∀ j, j < 7 → B' 101 j = I 104 (at_ + 20 + j)) := by
  intro m
  induction m with
  | zero =>
    intro i f B hi hB hx
    have : i = 7 := by omega
    subst this
    exact ⟨B, by rw [Nat.add_zero, sgX10_read_104_73, if_pos (by decide)], hB, hx⟩
  | succ m ih =>
    intro i f B hi hB hx
    have i31 : i < 2 ^ 31 := by omega
    have e2 : nI at_ + 20 + nI i = nI (at_ + 20 + i) := ixa (k := 20)
    have st : EX10_read (N + 1000000) d (f + 1 + m + 1) 73 [some (rv (some 87)), some (rv (some 104)), some (iv (nI at_)), some (iv (nI i))] (B, J, cd) = EX10_read (N + 1000000) d (f + 1 + m) 73 [some (rv (some 87)), some (rv (some 104)), some (iv (nI at_)), some (iv (nI (i + 1)))] (wr B 101 i (I 104 (at_ + 20 + i)), J, cd) := by
      rw [sgX10_read_104_73, if_neg (show ¬ (7 : Int32) ≤ nI i from nI_ge (b := 7) (by omega) (by decide))]
      simp only [e2, inb_t (show i < 7 by omega) i31, nI_clamp i31, inb_t (show at_ + 20 + i < 1080 by omega) (show at_ + 20 + i < 2 ^ 31 by omega), nI_clamp (show at_ + 20 + i < 2 ^ 31 by omega), if_true, hB 104 (by decide), nI_1]
    rw [show f + 1 + (m + 1) = f + 1 + m + 1 by omega, st]
    refine ih (i + 1) f _ (by omega) (hB.w (by simp)) (fun j hj => ?_)
    by_cases e : j = i
    · subst e
      rw [wr_eq]
    · rw [wr_nj e]
      exact hx j (by omega)
theorem s_read_104 (N d : Nat) {at_ : Nat} (ha : at_ + 27 ≤ 1080) {P : RP} (hn : P.1 ≤ 6) {ow : Nat → Nat} {F F' : FS} {t t' : Nat} (I : Nat → Nat → Int32) (J : Nat → Nat → Int64) (cd : Nat × Nat) (hA : refAt P ow I F' t') (hN : noteN P (I 104) at_ F t) :
    ∃ B, arun (N + 1000000) (d + 1) 174 [rv (some 87), rv (some 104), iv (nI at_)] (I, J, cd) = some (rv none, (B, J, cd)) ∧ fr [87, 98, 99, 100, 101] I B ∧ f87 [18, 25] I B ∧ refAt P ow B F t := by
  obtain ⟨a10, a18, a25, aR, aW⟩ := hA
  obtain ⟨b18, b25, bR, bW⟩ := hN
  have f0 : fr [87] I (wr (wr I 87 18 (I 104 at_)) 87 25 (I 104 (at_ + 1))) := (fr.rf.w (by simp)).w (by simp)
  have g0 : f87 [18, 25] I (wr (wr I 87 18 (I 104 at_)) 87 25 (I 104 (at_ + 1))) := (f87.rf.w (by simp)).w (by simp)
  obtain ⟨B1, r1, f1, g1⟩ := l_read1_104 N d ha (wr (wr I 87 18 (I 104 at_)) 87 25 (I 104 (at_ + 1))) J cd 6 0 (N + 999992) _ (by omega) fr.rf (fun j hj => absurd hj (by omega))
  obtain ⟨B2, r2, f2, g2⟩ := l_read2_104 N d ha B1 J cd 7 0 (N + 999984) B1 (by omega) fr.rf (fun j hj => absurd hj (by omega))
  rw [nI_0] at r1 r2
  have e87 : B2 87 = wr (wr I 87 18 (I 104 at_)) 87 25 (I 104 (at_ + 1)) 87 := (f2 87 (by decide)).trans (f1 87 (by decide))
  refine ⟨B2, ?_, ?_, ?_, ?_, ?_, ?_, ?_, ?_⟩
  · rw [enX10_read, sgX10_read_104_0, show nI at_ + 1 = nI (at_ + 1) from nI_1 _, inb_t (show at_ < 1080 by omega) (show at_ < 2 ^ 31 by omega), nI_clamp (show at_ < 2 ^ 31 by omega), inb_t (show at_ + 1 < 1080 by omega) (show at_ + 1 < 2 ^ 31 by omega), nI_clamp (show at_ + 1 < 2 ^ 31 by omega), if_pos rfl, if_pos rfl]
    exact r1.trans r2
  · exact ((f0.mo (by intro a; simp <;> omega)).tr (f1.mo (by intro a; simp <;> omega))).tr (f2.mo (by intro a; simp <;> omega))
  · intro k hk
    rw [e87]
    exact g0 k hk
  · rw [e87, wr_nj (by decide), wr_nj (by decide)]; exact a10
  · rw [e87, wr_nj (by decide), wr_eq]; exact b18
  · rw [e87, wr_eq]; exact b25
  · intro i hi
    rw [f2 96 (by decide), f2 97 (by decide), f2 98 (by decide), f2 99 (by decide), f2 100 (by decide), f1 96 (by decide), f1 97 (by decide), (g1 i (by omega)).1, (g1 i (by omega)).2.1, (g1 i (by omega)).2.2, f0 96 (by decide), f0 97 (by decide), f0 104 (by decide)]
    exact ⟨(aR i hi).1, (aR i hi).2.1, bR i hi⟩
  · intro v hv
    rw [g2 v hv, f2 94 (by decide), f2 95 (by decide), f1 94 (by decide), f1 95 (by decide), f1 104 (by decide), f0 94 (by decide), f0 95 (by decide), f0 104 (by decide)]
    exact ⟨(aW v hv).1, (aW v hv).2.1, bW v hv⟩

theorem l_write1_106 (N d : Nat) {at_ : Nat} (ha : at_ + 27 ≤ 3321) (I : Nat → Nat → Int32) (J : Nat → Nat → Int64) (cd : Nat × Nat) :
    ∀ (m i f : Nat) (B : Nat → Nat → Int32), i + m = 6 → fr [106] I B → (∀ j, j < i → B 106 (at_ + 2 + j) = I 98 j ∧ B 106 (at_ + 8 + j) = I 99 j ∧ B 106 (at_ + 14 + j) = I 100 j) → (∀ j, j < at_ + 2 ∨ at_ + 20 ≤ j → B 106 j = wr (wr I 106 at_ (I 87 18)) 106 (at_ + 1) (I 87 25) 106 j) → ∃ B', EX10_write (N + 1000000) d (f + 1 + m) 18 [some (rv (some 87)), some (rv (some 106)), some (iv (nI at_)), some (iv (nI i))] (B, J, cd) = EX10_write (N + 1000000) d f 73 [some (rv (some 87)), some (rv (some 106)), some (iv (nI at_)), some (iv 0)] (B', J, cd) ∧ fr [106] I B' ∧ (∀ j, j < 6 → B' 106 (at_ + 2 + j) = I 98 j ∧ B' 106 (at_ + 8 + j) = I 99 j ∧ B' 106 (at_ + 14 + j) = I 100 j) ∧ (∀ j, j < at_ + 2 ∨ at_ + 20 ≤ j → B' 106 j = wr (wr I 106 at_ (I 87 18)) 106 (at_ + 1) (I 87 25) 106 j) := by
  intro m
  induction m with
  | zero =>
    intro i f B hi hB hx ho
    have : i = 6 := by omega
    subst this
    exact ⟨B, by rw [Nat.add_zero, sgX10_write_106_18, if_pos (by decide)], hB, hx, ho⟩
  | succ m ih =>
    intro i f B hi hB hx ho
    have i31 : i < 2 ^ 31 := by omega
    have e2 : nI at_ + 2 + nI i = nI (at_ + 2 + i) := ixa (k := 2)
    have e8 : nI at_ + 8 + nI i = nI (at_ + 8 + i) := ixa (k := 8)
    have e14 : nI at_ + 14 + nI i = nI (at_ + 14 + i) := ixa (k := 14)
    have st : EX10_write (N + 1000000) d (f + 1 + m + 1) 18 [some (rv (some 87)), some (rv (some 106)), some (iv (nI at_)), some (iv (nI i))] (B, J, cd) = EX10_write (N + 1000000) d (f + 1 + m) 18 [some (rv (some 87)), some (rv (some 106)), some (iv (nI at_)), some (iv (nI (i + 1)))] (wr (wr (wr B 106 (at_ + 2 + i) (I 98 i)) 106 (at_ + 8 + i) (I 99 i)) 106 (at_ + 14 + i) (I 100 i), J, cd) := by
      rw [sgX10_write_106_18, if_neg (show ¬ (6 : Int32) ≤ nI i from nI_ge (b := 6) (by omega) (by decide))]
      simp only [e2, e8, e14, inb_t (show i < 6 by omega) i31, nI_clamp i31, inb_t (show at_ + 2 + i < 3321 by omega) (show at_ + 2 + i < 2 ^ 31 by omega), nI_clamp (show at_ + 2 + i < 2 ^ 31 by omega), inb_t (show at_ + 8 + i < 3321 by omega) (show at_ + 8 + i < 2 ^ 31 by omega), nI_clamp (show at_ + 8 + i < 2 ^ 31 by omega), inb_t (show at_ + 14 + i < 3321 by omega) (show at_ + 14 + i < 2 ^ 31 by omega), nI_clamp (show at_ + 14 + i < 2 ^ 31 by omega), if_true, wr_ne (show 98 ≠ 106 by decide), wr_ne (show 99 ≠ 106 by decide), wr_ne (show 100 ≠ 106 by decide), hB 98 (by decide), hB 99 (by decide), hB 100 (by decide), nI_1]
    rw [show f + 1 + (m + 1) = f + 1 + m + 1 by omega, st]
    refine ih (i + 1) f _ (by omega) (((hB.w (by simp)).w (by simp)).w (by simp)) (fun j hj => ?_) (fun j hj => ?_)
    · by_cases e : j = i
      · subst e
        rw [wr_nj (show at_ + 2 + j ≠ at_ + 14 + j by omega), wr_nj (show at_ + 2 + j ≠ at_ + 8 + j by omega), wr_eq, wr_nj (show at_ + 8 + j ≠ at_ + 14 + j by omega), wr_eq, wr_eq]
        exact ⟨rfl, rfl, rfl⟩
      · have := hx j (by omega)
        rw [wr_nj (show at_ + 2 + j ≠ at_ + 14 + i by omega), wr_nj (show at_ + 2 + j ≠ at_ + 8 + i by omega), wr_nj (show at_ + 2 + j ≠ at_ + 2 + i by omega), wr_nj (show at_ + 8 + j ≠ at_ + 14 + i by omega), wr_nj (show at_ + 8 + j ≠ at_ + 8 + i by omega), wr_nj (show at_ + 8 + j ≠ at_ + 2 + i by omega), wr_nj (show at_ + 14 + j ≠ at_ + 14 + i by omega), wr_nj (show at_ + 14 + j ≠ at_ + 8 + i by omega), wr_nj (show at_ + 14 + j ≠ at_ + 2 + i by omega)]
        exact this
    · rw [wr_nj (by omega), wr_nj (by omega), wr_nj (by omega)]
      exact ho j hj
theorem l_write2_106 (N d : Nat) {at_ : Nat} (ha : at_ + 27 ≤ 3321) (I : Nat → Nat → Int32) (J : Nat → Nat → Int64) (cd : Nat × Nat) :
    ∀ (m i f : Nat) (B : Nat → Nat → Int32), i + m = 7 → fr [106] I B → (∀ j, j < i → B 106 (at_ + 20 + j) = I 101 j) → (∀ j, j < at_ + 20 ∨ at_ + 27 ≤ j → B 106 j = I 106 j) → ∃ B', EX10_write (N + 1000000) d (f + 1 + m) 73 [some (rv (some 87)), some (rv (some 106)), some (iv (nI at_)), some (iv (nI i))] (B, J, cd) = some (rv none, (B', J, cd)) ∧ fr [106] I B' ∧ (∀ j, j < 7 → B' 106 (at_ + 20 + j) = I 101 j) ∧ (∀ j, j < at_ + 20 ∨ at_ + 27 ≤ j → B' 106 j = I 106 j) := by
  intro m
  induction m with
  | zero =>
    intro i f B hi hB hx ho
    have : i = 7 := by omega
    subst this
    exact ⟨B, by rw [Nat.add_zero, sgX10_write_106_73, if_pos (by decide)], hB, hx, ho⟩
  | succ m ih =>
    intro i f B hi hB hx ho
    have i31 : i < 2 ^ 31 := by omega
    have e2 : nI at_ + 20 + nI i = nI (at_ + 20 + i) := ixa (k := 20)
    have st : EX10_write (N + 1000000) d (f + 1 + m + 1) 73 [some (rv (some 87)), some (rv (some 106)), some (iv (nI at_)), some (iv (nI i))] (B, J, cd) = EX10_write (N + 1000000) d (f + 1 + m) 73 [some (rv (some 87)), some (rv (some 106)), some (iv (nI at_)), some (iv (nI (i + 1)))] (wr B 106 (at_ + 20 + i) (I 101 i), J, cd) := by
      rw [sgX10_write_106_73, if_neg (show ¬ (7 : Int32) ≤ nI i from nI_ge (b := 7) (by omega) (by decide))]
      simp only [e2, inb_t (show i < 7 by omega) i31, nI_clamp i31, inb_t (show at_ + 20 + i < 3321 by omega) (show at_ + 20 + i < 2 ^ 31 by omega), nI_clamp (show at_ + 20 + i < 2 ^ 31 by omega), if_true, hB 101 (by decide), nI_1]
    rw [show f + 1 + (m + 1) = f + 1 + m + 1 by omega, st]
    refine ih (i + 1) f _ (by omega) (hB.w (by simp)) (fun j hj => ?_) (fun j hj => ?_)
    · by_cases e : j = i
      · subst e
        rw [wr_eq]
      · rw [wr_nj (by omega)]
        exact hx j (by omega)
    · rw [wr_nj (by omega)]
      exact ho j hj
theorem s_write_106 (N d : Nat) {at_ : Nat} (ha : at_ + 27 ≤ 3321) {P : RP} (hn : P.1 ≤ 6) {ow : Nat → Nat} {F : FS} {t : Nat} (I : Nat → Nat → Int32) (J : Nat → Nat → Int64) (cd : Nat × Nat) (hA : refAt P ow I F t) :
    ∃ B, arun (N + 1000000) (d + 1) 173 [rv (some 87), rv (some 106), iv (nI at_)] (I, J, cd) = some (rv none, (B, J, cd)) ∧ fr [106] I B ∧ noteN P (B 106) at_ F t ∧ (∀ j, j < at_ ∨ at_ + 27 ≤ j → B 106 j = I 106 j) := by
  obtain ⟨a10, a18, a25, aR, aW⟩ := hA
  have f0 : fr [106] I (wr (wr I 106 at_ (I 87 18)) 106 (at_ + 1) (I 87 25)) := (fr.rf.w (by simp)).w (by simp)
  obtain ⟨B1, r1, f1, g1, o1⟩ := l_write1_106 N d ha I J cd 6 0 (N + 999992) (wr (wr I 106 at_ (I 87 18)) 106 (at_ + 1) (I 87 25)) (by omega) f0 (fun j hj => absurd hj (by omega)) (fun j _ => rfl)
  obtain ⟨B2, r2, f2, g2, o2⟩ := l_write2_106 N d ha B1 J cd 7 0 (N + 999984) B1 (by omega) fr.rf (fun j hj => absurd hj (by omega)) (fun j _ => rfl)
  rw [nI_0] at r1 r2
  refine ⟨B2, ?_, f1.tr f2, ⟨?_, ?_, ?_, ?_⟩, ?_⟩
  · rw [enX10_write, sgX10_write_106_0, show nI at_ + 1 = nI (at_ + 1) from nI_1 _, inb_t (show at_ < 3321 by omega) (show at_ < 2 ^ 31 by omega), nI_clamp (show at_ < 2 ^ 31 by omega), inb_t (show at_ + 1 < 3321 by omega) (show at_ + 1 < 2 ^ 31 by omega), nI_clamp (show at_ + 1 < 2 ^ 31 by omega), if_pos rfl, if_pos rfl]
    exact r1.trans r2
  · rw [o2 _ (by omega), o1 _ (by omega), wr_nj (by omega), wr_eq]; exact a18
  · rw [o2 _ (by omega), o1 _ (by omega), wr_eq]; exact a25
  · intro i hi
    rw [o2 _ (by omega), o2 _ (by omega), o2 _ (by omega), (g1 i (by omega)).1, (g1 i (by omega)).2.1, (g1 i (by omega)).2.2]
    exact (aR i hi).2.2
  · intro v hv
    rw [g2 v hv, f1 101 (by decide)]
    exact (aW v hv).2.2
  · intro j hj
    rw [o2 _ (by omega), o1 _ (by omega), wr_nj (by omega), wr_nj (by omega)]
theorem l_read1_106 (N d : Nat) {at_ : Nat} (ha : at_ + 27 ≤ 3321) (I : Nat → Nat → Int32) (J : Nat → Nat → Int64) (cd : Nat × Nat) :
    ∀ (m i f : Nat) (B : Nat → Nat → Int32), i + m = 6 → fr [98, 99, 100] I B → (∀ j, j < i → B 98 j = I 106 (at_ + 2 + j) ∧ B 99 j = I 106 (at_ + 8 + j) ∧ B 100 j = I 106 (at_ + 14 + j)) → ∃ B', EX10_read (N + 1000000) d (f + 1 + m) 18 [some (rv (some 87)), some (rv (some 106)), some (iv (nI at_)), some (iv (nI i))] (B, J, cd) = EX10_read (N + 1000000) d f 73 [some (rv (some 87)), some (rv (some 106)), some (iv (nI at_)), some (iv 0)] (B', J, cd) ∧ fr [98, 99, 100] I B' ∧ (∀ j, j < 6 → B' 98 j = I 106 (at_ + 2 + j) ∧ B' 99 j = I 106 (at_ + 8 + j) ∧ B' 100 j = I 106 (at_ + 14 + j)) := by
  intro m
  induction m with
  | zero =>
    intro i f B hi hB hx
    have : i = 6 := by omega
    subst this
    exact ⟨B, by rw [Nat.add_zero, sgX10_read_106_18, if_pos (by decide)], hB, hx⟩
  | succ m ih =>
    intro i f B hi hB hx
    have i31 : i < 2 ^ 31 := by omega
    have e2 : nI at_ + 2 + nI i = nI (at_ + 2 + i) := ixa (k := 2)
    have e8 : nI at_ + 8 + nI i = nI (at_ + 8 + i) := ixa (k := 8)
    have e14 : nI at_ + 14 + nI i = nI (at_ + 14 + i) := ixa (k := 14)
    have st : EX10_read (N + 1000000) d (f + 1 + m + 1) 18 [some (rv (some 87)), some (rv (some 106)), some (iv (nI at_)), some (iv (nI i))] (B, J, cd) = EX10_read (N + 1000000) d (f + 1 + m) 18 [some (rv (some 87)), some (rv (some 106)), some (iv (nI at_)), some (iv (nI (i + 1)))] (wr (wr (wr B 98 i (I 106 (at_ + 2 + i))) 99 i (I 106 (at_ + 8 + i))) 100 i (I 106 (at_ + 14 + i)), J, cd) := by
      rw [sgX10_read_106_18, if_neg (show ¬ (6 : Int32) ≤ nI i from nI_ge (b := 6) (by omega) (by decide))]
      simp only [e2, e8, e14, inb_t (show i < 6 by omega) i31, nI_clamp i31, inb_t (show at_ + 2 + i < 3321 by omega) (show at_ + 2 + i < 2 ^ 31 by omega), nI_clamp (show at_ + 2 + i < 2 ^ 31 by omega), inb_t (show at_ + 8 + i < 3321 by omega) (show at_ + 8 + i < 2 ^ 31 by omega), nI_clamp (show at_ + 8 + i < 2 ^ 31 by omega), inb_t (show at_ + 14 + i < 3321 by omega) (show at_ + 14 + i < 2 ^ 31 by omega), nI_clamp (show at_ + 14 + i < 2 ^ 31 by omega), if_true, wr_ne (show 106 ≠ 98 by decide), wr_ne (show 106 ≠ 99 by decide), wr_ne (show 106 ≠ 100 by decide), hB 106 (by decide), nI_1]
    rw [show f + 1 + (m + 1) = f + 1 + m + 1 by omega, st]
    refine ih (i + 1) f _ (by omega) (((hB.w (by simp)).w (by simp)).w (by simp)) (fun j hj => ?_)
    rw [wr_ne (show 98 ≠ 100 by decide), wr_ne (show 98 ≠ 99 by decide), wr_ne (show 99 ≠ 100 by decide)]
    by_cases e : j = i
    · subst e
      rw [wr_eq, wr_eq, wr_eq]
      exact ⟨rfl, rfl, rfl⟩
    · have := hx j (by omega)
      rw [wr_nj e, wr_nj e, wr_nj e, wr_ne (show 99 ≠ 98 by decide), wr_ne (show 100 ≠ 99 by decide), wr_ne (show 100 ≠ 98 by decide)]
      exact this
theorem l_read2_106 (N d : Nat) {at_ : Nat} (ha : at_ + 27 ≤ 3321) (I : Nat → Nat → Int32) (J : Nat → Nat → Int64) (cd : Nat × Nat) :
    ∀ (m i f : Nat) (B : Nat → Nat → Int32), i + m = 7 → fr [101] I B → (∀ j, j < i → B 101 j = I 106 (at_ + 20 + j)) → ∃ B', EX10_read (N + 1000000) d (f + 1 + m) 73 [some (rv (some 87)), some (rv (some 106)), some (iv (nI at_)), some (iv (nI i))] (B, J, cd) = some (rv none, (B', J, cd)) ∧ fr [101] I B' ∧ (∀ j, j < 7 → B' 101 j = I 106 (at_ + 20 + j)) := by
  intro m
  induction m with
  | zero =>
    intro i f B hi hB hx
    have : i = 7 := by omega
    subst this
    exact ⟨B, by rw [Nat.add_zero, sgX10_read_106_73, if_pos (by decide)], hB, hx⟩
  | succ m ih =>
    intro i f B hi hB hx
    have i31 : i < 2 ^ 31 := by omega
    have e2 : nI at_ + 20 + nI i = nI (at_ + 20 + i) := ixa (k := 20)
    have st : EX10_read (N + 1000000) d (f + 1 + m + 1) 73 [some (rv (some 87)), some (rv (some 106)), some (iv (nI at_)), some (iv (nI i))] (B, J, cd) = EX10_read (N + 1000000) d (f + 1 + m) 73 [some (rv (some 87)), some (rv (some 106)), some (iv (nI at_)), some (iv (nI (i + 1)))] (wr B 101 i (I 106 (at_ + 20 + i)), J, cd) := by
      rw [sgX10_read_106_73, if_neg (show ¬ (7 : Int32) ≤ nI i from nI_ge (b := 7) (by omega) (by decide))]
      simp only [e2, inb_t (show i < 7 by omega) i31, nI_clamp i31, inb_t (show at_ + 20 + i < 3321 by omega) (show at_ + 20 + i < 2 ^ 31 by omega), nI_clamp (show at_ + 20 + i < 2 ^ 31 by omega), if_true, hB 106 (by decide), nI_1]
    rw [show f + 1 + (m + 1) = f + 1 + m + 1 by omega, st]
    refine ih (i + 1) f _ (by omega) (hB.w (by simp)) (fun j hj => ?_)
    by_cases e : j = i
    · subst e
      rw [wr_eq]
    · rw [wr_nj e]
      exact hx j (by omega)
theorem s_read_106 (N d : Nat) {at_ : Nat} (ha : at_ + 27 ≤ 3321) {P : RP} (hn : P.1 ≤ 6) {ow : Nat → Nat} {F F' : FS} {t t' : Nat} (I : Nat → Nat → Int32) (J : Nat → Nat → Int64) (cd : Nat × Nat) (hA : refAt P ow I F' t') (hN : noteN P (I 106) at_ F t) :
    ∃ B, arun (N + 1000000) (d + 1) 174 [rv (some 87), rv (some 106), iv (nI at_)] (I, J, cd) = some (rv none, (B, J, cd)) ∧ fr [87, 98, 99, 100, 101] I B ∧ f87 [18, 25] I B ∧ refAt P ow B F t := by
  obtain ⟨a10, a18, a25, aR, aW⟩ := hA
  obtain ⟨b18, b25, bR, bW⟩ := hN
  have f0 : fr [87] I (wr (wr I 87 18 (I 106 at_)) 87 25 (I 106 (at_ + 1))) := (fr.rf.w (by simp)).w (by simp)
  have g0 : f87 [18, 25] I (wr (wr I 87 18 (I 106 at_)) 87 25 (I 106 (at_ + 1))) := (f87.rf.w (by simp)).w (by simp)
  obtain ⟨B1, r1, f1, g1⟩ := l_read1_106 N d ha (wr (wr I 87 18 (I 106 at_)) 87 25 (I 106 (at_ + 1))) J cd 6 0 (N + 999992) _ (by omega) fr.rf (fun j hj => absurd hj (by omega))
  obtain ⟨B2, r2, f2, g2⟩ := l_read2_106 N d ha B1 J cd 7 0 (N + 999984) B1 (by omega) fr.rf (fun j hj => absurd hj (by omega))
  rw [nI_0] at r1 r2
  have e87 : B2 87 = wr (wr I 87 18 (I 106 at_)) 87 25 (I 106 (at_ + 1)) 87 := (f2 87 (by decide)).trans (f1 87 (by decide))
  refine ⟨B2, ?_, ?_, ?_, ?_, ?_, ?_, ?_, ?_⟩
  · rw [enX10_read, sgX10_read_106_0, show nI at_ + 1 = nI (at_ + 1) from nI_1 _, inb_t (show at_ < 3321 by omega) (show at_ < 2 ^ 31 by omega), nI_clamp (show at_ < 2 ^ 31 by omega), inb_t (show at_ + 1 < 3321 by omega) (show at_ + 1 < 2 ^ 31 by omega), nI_clamp (show at_ + 1 < 2 ^ 31 by omega), if_pos rfl, if_pos rfl]
    exact r1.trans r2
  · exact ((f0.mo (by intro a; simp <;> omega)).tr (f1.mo (by intro a; simp <;> omega))).tr (f2.mo (by intro a; simp <;> omega))
  · intro k hk
    rw [e87]
    exact g0 k hk
  · rw [e87, wr_nj (by decide), wr_nj (by decide)]; exact a10
  · rw [e87, wr_nj (by decide), wr_eq]; exact b18
  · rw [e87, wr_eq]; exact b25
  · intro i hi
    rw [f2 96 (by decide), f2 97 (by decide), f2 98 (by decide), f2 99 (by decide), f2 100 (by decide), f1 96 (by decide), f1 97 (by decide), (g1 i (by omega)).1, (g1 i (by omega)).2.1, (g1 i (by omega)).2.2, f0 96 (by decide), f0 97 (by decide), f0 106 (by decide)]
    exact ⟨(aR i hi).1, (aR i hi).2.1, bR i hi⟩
  · intro v hv
    rw [g2 v hv, f2 94 (by decide), f2 95 (by decide), f1 94 (by decide), f1 95 (by decide), f1 106 (by decide), f0 94 (by decide), f0 95 (by decide), f0 106 (by decide)]
    exact ⟨(aW v hv).1, (aW v hv).2.1, bW v hv⟩

theorem l_write1_107 (N d : Nat) {at_ : Nat} (ha : at_ + 27 ≤ 27) (I : Nat → Nat → Int32) (J : Nat → Nat → Int64) (cd : Nat × Nat) :
    ∀ (m i f : Nat) (B : Nat → Nat → Int32), i + m = 6 → fr [107] I B → (∀ j, j < i → B 107 (at_ + 2 + j) = I 98 j ∧ B 107 (at_ + 8 + j) = I 99 j ∧ B 107 (at_ + 14 + j) = I 100 j) → (∀ j, j < at_ + 2 ∨ at_ + 20 ≤ j → B 107 j = wr (wr I 107 at_ (I 87 18)) 107 (at_ + 1) (I 87 25) 107 j) → ∃ B', EX10_write (N + 1000000) d (f + 1 + m) 18 [some (rv (some 87)), some (rv (some 107)), some (iv (nI at_)), some (iv (nI i))] (B, J, cd) = EX10_write (N + 1000000) d f 73 [some (rv (some 87)), some (rv (some 107)), some (iv (nI at_)), some (iv 0)] (B', J, cd) ∧ fr [107] I B' ∧ (∀ j, j < 6 → B' 107 (at_ + 2 + j) = I 98 j ∧ B' 107 (at_ + 8 + j) = I 99 j ∧ B' 107 (at_ + 14 + j) = I 100 j) ∧ (∀ j, j < at_ + 2 ∨ at_ + 20 ≤ j → B' 107 j = wr (wr I 107 at_ (I 87 18)) 107 (at_ + 1) (I 87 25) 107 j) := by
  intro m
  induction m with
  | zero =>
    intro i f B hi hB hx ho
    have : i = 6 := by omega
    subst this
    exact ⟨B, by rw [Nat.add_zero, sgX10_write_107_18, if_pos (by decide)], hB, hx, ho⟩
  | succ m ih =>
    intro i f B hi hB hx ho
    have i31 : i < 2 ^ 31 := by omega
    have e2 : nI at_ + 2 + nI i = nI (at_ + 2 + i) := ixa (k := 2)
    have e8 : nI at_ + 8 + nI i = nI (at_ + 8 + i) := ixa (k := 8)
    have e14 : nI at_ + 14 + nI i = nI (at_ + 14 + i) := ixa (k := 14)
    have st : EX10_write (N + 1000000) d (f + 1 + m + 1) 18 [some (rv (some 87)), some (rv (some 107)), some (iv (nI at_)), some (iv (nI i))] (B, J, cd) = EX10_write (N + 1000000) d (f + 1 + m) 18 [some (rv (some 87)), some (rv (some 107)), some (iv (nI at_)), some (iv (nI (i + 1)))] (wr (wr (wr B 107 (at_ + 2 + i) (I 98 i)) 107 (at_ + 8 + i) (I 99 i)) 107 (at_ + 14 + i) (I 100 i), J, cd) := by
      rw [sgX10_write_107_18, if_neg (show ¬ (6 : Int32) ≤ nI i from nI_ge (b := 6) (by omega) (by decide))]
      simp only [e2, e8, e14, inb_t (show i < 6 by omega) i31, nI_clamp i31, inb_t (show at_ + 2 + i < 27 by omega) (show at_ + 2 + i < 2 ^ 31 by omega), nI_clamp (show at_ + 2 + i < 2 ^ 31 by omega), inb_t (show at_ + 8 + i < 27 by omega) (show at_ + 8 + i < 2 ^ 31 by omega), nI_clamp (show at_ + 8 + i < 2 ^ 31 by omega), inb_t (show at_ + 14 + i < 27 by omega) (show at_ + 14 + i < 2 ^ 31 by omega), nI_clamp (show at_ + 14 + i < 2 ^ 31 by omega), if_true, wr_ne (show 98 ≠ 107 by decide), wr_ne (show 99 ≠ 107 by decide), wr_ne (show 100 ≠ 107 by decide), hB 98 (by decide), hB 99 (by decide), hB 100 (by decide), nI_1]
    rw [show f + 1 + (m + 1) = f + 1 + m + 1 by omega, st]
    refine ih (i + 1) f _ (by omega) (((hB.w (by simp)).w (by simp)).w (by simp)) (fun j hj => ?_) (fun j hj => ?_)
    · by_cases e : j = i
      · subst e
        rw [wr_nj (show at_ + 2 + j ≠ at_ + 14 + j by omega), wr_nj (show at_ + 2 + j ≠ at_ + 8 + j by omega), wr_eq, wr_nj (show at_ + 8 + j ≠ at_ + 14 + j by omega), wr_eq, wr_eq]
        exact ⟨rfl, rfl, rfl⟩
      · have := hx j (by omega)
        rw [wr_nj (show at_ + 2 + j ≠ at_ + 14 + i by omega), wr_nj (show at_ + 2 + j ≠ at_ + 8 + i by omega), wr_nj (show at_ + 2 + j ≠ at_ + 2 + i by omega), wr_nj (show at_ + 8 + j ≠ at_ + 14 + i by omega), wr_nj (show at_ + 8 + j ≠ at_ + 8 + i by omega), wr_nj (show at_ + 8 + j ≠ at_ + 2 + i by omega), wr_nj (show at_ + 14 + j ≠ at_ + 14 + i by omega), wr_nj (show at_ + 14 + j ≠ at_ + 8 + i by omega), wr_nj (show at_ + 14 + j ≠ at_ + 2 + i by omega)]
        exact this
    · rw [wr_nj (by omega), wr_nj (by omega), wr_nj (by omega)]
      exact ho j hj
theorem l_write2_107 (N d : Nat) {at_ : Nat} (ha : at_ + 27 ≤ 27) (I : Nat → Nat → Int32) (J : Nat → Nat → Int64) (cd : Nat × Nat) :
    ∀ (m i f : Nat) (B : Nat → Nat → Int32), i + m = 7 → fr [107] I B → (∀ j, j < i → B 107 (at_ + 20 + j) = I 101 j) → (∀ j, j < at_ + 20 ∨ at_ + 27 ≤ j → B 107 j = I 107 j) → ∃ B', EX10_write (N + 1000000) d (f + 1 + m) 73 [some (rv (some 87)), some (rv (some 107)), some (iv (nI at_)), some (iv (nI i))] (B, J, cd) = some (rv none, (B', J, cd)) ∧ fr [107] I B' ∧ (∀ j, j < 7 → B' 107 (at_ + 20 + j) = I 101 j) ∧ (∀ j, j < at_ + 20 ∨ at_ + 27 ≤ j → B' 107 j = I 107 j) := by
  intro m
  induction m with
  | zero =>
    intro i f B hi hB hx ho
    have : i = 7 := by omega
    subst this
    exact ⟨B, by rw [Nat.add_zero, sgX10_write_107_73, if_pos (by decide)], hB, hx, ho⟩
  | succ m ih =>
    intro i f B hi hB hx ho
    have i31 : i < 2 ^ 31 := by omega
    have e2 : nI at_ + 20 + nI i = nI (at_ + 20 + i) := ixa (k := 20)
    have st : EX10_write (N + 1000000) d (f + 1 + m + 1) 73 [some (rv (some 87)), some (rv (some 107)), some (iv (nI at_)), some (iv (nI i))] (B, J, cd) = EX10_write (N + 1000000) d (f + 1 + m) 73 [some (rv (some 87)), some (rv (some 107)), some (iv (nI at_)), some (iv (nI (i + 1)))] (wr B 107 (at_ + 20 + i) (I 101 i), J, cd) := by
      rw [sgX10_write_107_73, if_neg (show ¬ (7 : Int32) ≤ nI i from nI_ge (b := 7) (by omega) (by decide))]
      simp only [e2, inb_t (show i < 7 by omega) i31, nI_clamp i31, inb_t (show at_ + 20 + i < 27 by omega) (show at_ + 20 + i < 2 ^ 31 by omega), nI_clamp (show at_ + 20 + i < 2 ^ 31 by omega), if_true, hB 101 (by decide), nI_1]
    rw [show f + 1 + (m + 1) = f + 1 + m + 1 by omega, st]
    refine ih (i + 1) f _ (by omega) (hB.w (by simp)) (fun j hj => ?_) (fun j hj => ?_)
    · by_cases e : j = i
      · subst e
        rw [wr_eq]
      · rw [wr_nj (by omega)]
        exact hx j (by omega)
    · rw [wr_nj (by omega)]
      exact ho j hj
theorem s_write_107 (N d : Nat) {at_ : Nat} (ha : at_ + 27 ≤ 27) {P : RP} (hn : P.1 ≤ 6) {ow : Nat → Nat} {F : FS} {t : Nat} (I : Nat → Nat → Int32) (J : Nat → Nat → Int64) (cd : Nat × Nat) (hA : refAt P ow I F t) :
    ∃ B, arun (N + 1000000) (d + 1) 173 [rv (some 87), rv (some 107), iv (nI at_)] (I, J, cd) = some (rv none, (B, J, cd)) ∧ fr [107] I B ∧ noteN P (B 107) at_ F t ∧ (∀ j, j < at_ ∨ at_ + 27 ≤ j → B 107 j = I 107 j) := by
  obtain ⟨a10, a18, a25, aR, aW⟩ := hA
  have f0 : fr [107] I (wr (wr I 107 at_ (I 87 18)) 107 (at_ + 1) (I 87 25)) := (fr.rf.w (by simp)).w (by simp)
  obtain ⟨B1, r1, f1, g1, o1⟩ := l_write1_107 N d ha I J cd 6 0 (N + 999992) (wr (wr I 107 at_ (I 87 18)) 107 (at_ + 1) (I 87 25)) (by omega) f0 (fun j hj => absurd hj (by omega)) (fun j _ => rfl)
  obtain ⟨B2, r2, f2, g2, o2⟩ := l_write2_107 N d ha B1 J cd 7 0 (N + 999984) B1 (by omega) fr.rf (fun j hj => absurd hj (by omega)) (fun j _ => rfl)
  rw [nI_0] at r1 r2
  refine ⟨B2, ?_, f1.tr f2, ⟨?_, ?_, ?_, ?_⟩, ?_⟩
  · rw [enX10_write, sgX10_write_107_0, show nI at_ + 1 = nI (at_ + 1) from nI_1 _, inb_t (show at_ < 27 by omega) (show at_ < 2 ^ 31 by omega), nI_clamp (show at_ < 2 ^ 31 by omega), inb_t (show at_ + 1 < 27 by omega) (show at_ + 1 < 2 ^ 31 by omega), nI_clamp (show at_ + 1 < 2 ^ 31 by omega), if_pos rfl, if_pos rfl]
    exact r1.trans r2
  · rw [o2 _ (by omega), o1 _ (by omega), wr_nj (by omega), wr_eq]; exact a18
  · rw [o2 _ (by omega), o1 _ (by omega), wr_eq]; exact a25
  · intro i hi
    rw [o2 _ (by omega), o2 _ (by omega), o2 _ (by omega), (g1 i (by omega)).1, (g1 i (by omega)).2.1, (g1 i (by omega)).2.2]
    exact (aR i hi).2.2
  · intro v hv
    rw [g2 v hv, f1 101 (by decide)]
    exact (aW v hv).2.2
  · intro j hj
    rw [o2 _ (by omega), o1 _ (by omega), wr_nj (by omega), wr_nj (by omega)]
theorem l_read1_107 (N d : Nat) {at_ : Nat} (ha : at_ + 27 ≤ 27) (I : Nat → Nat → Int32) (J : Nat → Nat → Int64) (cd : Nat × Nat) :
    ∀ (m i f : Nat) (B : Nat → Nat → Int32), i + m = 6 → fr [98, 99, 100] I B → (∀ j, j < i → B 98 j = I 107 (at_ + 2 + j) ∧ B 99 j = I 107 (at_ + 8 + j) ∧ B 100 j = I 107 (at_ + 14 + j)) → ∃ B', EX10_read (N + 1000000) d (f + 1 + m) 18 [some (rv (some 87)), some (rv (some 107)), some (iv (nI at_)), some (iv (nI i))] (B, J, cd) = EX10_read (N + 1000000) d f 73 [some (rv (some 87)), some (rv (some 107)), some (iv (nI at_)), some (iv 0)] (B', J, cd) ∧ fr [98, 99, 100] I B' ∧ (∀ j, j < 6 → B' 98 j = I 107 (at_ + 2 + j) ∧ B' 99 j = I 107 (at_ + 8 + j) ∧ B' 100 j = I 107 (at_ + 14 + j)) := by
  intro m
  induction m with
  | zero =>
    intro i f B hi hB hx
    have : i = 6 := by omega
    subst this
    exact ⟨B, by rw [Nat.add_zero, sgX10_read_107_18, if_pos (by decide)], hB, hx⟩
  | succ m ih =>
    intro i f B hi hB hx
    have i31 : i < 2 ^ 31 := by omega
    have e2 : nI at_ + 2 + nI i = nI (at_ + 2 + i) := ixa (k := 2)
    have e8 : nI at_ + 8 + nI i = nI (at_ + 8 + i) := ixa (k := 8)
    have e14 : nI at_ + 14 + nI i = nI (at_ + 14 + i) := ixa (k := 14)
    have st : EX10_read (N + 1000000) d (f + 1 + m + 1) 18 [some (rv (some 87)), some (rv (some 107)), some (iv (nI at_)), some (iv (nI i))] (B, J, cd) = EX10_read (N + 1000000) d (f + 1 + m) 18 [some (rv (some 87)), some (rv (some 107)), some (iv (nI at_)), some (iv (nI (i + 1)))] (wr (wr (wr B 98 i (I 107 (at_ + 2 + i))) 99 i (I 107 (at_ + 8 + i))) 100 i (I 107 (at_ + 14 + i)), J, cd) := by
      rw [sgX10_read_107_18, if_neg (show ¬ (6 : Int32) ≤ nI i from nI_ge (b := 6) (by omega) (by decide))]
      simp only [e2, e8, e14, inb_t (show i < 6 by omega) i31, nI_clamp i31, inb_t (show at_ + 2 + i < 27 by omega) (show at_ + 2 + i < 2 ^ 31 by omega), nI_clamp (show at_ + 2 + i < 2 ^ 31 by omega), inb_t (show at_ + 8 + i < 27 by omega) (show at_ + 8 + i < 2 ^ 31 by omega), nI_clamp (show at_ + 8 + i < 2 ^ 31 by omega), inb_t (show at_ + 14 + i < 27 by omega) (show at_ + 14 + i < 2 ^ 31 by omega), nI_clamp (show at_ + 14 + i < 2 ^ 31 by omega), if_true, wr_ne (show 107 ≠ 98 by decide), wr_ne (show 107 ≠ 99 by decide), wr_ne (show 107 ≠ 100 by decide), hB 107 (by decide), nI_1]
    rw [show f + 1 + (m + 1) = f + 1 + m + 1 by omega, st]
    refine ih (i + 1) f _ (by omega) (((hB.w (by simp)).w (by simp)).w (by simp)) (fun j hj => ?_)
    rw [wr_ne (show 98 ≠ 100 by decide), wr_ne (show 98 ≠ 99 by decide), wr_ne (show 99 ≠ 100 by decide)]
    by_cases e : j = i
    · subst e
      rw [wr_eq, wr_eq, wr_eq]
      exact ⟨rfl, rfl, rfl⟩
    · have := hx j (by omega)
      rw [wr_nj e, wr_nj e, wr_nj e, wr_ne (show 99 ≠ 98 by decide), wr_ne (show 100 ≠ 99 by decide), wr_ne (show 100 ≠ 98 by decide)]
      exact this
theorem l_read2_107 (N d : Nat) {at_ : Nat} (ha : at_ + 27 ≤ 27) (I : Nat → Nat → Int32) (J : Nat → Nat → Int64) (cd : Nat × Nat) :
    ∀ (m i f : Nat) (B : Nat → Nat → Int32), i + m = 7 → fr [101] I B → (∀ j, j < i → B 101 j = I 107 (at_ + 20 + j)) → ∃ B', EX10_read (N + 1000000) d (f + 1 + m) 73 [some (rv (some 87)), some (rv (some 107)), some (iv (nI at_)), some (iv (nI i))] (B, J, cd) = some (rv none, (B', J, cd)) ∧ fr [101] I B' ∧ (∀ j, j < 7 → B' 101 j = I 107 (at_ + 20 + j)) := by
  intro m
  induction m with
  | zero =>
    intro i f B hi hB hx
    have : i = 7 := by omega
    subst this
    exact ⟨B, by rw [Nat.add_zero, sgX10_read_107_73, if_pos (by decide)], hB, hx⟩
  | succ m ih =>
    intro i f B hi hB hx
    have i31 : i < 2 ^ 31 := by omega
    have e2 : nI at_ + 20 + nI i = nI (at_ + 20 + i) := ixa (k := 20)
    have st : EX10_read (N + 1000000) d (f + 1 + m + 1) 73 [some (rv (some 87)), some (rv (some 107)), some (iv (nI at_)), some (iv (nI i))] (B, J, cd) = EX10_read (N + 1000000) d (f + 1 + m) 73 [some (rv (some 87)), some (rv (some 107)), some (iv (nI at_)), some (iv (nI (i + 1)))] (wr B 101 i (I 107 (at_ + 20 + i)), J, cd) := by
      rw [sgX10_read_107_73, if_neg (show ¬ (7 : Int32) ≤ nI i from nI_ge (b := 7) (by omega) (by decide))]
      simp only [e2, inb_t (show i < 7 by omega) i31, nI_clamp i31, inb_t (show at_ + 20 + i < 27 by omega) (show at_ + 20 + i < 2 ^ 31 by omega), nI_clamp (show at_ + 20 + i < 2 ^ 31 by omega), if_true, hB 107 (by decide), nI_1]
    rw [show f + 1 + (m + 1) = f + 1 + m + 1 by omega, st]
    refine ih (i + 1) f _ (by omega) (hB.w (by simp)) (fun j hj => ?_)
    by_cases e : j = i
    · subst e
      rw [wr_eq]
    · rw [wr_nj e]
      exact hx j (by omega)
theorem s_read_107 (N d : Nat) {at_ : Nat} (ha : at_ + 27 ≤ 27) {P : RP} (hn : P.1 ≤ 6) {ow : Nat → Nat} {F F' : FS} {t t' : Nat} (I : Nat → Nat → Int32) (J : Nat → Nat → Int64) (cd : Nat × Nat) (hA : refAt P ow I F' t') (hN : noteN P (I 107) at_ F t) :
    ∃ B, arun (N + 1000000) (d + 1) 174 [rv (some 87), rv (some 107), iv (nI at_)] (I, J, cd) = some (rv none, (B, J, cd)) ∧ fr [87, 98, 99, 100, 101] I B ∧ f87 [18, 25] I B ∧ refAt P ow B F t := by
  obtain ⟨a10, a18, a25, aR, aW⟩ := hA
  obtain ⟨b18, b25, bR, bW⟩ := hN
  have f0 : fr [87] I (wr (wr I 87 18 (I 107 at_)) 87 25 (I 107 (at_ + 1))) := (fr.rf.w (by simp)).w (by simp)
  have g0 : f87 [18, 25] I (wr (wr I 87 18 (I 107 at_)) 87 25 (I 107 (at_ + 1))) := (f87.rf.w (by simp)).w (by simp)
  obtain ⟨B1, r1, f1, g1⟩ := l_read1_107 N d ha (wr (wr I 87 18 (I 107 at_)) 87 25 (I 107 (at_ + 1))) J cd 6 0 (N + 999992) _ (by omega) fr.rf (fun j hj => absurd hj (by omega))
  obtain ⟨B2, r2, f2, g2⟩ := l_read2_107 N d ha B1 J cd 7 0 (N + 999984) B1 (by omega) fr.rf (fun j hj => absurd hj (by omega))
  rw [nI_0] at r1 r2
  have e87 : B2 87 = wr (wr I 87 18 (I 107 at_)) 87 25 (I 107 (at_ + 1)) 87 := (f2 87 (by decide)).trans (f1 87 (by decide))
  refine ⟨B2, ?_, ?_, ?_, ?_, ?_, ?_, ?_, ?_⟩
  · rw [enX10_read, sgX10_read_107_0, show nI at_ + 1 = nI (at_ + 1) from nI_1 _, inb_t (show at_ < 27 by omega) (show at_ < 2 ^ 31 by omega), nI_clamp (show at_ < 2 ^ 31 by omega), inb_t (show at_ + 1 < 27 by omega) (show at_ + 1 < 2 ^ 31 by omega), nI_clamp (show at_ + 1 < 2 ^ 31 by omega), if_pos rfl, if_pos rfl]
    exact r1.trans r2
  · exact ((f0.mo (by intro a; simp <;> omega)).tr (f1.mo (by intro a; simp <;> omega))).tr (f2.mo (by intro a; simp <;> omega))
  · intro k hk
    rw [e87]
    exact g0 k hk
  · rw [e87, wr_nj (by decide), wr_nj (by decide)]; exact a10
  · rw [e87, wr_nj (by decide), wr_eq]; exact b18
  · rw [e87, wr_eq]; exact b25
  · intro i hi
    rw [f2 96 (by decide), f2 97 (by decide), f2 98 (by decide), f2 99 (by decide), f2 100 (by decide), f1 96 (by decide), f1 97 (by decide), (g1 i (by omega)).1, (g1 i (by omega)).2.1, (g1 i (by omega)).2.2, f0 96 (by decide), f0 97 (by decide), f0 107 (by decide)]
    exact ⟨(aR i hi).1, (aR i hi).2.1, bR i hi⟩
  · intro v hv
    rw [g2 v hv, f2 94 (by decide), f2 95 (by decide), f1 94 (by decide), f1 95 (by decide), f1 107 (by decide), f0 94 (by decide), f0 95 (by decide), f0 107 (by decide)]
    exact ⟨(aW v hv).1, (aW v hv).2.1, bW v hv⟩

theorem s_begin (N d : Nat) {P : RP} (hn : P.1 ≤ 6) {ow : Nat → Nat} {F : FS} {t : Nat} (I : Nat → Nat → Int32) (J : Nat → Nat → Int64) (cd : Nat × Nat) (hA : refAt P ow I F t) :
    ∃ B, arun (N + 1000000) (d + 2) 175 [rv (some 87)] (I, J, cd) = some (rv none, (B, J, cd)) ∧ fr [107] I B ∧ noteN P (B 107) 0 F t := by
  obtain ⟨B, r, f, n, -⟩ := s_write_107 N d (at_ := 0) (by omega) hn I J cd hA
  rw [nI_0] at r
  refine ⟨B, ?_, f, n⟩
  rw [enX10_begin, sgX10_begin_0, bV r]
theorem s_back (N d : Nat) {P : RP} (hn : P.1 ≤ 6) {ow : Nat → Nat} {F F' : FS} {t t' : Nat} (I : Nat → Nat → Int32) (J : Nat → Nat → Int64) (cd : Nat × Nat) (hA : refAt P ow I F' t') (hN : noteN P (I 107) 0 F t) :
    ∃ B, arun (N + 1000000) (d + 2) 176 [rv (some 87)] (I, J, cd) = some (rv none, (B, J, cd)) ∧ fr [87, 98, 99, 100, 101] I B ∧ f87 [18, 25] I B ∧ refAt P ow B F t := by
  obtain ⟨B, r, f, g, n⟩ := s_read_107 N d (at_ := 0) (by omega) hn I J cd hA hN
  rw [nI_0] at r
  refine ⟨B, ?_, f, g, n⟩
  rw [enX10_back, sgX10_back_0, bV r]
theorem l_groundMany (N d : Nat) {P : RP} (hn : P.1 ≤ 6) {G : Nat → Nat} (I : Nat → Nat → Int32) (J : Nat → Nat → Int64) (cd : Nat × Nat) (h10 : I 87 10 = nI P.1) (h99 : ∀ i, i < P.1 → I 99 i = nI (G i)) :
    ∀ (m i f : Nat), i + m = P.1 → EX10_groundMany (N + 1000000) d (f + 1 + m) 4 [some (rv (some 87)), some (iv (nI (sumN G i))), some (iv (nI i))] (I, J, cd) = some (iv (nI (sumN G P.1)), (I, J, cd)) := by
  intro m
  induction m with
  | zero =>
    intro i f hi
    have : i = P.1 := by omega
    subst this
    rw [Nat.add_zero, sgX10_groundMany_4, if_pos (by rw [h10]; exact Int32.le_refl _)]
  | succ m ih =>
    intro i f hi
    rw [show f + 1 + (m + 1) = f + 1 + m + 1 by omega, sgX10_groundMany_4, if_neg (by rw [h10]; exact nI_ge (by omega) (by omega)), inb_t (show i < 6 by omega) (by omega), if_pos rfl, nI_clamp (by omega), h99 i (by omega), nI_add, nI_1]
    exact ih (i + 1) f (by omega)
theorem s_groundMany (N d : Nat) {P : RP} (hn : P.1 ≤ 6) {ow : Nat → Nat} {F : FS} {t : Nat} (I : Nat → Nat → Int32) (J : Nat → Nat → Int64) (cd : Nat × Nat) (hA : refAt P ow I F t) : arun (N + 1000000) (d + 1) 180 [rv (some 87)] (I, J, cd) = some (iv (nI (sumN F.2.1 P.1)), (I, J, cd)) := by
  have l := l_groundMany N d hn I J cd hA.1 (fun i hi => (hA.2.2.2.1 i hi).2.2.2.1) P.1 0 (N + 999998 - P.1) (by omega)
  rw [show sumN F.2.1 0 = 0 from rfl, nI_0] at l
  rw [enX10_groundMany, sgX10_groundMany_0, show N + 999999 = N + 999998 - P.1 + 1 + P.1 by omega]
  exact l
