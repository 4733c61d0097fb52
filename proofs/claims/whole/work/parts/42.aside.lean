/-! DAYS that are only tried (Aside) -/
theorem pc6_sum (p : Nat → Bool) {n : Nat} (h : n ≤ 6) : pc6 (bitsN p n) = sumN (fun i => if p i then 1 else 0) n := by
  have c : n = 0 ∨ n = 1 ∨ n = 2 ∨ n = 3 ∨ n = 4 ∨ n = 5 ∨ n = 6 := by omega
  rcases c with rfl | rfl | rfl | rfl | rfl | rfl | rfl <;> simp only [bitsN, sumN] <;> cases p 0 <;> cases p 1 <;> cases p 2 <;> cases p 3 <;> cases p 4 <;> cases p 5 <;> rfl
theorem ground_sum {P : RP} (hn : P.1 ≤ 6) (F : FS) (s rain v : Nat) : sumN (stepN P F s rain v).2.1 P.1 = sumN F.2.1 P.1 + pc6 (gsN P F.1 s) := by
  rw [gsN, pc6_sum _ hn, ← sumN_add]
  apply sumN_ext
  intro i hi
  show F.2.1 i + (if i < P.1 ∧ grdN P F.1 s i then 1 else 0) = _
  simp [hi]
theorem stepN_le (P : RP) (F : FS) (s rain v : Nat) (hw : ∀ i, F.1 i ≤ 99) (i : Nat) : (stepN P F s rain v).1 i ≤ 99 := by
  show watN P F.1 s rain i ≤ 99
  unfold watN
  split
  · exact setN_le _ _
  · exact hw i

theorem l_abegin1_39 (N d : Nat) (J : Nat → Nat → Int64) (cd : Nat × Nat) (I : Nat → Nat → Int32) :
    ∀ (m i f : Nat) (B : Nat → Nat → Int32), i + m = 7 → fr [40] I B → (∀ j, j < i → B 40 j = 0) → ∃ B', EX0_begin (N + 1000000) d (f + 1 + m) 26 [some (rv (some 39)), some (rv (some 20)), none, some (iv (nI i))] (B, J, cd) = EX0_begin (N + 1000000) d f 47 [some (rv (some 39)), some (rv (some 20)), none, some (iv 0)] (B', J, cd) ∧ fr [40] I B' ∧ (∀ j, j < 7 → B' 40 j = 0) := by
  intro m
  induction m with
  | zero =>
    intro i f B hi hB hx
    have : i = 7 := by omega
    subst this
    exact ⟨B, by rw [Nat.add_zero, sgX0_begin_39_26, if_pos (by decide)], hB, hx⟩
  | succ m ih =>
    intro i f B hi hB hx
    rw [show f + 1 + (m + 1) = f + 1 + m + 1 by omega, sgX0_begin_39_26, if_neg (show ¬ (7 : Int32) ≤ nI i from nI_ge (b := 7) (by omega) (by decide)), inb_t (show i < 7 by omega) (by omega), if_pos rfl, nI_clamp (by omega), nI_1]
    refine ih (i + 1) f _ (by omega) (hB.w (by simp)) (fun j hj => ?_)
    by_cases e : j = i
    · subst e; rw [wr_eq]
    · rw [wr_nj e]; exact hx j (by omega)
theorem l_abegin2_39 (N d : Nat) (J : Nat → Nat → Int64) (cd : Nat × Nat) (I : Nat → Nat → Int32) :
    ∀ (m i f : Nat) (B : Nat → Nat → Int32), i + m = 6 → fr [42] I B → (∀ j, j < i → B 42 j = I 20 j) → ∃ B', EX0_begin (N + 1000000) d (f + 1 + m) 47 [some (rv (some 39)), some (rv (some 20)), none, some (iv (nI i))] (B, J, cd) = some (rv none, (B', J, cd)) ∧ fr [42] I B' ∧ (∀ j, j < 6 → B' 42 j = I 20 j) := by
  intro m
  induction m with
  | zero =>
    intro i f B hi hB hx
    have : i = 6 := by omega
    subst this
    exact ⟨B, by rw [Nat.add_zero, sgX0_begin_39_47, if_pos (by decide)], hB, hx⟩
  | succ m ih =>
    intro i f B hi hB hx
    have c6 : ¬ nI 6 ≤ nI i := nI_ge (by omega) (by decide)
    rw [show f + 1 + (m + 1) = f + 1 + m + 1 by omega, sgX0_begin_39_47, if_neg (show ¬ (6 : Int32) ≤ nI i from c6), if_neg c6, inb_t (show i < 6 by omega) (by omega), if_pos rfl, if_pos rfl, nI_clamp (by omega), nI_1, hB 20 (by decide)]
    refine ih (i + 1) f _ (by omega) (hB.w (by simp)) (fun j hj => ?_)
    by_cases e : j = i
    · subst e; rw [wr_eq]
    · rw [wr_nj e]; exact hx j (by omega)
theorem s_abegin_39 (N d : Nat) {t : Nat} (ht : t < 1000) (I : Nat → Nat → Int32) (J : Nat → Nat → Int64) (cd : Nat × Nat) :
    ∃ B, arun (N + 1000000) (d + 2) 4 [rv (some 39), rv (some 20), iv (nI t)] (I, J, cd) = some (rv none, (B, J, cd)) ∧ fr [39, 40, 42] I B ∧ B 39 6 = nI t ∧ B 39 0 = -1 ∧ B 39 3 = 0 ∧ B 39 4 = 0 ∧ (∀ v, v < 7 → B 40 v = 0) ∧ (∀ i, i < 6 → B 42 i = I 20 i) := by
  have f0 : fr [39] I (wr (wr (wr (wr I 39 6 (nI t)) 39 0 (-1)) 39 3 0) 39 4 0) := ((((fr.rf.w (by simp)).w (by simp)).w (by simp)).w (by simp))
  obtain ⟨B1, r1, f1, g1⟩ := l_abegin1_39 N (d + 1) J cd (wr (wr (wr (wr I 39 6 (nI t)) 39 0 (-1)) 39 3 0) 39 4 0) 7 0 (N + 999991) _ (by omega) fr.rf (fun j hj => absurd hj (by omega))
  obtain ⟨B2, r2, f2, g2⟩ := l_abegin2_39 N (d + 1) J cd B1 6 0 (N + 999984) B1 (by omega) fr.rf (fun j hj => absurd hj (by omega))
  rw [nI_0] at r1 r2
  have eT : B2 39 = wr (wr (wr (wr I 39 6 (nI t)) 39 0 (-1)) 39 3 0) 39 4 0 39 := (f2 39 (by decide)).trans (f1 39 (by decide))
  refine ⟨B2, ?_, ?_, ?_, ?_, ?_, ?_, ?_, ?_⟩
  · rw [enX0_begin, sgX0_begin_39_0, bI (s_max _ _ _ _ _)]
    try dsimp only
    rw [show (0 : Int32) = nI 0 from rfl, mx_N (by omega) (by omega), Nat.max_eq_right (by omega)]
    exact r1.trans r2
  · exact ((f0.mo (by intro a; simp <;> omega)).tr (f1.mo (by intro a; simp <;> omega))).tr (f2.mo (by intro a; simp <;> omega))
  · rw [eT, wr_nj (by decide), wr_nj (by decide), wr_nj (by decide), wr_eq]
  · rw [eT, wr_nj (by decide), wr_nj (by decide), wr_eq]
  · rw [eT, wr_nj (by decide), wr_eq]
  · rw [eT, wr_eq]
  · intro v hv
    rw [f2 40 (by decide)]; exact g1 v hv
  · intro i hi
    rw [g2 i hi, f1 20 (by decide), f0 20 (by decide)]
theorem s_weekdayOf_39 (N d : Nat) {t k : Nat} (ht : t + k < 128) (I : Nat → Nat → Int32) (J : Nat → Nat → Int64) (cd : Nat × Nat) (h6 : I 39 6 = nI t) : arun (N + 1000000) (d + 2) 9 [rv (some 39), iv (nI k)] (I, J, cd) = some (iv (nI ((t + k) % 7)), (I, J, cd)) := by
  rw [enX0_weekdayOf, sgX0_weekdayOf_39_0, h6, nI_add, bI (s_fmod7 _ _ ht _)]
  try dsimp only
/-- one DAY of a trial: cell q holds WATER -/
theorem s_apass_39 (N d : Nat) {P : RP} (hP : okP P) (h0 : 0 < P.1) {w : Nat → Nat} {s : Nat} (hs : s < 64) (hw : ∀ i, w i ≤ 99) {q : Nat} (hqq : q = 42) {t k : Nat} (ht : t + k < 128) {rain : Nat} {ow : Nat → Nat} (I : Nat → Nat → Int32) (J : Nat → Nat → Int64) (cd : Nat × Nat) (hC : courN P ow I 73) (h6 : I 39 6 = nI t) (hq : ∀ i, i < 6 → I q i = nI (w i)) (hd : rain = if I 39 0 = nI ((t + k) % 7) then 0 else P.2.2.2.2 ((t + k) % 7)) :
    ∃ B, arun (N + 1000000) (d + 3) 10 [rv (some 39), rv (some 73), rv (some q), iv (nI k), iv (nI s)] (I, J, cd) = some (rv none, (B, J, cd)) ∧ fr [39, q, 47] I B ∧ (∀ f, f ≠ 1 → f ≠ 2 → B 39 f = I 39 f) ∧ B 39 1 = nI (seaN P w s) ∧ B 39 2 = nI (gsN P w s) ∧ (∀ i, i < 6 → B q i = nI (watN P w s rain i)) := by
  have hn := hP.1
  have ht7 : (t + k) % 7 < 7 := Nat.mod_lt _ (by decide)
  have hrn : rain ≤ 9 := by
    rw [hd]
    split
    · omega
    · exact hP.2.2.1 _ ht7
  have qa : alO q = some 6 := by subst hqq; rfl
  have qb : alen 0 q = 6 := by subst hqq; rfl
  have r0 := s_weekdayOf_39 N d ht I J cd h6
  obtain ⟨B1, r1, f1, g1⟩ := s_letRun N d hP hs hw (q1 := q) (q2 := 47) qa rfl qb rfl (by omega) (by decide) I J cd hC (fun i hi => hq i (by omega))
  have hC1 : courN P ow B1 73 := hC.eq (fun a h1 h2 => f1 a (by simp; omega))
  have r2 := s_toSea N (d + 1) hP h0 (w := w) (s := s) (q2 := 47) rfl rfl B1 J cd hC1 g1
  have f3 : fr [39, 47] I (wr B1 39 1 (nI (seaN P w s))) := (f1.mo (by intro a; simp <;> omega)).w (by simp)
  have hC3 : courN P ow (wr B1 39 1 (nI (seaN P w s))) 73 := hC.eq (fun a h1 h2 => f3 a (by simp; omega))
  have g3 : ∀ j, j < P.1 → wr B1 39 1 (nI (seaN P w s)) 47 j = nI (ranN P w s j) := fun j hj => by rw [wr_ne (by decide)]; exact g1 j hj
  have r3 := s_grindingBy N d hP hw (s := s) (q2 := 47) rfl rfl (wr B1 39 1 (nI (seaN P w s))) J cd hC3 g3
  have f4 : fr [39, 47] I (wr (wr B1 39 1 (nI (seaN P w s))) 39 2 (nI (gsN P w s))) := f3.w (by simp)
  have hC4 : courN P ow (wr (wr B1 39 1 (nI (seaN P w s))) 39 2 (nI (gsN P w s))) 73 := hC.eq (fun a h1 h2 => f4 a (by simp; omega))
  obtain ⟨B5, r5, f5, g5⟩ := s_takeIn N d hP hw (s := s) (q1 := q) (q2 := 47) qa rfl qb rfl (by omega) (by omega) hrn (wr (wr B1 39 1 (nI (seaN P w s))) 39 2 (nI (gsN P w s))) J cd hC4 (fun i hi => by rw [f4 q (by simp; omega)]; exact hq i hi) (fun i hi => by rw [wr_ne (by decide)]; exact g3 i hi)
  have e0 : wr B1 39 1 (nI (seaN P w s)) 39 0 = I 39 0 := by rw [wr_nj (by decide), f1 39 (by decide)]
  have e77 : wr B1 39 1 (nI (seaN P w s)) 77 ((t + k) % 7) = nI (P.2.2.2.2 ((t + k) % 7)) := (hC3.2.2.2.2.1 _ ht7).1
  refine ⟨B5, ?_, ?_, ?_, ?_, ?_, g5⟩
  · subst hqq
    rw [enX0_pass, sgX0_pass_39_0, bI r0]
    try dsimp only
    rw [bV r1]
    try dsimp only
    rw [bI r2]
    try dsimp only
    rw [bI r3]
    try dsimp only
    by_cases hz : nI ((t + k) % 7) = I 39 0
    · rw [if_pos (by rw [e0]; exact hz)]
      rw [if_pos hz.symm] at hd
      rw [hd, nI_0] at r5
      rw [bV r5]
    · rw [if_neg (by rw [e0]; exact hz), inb_t ht7 (by omega), if_pos rfl, nI_clamp (by omega), e77]
      rw [if_neg (fun z => hz z.symm)] at hd
      rw [hd] at r5
      rw [bV r5]
  · exact (f4.mo (by intro a; simp <;> omega)).tr (f5.mo (by intro a; simp <;> omega))
  · intro f h1 h2
    rw [f5 39 (by simp; omega), wr_nj h2, wr_nj h1, f1 39 (by decide)]
  · rw [f5 39 (by simp; omega), wr_nj (by decide), wr_eq]
  · rw [f5 39 (by simp; omega), wr_eq]

theorem l_abegin1_52 (N d : Nat) (J : Nat → Nat → Int64) (cd : Nat × Nat) (I : Nat → Nat → Int32) :
    ∀ (m i f : Nat) (B : Nat → Nat → Int32), i + m = 7 → fr [53] I B → (∀ j, j < i → B 53 j = 0) → ∃ B', EX0_begin (N + 1000000) d (f + 1 + m) 26 [some (rv (some 52)), some (rv (some 20)), none, some (iv (nI i))] (B, J, cd) = EX0_begin (N + 1000000) d f 47 [some (rv (some 52)), some (rv (some 20)), none, some (iv 0)] (B', J, cd) ∧ fr [53] I B' ∧ (∀ j, j < 7 → B' 53 j = 0) := by
  intro m
  induction m with
  | zero =>
    intro i f B hi hB hx
    have : i = 7 := by omega
    subst this
    exact ⟨B, by rw [Nat.add_zero, sgX0_begin_52_26, if_pos (by decide)], hB, hx⟩
  | succ m ih =>
    intro i f B hi hB hx
    rw [show f + 1 + (m + 1) = f + 1 + m + 1 by omega, sgX0_begin_52_26, if_neg (show ¬ (7 : Int32) ≤ nI i from nI_ge (b := 7) (by omega) (by decide)), inb_t (show i < 7 by omega) (by omega), if_pos rfl, nI_clamp (by omega), nI_1]
    refine ih (i + 1) f _ (by omega) (hB.w (by simp)) (fun j hj => ?_)
    by_cases e : j = i
    · subst e; rw [wr_eq]
    · rw [wr_nj e]; exact hx j (by omega)
theorem l_abegin2_52 (N d : Nat) (J : Nat → Nat → Int64) (cd : Nat × Nat) (I : Nat → Nat → Int32) :
    ∀ (m i f : Nat) (B : Nat → Nat → Int32), i + m = 6 → fr [55] I B → (∀ j, j < i → B 55 j = I 20 j) → ∃ B', EX0_begin (N + 1000000) d (f + 1 + m) 47 [some (rv (some 52)), some (rv (some 20)), none, some (iv (nI i))] (B, J, cd) = some (rv none, (B', J, cd)) ∧ fr [55] I B' ∧ (∀ j, j < 6 → B' 55 j = I 20 j) := by
  intro m
  induction m with
  | zero =>
    intro i f B hi hB hx
    have : i = 6 := by omega
    subst this
    exact ⟨B, by rw [Nat.add_zero, sgX0_begin_52_47, if_pos (by decide)], hB, hx⟩
  | succ m ih =>
    intro i f B hi hB hx
    have c6 : ¬ nI 6 ≤ nI i := nI_ge (by omega) (by decide)
    rw [show f + 1 + (m + 1) = f + 1 + m + 1 by omega, sgX0_begin_52_47, if_neg (show ¬ (6 : Int32) ≤ nI i from c6), if_neg c6, inb_t (show i < 6 by omega) (by omega), if_pos rfl, if_pos rfl, nI_clamp (by omega), nI_1, hB 20 (by decide)]
    refine ih (i + 1) f _ (by omega) (hB.w (by simp)) (fun j hj => ?_)
    by_cases e : j = i
    · subst e; rw [wr_eq]
    · rw [wr_nj e]; exact hx j (by omega)
theorem s_abegin_52 (N d : Nat) {t : Nat} (ht : t < 1000) (I : Nat → Nat → Int32) (J : Nat → Nat → Int64) (cd : Nat × Nat) :
    ∃ B, arun (N + 1000000) (d + 2) 4 [rv (some 52), rv (some 20), iv (nI t)] (I, J, cd) = some (rv none, (B, J, cd)) ∧ fr [52, 53, 55] I B ∧ B 52 6 = nI t ∧ B 52 0 = -1 ∧ B 52 3 = 0 ∧ B 52 4 = 0 ∧ (∀ v, v < 7 → B 53 v = 0) ∧ (∀ i, i < 6 → B 55 i = I 20 i) := by
  have f0 : fr [52] I (wr (wr (wr (wr I 52 6 (nI t)) 52 0 (-1)) 52 3 0) 52 4 0) := ((((fr.rf.w (by simp)).w (by simp)).w (by simp)).w (by simp))
  obtain ⟨B1, r1, f1, g1⟩ := l_abegin1_52 N (d + 1) J cd (wr (wr (wr (wr I 52 6 (nI t)) 52 0 (-1)) 52 3 0) 52 4 0) 7 0 (N + 999991) _ (by omega) fr.rf (fun j hj => absurd hj (by omega))
  obtain ⟨B2, r2, f2, g2⟩ := l_abegin2_52 N (d + 1) J cd B1 6 0 (N + 999984) B1 (by omega) fr.rf (fun j hj => absurd hj (by omega))
  rw [nI_0] at r1 r2
  have eT : B2 52 = wr (wr (wr (wr I 52 6 (nI t)) 52 0 (-1)) 52 3 0) 52 4 0 52 := (f2 52 (by decide)).trans (f1 52 (by decide))
  refine ⟨B2, ?_, ?_, ?_, ?_, ?_, ?_, ?_, ?_⟩
  · rw [enX0_begin, sgX0_begin_52_0, bI (s_max _ _ _ _ _)]
    try dsimp only
    rw [show (0 : Int32) = nI 0 from rfl, mx_N (by omega) (by omega), Nat.max_eq_right (by omega)]
    exact r1.trans r2
  · exact ((f0.mo (by intro a; simp <;> omega)).tr (f1.mo (by intro a; simp <;> omega))).tr (f2.mo (by intro a; simp <;> omega))
  · rw [eT, wr_nj (by decide), wr_nj (by decide), wr_nj (by decide), wr_eq]
  · rw [eT, wr_nj (by decide), wr_nj (by decide), wr_eq]
  · rw [eT, wr_nj (by decide), wr_eq]
  · rw [eT, wr_eq]
  · intro v hv
    rw [f2 53 (by decide)]; exact g1 v hv
  · intro i hi
    rw [g2 i hi, f1 20 (by decide), f0 20 (by decide)]
theorem s_weekdayOf_52 (N d : Nat) {t k : Nat} (ht : t + k < 128) (I : Nat → Nat → Int32) (J : Nat → Nat → Int64) (cd : Nat × Nat) (h6 : I 52 6 = nI t) : arun (N + 1000000) (d + 2) 9 [rv (some 52), iv (nI k)] (I, J, cd) = some (iv (nI ((t + k) % 7)), (I, J, cd)) := by
  rw [enX0_weekdayOf, sgX0_weekdayOf_52_0, h6, nI_add, bI (s_fmod7 _ _ ht _)]
  try dsimp only
/-- one DAY of a trial: cell q holds WATER -/
theorem s_apass_52 (N d : Nat) {P : RP} (hP : okP P) (h0 : 0 < P.1) {w : Nat → Nat} {s : Nat} (hs : s < 64) (hw : ∀ i, w i ≤ 99) {q : Nat} (hqq : 56 ≤ q ∧ q ≤ 59) {t k : Nat} (ht : t + k < 128) {rain : Nat} {ow : Nat → Nat} (I : Nat → Nat → Int32) (J : Nat → Nat → Int64) (cd : Nat × Nat) (hC : courN P ow I 73) (h6 : I 52 6 = nI t) (hq : ∀ i, i < 6 → I q i = nI (w i)) (hd : rain = if I 52 0 = nI ((t + k) % 7) then 0 else P.2.2.2.2 ((t + k) % 7)) :
    ∃ B, arun (N + 1000000) (d + 3) 10 [rv (some 52), rv (some 73), rv (some q), iv (nI k), iv (nI s)] (I, J, cd) = some (rv none, (B, J, cd)) ∧ fr [52, q, 60] I B ∧ (∀ f, f ≠ 1 → f ≠ 2 → B 52 f = I 52 f) ∧ B 52 1 = nI (seaN P w s) ∧ B 52 2 = nI (gsN P w s) ∧ (∀ i, i < 6 → B q i = nI (watN P w s rain i)) := by
  have hn := hP.1
  have ht7 : (t + k) % 7 < 7 := Nat.mod_lt _ (by decide)
  have hrn : rain ≤ 9 := by
    rw [hd]
    split
    · omega
    · exact hP.2.2.1 _ ht7
  have qc : q = 56 ∨ q = 57 ∨ q = 58 ∨ q = 59 := by omega
  have qa : alO q = some 6 := by rcases qc with rfl | rfl | rfl | rfl <;> rfl
  have qb : alen 0 q = 6 := by rcases qc with rfl | rfl | rfl | rfl <;> rfl
  have r0 := s_weekdayOf_52 N d ht I J cd h6
  obtain ⟨B1, r1, f1, g1⟩ := s_letRun N d hP hs hw (q1 := q) (q2 := 60) qa rfl qb rfl (by omega) (by decide) I J cd hC (fun i hi => hq i (by omega))
  have hC1 : courN P ow B1 73 := hC.eq (fun a h1 h2 => f1 a (by simp; omega))
  have r2 := s_toSea N (d + 1) hP h0 (w := w) (s := s) (q2 := 60) rfl rfl B1 J cd hC1 g1
  have f3 : fr [52, 60] I (wr B1 52 1 (nI (seaN P w s))) := (f1.mo (by intro a; simp <;> omega)).w (by simp)
  have hC3 : courN P ow (wr B1 52 1 (nI (seaN P w s))) 73 := hC.eq (fun a h1 h2 => f3 a (by simp; omega))
  have g3 : ∀ j, j < P.1 → wr B1 52 1 (nI (seaN P w s)) 60 j = nI (ranN P w s j) := fun j hj => by rw [wr_ne (by decide)]; exact g1 j hj
  have r3 := s_grindingBy N d hP hw (s := s) (q2 := 60) rfl rfl (wr B1 52 1 (nI (seaN P w s))) J cd hC3 g3
  have f4 : fr [52, 60] I (wr (wr B1 52 1 (nI (seaN P w s))) 52 2 (nI (gsN P w s))) := f3.w (by simp)
  have hC4 : courN P ow (wr (wr B1 52 1 (nI (seaN P w s))) 52 2 (nI (gsN P w s))) 73 := hC.eq (fun a h1 h2 => f4 a (by simp; omega))
  obtain ⟨B5, r5, f5, g5⟩ := s_takeIn N d hP hw (s := s) (q1 := q) (q2 := 60) qa rfl qb rfl (by omega) (by omega) hrn (wr (wr B1 52 1 (nI (seaN P w s))) 52 2 (nI (gsN P w s))) J cd hC4 (fun i hi => by rw [f4 q (by simp; omega)]; exact hq i hi) (fun i hi => by rw [wr_ne (by decide)]; exact g3 i hi)
  have e0 : wr B1 52 1 (nI (seaN P w s)) 52 0 = I 52 0 := by rw [wr_nj (by decide), f1 52 (by decide)]
  have e77 : wr B1 52 1 (nI (seaN P w s)) 77 ((t + k) % 7) = nI (P.2.2.2.2 ((t + k) % 7)) := (hC3.2.2.2.2.1 _ ht7).1
  refine ⟨B5, ?_, ?_, ?_, ?_, ?_, g5⟩
  · rw [enX0_pass, sgX0_pass_52_0, bI r0]
    try dsimp only
    rw [bV r1]
    try dsimp only
    rw [bI r2]
    try dsimp only
    rw [bI r3]
    try dsimp only
    by_cases hz : nI ((t + k) % 7) = I 52 0
    · rw [if_pos (by rw [e0]; exact hz)]
      rw [if_pos hz.symm] at hd
      rw [hd, nI_0] at r5
      rw [bV r5]
    · rw [if_neg (by rw [e0]; exact hz), inb_t ht7 (by omega), if_pos rfl, nI_clamp (by omega), e77]
      rw [if_neg (fun z => hz z.symm)] at hd
      rw [hd] at r5
      rw [bV r5]
  · exact (f4.mo (by intro a; simp <;> omega)).tr (f5.mo (by intro a; simp <;> omega))
  · intro f h1 h2
    rw [f5 52 (by simp; omega), wr_nj h2, wr_nj h1, f1 52 (by decide)]
  · rw [f5 52 (by simp; omega), wr_nj (by decide), wr_eq]
  · rw [f5 52 (by simp; omega), wr_eq]

theorem l_abegin1_63 (N d : Nat) (J : Nat → Nat → Int64) (cd : Nat × Nat) (I : Nat → Nat → Int32) :
    ∀ (m i f : Nat) (B : Nat → Nat → Int32), i + m = 7 → fr [64] I B → (∀ j, j < i → B 64 j = 0) → ∃ B', EX0_begin (N + 1000000) d (f + 1 + m) 26 [some (rv (some 63)), some (rv (some 20)), none, some (iv (nI i))] (B, J, cd) = EX0_begin (N + 1000000) d f 47 [some (rv (some 63)), some (rv (some 20)), none, some (iv 0)] (B', J, cd) ∧ fr [64] I B' ∧ (∀ j, j < 7 → B' 64 j = 0) := by
  intro m
  induction m with
  | zero =>
    intro i f B hi hB hx
    have : i = 7 := by omega
    subst this
    exact ⟨B, by rw [Nat.add_zero, sgX0_begin_63_26, if_pos (by decide)], hB, hx⟩
  | succ m ih =>
    intro i f B hi hB hx
    rw [show f + 1 + (m + 1) = f + 1 + m + 1 by omega, sgX0_begin_63_26, if_neg (show ¬ (7 : Int32) ≤ nI i from nI_ge (b := 7) (by omega) (by decide)), inb_t (show i < 7 by omega) (by omega), if_pos rfl, nI_clamp (by omega), nI_1]
    refine ih (i + 1) f _ (by omega) (hB.w (by simp)) (fun j hj => ?_)
    by_cases e : j = i
    · subst e; rw [wr_eq]
    · rw [wr_nj e]; exact hx j (by omega)
theorem l_abegin2_63 (N d : Nat) (J : Nat → Nat → Int64) (cd : Nat × Nat) (I : Nat → Nat → Int32) :
    ∀ (m i f : Nat) (B : Nat → Nat → Int32), i + m = 6 → fr [66] I B → (∀ j, j < i → B 66 j = I 20 j) → ∃ B', EX0_begin (N + 1000000) d (f + 1 + m) 47 [some (rv (some 63)), some (rv (some 20)), none, some (iv (nI i))] (B, J, cd) = some (rv none, (B', J, cd)) ∧ fr [66] I B' ∧ (∀ j, j < 6 → B' 66 j = I 20 j) := by
  intro m
  induction m with
  | zero =>
    intro i f B hi hB hx
    have : i = 6 := by omega
    subst this
    exact ⟨B, by rw [Nat.add_zero, sgX0_begin_63_47, if_pos (by decide)], hB, hx⟩
  | succ m ih =>
    intro i f B hi hB hx
    have c6 : ¬ nI 6 ≤ nI i := nI_ge (by omega) (by decide)
    rw [show f + 1 + (m + 1) = f + 1 + m + 1 by omega, sgX0_begin_63_47, if_neg (show ¬ (6 : Int32) ≤ nI i from c6), if_neg c6, inb_t (show i < 6 by omega) (by omega), if_pos rfl, if_pos rfl, nI_clamp (by omega), nI_1, hB 20 (by decide)]
    refine ih (i + 1) f _ (by omega) (hB.w (by simp)) (fun j hj => ?_)
    by_cases e : j = i
    · subst e; rw [wr_eq]
    · rw [wr_nj e]; exact hx j (by omega)
theorem s_abegin_63 (N d : Nat) {t : Nat} (ht : t < 1000) (I : Nat → Nat → Int32) (J : Nat → Nat → Int64) (cd : Nat × Nat) :
    ∃ B, arun (N + 1000000) (d + 2) 4 [rv (some 63), rv (some 20), iv (nI t)] (I, J, cd) = some (rv none, (B, J, cd)) ∧ fr [63, 64, 66] I B ∧ B 63 6 = nI t ∧ B 63 0 = -1 ∧ B 63 3 = 0 ∧ B 63 4 = 0 ∧ (∀ v, v < 7 → B 64 v = 0) ∧ (∀ i, i < 6 → B 66 i = I 20 i) := by
  have f0 : fr [63] I (wr (wr (wr (wr I 63 6 (nI t)) 63 0 (-1)) 63 3 0) 63 4 0) := ((((fr.rf.w (by simp)).w (by simp)).w (by simp)).w (by simp))
  obtain ⟨B1, r1, f1, g1⟩ := l_abegin1_63 N (d + 1) J cd (wr (wr (wr (wr I 63 6 (nI t)) 63 0 (-1)) 63 3 0) 63 4 0) 7 0 (N + 999991) _ (by omega) fr.rf (fun j hj => absurd hj (by omega))
  obtain ⟨B2, r2, f2, g2⟩ := l_abegin2_63 N (d + 1) J cd B1 6 0 (N + 999984) B1 (by omega) fr.rf (fun j hj => absurd hj (by omega))
  rw [nI_0] at r1 r2
  have eT : B2 63 = wr (wr (wr (wr I 63 6 (nI t)) 63 0 (-1)) 63 3 0) 63 4 0 63 := (f2 63 (by decide)).trans (f1 63 (by decide))
  refine ⟨B2, ?_, ?_, ?_, ?_, ?_, ?_, ?_, ?_⟩
  · rw [enX0_begin, sgX0_begin_63_0, bI (s_max _ _ _ _ _)]
    try dsimp only
    rw [show (0 : Int32) = nI 0 from rfl, mx_N (by omega) (by omega), Nat.max_eq_right (by omega)]
    exact r1.trans r2
  · exact ((f0.mo (by intro a; simp <;> omega)).tr (f1.mo (by intro a; simp <;> omega))).tr (f2.mo (by intro a; simp <;> omega))
  · rw [eT, wr_nj (by decide), wr_nj (by decide), wr_nj (by decide), wr_eq]
  · rw [eT, wr_nj (by decide), wr_nj (by decide), wr_eq]
  · rw [eT, wr_nj (by decide), wr_eq]
  · rw [eT, wr_eq]
  · intro v hv
    rw [f2 64 (by decide)]; exact g1 v hv
  · intro i hi
    rw [g2 i hi, f1 20 (by decide), f0 20 (by decide)]
theorem s_weekdayOf_63 (N d : Nat) {t k : Nat} (ht : t + k < 128) (I : Nat → Nat → Int32) (J : Nat → Nat → Int64) (cd : Nat × Nat) (h6 : I 63 6 = nI t) : arun (N + 1000000) (d + 2) 9 [rv (some 63), iv (nI k)] (I, J, cd) = some (iv (nI ((t + k) % 7)), (I, J, cd)) := by
  rw [enX0_weekdayOf, sgX0_weekdayOf_63_0, h6, nI_add, bI (s_fmod7 _ _ ht _)]
  try dsimp only
/-- one DAY of a trial: cell q holds WATER -/
theorem s_apass_63 (N d : Nat) {P : RP} (hP : okP P) (h0 : 0 < P.1) {w : Nat → Nat} {s : Nat} (hs : s < 64) (hw : ∀ i, w i ≤ 99) {q : Nat} (hqq : 67 ≤ q ∧ q ≤ 70) {t k : Nat} (ht : t + k < 128) {rain : Nat} {ow : Nat → Nat} (I : Nat → Nat → Int32) (J : Nat → Nat → Int64) (cd : Nat × Nat) (hC : courN P ow I 73) (h6 : I 63 6 = nI t) (hq : ∀ i, i < 6 → I q i = nI (w i)) (hd : rain = if I 63 0 = nI ((t + k) % 7) then 0 else P.2.2.2.2 ((t + k) % 7)) :
    ∃ B, arun (N + 1000000) (d + 3) 10 [rv (some 63), rv (some 73), rv (some q), iv (nI k), iv (nI s)] (I, J, cd) = some (rv none, (B, J, cd)) ∧ fr [63, q, 71] I B ∧ (∀ f, f ≠ 1 → f ≠ 2 → B 63 f = I 63 f) ∧ B 63 1 = nI (seaN P w s) ∧ B 63 2 = nI (gsN P w s) ∧ (∀ i, i < 6 → B q i = nI (watN P w s rain i)) := by
  have hn := hP.1
  have ht7 : (t + k) % 7 < 7 := Nat.mod_lt _ (by decide)
  have hrn : rain ≤ 9 := by
    rw [hd]
    split
    · omega
    · exact hP.2.2.1 _ ht7
  have qc : q = 67 ∨ q = 68 ∨ q = 69 ∨ q = 70 := by omega
  have qa : alO q = some 6 := by rcases qc with rfl | rfl | rfl | rfl <;> rfl
  have qb : alen 0 q = 6 := by rcases qc with rfl | rfl | rfl | rfl <;> rfl
  have r0 := s_weekdayOf_63 N d ht I J cd h6
  obtain ⟨B1, r1, f1, g1⟩ := s_letRun N d hP hs hw (q1 := q) (q2 := 71) qa rfl qb rfl (by omega) (by decide) I J cd hC (fun i hi => hq i (by omega))
  have hC1 : courN P ow B1 73 := hC.eq (fun a h1 h2 => f1 a (by simp; omega))
  have r2 := s_toSea N (d + 1) hP h0 (w := w) (s := s) (q2 := 71) rfl rfl B1 J cd hC1 g1
  have f3 : fr [63, 71] I (wr B1 63 1 (nI (seaN P w s))) := (f1.mo (by intro a; simp <;> omega)).w (by simp)
  have hC3 : courN P ow (wr B1 63 1 (nI (seaN P w s))) 73 := hC.eq (fun a h1 h2 => f3 a (by simp; omega))
  have g3 : ∀ j, j < P.1 → wr B1 63 1 (nI (seaN P w s)) 71 j = nI (ranN P w s j) := fun j hj => by rw [wr_ne (by decide)]; exact g1 j hj
  have r3 := s_grindingBy N d hP hw (s := s) (q2 := 71) rfl rfl (wr B1 63 1 (nI (seaN P w s))) J cd hC3 g3
  have f4 : fr [63, 71] I (wr (wr B1 63 1 (nI (seaN P w s))) 63 2 (nI (gsN P w s))) := f3.w (by simp)
  have hC4 : courN P ow (wr (wr B1 63 1 (nI (seaN P w s))) 63 2 (nI (gsN P w s))) 73 := hC.eq (fun a h1 h2 => f4 a (by simp; omega))
  obtain ⟨B5, r5, f5, g5⟩ := s_takeIn N d hP hw (s := s) (q1 := q) (q2 := 71) qa rfl qb rfl (by omega) (by omega) hrn (wr (wr B1 63 1 (nI (seaN P w s))) 63 2 (nI (gsN P w s))) J cd hC4 (fun i hi => by rw [f4 q (by simp; omega)]; exact hq i hi) (fun i hi => by rw [wr_ne (by decide)]; exact g3 i hi)
  have e0 : wr B1 63 1 (nI (seaN P w s)) 63 0 = I 63 0 := by rw [wr_nj (by decide), f1 63 (by decide)]
  have e77 : wr B1 63 1 (nI (seaN P w s)) 77 ((t + k) % 7) = nI (P.2.2.2.2 ((t + k) % 7)) := (hC3.2.2.2.2.1 _ ht7).1
  refine ⟨B5, ?_, ?_, ?_, ?_, ?_, g5⟩
  · rw [enX0_pass, sgX0_pass_63_0, bI r0]
    try dsimp only
    rw [bV r1]
    try dsimp only
    rw [bI r2]
    try dsimp only
    rw [bI r3]
    try dsimp only
    by_cases hz : nI ((t + k) % 7) = I 63 0
    · rw [if_pos (by rw [e0]; exact hz)]
      rw [if_pos hz.symm] at hd
      rw [hd, nI_0] at r5
      rw [bV r5]
    · rw [if_neg (by rw [e0]; exact hz), inb_t ht7 (by omega), if_pos rfl, nI_clamp (by omega), e77]
      rw [if_neg (fun z => hz z.symm)] at hd
      rw [hd] at r5
      rw [bV r5]
  · exact (f4.mo (by intro a; simp <;> omega)).tr (f5.mo (by intro a; simp <;> omega))
  · intro f h1 h2
    rw [f5 63 (by simp; omega), wr_nj h2, wr_nj h1, f1 63 (by decide)]
  · rw [f5 63 (by simp; omega), wr_nj (by decide), wr_eq]
  · rw [f5 63 (by simp; omega), wr_eq]

/-- a single walk of trial: behind the DAYS tried, from the RIVER of DEED t on, F with nothing ground or come before -/
def asAt (P : RP) (I : Nat → Nat → Int32) (F : FS) (t : Nat) : Prop := I 39 6 = nI t ∧ (∀ i, i < 6 → I 42 i = nI (F.1 i)) ∧ I 39 3 = nI (sumN F.2.2.2 7) ∧ I 39 4 = nI (sumN F.2.1 P.1) ∧ ∀ v, v < 7 → I 40 v = nI (F.2.2.2 v)
theorem s_ownerOf_39 (N d : Nat) {t k : Nat} (ht : t + k < 128) {P : RP} {ow : Nat → Nat} (I : Nat → Nat → Int32) (J : Nat → Nat → Int64) (cd : Nat × Nat) (hC : courN P ow I 73) (h6 : I 39 6 = nI t) : arun (N + 1000000) (d + 3) 7 [rv (some 39), rv (some 73), iv (nI k)] (I, J, cd) = some (iv (nI (ow ((t + k) % 7))), (I, J, cd)) := by
  have ht7 : (t + k) % 7 < 7 := Nat.mod_lt _ (by decide)
  have e78 : I 78 ((t + k) % 7) = nI (ow ((t + k) % 7)) := (hC.2.2.2.2.1 _ ht7).2
  rw [enX0_ownerOf, sgX0_ownerOf_39_0, bI (s_weekdayOf_39 _ _ ht _ _ _ h6)]
  try dsimp only
  try dsimp only
  rw [inb_t ht7 (by omega), if_pos rfl, nI_clamp (by omega), e78]
theorem s_ownerOf_52 (N d : Nat) {t k : Nat} (ht : t + k < 128) {P : RP} {ow : Nat → Nat} (I : Nat → Nat → Int32) (J : Nat → Nat → Int64) (cd : Nat × Nat) (hC : courN P ow I 73) (h6 : I 52 6 = nI t) : arun (N + 1000000) (d + 3) 7 [rv (some 52), rv (some 73), iv (nI k)] (I, J, cd) = some (iv (nI (ow ((t + k) % 7))), (I, J, cd)) := by
  have ht7 : (t + k) % 7 < 7 := Nat.mod_lt _ (by decide)
  have e78 : I 78 ((t + k) % 7) = nI (ow ((t + k) % 7)) := (hC.2.2.2.2.1 _ ht7).2
  rw [enX0_ownerOf, sgX0_ownerOf_52_0, bI (s_weekdayOf_52 _ _ ht _ _ _ h6)]
  try dsimp only
  try dsimp only
  rw [inb_t ht7 (by omega), if_pos rfl, nI_clamp (by omega), e78]
theorem s_passOn (N d : Nat) {P : RP} (hP : okP P) (h0 : 0 < P.1) {F : FS} {s : Nat} (hs : s < 64) (hw : ∀ i, F.1 i ≤ 99) {t k : Nat} (ht : t + k < 128) {rain : Nat} {ow : Nat → Nat} (how : ∀ d, d < 7 → ow d ≤ 6) (I : Nat → Nat → Int32) (J : Nat → Nat → Int64) (cd : Nat × Nat) (hC : courN P ow I 73) (hA : asAt P I F t) (hd : rain = if I 39 0 = nI ((t + k) % 7) then 0 else P.2.2.2.2 ((t + k) % 7)) :
    ∃ B, arun (N + 1000000) (d + 4) 5 [rv (some 39), rv (some 73), iv (nI k), iv (nI s)] (I, J, cd) = some (rv none, (B, J, cd)) ∧ fr [39, 40, 42, 47] I B ∧ B 39 0 = I 39 0 ∧ B 39 1 = nI (seaN P F.1 s) ∧ B 39 2 = nI (gsN P F.1 s) ∧ asAt P B (stepN P F s rain (ow ((t + k) % 7))) t := by
  have hn := hP.1
  have ht7 : (t + k) % 7 < 7 := Nat.mod_lt _ (by decide)
  have ho : ow ((t + k) % 7) < 7 := by have := how _ ht7; omega
  have hg6 : gsN P F.1 s < 64 := bitsN_64 _ hn
  obtain ⟨a6, aw, a3, a4, av⟩ := hA
  obtain ⟨B1, r1, f1, gT, g1, g2, gw⟩ := s_apass_39 N d hP h0 hs hw (q := 42) rfl ht I J cd hC a6 aw hd
  have f2 : fr [39, 42, 47] I (wr B1 39 3 (nI (sumN F.2.2.2 7) + nI (seaN P F.1 s))) := f1.w (by simp)
  have f3 : fr [39, 42, 47] I (wr (wr B1 39 3 (nI (sumN F.2.2.2 7) + nI (seaN P F.1 s))) 39 4 (nI (sumN F.2.1 P.1) + nI (pc6 (gsN P F.1 s)))) := f2.w (by simp)
  have hC3 : courN P ow (wr (wr B1 39 3 (nI (sumN F.2.2.2 7) + nI (seaN P F.1 s))) 39 4 (nI (sumN F.2.1 P.1) + nI (pc6 (gsN P F.1 s)))) 73 := hC.eq (fun a h1 h2 => f3 a (by simp; omega))
  have e3 : B1 39 3 = nI (sumN F.2.2.2 7) := by rw [gT 3 (by decide) (by decide)]; exact a3
  have e4 : B1 39 4 = nI (sumN F.2.1 P.1) := by rw [gT 4 (by decide) (by decide)]; exact a4
  have e6 : wr (wr B1 39 3 (nI (sumN F.2.2.2 7) + nI (seaN P F.1 s))) 39 4 (nI (sumN F.2.1 P.1) + nI (pc6 (gsN P F.1 s))) 39 6 = nI t := by rw [wr_nj (by decide), wr_nj (by decide), gT 6 (by decide) (by decide)]; exact a6
  have e1 : wr (wr B1 39 3 (nI (sumN F.2.2.2 7) + nI (seaN P F.1 s))) 39 4 (nI (sumN F.2.1 P.1) + nI (pc6 (gsN P F.1 s))) 39 1 = nI (seaN P F.1 s) := by rw [wr_nj (by decide), wr_nj (by decide)]; exact g1
  have e40 : wr (wr B1 39 3 (nI (sumN F.2.2.2 7) + nI (seaN P F.1 s))) 39 4 (nI (sumN F.2.1 P.1) + nI (pc6 (gsN P F.1 s))) 40 = I 40 := f3 40 (by decide)
  refine ⟨wr (wr (wr B1 39 3 (nI (sumN F.2.2.2 7) + nI (seaN P F.1 s))) 39 4 (nI (sumN F.2.1 P.1) + nI (pc6 (gsN P F.1 s)))) 40 (ow ((t + k) % 7)) (nI (F.2.2.2 (ow ((t + k) % 7))) + nI (seaN P F.1 s)), ?_, ?_, ?_, ?_, ?_, ?_, ?_, ?_, ?_, ?_⟩
  · rw [enX0_passOn, sgX0_passOn_0, bV r1]
    try dsimp only
    rw [e3, g1, g2, bI (s_bits _ _ hg6 _)]
    try dsimp only
    try dsimp only
    rw [e4, bI (s_ownerOf_39 _ _ ht _ _ _ hC3 e6)]
    try dsimp only
    try dsimp only
    rw [bI (s_isVillageO _ _ ho _)]
    try dsimp only
    try dsimp only
    rw [if_neg n10, inb_t ho (by omega), if_pos rfl, if_pos rfl, nI_clamp (by omega), e1, e40, av _ ho]
  · exact (f3.mo (by intro a; simp <;> omega)).w (by simp)
  · rw [wr_ne (by decide), wr_nj (by decide), wr_nj (by decide), gT 0 (by decide) (by decide)]
  · rw [wr_ne (by decide)]; exact e1
  · rw [wr_ne (by decide), wr_nj (by decide), wr_nj (by decide)]; exact g2
  · rw [wr_ne (by decide)]; exact e6
  · intro i hi
    rw [wr_ne (by decide), wr_ne (by decide), wr_ne (by decide)]; exact gw i hi
  · rw [wr_ne (by decide), wr_nj (by decide), wr_eq, sea_sum _ _ _ _ ho, nI_add]
  · rw [wr_ne (by decide), wr_eq, ground_sum hn, nI_add]
  · intro u hu
    show _ = nI (F.2.2.2 u + (if u = ow ((t + k) % 7) then seaN P F.1 s else 0))
    by_cases e : u = ow ((t + k) % 7)
    · rw [e, wr_eq, if_pos rfl, nI_add]
    · rw [wr_nj e, e40, av u hu, if_neg e, Nat.add_zero]
