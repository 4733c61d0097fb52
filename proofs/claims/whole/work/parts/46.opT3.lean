/-! grinds, worth -/
theorem m_back2 (N d : Nat) {P : RP} (hn : P.1 ≤ 6) {R ow : Nat → Nat} {t : Nat} {ss : Nat → Nat} {F : FS} {k : Nat} {I B : Nat → Nat → Int32} (J : Nat → Nat → Int64) (cd : Nat × Nat) (hN : noteN P (I 107) 0 F t) (hA : mAt P R ow t ss F I k B) :
    ∃ B5, arun (N + 1000000) (d + 2) 176 [rv (some 87)] (B, J, cd) = some (rv none, (B5, J, cd)) ∧ fr [87, 98, 99, 100, 101, 108] I B5 ∧ f87 [18, 25, 31] I B5 ∧ refAt P ow B5 F t ∧ B5 87 31 = B 87 31 := by
  obtain ⟨f1, g1, hR1⟩ := hA
  obtain ⟨B5, r, f, g, hR⟩ := s_back N d hn B J cd hR1 (by rw [f1 107 (by decide)]; exact hN)
  exact ⟨B5, r, f1.tr (f.mo (by intro a; simp <;> omega)), g1.tr (g.mo (by intro a; simp <;> omega)), hR, g 31 (by decide)⟩
def gr1 (G : Nat → Bool) : Nat → Nat → Int32
  | 0, _ => -9
  | m + 1, k => if G k then nI (k + 1) else gr1 G m (k + 1)
theorem and0 (g : Nat) : 0 &&& g = 0 := Nat.zero_and g
theorem l_xgrinds (N d : Nat) {P : RP} (hP : okP P) (h0 : 0 < P.1) {F : FS} (hw : ∀ i, F.1 i ≤ 99) {t : Nat} (ht : t ≤ 40) {ow : Nat → Nat} (how : ∀ d, d < 7 → ow d ≤ 6) (I : Nat → Nat → Int32) (J : Nat → Nat → Int64) (hC : courN P ow I 73) {i : Nat} (hi : i < 6) :
    ∀ (m k f : Nat) (B : Nat → Nat → Int32), k + m = 40 → fr [39, 40, 42, 47] I B → B 39 0 = -1 → asAt P B (wkN P P.2.2.2.2 ow t (fun _ => 0) F k) t → ∃ B', EX9_grinds (N + 1000000) (d + 4) (f + 1 + m) 36 [some (rv (some 0)), some (iv (nI i)), some (iv (nI k))] (B, J, 73, 80) = some (iv (gr1 (fun k => (gsN P (wkN P P.2.2.2.2 ow t (fun _ => 0) F k).1 0).testBit i) m k), (B', J, 73, 80)) ∧ fr [39, 40, 42, 47] I B' := by
  have hn6 := hP.1
  intro m
  induction m with
  | zero =>
    intro k f B hk hB hd hA
    have : k = 40 := by omega
    subst this
    refine ⟨B, ?_, hB⟩
    rw [Nat.add_zero, sgX9_grinds_36, if_pos (by decide)]
    rfl
  | succ m ih =>
    intro k f B hk hB hd hA
    have hCB : courN P ow B 73 := hC.eq (fun a h1 h2 => hB a (by simp; omega))
    obtain ⟨B1, r1, f1, e0, -, e2, hA1⟩ := s_passOn N d hP h0 (s := 0) (by decide) (F := wkN P P.2.2.2.2 ow t (fun _ => 0) F k) (wkN_le _ _ _ _ _ _ hw k) (t := t) (k := k) (by omega) how B J (73, 80) hCB hA (dry1 hd _)
    have hg6 : gsN P (wkN P P.2.2.2.2 ow t (fun _ => 0) F k).1 0 < 64 := bitsN_64 _ hn6
    rw [nI_0] at r1
    rw [show f + 1 + (m + 1) = f + 1 + m + 1 by omega, sgX9_grinds_36, if_neg (show ¬ (40 : Int32) ≤ nI k from nI_ge (b := 40) (by omega) (by decide)), bV r1]
    try dsimp only
    have sb := sh_bit _ hg6 i hi
    have hcc : (gsN P (wkN P P.2.2.2.2 ow t (fun _ => 0) F k).1 0).testBit i = true ∨ (gsN P (wkN P P.2.2.2.2 ow t (fun _ => 0) F k).1 0).testBit i = false := by cases (gsN P (wkN P P.2.2.2.2 ow t (fun _ => 0) F k).1 0).testBit i <;> simp
    rcases hcc with hc | hc
    · refine ⟨B1, ?_, hB.tr f1⟩
      rw [hc] at sb
      rw [if_neg (by rw [e2, sb]; decide), gr1, if_pos hc, nI_1]
    · obtain ⟨B', r2, f2⟩ := ih (k + 1) f B1 (by omega) (hB.tr f1) (e0.trans hd) hA1
      refine ⟨B', ?_, f2⟩
      rw [hc] at sb
      rw [if_pos (by rw [e2, sb]; decide), gr1, if_neg (by rw [hc]; decide), nI_1]
      exact r2
theorem l_mgrinds (N d : Nat) {P : RP} (hP : okP P) (h0 : 0 < P.1) {F : FS} (hw : ∀ i, F.1 i ≤ 99) {ow : Nat → Nat} (how : ∀ d, d < 7 → ow d ≤ 6) {t : Nat} (ht : t ≤ 40) {I I0 : Nat → Nat → Int32} (J : Nat → Nat → Int64) (cd : Nat × Nat) (hb : fr [107] I0 I) (hN : noteN P (I 107) 0 F t) (hR : I 87 32 = -9) {i : Nat} (hi : i < 6) :
    ∀ (m k f : Nat) (B : Nat → Nat → Int32), k + m = 40 → mAt P P.2.2.2.2 ow t (fun _ => 0) F I k B → ∃ B', EX10_grinds (N + 1000000) (d + 3) (f + 3 + m) 18 [some (rv (some 87)), some (iv (nI i)), some (iv (nI k)), some (iv 0)] (B, J, cd) = some (iv (gr1 (fun k => (gsN P (wkN P P.2.2.2.2 ow t (fun _ => 0) (zF F) k).1 0).testBit i) m k), (B', J, cd)) ∧ fr [87, 98, 99, 100, 101, 107, 108] I0 B' ∧ f87 [18, 25, 31] I0 B' ∧ refAt P ow B' F t := by
  have hn6 := hP.1
  intro m
  induction m with
  | zero =>
    intro k f B hk hA
    have : k = 40 := by omega
    subst this
    obtain ⟨B5, r, f5, g5, hR5, -⟩ := m_back N (d + 1) hn6 J cd hb hN hA
    refine ⟨B5, ?_, f5, g5, hR5⟩
    rw [Nat.add_zero, sgX10_grinds_18, if_pos rfl, if_pos (by decide), sgX10_grinds_49, bV r]
    try dsimp only
    rw [if_pos rfl]
    rfl
  | succ m ih =>
    intro k f B hk hA
    have z := wkN_z P P.2.2.2.2 ow t (fun _ => 0) F k
    have hg6 : gsN P (wkN P P.2.2.2.2 ow t (fun _ => 0) F k).1 0 < 64 := bitsN_64 _ hn6
    obtain ⟨B1, r1, hA1, e31⟩ := m_step N d hP h0 hw how ht (R9 hR) (k := k) (by omega) (and0 _) B J cd hA
    have hsb := s_has N (d + 2) hg6 hi (B1, J, cd)
    rw [nI_0] at r1
    have hcc : (gsN P (wkN P P.2.2.2.2 ow t (fun _ => 0) F k).1 0).testBit i = true ∨ (gsN P (wkN P P.2.2.2.2 ow t (fun _ => 0) F k).1 0).testBit i = false := by cases (gsN P (wkN P P.2.2.2.2 ow t (fun _ => 0) F k).1 0).testBit i <;> simp
    rw [show f + 3 + (m + 1) = f + 3 + m + 1 by omega, sgX10_grinds_18, if_pos rfl, if_neg (show ¬ (40 : Int32) ≤ nI k from nI_ge (b := 40) (by omega) (by decide)), bI r1]
    try dsimp only
    rw [e31, bI hsb]
    try dsimp only
    rcases hcc with hc | hc
    · obtain ⟨B5, r, f5, g5, hR5, -⟩ := m_back N (d + 1) hn6 J cd hb hN hA1
      refine ⟨B5, ?_, f5, g5, hR5⟩
      rw [hc, if_pos rfl, show f + 3 + m = f + 2 + m + 1 by omega, sgX10_grinds_18, if_neg n10, show f + 2 + m = f + 1 + m + 1 by omega, sgX10_grinds_49, bV r]
      try dsimp only
      rw [z.1] at hc
      rw [if_neg n10, gr1, if_pos hc, nI_1]
    · obtain ⟨B', r2, f2⟩ := ih (k + 1) f B1 (by omega) hA1
      refine ⟨B', ?_, f2⟩
      rw [hc, if_neg (by decide), nI_1]
      rw [z.1] at hc
      rw [gr1, if_neg (by rw [hc]; decide)]
      exact r2
theorem op_grinds (x : Int32) : OK2 92 199 [iv x] := by
  intro N d I J h
  obtain ⟨P, ow, F, D, hP, how, hC, hD, h25, hFl, hRf, h32, hw⟩ := h.un
  have hn := hP.1
  rcases ixc x P.1 (by omega) with hx | ⟨i, hi, rfl⟩
  · have kX := s_hasReach N (d + 18) x I J (73, 80)
    rw [b2i_f (hr_b hC.1 hx)] at kX
    have kM := s_isReach N (d + 17) x I J (73, 80)
    rw [b2i_f (ir_b hRf.1 (by omega) hx)] at kM
    refine ⟨iv (-1), I, J, I, J, ?_, ?_, h⟩
    · rw [enX9_grinds, sgX9_grinds_0, bI kX]
      try dsimp only
      rw [if_pos rfl]
    · rw [enX10_grinds, sgX10_grinds_0, bI kM]
      try dsimp only
      rw [if_pos rfl]
  · have kX := s_hasReach N (d + 18) (nI i) I J (73, 80)
    rw [b2i_t (hr_o hC.1 (by omega) hi)] at kX
    have h0 : 0 < P.1 := by omega
    obtain ⟨B1, r1, f1, b6, b0, b3, b4, bv, bw⟩ := s_abegin_39 N (d + 17) (t := D) (by omega) I J (73, 80)
    have hC1 : courN P ow B1 73 := hC.eq (fun a h1 h2 => f1 a (by simp; omega))
    have hA1 : asAt P B1 (zF F) D := asAt.begin hFl b6 b3 b4 bv bw
    obtain ⟨B2, r2, f2⟩ := l_xgrinds N (d + 15) hP h0 (F := zF F) hw hD how B1 J hC1 (i := i) (by omega) 40 0 (N + 999958) B1 (by omega) fr.rf b0 hA1
    have fX : fr [39, 40, 42, 47] I B2 := (f1.mo (by intro a; simp <;> omega)).tr f2
    have hR1 : refAt P ow B2 F D := hRf.eq (fun a h1 h2 => fX a (by simp; omega)) (by rw [fX 87 (by decide)]) (by rw [fX 87 (by decide)]) (by rw [fX 87 (by decide)])
    have kM := s_isReach N (d + 17) (nI i) B2 J (73, 80)
    rw [b2i_t (ir_o hR1.1 (by omega) hi)] at kM
    obtain ⟨B3, r3, f3, n3⟩ := s_begin N (d + 17) hn B2 J (73, 80) hR1
    obtain ⟨B5, r5, f5, g5, hR5⟩ := l_mgrinds N (d + 16) hP h0 hw how hD J (73, 80) f3 n3 (by rw [f3 87 (by decide), fX 87 (by decide)]; exact h32) (i := i) (by omega) 40 0 (N + 999956) B3 (by omega) (m_start f3 hR1)
    rw [nI_0] at r2 r5
    refine ⟨iv (gr1 (fun k => (gsN P (wkN P P.2.2.2.2 ow D (fun _ => 0) (zF F) k).1 0).testBit i) 40 0), B2, J, B5, J, ?_, ?_, h.trial2 hn hRf (v := 0) (fX.mo (by decide)) (by rw [fX 87 (by decide)]) (fun i hi => by rw [fX 0 (by decide)]) (f5.mo (by intro a; simp <;> omega)) (g5.mo (by intro a; simp <;> omega)) hR5 (by rw [g5 2 (by decide), fX 0 (by decide), fX 87 (by decide)]; exact h.2.2.2.1.1) h.2.2.2.1.2⟩
    · rw [enX9_grinds, sgX9_grinds_0, bI kX]
      try dsimp only
      rw [if_neg n10, h25, bV r1]
      exact r2
    · rw [enX10_grinds, sgX10_grinds_0, bI kM]
      try dsimp only
      rw [if_neg n10, bV r3]
      exact r5
-- worth
/-- the RAIN without that of one weekday -/
def dryN (R : Nat → Nat) (dd : Nat) : Nat → Nat := fun w => if w = dd then 0 else R w
/-- how often any GROUND in n DAYS without a weekday's RAIN -/
def woN (P : RP) (ow : Nat → Nat) (t : Nat) (F : FS) (n dd : Nat) : Nat := sumN (wkN P (dryN P.2.2.2.2 dd) ow t (fun _ => 0) (zF F) n).2.1 P.1
def wfN (W : Nat → Nat) : Nat → Nat × Nat
  | 0 => (1048576, 0)
  | k + 1 => if W k < (wfN W k).1 then (W k, k) else wfN W k
theorem gsum_le {P : RP} (hn : P.1 ≤ 6) (R ow : Nat → Nat) (t : Nat) (ss : Nat → Nat) (F : FS) : ∀ k, sumN (wkN P R ow t ss (zF F) k).2.1 P.1 ≤ 6 * k
  | 0 => by
    have : ∀ n, sumN (fun _ => 0) n = 0 := by
      intro n
      induction n with
      | zero => rfl
      | succ n ih => simp only [sumN, ih]
    show sumN (fun _ => 0) P.1 ≤ _
    rw [this]; omega
  | k + 1 => by
    have := gsum_le hn R ow t ss F k
    show sumN (stepN P _ _ _ _).2.1 P.1 ≤ _
    rw [ground_sum hn]
    have p6 : ∀ x, pc6 x ≤ 6 := fun x => by unfold pc6; omega
    have := p6 (gsN P (wkN P R ow t ss (zF F) k).1 (ss k))
    omega
theorem l_xwithout (N d : Nat) {P : RP} (hP : okP P) (h0 : 0 < P.1) {F : FS} (hw : ∀ i, F.1 i ≤ 99) {t : Nat} (ht : t ≤ 40) {ow : Nat → Nat} (how : ∀ d, d < 7 → ow d ≤ 6) (I : Nat → Nat → Int32) (J : Nat → Nat → Int64) (hC : courN P ow I 73) {dd n : Nat} (hdd : dd < 7) (hn : n ≤ 20) :
    ∀ (m k f : Nat) (B : Nat → Nat → Int32), k + m = n → fr [39, 40, 42, 47] I B → B 39 0 = nI dd → asAt P B (wkN P (dryN P.2.2.2.2 dd) ow t (fun _ => 0) F k) t → ∃ B', EX9_groundWithout (N + 1000000) (d + 4) (f + 1 + m) 31 [some (rv (some 0)), none, some (iv (nI n)), some (iv (nI k))] (B, J, 73, 80) = some (iv (nI (sumN (wkN P (dryN P.2.2.2.2 dd) ow t (fun _ => 0) F n).2.1 P.1)), (B', J, 73, 80)) ∧ fr [39, 40, 42, 47] I B' := by
  have hn6 := hP.1
  intro m
  induction m with
  | zero =>
    intro k f B hk hB hd hA
    have : k = n := by omega
    subst this
    refine ⟨B, ?_, hB⟩
    rw [Nat.add_zero, sgX9_groundWithout_31, if_pos (Int32.le_refl _), hA.2.2.2.1]
  | succ m ih =>
    intro k f B hk hB hd hA
    have hCB : courN P ow B 73 := hC.eq (fun a h1 h2 => hB a (by simp; omega))
    have hw7 : (t + k) % 7 < 7 := Nat.mod_lt _ (by decide)
    obtain ⟨B1, r1, f1, e0, -, -, hA1⟩ := s_passOn N d hP h0 (s := 0) (by decide) (F := wkN P (dryN P.2.2.2.2 dd) ow t (fun _ => 0) F k) (wkN_le _ _ _ _ _ _ hw k) (t := t) (k := k) (by omega) how B J (73, 80) hCB hA (show dryN P.2.2.2.2 dd ((t + k) % 7) = _ by
      rw [dryN]
      by_cases e : (t + k) % 7 = dd
      · rw [if_pos e, if_pos (by rw [hd, e])]
      · rw [if_neg e, if_neg (fun q => e (nI_inj (by omega) (by omega) (hd.symm.trans q)).symm)])
    obtain ⟨B', r2, f2⟩ := ih (k + 1) f B1 (by omega) (hB.tr f1) (e0.trans hd) hA1
    refine ⟨B', ?_, f2⟩
    rw [nI_0] at r1
    rw [show f + 1 + (m + 1) = f + 1 + m + 1 by omega, sgX9_groundWithout_31, if_neg (nI_ge (by omega) (by omega)), bV r1]
    try dsimp only
    rw [nI_1]
    exact r2
theorem s_without (N d : Nat) {P : RP} (hP : okP P) (h0 : 0 < P.1) {F : FS} (hw : ∀ i, F.1 i ≤ 99) {t : Nat} (ht : t ≤ 40) {ow : Nat → Nat} (how : ∀ d, d < 7 → ow d ≤ 6) (I : Nat → Nat → Int32) (J : Nat → Nat → Int64) (hC : courN P ow I 73) (h25 : I 25 0 = nI t) (hF : flowAt I F) {dd n : Nat} (hdd : dd < 7) (hn : n ≤ 20) :
    ∃ B', arun (N + 1000000) (d + 5) 131 [rv (some 0), iv (nI dd), iv (nI n)] (I, J, 73, 80) = some (iv (nI (woN P ow t F n dd)), (B', J, 73, 80)) ∧ fr [39, 40, 42, 47] I B' := by
  obtain ⟨B1, r1, f1, b6, b0, b3, b4, bv, bw⟩ := s_abegin_39 N (d + 2) (t := t) (by omega) I J (73, 80)
  have f2 : fr [39, 40, 42] I (wr B1 39 0 (nI dd)) := f1.w (by simp)
  have hC1 : courN P ow (wr B1 39 0 (nI dd)) 73 := hC.eq (fun a h1 h2 => f2 a (by simp; omega))
  obtain ⟨a6, aw, a3, a4, av⟩ : asAt P B1 (zF F) t := asAt.begin hF b6 b3 b4 bv bw
  have hA1 : asAt P (wr B1 39 0 (nI dd)) (zF F) t := ⟨by rw [wr_nj (by decide)]; exact a6, fun i hi => by rw [wr_ne (by decide)]; exact aw i hi, by rw [wr_nj (by decide)]; exact a3, by rw [wr_nj (by decide)]; exact a4, fun v hv => by rw [wr_ne (by decide)]; exact av v hv⟩
  obtain ⟨B', r2, f3⟩ := l_xwithout N d hP h0 (F := zF F) hw ht how (wr B1 39 0 (nI dd)) J hC1 hdd hn n 0 (N + 999998 - n) _ (by omega) fr.rf wr_eq hA1
  rw [nI_0] at r2
  refine ⟨B', ?_, (f2.mo (by intro a; simp <;> omega)).tr f3⟩
  rw [enX9_groundWithout, sgX9_groundWithout_0, h25, bV r1]
  try dsimp only
  rw [show N + 999999 = N + 999998 - n + 1 + n by omega]
  exact r2
theorem wf_lt (W : Nat → Nat) (hW : ∀ k, W k < 1048576) : ∀ k, (wfN W k).1 ≤ 1048576 ∧ (wfN W k).2 ≤ k
  | 0 => ⟨Nat.le_refl _, Nat.le_refl _⟩
  | k + 1 => by
    have := wf_lt W hW k
    have := hW k
    simp only [wfN]
    split
    · exact ⟨by omega, by omega⟩
    · exact ⟨by omega, by omega⟩
theorem l_xworth (N d : Nat) {P : RP} (hP : okP P) (h0 : 0 < P.1) {F : FS} (hw : ∀ i, F.1 i ≤ 99) {t : Nat} (ht : t ≤ 40) {ow : Nat → Nat} (how : ∀ d, d < 7 → ow d ≤ 6) (I : Nat → Nat → Int32) (J : Nat → Nat → Int64) (hC : courN P ow I 73) (h25 : I 25 0 = nI t) (hF : flowAt I F) {n : Nat} (hn : n ≤ 20) :
    ∀ (m k f : Nat) (B : Nat → Nat → Int32), k + m = 7 → fr [39, 40, 42, 47] I B → ∃ B', EX9_worth (N + 1000000) (d + 5) (f + 1 + m) 28 [some (rv (some 0)), some (iv (nI n)), none, some (iv (nI (wfN (woN P ow t F n) k).1)), some (iv (nI (wfN (woN P ow t F n) k).2)), some (iv (nI k)), none] (B, J, 73, 80) = some (iv (nI (wfN (woN P ow t F n) 7).2), (wr B' 0 14 (nI (wfN (woN P ow t F n) 7).1), J, 73, 80)) ∧ fr [39, 40, 42, 47] I B' := by
  have hn6 := hP.1
  have hW : ∀ k, woN P ow t F n k < 1048576 := fun k => by
    have := gsum_le hn6 (dryN P.2.2.2.2 k) ow t (fun _ => 0) F n
    unfold woN
    omega
  intro m
  induction m with
  | zero =>
    intro k f B hk hB
    have : k = 7 := by omega
    subst this
    refine ⟨B, ?_, hB⟩
    rw [Nat.add_zero, sgX9_worth_28, if_pos (by decide), bI (s_tell _ _ _ _ _)]
    try dsimp only
  | succ m ih =>
    intro k f B hk hB
    have hCB : courN P ow B 73 := hC.eq (fun a h1 h2 => hB a (by simp; omega))
    have hFB : flowAt B F := by
      refine ⟨fun i hi => ?_, fun v hv => ?_⟩
      · rw [hB 20 (by decide), hB 21 (by decide), hB 22 (by decide)]; exact hF.1 i hi
      · rw [hB 23 (by decide)]; exact hF.2 v hv
    obtain ⟨B1, r1, f1⟩ := s_without N d hP h0 hw ht how B J hCB (by rw [hB 25 (by decide)]; exact h25) hFB (dd := k) (by omega) hn
    obtain ⟨B', r2, f2⟩ := ih (k + 1) f B1 (by omega) (hB.tr f1)
    refine ⟨B', ?_, f2⟩
    have w1 := (wf_lt _ hW k).1
    have w2 := hW k
    rw [show f + 1 + (m + 1) = f + 1 + m + 1 by omega, sgX9_worth_28, if_neg (show ¬ (7 : Int32) ≤ nI k from nI_ge (b := 7) (by omega) (by decide)), bI r1]
    try dsimp only
    rw [nI_1]
    by_cases c : woN P ow t F n k < (wfN (woN P ow t F n) k).1
    · rw [if_neg (nI_ge c (by omega))]
      simp only [wfN, if_pos c] at r2
      exact r2
    · rw [if_pos (nI_le (by omega) (by omega))]
      have e : wfN (woN P ow t F n) (k + 1) = wfN (woN P ow t F n) k := by simp only [wfN, if_neg c]
      rw [e] at r2
      exact r2
theorem l_mworth1 (N d : Nat) {P : RP} (hP : okP P) (h0 : 0 < P.1) {F : FS} (hw : ∀ i, F.1 i ≤ 99) {ow : Nat → Nat} (how : ∀ d, d < 7 → ow d ≤ 6) {t : Nat} (ht : t ≤ 40) {n dd : Nat} (hn : n ≤ 20) (hdd : dd < 7) {I : Nat → Nat → Int32} (J : Nat → Nat → Int64) (cd : Nat × Nat) (hR : I 87 32 = nI dd) (x3 : Int32) {le : Nat} (hle : le ≤ 1048576) :
    ∀ (m k f : Nat) (B : Nat → Nat → Int32), k + m = n → mAt P (dryN P.2.2.2.2 dd) ow t (fun _ => 0) F I k B → ∃ B', EX10_worth (N + 1000000) (d + 3) (f + 1 + 1 + m) 57 [some (rv (some 87)), some (iv (nI n)), some (iv (nI (sumN F.2.1 P.1))), some (iv x3), some (iv (nI le)), some (iv (nI dd)), some (iv (nI k))] (B, J, cd) = EX10_worth (N + 1000000) (d + 3) f 113 [some (rv (some 87)), some (iv (nI n)), some (iv (nI (sumN F.2.1 P.1))), some (iv (if woN P ow t F n dd < le then nI dd else x3)), some (iv (nI (if woN P ow t F n dd < le then woN P ow t F n dd else le))), some (iv (nI dd)), none] (B', J, cd) ∧ mAt P (dryN P.2.2.2.2 dd) ow t (fun _ => 0) F I n B' := by
  have hn6 := hP.1
  have hRR : ∀ w, w < 7 → dryN P.2.2.2.2 dd w = if I 87 32 = nI w then 0 else P.2.2.2.2 w := fun w hw' => by
    rw [dryN]
    by_cases e : w = dd
    · rw [if_pos e, if_pos (by rw [hR, e])]
    · rw [if_neg e, if_neg (fun q => e (nI_inj (by omega) (by omega) (hR.symm.trans q)).symm)]
  intro m
  induction m with
  | zero =>
    intro k f B hk hA
    have : k = n := by omega
    subst this
    have z := wkN_z P (dryN P.2.2.2.2 dd) ow t (fun _ => 0) F k
    have hwo := gsum_le hn6 (dryN P.2.2.2.2 dd) ow t (fun _ => 0) F k
    refine ⟨B, ?_, hA⟩
    have eg : nI (sumN (wkN P (dryN P.2.2.2.2 dd) ow t (fun _ => 0) F k).2.1 P.1) - nI (sumN F.2.1 P.1) = nI (woN P ow t F k dd) := by
      rw [sumN_sub z.2.1, pk_sub (by omega), Nat.add_sub_cancel_left]; rfl
    have hwo' : woN P ow t F k dd < 1048576 := by unfold woN; omega
    rw [Nat.add_zero, sgX10_worth_57, if_pos (Int32.le_refl _), bI (s_groundMany _ _ hn6 _ _ _ hA.2.2)]
    try dsimp only
    try dsimp only
    rw [eg]
    by_cases c : woN P ow t F k dd < le
    · rw [if_neg (nI_ge c (by omega)), sgX10_worth_97, if_neg (nI_ge c (by omega)), if_pos c, if_pos c]
    · rw [if_pos (nI_le (by omega) (by omega)), sgX10_worth_97, if_pos (nI_le (by omega) (by omega)), if_neg c, if_neg c]
  | succ m ih =>
    intro k f B hk hA
    obtain ⟨B1, r1, hA1, -⟩ := m_step N d hP h0 hw how ht hRR (k := k) (by omega) (and0 _) B J cd hA
    obtain ⟨B', r2, hA2⟩ := ih (k + 1) f B1 (by omega) hA1
    refine ⟨B', ?_, hA2⟩
    rw [nI_0] at r1
    rw [show f + 1 + 1 + (m + 1) = f + 1 + 1 + m + 1 by omega, sgX10_worth_57, if_neg (nI_ge (by omega) (by omega)), bI r1]
    try dsimp only
    rw [nI_1]
    exact r2
theorem l_mworth (N d : Nat) {P : RP} (hP : okP P) (h0 : 0 < P.1) {F : FS} (hw : ∀ i, F.1 i ≤ 99) {ow : Nat → Nat} (how : ∀ d, d < 7 → ow d ≤ 6) {t : Nat} (ht : t ≤ 40) {n : Nat} (hn : n ≤ 20) {I : Nat → Nat → Int32} (J : Nat → Nat → Int64) (cd : Nat × Nat) (hN : noteN P (I 107) 0 F t) :
    ∀ (m k f : Nat) (B : Nat → Nat → Int32), k + m = 7 → 30 * m < f → fr [87, 98, 99, 100, 101, 108] I B → f87 [18, 25, 31, 32] I B → refAt P ow B F t → ∃ B', EX10_worth (N + 1000000) (d + 3) f 41 [some (rv (some 87)), some (iv (nI n)), some (iv (nI (sumN F.2.1 P.1))), some (iv (nI (wfN (woN P ow t F n) k).2)), some (iv (nI (wfN (woN P ow t F n) k).1)), some (iv (nI k)), none] (B, J, cd) = some (iv (nI (wfN (woN P ow t F n) 7).2), (wr (wr B' 87 32 (-9)) 87 2 (nI (wfN (woN P ow t F n) 7).1), J, cd)) ∧ fr [87, 98, 99, 100, 101, 108] I B' ∧ f87 [18, 25, 31, 32] I B' ∧ refAt P ow B' F t := by
  have hn6 := hP.1
  have hW : ∀ k, woN P ow t F n k < 1048576 := fun k => by
    have := gsum_le hn6 (dryN P.2.2.2.2 k) ow t (fun _ => 0) F n
    unfold woN
    omega
  intro m
  induction m with
  | zero =>
    intro k f B hk hf hB hB7 hA
    have : k = 7 := by omega
    subst this
    obtain ⟨g, rfl⟩ : ∃ g, f = g + 1 := ⟨f - 1, by omega⟩
    refine ⟨B, ?_, hB, hB7, hA⟩
    rw [sgX10_worth_41, if_pos (by decide), bI (s_ask _ _ _ _ _ _ _)]
    try dsimp only
  | succ m ih =>
    intro k f B hk hf hB hB7 hA
    obtain ⟨g, rfl⟩ : ∃ g, f = g + 1 + 1 + 1 + n + 1 := ⟨f - n - 4, by omega⟩
    have f1 : fr [87, 98, 99, 100, 101, 108] I (wr B 87 32 (nI k)) := hB.w (by simp)
    have g1 : f87 [18, 25, 31, 32] I (wr B 87 32 (nI k)) := hB7.w (by simp)
    have hA1 : refAt P ow (wr B 87 32 (nI k)) F t := hA.eq (fun a h1 h2 => wr_ne (by omega)) (wr_nj (by decide)) (wr_nj (by decide)) (wr_nj (by decide))
    obtain ⟨B1, r1, hM⟩ := l_mworth1 N d hP h0 hw how ht hn (dd := k) (by omega) (I := wr B 87 32 (nI k)) J cd wr_eq (nI (wfN (woN P ow t F n) k).2) (wf_lt _ hW k).1 n 0 (g + 1) _ (by omega) ⟨fr.rf, f87.rf, hA1⟩
    obtain ⟨B2, r2, f2, g2, hR2, -⟩ := m_back2 N (d + 1) hn6 J cd (by rw [f1 107 (by decide)]; exact hN) hM
    obtain ⟨B', r3, f3, g3, hR3⟩ := ih (k + 1) g B2 (by omega) (by omega) (f1.tr f2) (g1.tr (g2.mo (by intro a; simp <;> omega))) hR2
    refine ⟨B', ?_, f3, g3, hR3⟩
    rw [nI_0] at r1
    rw [sgX10_worth_41, if_neg (show ¬ (7 : Int32) ≤ nI k from nI_ge (b := 7) (by omega) (by decide)), r1, sgX10_worth_113, bV r2]
    try dsimp only
    have e1 : (if woN P ow t F n k < (wfN (woN P ow t F n) k).1 then nI k else nI (wfN (woN P ow t F n) k).2) = nI (wfN (woN P ow t F n) (k + 1)).2 := by
      simp only [wfN]; split <;> rfl
    have e2 : (if woN P ow t F n k < (wfN (woN P ow t F n) k).1 then woN P ow t F n k else (wfN (woN P ow t F n) k).1) = (wfN (woN P ow t F n) (k + 1)).1 := by
      simp only [wfN]; split <;> rfl
    rw [e1, e2, nI_1]
    exact r3

theorem op_worth (x : Int32) : OK2 96 209 [iv x] := by
  intro N d I J h
  obtain ⟨P, ow, F, D, hP, how, hC, hD, h25, hFl, hRf, h32, hw⟩ := h.un
  have hn := hP.1
  rcases ixc x 21 (by decide) with hx | ⟨n, hn20, rfl⟩
  · have hb : ¬ (¬ x < 0 ∧ ¬ (20 : Int32) < x) := fun q => hx.elim q.1 (fun z => q.2 (i_le_lt (k := 20) (by decide) z))
    refine ⟨iv (-1), I, J, I, J, ?_, ?_, h⟩
    · rw [enX9_worth, sgX9_worth_0, bI (show arun (N + 1000000) (d + 19) 119 [rv (some 0), iv 1, iv x, iv 20] (I, J, 73, 80) = some (iv (-1), (I, J, 73, 80)) by
        rw [enX9_refuseSearch, sgX9_refuseSearch_0, if_neg n10]
        rcases hx with q | q
        · rw [if_pos q]
        · rw [if_neg (show ¬ x ≤ 20 from i_nlt (k := 20) (by decide) q)]
          split <;> rfl)]
      try dsimp only
      rw [if_neg (by decide)]
    · rw [enX10_worth, sgX10_worth_0, bI (s_in _ _ _ _ _ _)]
      try dsimp only
      try dsimp only
      rw [b2i_f hb, if_pos rfl]
  · have hin : ¬ nI n < 0 ∧ ¬ (20 : Int32) < nI n := ⟨nI_pos (by omega), nI_nlt (a := 20) (by omega) (by omega)⟩
    by_cases hz : P.1 = 0
    · refine ⟨iv (-4), I, J, I, J, ?_, ?_, h⟩
      · rw [enX9_worth, sgX9_worth_0, bI (show arun (N + 1000000) (d + 19) 119 [rv (some 0), iv 1, iv (nI n), iv 20] (I, J, 73, 80) = some (iv (-4), (I, J, 73, 80)) by
          rw [enX9_refuseSearch, sgX9_refuseSearch_0, if_neg n10, if_neg (nI_pos (by omega)), if_pos (show nI n ≤ 20 from nI_le (b := 20) (by omega) (by decide)), if_pos (by rw [hC.1, hz]; rfl)])]
        try dsimp only
        rw [if_neg (by decide)]
      · rw [enX10_worth, sgX10_worth_0, bI (s_in _ _ _ _ _ _)]
        try dsimp only
        try dsimp only
        rw [b2i_t hin, if_neg n10, if_pos (by rw [hRf.1, hz]; rfl)]
    · have h0 : 0 < P.1 := by omega
      have hW0 : woN P ow D F n 0 < 1048576 := by
        have := gsum_le hn (dryN P.2.2.2.2 0) ow D (fun _ => 0) F n
        unfold woN
        omega
      have ef : wfN (woN P ow D F n) 1 = (woN P ow D F n 0, 0) := by
        show (if woN P ow D F n 0 < 1048576 then (woN P ow D F n 0, 0) else _) = _
        rw [if_pos hW0]
      obtain ⟨B1, r1, f1⟩ := s_without N (d + 14) hP h0 hw hD how I J hC h25 hFl (dd := 0) (by omega) (n := n) (by omega)
      have hC1 : courN P ow B1 73 := hC.eq (fun a h1 h2 => f1 a (by simp; omega))
      have hF1 : flowAt B1 F := by
        refine ⟨fun i hi => ?_, fun v hv => ?_⟩
        · rw [f1 20 (by decide), f1 21 (by decide), f1 22 (by decide)]; exact hFl.1 i hi
        · rw [f1 23 (by decide)]; exact hFl.2 v hv
      obtain ⟨B2, r2, f2⟩ := l_xworth N (d + 14) hP h0 hw hD how B1 J hC1 (by rw [f1 25 (by decide)]; exact h25) hF1 (n := n) (by omega) 6 1 (N + 999992) B1 (by omega) fr.rf
      rw [ef] at r2
      have fX : fr [0, 39, 40, 42, 47] I (wr B2 0 14 (nI (wfN (woN P ow D F n) 7).1)) := ((f1.mo (by intro a; simp <;> omega)).tr (f2.mo (by intro a; simp <;> omega))).w (by simp)
      have hR1 : refAt P ow (wr B2 0 14 (nI (wfN (woN P ow D F n) 7).1)) F D := hRf.eq (fun a h1 h2 => fX a (by simp; omega)) (by rw [fX 87 (by decide)]) (by rw [fX 87 (by decide)]) (by rw [fX 87 (by decide)])
      obtain ⟨B3, r3, f3, n3⟩ := s_begin N (d + 17) hn (wr B2 0 14 (nI (wfN (woN P ow D F n) 7).1)) J (73, 80) hR1
      have hR3 : refAt P ow B3 F D := hR1.eq (fun a h1 h2 => f3 a (by simp; omega)) (by rw [f3 87 (by decide)]) (by rw [f3 87 (by decide)]) (by rw [f3 87 (by decide)])
      obtain ⟨B5, r5, f5, g5, hR5⟩ := l_mworth N (d + 16) hP h0 hw how hD (n := n) (by omega) J (73, 80) n3 7 0 (N + 999999) B3 (by omega) (by omega) fr.rf f87.rf hR3
      rw [show (wfN (woN P ow D F n) 0).1 = 1048576 from rfl, show (wfN (woN P ow D F n) 0).2 = 0 from rfl, nI_0] at r5
      have e00 : B5 0 = wr B2 0 14 (nI (wfN (woN P ow D F n) 7).1) 0 := (f5 0 (by decide)).trans (f3 0 (by decide))
      have e87 : ∀ k, k ∉ [18, 25, 31, 32] → B5 87 k = I 87 k := fun k hk => by rw [g5 k hk, f3 87 (by decide), fX 87 (by decide)]
      refine ⟨iv (nI (wfN (woN P ow D F n) 7).2), wr B2 0 14 (nI (wfN (woN P ow D F n) 7).1), J, wr (wr B5 87 32 (-9)) 87 2 (nI (wfN (woN P ow D F n) 7).1), J, ?_, ?_, ?_⟩
      · rw [nI_0] at r1
        rw [enX9_worth, sgX9_worth_0, bI (show arun (N + 1000000) (d + 19) 119 [rv (some 0), iv 1, iv (nI n), iv 20] (I, J, 73, 80) = some (iv 0, (I, J, 73, 80)) by
          rw [enX9_refuseSearch, sgX9_refuseSearch_0, if_neg n10, if_neg (nI_pos (by omega)), if_pos (show nI n ≤ 20 from nI_le (b := 20) (by omega) (by decide)), if_neg (by rw [hC.1]; exact nI_ne0 h0 (by omega))])]
        try dsimp only
        rw [if_pos rfl, bI r1]
        try dsimp only
        exact r2
      · rw [enX10_worth, sgX10_worth_0, bI (s_in _ _ _ _ _ _)]
        try dsimp only
        try dsimp only
        rw [b2i_t hin, if_neg n10, if_neg (by rw [hR1.1]; exact nI_ne0 h0 (by omega)), bI (s_groundMany _ _ hn _ _ _ hR1)]
        try dsimp only
        try dsimp only
        rw [bV r3]
        try dsimp only
        exact r5
      · refine h.trial hn hRf (hR5.eq (fun a h1 h2 => by rw [wr_ne (by omega), wr_ne (by omega)]) (by rw [wr_nj (by decide), wr_nj (by decide)]) (by rw [wr_nj (by decide), wr_nj (by decide)]) (by rw [wr_nj (by decide), wr_nj (by decide)])) ((((fX.mo (by decide)).tr (f3.mo (by decide))).tr (f5.mo (by decide))).w (by decide) |>.w (by decide)) (fun i hi => ?_) ?_ ?_ ?_ h.2.2.2.1.2
        · rw [wr_ne (by decide), wr_ne (by decide), e00, wr_nj hi, f2 0 (by decide), f1 0 (by decide)]
        · rw [wr_nj (by decide), wr_nj (by decide)]; exact e87 0 (by decide)
        · rw [wr_nj (by decide), wr_eq]; exact h32.symm
        · rw [wr_ne (by decide), wr_ne (by decide), e00, wr_eq, wr_eq]
