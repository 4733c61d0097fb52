/-! calls that try DAYS: the relation taken apart, put together again -/
theorem flowN_le (P : RP) (hP : okP P) (sh vl : Nat → Nat) : ∀ t i, (flowN P sh vl t).1 i ≤ 99
  | 0, i => by
    show (if i < P.1 then P.2.2.2.1 i else 0) ≤ 99
    split
    · rename_i h
      have := (hP.2.1 i h).2.2.2
      omega
    · omega
  | t + 1, i => stepN_le _ _ _ _ _ (fun i => flowN_le P hP sh vl t i) i
theorem Rel.un {I : Nat → Nat → Int32} {J : Nat → Nat → Int64} (h : Rel I J) : ∃ (P : RP) (ow : Nat → Nat) (F : FS) (D : Nat), okP P ∧ (∀ d, d < 7 → ow d ≤ 6) ∧ courN P ow I 73 ∧ D ≤ 40 ∧ I 25 0 = nI D ∧ flowAt I F ∧ refAt P ow I F D ∧ I 87 32 = -9 ∧ (∀ i, F.1 i ≤ 99) := by
  obtain ⟨P, ow, D, sh, vl, kp, KD, ksh, kvl, hP, how, hC, hDd, h0, hfl, hsea, hkp, h10, h18, h25, h32, hmr, hmw, hnt⟩ := h.2.2.2.2
  exact ⟨P, ow, flowN P sh vl D, D, hP, how, hC, hDd.1, hDd.2.1, ⟨hfl, hsea⟩, ⟨h10, h18, h25, hmr, hmw⟩, h32, flowN_le P hP sh vl D⟩
/-- the cells that trials write -/
def TC : List Nat := [0, 39, 40, 41, 42, 43, 44, 45, 46, 47, 48, 49, 50, 51, 52, 53, 54, 55, 56, 57, 58, 59, 60, 61, 62, 63, 64, 65, 66, 67, 68, 69, 70, 71, 87, 98, 99, 100, 101, 107, 108, 109]
theorem Rel.trial {I B : Nat → Nat → Int32} {J J' : Nat → Nat → Int64} (h : Rel I J) {P : RP} {ow : Nat → Nat} {F : FS} {t : Nat} (hn : P.1 ≤ 6) (hI : refAt P ow I F t) (hB : refAt P ow B F t) (e : fr TC I B) (e0 : ∀ i, i ≠ 14 → B 0 i = I 0 i) (e87 : B 87 0 = I 87 0) (e32 : B 87 32 = I 87 32) (hA : B 0 14 = B 87 2) (hJ : J' 0 15 = J' 87 3 ∧ J' 0 16 = J' 87 4) : Rel B J' := by
  obtain ⟨hR, hT, hF, hA0, hV⟩ := h
  refine ⟨⟨?_, ?_⟩, ⟨?_, ?_⟩, ⟨?_, ?_⟩, ⟨hA, hJ⟩, ?_⟩
  · rw [e 1 (by decide)]; exact hR.1
  · intro j hj
    have := hR.2 j hj
    have c : 3 + j ∉ TC := by
      have : j = 0 ∨ j = 1 ∨ j = 2 ∨ j = 3 ∨ j = 4 ∨ j = 5 := by omega
      rcases this with rfl | rfl | rfl | rfl | rfl | rfl <;> decide
    unfold RRow at this ⊢
    rw [e 9 (by decide), e 89 (by decide), e (3 + j) c, e 90 (by decide)]
    exact this
  · rw [e 10 (by decide)]; exact hT.1
  · intro j hj
    have := hT.2 j hj
    have c : 12 + j ∉ TC := by
      have : j = 0 ∨ j = 1 ∨ j = 2 ∨ j = 3 := by omega
      rcases this with rfl | rfl | rfl | rfl <;> decide
    unfold RRow at this ⊢
    rw [e 16 (by decide), e 92 (by decide), e (12 + j) c, e 93 (by decide)]
    exact this
  · rw [e0 13 (by decide), e87]; exact hF.1
  · rw [e 72 (by decide), e 88 (by decide)]; exact hF.2
  · obtain ⟨P', ow', D, sh, vl, kp, KD, ksh, kvl, hP, how, hC, hDd, h0, hfl, hsea, hkp, h10, h18, h25, h32, hmr, hmw, hnt⟩ := hV
    have hPP : P'.1 = P.1 := nI_inj (by have := hP.1; omega) (by omega) (h10.symm.trans hI.1)
    refine ⟨P', ow', D, sh, vl, kp, KD, ksh, kvl, hP, how, ?_, ?_, h0, ?_, ?_, ?_, ?_, ?_, ?_, ?_, ?_, ?_, ?_⟩
    · refine hC.eq (fun a h1 h2 => e a ?_)
      have : ∀ b ∈ TC, ¬ (73 ≤ b ∧ b ≤ 79) := by decide
      exact fun q => this a q ⟨h1, h2⟩
    · unfold deedN at hDd ⊢
      rw [e 25 (by decide), e (25 + 1) (by decide), e (25 + 2) (by decide)]
      exact hDd
    · rw [e 20 (by decide), e 21 (by decide), e 22 (by decide)]; exact hfl
    · rw [e 23 (by decide)]; exact hsea
    · intro k hk
      have := hkp k hk
      rw [e 38 (by decide), e 105 (by decide), e 106 (by decide)]
      refine ⟨this.1, this.2.1, fun q => ?_⟩
      obtain ⟨a1, a2⟩ := this.2.2 q
      refine ⟨?_, a2⟩
      have c : k = 0 ∨ k = 1 ∨ k = 2 := by omega
      unfold deedN at a1 ⊢
      rcases c with rfl | rfl | rfl
      · rw [e (29 + 3 * 0) (by decide), e (29 + 3 * 0 + 1) (by decide), e (29 + 3 * 0 + 2) (by decide)]
        exact a1
      · rw [e (29 + 3 * 1) (by decide), e (29 + 3 * 1 + 1) (by decide), e (29 + 3 * 1 + 2) (by decide)]
        exact a1
      · rw [e (29 + 3 * 2) (by decide), e (29 + 3 * 2 + 1) (by decide), e (29 + 3 * 2 + 2) (by decide)]
        exact a1
    · exact (hB.1.trans hI.1.symm).trans h10
    · exact (hB.2.1.trans hI.2.1.symm).trans h18
    · exact (hB.2.2.1.trans hI.2.2.1.symm).trans h25
    · rw [e32]; exact h32
    · intro i hi
      have hi2 : i < P.1 := by omega
      have q := hmr i hi
      have b := hB.2.2.2.1 i hi2
      have a := hI.2.2.2.1 i hi2
      rw [e 96 (by decide), e 97 (by decide)]
      exact ⟨q.1, q.2.1, (b.2.2.1.trans a.2.2.1.symm).trans q.2.2.1, (b.2.2.2.1.trans a.2.2.2.1.symm).trans q.2.2.2.1, (b.2.2.2.2.trans a.2.2.2.2.symm).trans q.2.2.2.2⟩
    · intro u hu
      have q := hmw u hu
      have b := hB.2.2.2.2 u hu
      have a := hI.2.2.2.2 u hu
      rw [e 94 (by decide), e 95 (by decide)]
      exact ⟨q.1, q.2.1, (b.2.2.trans a.2.2.symm).trans q.2.2⟩
    · rw [e 104 (by decide)]; exact hnt
/-- nothing that a set holds is beyond the gates -/
abbrev CS (g : Nat) (x : Int32) : Prop := x &&& (nI g ^^^ -1) = 0

theorem CS.of {P : RP} (hn : P.1 ≤ 6) {x : Int32} (h : CS (gatN P) x) : ∃ s, s < 64 ∧ x = nI s ∧ s &&& gatN P = s := (can_iff (bitsN_64 _ hn) x).mp h
theorem CS.in {P : RP} (hn : P.1 ≤ 6) {s : Nat} (h : s &&& gatN P = s) : CS (gatN P) (nI s) := (can_iff (bitsN_64 _ hn) _).mpr ⟨s, sub64 hn h, rfl, h⟩
theorem s_canShut (N d : Nat) {P : RP} {ow : Nat → Nat} (x : Int32) (I : Nat → Nat → Int32) (J : Nat → Nat → Int64) (cd : Nat × Nat) (hC : courN P ow I 73) : arun (N + 1000000) (d + 1) 17 [rv (some 73), iv x] (I, J, cd) = some (iv (b2i (CS (gatN P) x)), (I, J, cd)) := by
  rw [enX2_canShut, sgX2_canShut_73_0]
  by_cases h : CS (gatN P) x
  · rw [if_pos (by rw [hC.2.1]; exact h), b2i_t h]
  · rw [if_neg (by rw [hC.2.1]; exact h), b2i_f h]
theorem s_gate (N d : Nat) {P : RP} (hP : okP P) (I : Nat → Nat → Int32) (J : Nat → Nat → Int64) (cd : Nat × Nat) (h10 : I 87 10 = nI P.1) (h96 : ∀ i, i < P.1 → I 96 i = nI (P.2.1 i)) : arun (N + 1000000) (d + 2) 171 [rv (some 87)] (I, J, cd) = some (iv (nI (gatN P)), (I, J, cd)) := s_gateSet N d hP.1 (fun i hi => hP.k hi) I J cd h10 h96
theorem s_canShut10 (N d : Nat) {P : RP} (hP : okP P) (x : Int32) (I : Nat → Nat → Int32) (J : Nat → Nat → Int64) (cd : Nat × Nat) (h10 : I 87 10 = nI P.1) (h96 : ∀ i, i < P.1 → I 96 i = nI (P.2.1 i)) : arun (N + 1000000) (d + 3) 172 [rv (some 87), iv x] (I, J, cd) = some (iv (b2i (CS (gatN P) x)), (I, J, cd)) := by
  have hn := hP.1
  rw [enX10_canShut, sgX10_canShut_0]
  by_cases h0 : x < 0
  · rw [if_pos h0, b2i_f]
    intro h
    obtain ⟨s, hs, rfl, -⟩ := h.of hn
    exact nI_pos (by omega) h0
  · rw [if_neg h0, bI (s_gate _ _ hP _ _ _ h10 h96)]
    try dsimp only
    try dsimp only
    by_cases h : CS (gatN P) x
    · rw [if_pos h, b2i_t h]
    · rw [if_neg h, b2i_f h]
theorem n9w (k : Nat) (hk : k < 7) : ¬ (-9 : Int32) = nI k := by
  have c : k = 0 ∨ k = 1 ∨ k = 2 ∨ k = 3 ∨ k = 4 ∨ k = 5 ∨ k = 6 := by omega
  rcases c with rfl | rfl | rfl | rfl | rfl | rfl | rfl <;> decide
theorem n1w (k : Nat) (hk : k < 7) : ¬ (-1 : Int32) = nI k := by
  have c : k = 0 ∨ k = 1 ∨ k = 2 ∨ k = 3 ∨ k = 4 ∨ k = 5 ∨ k = 6 := by omega
  rcases c with rfl | rfl | rfl | rfl | rfl | rfl | rfl <;> decide
theorem dry9 {P : RP} {v : Int32} (h : v = -9) (t : Nat) : P.2.2.2.2 (t % 7) = if v = nI (t % 7) then 0 else P.2.2.2.2 (t % 7) := by
  rw [if_neg (by rw [h]; exact n9w _ (Nat.mod_lt _ (by decide)))]
theorem dry1 {P : RP} {v : Int32} (h : v = -1) (t : Nat) : P.2.2.2.2 (t % 7) = if v = nI (t % 7) then 0 else P.2.2.2.2 (t % 7) := by
  rw [if_neg (by rw [h]; exact n1w _ (Nat.mod_lt _ (by decide)))]
/-- a walk of k DAYS: from F, at DEED t, by RAIN R, with what is SHUT -/
def wkN (P : RP) (R ow : Nat → Nat) (t : Nat) (ss : Nat → Nat) (F : FS) : Nat → FS
  | 0 => F
  | k + 1 => stepN P (wkN P R ow t ss F k) (ss k) (R ((t + k) % 7)) (ow ((t + k) % 7))
/-- the same WATER, with nothing ground and nothing come -/
def zF (F : FS) : FS := (F.1, fun _ => 0, fun _ => 0, fun _ => 0)
theorem wkN_z (P : RP) (R ow : Nat → Nat) (t : Nat) (ss : Nat → Nat) (F : FS) : ∀ k, (wkN P R ow t ss F k).1 = (wkN P R ow t ss (zF F) k).1 ∧ (∀ i, (wkN P R ow t ss F k).2.1 i = F.2.1 i + (wkN P R ow t ss (zF F) k).2.1 i) ∧ (∀ u, (wkN P R ow t ss F k).2.2.2 u = F.2.2.2 u + (wkN P R ow t ss (zF F) k).2.2.2 u)
  | 0 => ⟨rfl, fun _ => rfl, fun _ => rfl⟩
  | k + 1 => by
    obtain ⟨h1, h2, h3⟩ := wkN_z P R ow t ss F k
    refine ⟨?_, fun i => ?_, fun u => ?_⟩
    · show watN P (wkN P R ow t ss F k).1 _ _ = watN P (wkN P R ow t ss (zF F) k).1 _ _
      rw [h1]
    · show (wkN P R ow t ss F k).2.1 i + _ = F.2.1 i + ((wkN P R ow t ss (zF F) k).2.1 i + _)
      rw [h2 i, h1]; omega
    · show (wkN P R ow t ss F k).2.2.2 u + _ = F.2.2.2 u + ((wkN P R ow t ss (zF F) k).2.2.2 u + _)
      rw [h3 u, h1]; omega
theorem wkN_le (P : RP) (R ow : Nat → Nat) (t : Nat) (ss : Nat → Nat) (F : FS) (hw : ∀ i, F.1 i ≤ 99) : ∀ k i, (wkN P R ow t ss F k).1 i ≤ 99
  | 0, i => hw i
  | k + 1, i => stepN_le _ _ _ _ _ (fun i => wkN_le P R ow t ss F hw k i) i
theorem asAt.begin {P : RP} {I B : Nat → Nat → Int32} {F : FS} {t : Nat} (hF : flowAt I F) (b6 : B 39 6 = nI t) (b3 : B 39 3 = 0) (b4 : B 39 4 = 0) (bv : ∀ v, v < 7 → B 40 v = 0) (bw : ∀ i, i < 6 → B 42 i = I 20 i) : asAt P B (zF F) t := by
  have z : ∀ n, sumN (fun _ => 0) n = 0 := by
    intro n
    induction n with
    | zero => rfl
    | succ n ih => simp only [sumN, ih]
  refine ⟨b6, fun i hi => (bw i hi).trans (hF.1 i hi).1, ?_, ?_, bv⟩
  · rw [b3]; show _ = nI (sumN (fun _ => 0) 7); rw [z]; rfl
  · rw [b4]; show _ = nI (sumN (fun _ => 0) P.1); rw [z]; rfl
theorem op_runs (x : Int32) : OK2 88 194 [iv x] := by
  intro N d I J h
  obtain ⟨P, ow, F, D, hP, how, hC, hD, h25, hFl, hRf, h32, hw⟩ := h.un
  have hn := hP.1
  have kX := s_canShut N (d + 18) x I J (73, 80) hC
  have kM := s_canShut10 N (d + 16) hP x I J (73, 80) hRf.1 (fun i hi => (hRf.2.2.2.1 i hi).1)
  by_cases hx : CS (gatN P) x
  · rw [b2i_t hx] at kX kM
    by_cases hz : P.1 = 0
    · refine ⟨iv (-4), I, J, I, J, ?_, ?_, h⟩
      · rw [enX9_runs, sgX9_runs_0, bI kX]
        try dsimp only
        rw [if_neg n10, if_pos (show okc 73 2 = true from rfl), if_pos (by rw [hC.1, hz]; rfl)]
      · rw [enX10_runs, sgX10_runs_0, bI kM]
        try dsimp only
        rw [if_neg n10, if_pos (by rw [hRf.1, hz]; rfl)]
    · obtain ⟨s, hs6, rfl, hs⟩ := hx.of hn
      have h0 : 0 < P.1 := by omega
      obtain ⟨B1, r1, f1, b6, b0, b3, b4, bv, bw⟩ := s_abegin_39 N (d + 17) (t := D) (by omega) I J (73, 80)
      have hC1 : courN P ow B1 73 := hC.eq (fun a h1 h2 => f1 a (by simp; omega))
      have hA1 : asAt P B1 (zF F) D := asAt.begin hFl b6 b3 b4 bv bw
      obtain ⟨B2, r2, f2, e0, e1, e2, hA2⟩ := s_passOn N (d + 15) hP h0 hs6 (F := zF F) hw (t := D) (k := 0) (by omega) how B1 J (73, 80) hC1 hA1 (dry1 b0 _)
      have fX : fr [0, 39, 40, 42, 47] I (wr B2 0 14 (nI (gsN P F.1 s))) := ((f1.mo (by intro a; simp <;> omega)).tr (f2.mo (by intro a; simp <;> omega))).w (by simp)
      have hR1 : refAt P ow (wr B2 0 14 (nI (gsN P F.1 s))) F D := hRf.eq (fun a h1 h2 => fX a (by simp; omega)) (by rw [fX 87 (by decide)]) (by rw [fX 87 (by decide)]) (by rw [fX 87 (by decide)])
      obtain ⟨B3, r3, f3, n3⟩ := s_begin N (d + 17) hn (wr B2 0 14 (nI (gsN P F.1 s))) J (73, 80) hR1
      have hR3 : refAt P ow B3 F D := hR1.eq (fun a h1 h2 => f3 a (by simp; omega)) (by rw [f3 87 (by decide)]) (by rw [f3 87 (by decide)]) (by rw [f3 87 (by decide)])
      obtain ⟨B4, r4, f4, g4, hR4, e31⟩ := s_pass N (d + 16) hP h0 hs hw how (t := D) (by omega) B3 J (73, 80) hR3 (dry9 (by rw [f3 87 (by decide), fX 87 (by decide)]; exact h32) _)
      obtain ⟨B5, r5, f5, g5, hR5⟩ := s_back N (d + 17) hn B4 J (73, 80) hR4 (by rw [f4 107 (by decide)]; exact n3)
      have kM2 := s_canShut10 N (d + 16) hP (nI s) (wr B2 0 14 (nI (gsN P F.1 s))) J (73, 80) hR1.1 (fun i hi => (hR1.2.2.2.1 i hi).1)
      rw [b2i_t hx] at kM2
      have e315 : B5 87 31 = nI (gsN P F.1 s) := by rw [g5 31 (by decide)]; exact e31
      have f87a : f87 [18, 25, 31] (wr B2 0 14 (nI (gsN P F.1 s))) B5 := ((f87.fr f3 (by decide)).tr g4).tr (g5.mo (by intro a; simp <;> omega))
      refine ⟨iv (nI (seaN P F.1 s)), wr B2 0 14 (nI (gsN P F.1 s)), J, wr B5 87 2 (nI (gsN P F.1 s)), J, ?_, ?_, ?_⟩
      · rw [enX9_runs, sgX9_runs_0, bI kX]
        try dsimp only
        rw [if_neg n10, if_pos (show okc 73 2 = true from rfl), if_neg (by rw [hC.1]; exact nI_ne0 h0 (by omega)), h25, bV r1]
        try dsimp only
        rw [show (0 : Int32) = nI 0 from rfl, bV r2]
        try dsimp only
        rw [e2, bI (s_tell _ _ _ _ _)]
        try dsimp only
        try dsimp only
        rw [wr_ne (by decide), e1]
        rfl
      · rw [enX10_runs, sgX10_runs_0, bI kM2]
        try dsimp only
        rw [if_neg n10, if_neg (by rw [hR1.1]; exact nI_ne0 h0 (by omega)), bV r3]
        try dsimp only
        rw [bI r4]
        try dsimp only
        rw [bV r5]
        try dsimp only
        rw [e315, bI (s_ask _ _ _ _ _ _ _)]
        try dsimp only
      · have fA : fr TC I (wr B5 87 2 (nI (gsN P F.1 s))) := ((((fX.mo (by decide)).tr (f3.mo (by decide))).tr (f4.mo (by decide))).tr (f5.mo (by decide))).w (by decide)
        have e00 : B5 0 = wr B2 0 14 (nI (gsN P F.1 s)) 0 := ((f5 0 (by decide)).trans (f4 0 (by decide))).trans (f3 0 (by decide))
        have e87' : ∀ k, k ∉ [18, 25, 31] → B5 87 k = I 87 k := fun k hk => by rw [f87a k hk, fX 87 (by decide)]
        refine h.trial hn hRf (hR5.eq (fun a h1 h2 => wr_ne (by omega)) (wr_nj (by decide)) (wr_nj (by decide)) (wr_nj (by decide))) fA (fun i hi => ?_) ?_ ?_ ?_ h.2.2.2.1.2
        · rw [wr_ne (by decide), e00, wr_nj hi, (f2 0 (by decide)), f1 0 (by decide)]
        · rw [wr_nj (by decide)]; exact e87' 0 (by decide)
        · rw [wr_nj (by decide)]; exact e87' 32 (by decide)
        · rw [wr_ne (by decide), e00, wr_eq, wr_eq]
  · rw [b2i_f hx] at kX kM
    refine ⟨iv (-1), I, J, I, J, ?_, ?_, h⟩
    · rw [enX9_runs, sgX9_runs_0, bI kX]
      try dsimp only
      rw [if_pos rfl]
    · rw [enX10_runs, sgX10_runs_0, bI kM]
      try dsimp only
      rw [if_pos rfl]
