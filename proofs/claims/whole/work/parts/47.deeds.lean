/-! DEEDS: done, undone, kept, gone on from: the specs of both sides -/
def keptN (P : RP) (kp : Nat → Bool) (KD : Nat → Nat) (ksh kvl : Nat → Nat → Nat) (I : Nat → Nat → Int32) : Prop := ∀ k, k < 3 → I 38 k = (if kp k then 1 else 0) ∧ I 105 k = (if kp k then 1 else 0) ∧ (kp k → deedN P I (29 + 3 * k) (KD k) (ksh k) (kvl k) ∧ (∀ t, t < KD k → noteN P (I 106) (1107 * k + 27 * t) (flowN P (ksh k) (kvl k) t) t) ∧ noteN P (I 106) (1107 * k + 1080) (flowN P (ksh k) (kvl k) (KD k)) (KD k) ∧ 0 < P.1)
/-- the class's DEEDS and RIVER -/
def XS (P : RP) (D : Nat) (sh vl : Nat → Nat) (I : Nat → Nat → Int32) : Prop := deedN P I 25 D sh vl ∧ flowAt I (flowN P sh vl D)
/-- the reference's -/
def MS (P : RP) (ow : Nat → Nat) (D : Nat) (sh vl : Nat → Nat) (I : Nat → Nat → Int32) : Prop := refAt P ow I (flowN P sh vl D) D ∧ ∀ t, t < D → noteN P (I 104) (27 * t) (flowN P sh vl t) t
theorem RelV.un2 {I : Nat → Nat → Int32} (h : RelV I) : ∃ (P : RP) (ow : Nat → Nat) (D : Nat) (sh vl : Nat → Nat) (kp : Nat → Bool) (KD : Nat → Nat) (ksh kvl : Nat → Nat → Nat), okP P ∧ (∀ d, d < 7 → ow d ≤ 6) ∧ courN P ow I 73 ∧ XS P D sh vl I ∧ (P.1 = 0 → D = 0) ∧ keptN P kp KD ksh kvl I ∧ MS P ow D sh vl I ∧ I 87 32 = -9 := by
  obtain ⟨P, ow, D, sh, vl, kp, KD, ksh, kvl, hP, how, hC, hDd, h0, hfl, hsea, hkp, h10, h18, h25, h32, hmr, hmw, hnt⟩ := h
  exact ⟨P, ow, D, sh, vl, kp, KD, ksh, kvl, hP, how, hC, ⟨hDd, hfl, hsea⟩, h0, hkp, ⟨⟨h10, h18, h25, hmr, hmw⟩, hnt⟩, h32⟩
theorem RelV.mk2 {I : Nat → Nat → Int32} {P : RP} {ow : Nat → Nat} {D : Nat} {sh vl : Nat → Nat} {kp : Nat → Bool} {KD : Nat → Nat} {ksh kvl : Nat → Nat → Nat} (hP : okP P) (how : ∀ d, d < 7 → ow d ≤ 6) (hC : courN P ow I 73) (hX : XS P D sh vl I) (h0 : P.1 = 0 → D = 0) (hK : keptN P kp KD ksh kvl I) (hM : MS P ow D sh vl I) (h32 : I 87 32 = -9) : RelV I :=
  ⟨P, ow, D, sh, vl, kp, KD, ksh, kvl, hP, how, hC, hX.1, h0, hX.2.1, hX.2.2, hK, hM.1.1, hM.1.2.1, hM.1.2.2.1, h32, hM.1.2.2.2.1, hM.1.2.2.2.2, hM.2⟩
/-- the cells of the RIVER and of trials -/
def VS : List Nat := [20, 21, 22, 23, 24, 25, 26, 27, 28, 29, 30, 31, 32, 33, 34, 35, 36, 37, 38, 39, 40, 41, 42, 43, 44, 45, 46, 47, 73, 74, 75, 76, 77, 78, 79, 80, 81, 82, 83, 84, 85, 86, 87, 94, 95, 96, 97, 98, 99, 100, 101, 102, 103, 104, 105, 106, 107, 108, 109]
theorem Rel.mkV {I B : Nat → Nat → Int32} {J : Nat → Nat → Int64} (h : Rel I J) (e : fr VS I B) (e0 : B 87 0 = I 87 0) (e2 : B 87 2 = I 87 2) (hV : RelV B) : Rel B J := by
  obtain ⟨hR, hT, hF, hA, -⟩ := h
  refine ⟨⟨?_, ?_⟩, ⟨?_, ?_⟩, ⟨?_, ?_⟩, ⟨?_, hA.2⟩, hV⟩
  · rw [e 1 (by decide)]; exact hR.1
  · intro j hj
    have := hR.2 j hj
    have c : 3 + j ∉ VS := by
      have : j = 0 ∨ j = 1 ∨ j = 2 ∨ j = 3 ∨ j = 4 ∨ j = 5 := by omega
      rcases this with rfl | rfl | rfl | rfl | rfl | rfl <;> decide
    unfold RRow at this ⊢
    rw [e 9 (by decide), e 89 (by decide), e (3 + j) c, e 90 (by decide)]
    exact this
  · rw [e 10 (by decide)]; exact hT.1
  · intro j hj
    have := hT.2 j hj
    have c : 12 + j ∉ VS := by
      have : j = 0 ∨ j = 1 ∨ j = 2 ∨ j = 3 := by omega
      rcases this with rfl | rfl | rfl | rfl <;> decide
    unfold RRow at this ⊢
    rw [e 16 (by decide), e 92 (by decide), e (12 + j) c, e 93 (by decide)]
    exact this
  · rw [e 0 (by decide), e0]; exact hF.1
  · rw [e 72 (by decide), e 88 (by decide)]; exact hF.2
  · rw [e 0 (by decide), e2]; exact hA.1
theorem deedN.eq {P : RP} {I B : Nat → Nat → Int32} {o D : Nat} {sh vl : Nat → Nat} (h : deedN P I o D sh vl) (e0 : B o = I o) (e1 : B (o + 1) = I (o + 1)) (e2 : B (o + 2) = I (o + 2)) : deedN P B o D sh vl := by
  unfold deedN at h ⊢
  rw [e0, e1, e2]
  exact h
theorem keptN.eq {P : RP} {kp : Nat → Bool} {KD : Nat → Nat} {ksh kvl : Nat → Nat → Nat} {I B : Nat → Nat → Int32} (h : keptN P kp KD ksh kvl I) (e : ∀ a, 29 ≤ a → a ≤ 38 → B a = I a) (e105 : B 105 = I 105) (e106 : B 106 = I 106) : keptN P kp KD ksh kvl B := by
  intro k hk
  have := h k hk
  rw [e 38 (by omega) (by omega), e105, e106]
  refine ⟨this.1, this.2.1, fun q => ?_⟩
  obtain ⟨a1, a2⟩ := this.2.2 q
  exact ⟨a1.eq (e _ (by omega) (by omega)) (e _ (by omega) (by omega)) (e _ (by omega) (by omega)), a2⟩
theorem flowN_ext (P : RP) {sh vl sh' vl' : Nat → Nat} : ∀ t, (∀ i, i < t → sh' i = sh i ∧ vl' i = vl i) → flowN P sh' vl' t = flowN P sh vl t
  | 0, _ => rfl
  | t + 1, h => by
    simp only [flowN]
    rw [flowN_ext P t (fun i hi => h i (by omega)), (h t (by omega)).1, (h t (by omega)).2]
theorem flowAt.eq {I B : Nat → Nat → Int32} {F : FS} (h : flowAt I F) (e : ∀ a, 20 ≤ a → a ≤ 23 → B a = I a) : flowAt B F := by
  unfold flowAt at h ⊢
  rw [e 20 (by omega) (by omega), e 21 (by omega) (by omega), e 22 (by omega) (by omega), e 23 (by omega) (by omega)]
  exact h
theorem noteN.mv {P : RP} (hn : P.1 ≤ 6) {c c' : Nat → Int32} {a b : Nat} {F : FS} {t : Nat} (h : noteN P c a F t) (e : ∀ i, i < 27 → c' (b + i) = c (a + i)) : noteN P c' b F t := by
  obtain ⟨h1, h2, h3, h4⟩ := h
  refine ⟨(e 0 (by omega)).trans h1, (e 1 (by omega)).trans h2, fun i hi => ?_, fun v hv => ?_⟩
  · have q := h3 i hi
    have e1 := e (2 + i) (by omega)
    have e2 := e (8 + i) (by omega)
    have e3 := e (14 + i) (by omega)
    simp only [← Nat.add_assoc] at e1 e2 e3
    exact ⟨e1.trans q.1, e2.trans q.2.1, e3.trans q.2.2⟩
  · have e1 := e (20 + v) (by omega)
    simp only [← Nat.add_assoc] at e1
    exact e1.trans (h4 v hv)
theorem deed_add {P : RP} {I : Nat → Nat → Int32} {D : Nat} {sh vl : Nat → Nat} (h : deedN P I 25 D sh vl) (hD : D < 40) {s v : Nat} (hs : s &&& gatN P = s) (hv : v < 7) : deedN P (wr (wr (wr I 26 D (nI s)) 27 D (nI v)) 25 0 (nI (D + 1))) 25 (D + 1) (up1 sh D s) (up1 vl D v) := by
  obtain ⟨h1, h2, h3⟩ := h
  refine ⟨by omega, wr_eq, fun t ht => ?_⟩
  rw [wr_ne (show 25 + 1 ≠ 25 by decide), wr_ne (show 25 + 1 ≠ 27 by decide), wr_ne (show 25 + 2 ≠ 25 by decide), up1_at, up1_at]
  by_cases e : t = D
  · subst e
    rw [wr_eq, wr_eq, if_pos rfl, if_pos rfl]
    exact ⟨rfl, rfl, hs, hv⟩
  · rw [wr_nj e, wr_nj e, wr_ne (show 25 + 2 ≠ 26 by decide), if_neg e, if_neg e]
    exact h3 t (by omega)
theorem up_ext {sh : Nat → Nat} {D s : Nat} {i : Nat} (hi : i < D) : up1 sh D s i = sh i := by rw [up1_at, if_neg (by omega)]
theorem rem7 {t : Nat} (ht : t < 1000) : nI t - nI t / 7 * 7 = nI (t % 7) := pk_rem (d := 7) (by omega) (by omega) (by omega)
/-- the class does a DEED -/
theorem s_passTruly (N d : Nat) {P : RP} (hP : okP P) (h0 : 0 < P.1) {ow : Nat → Nat} (how : ∀ d, d < 7 → ow d ≤ 6) {D : Nat} (hD : D < 40) {sh vl : Nat → Nat} {s : Nat} (hs : s &&& gatN P = s) (I : Nat → Nat → Int32) (J : Nat → Nat → Int64) (hC : courN P ow I 73) (hX : XS P D sh vl I) :
    ∃ B, arun (N + 1000000) (d + 4) 127 [rv (some 0), iv (nI s)] (I, J, 73, 80) = some (iv (nI (seaN P (flowN P sh vl D).1 s)), (B, J, 73, 80)) ∧ fr [20, 21, 22, 23, 24, 25, 26, 27] I B ∧ XS P (D + 1) (up1 sh D s) (up1 vl D (ow (D % 7))) B := by
  have hn := hP.1
  have h7 : D % 7 < 7 := Nat.mod_lt _ (by decide)
  have ho : ow (D % 7) < 7 := by have := how _ h7; omega
  obtain ⟨hd, hf⟩ := hX
  have hd' := deed_add hd hD hs ho
  have f1 : fr [25, 26, 27] I (wr (wr (wr I 26 D (nI s)) 27 D (nI (ow (D % 7)))) 25 0 (nI (D + 1))) := ((fr.rf.w (by simp)).w (by simp)).w (by simp)
  have hC1 : courN P ow (wr (wr (wr I 26 D (nI s)) 27 D (nI (ow (D % 7)))) 25 0 (nI (D + 1))) 73 := hC.eq (fun a h1 h2 => f1 a (by simp; omega))
  have hf1 : flowAt (wr (wr (wr I 26 D (nI s)) 27 D (nI (ow (D % 7)))) 25 0 (nI (D + 1))) (flowN P sh vl D) := hf.eq (fun a h1 h2 => f1 a (by simp; omega))
  obtain ⟨B, r, f, g⟩ := s_flowPass N d hP h0 (sub64 hn hs) (flowN_le P hP sh vl D) (hP.2.2.1 _ h7) ho _ J (73, 80) hC1 hf1
  have e78 : I 78 (D % 7) = nI (ow (D % 7)) := (hC.2.2.2.2.1 _ h7).2
  have e77 : wr (wr (wr I 26 D (nI s)) 27 D (nI (ow (D % 7)))) 25 0 (nI (D + 1)) 77 (D % 7) = nI (P.2.2.2.2 (D % 7)) := (hC1.2.2.2.2.1 _ h7).1
  have ra : arun (N + 1000000) (d + 3) 26 [rv (some 25), iv (nI s), iv (nI (ow (D % 7)))] (I, J, 73, 80) = some (rv none, (wr (wr (wr I 26 D (nI s)) 27 D (nI (ow (D % 7)))) 25 0 (nI (D + 1)), J, 73, 80)) := by
    rw [enX3_add, sgX3_add_0, if_neg (by rw [hd.2.1]; exact nI_ge (b := 40) hD (by decide)), hd.2.1, inb_t hD (by omega), if_pos rfl, if_pos rfl, nI_clamp (by omega), nI_1]
  refine ⟨B, ?_, ?_, ?_, ?_⟩
  · rw [enX9_passTruly, sgX9_passTruly_0, hd.2.1, rem7 (by omega), inb_t h7 (by omega), if_pos rfl, nI_clamp (by omega), e78, bV ra]
    try dsimp only
    rw [if_pos (show okc 73 2 = true from rfl), show RF (73, 80) 73 7 = some 77 from rfl, Option.bind_some, show alen 0 77 = 7 from rfl, inb_t h7 (by omega), if_pos rfl, e77, bI r]
  · exact (f1.mo (by intro a; simp <;> omega)).tr (f.mo (by intro a; simp <;> omega))
  · exact hd'.eq (f 25 (by decide)) (f (25 + 1) (by decide)) (f (25 + 2) (by decide))
  · simp only [flowN]
    rw [flowN_ext P D (fun i hi => ⟨up_ext hi, up_ext hi⟩), up1_at, if_pos rfl, up1_at, if_pos rfl]
    exact g
theorem s_dayTruly (N d : Nat) {P : RP} (hP : okP P) (h0 : 0 < P.1) {ow : Nat → Nat} (how : ∀ d, d < 7 → ow d ≤ 6) {D : Nat} (hD : D < 40) {sh vl : Nat → Nat} {s : Nat} (hs : s &&& gatN P = s) (I : Nat → Nat → Int32) (J : Nat → Nat → Int64) (cd : Nat × Nat) (h32 : I 87 32 = -9) (hM : MS P ow D sh vl I) :
    ∃ B, arun (N + 1000000) (d + 4) 181 [rv (some 87), iv (nI s)] (I, J, cd) = some (iv (nI (seaN P (flowN P sh vl D).1 s)), (B, J, cd)) ∧ fr [87, 98, 99, 100, 101, 104, 108] I B ∧ f87 [18, 25, 31] I B ∧ MS P ow (D + 1) (up1 sh D s) (up1 vl D (ow (D % 7))) B := by
  have hn := hP.1
  obtain ⟨hA, hN⟩ := hM
  obtain ⟨B1, r1, f1, n1, o1⟩ := s_write_104 N (d + 2) (at_ := 27 * D) (by omega) hn I J cd hA
  have hA1 : refAt P ow B1 (flowN P sh vl D) D := hA.eq (fun a h1 h2 => f1 a (by simp; omega)) (by rw [f1 87 (by decide)]) (by rw [f1 87 (by decide)]) (by rw [f1 87 (by decide)])
  obtain ⟨B, r, f, g, hA2, -⟩ := s_pass N d hP h0 hs (flowN_le P hP sh vl D) how (t := D) (by omega) B1 J cd hA1 (dry9 (by rw [f1 87 (by decide)]; exact h32) _)
  refine ⟨B, ?_, ?_, ?_, ?_, ?_⟩
  · rw [enX10_dayTruly, sgX10_dayTruly_0, hA.2.2.1, show (27 : Int32) * nI D = nI (27 * D) from pk_mul 27 D, bV r1]
    try dsimp only
    rw [bI r]
  · exact (f1.mo (by intro a; simp <;> omega)).tr (f.mo (by intro a; simp <;> omega))
  · exact (f87.fr f1 (by decide)).tr g
  · simp only [flowN]
    rw [flowN_ext P D (fun i hi => ⟨up_ext hi, up_ext hi⟩), up1_at, if_pos rfl, up1_at, if_pos rfl]
    exact hA2
  · intro t ht
    rw [flowN_ext P t (fun i hi => ⟨up_ext (by omega), up_ext (by omega)⟩), f 104 (by decide)]
    by_cases e : t = D
    · rw [e]; exact n1
    · exact (hN t (by omega)).mv hn (fun i hi => o1 _ (by omega))

theorem l_start1_73 (N d : Nat) {P : RP} (hn : P.1 ≤ 6) (I : Nat → Nat → Int32) (J : Nat → Nat → Int64) (cd : Nat × Nat) (c0 : I 73 0 = nI P.1) (c3 : ∀ i, i < P.1 → I 76 i = nI (P.2.2.2.1 i)) :
    ∀ (m i f : Nat) (B : Nat → Nat → Int32), i + m = 6 → fr [20, 21, 22] I B → (∀ j, j < i → B 20 j = nI ((fs0 P).1 j) ∧ B 21 j = 0 ∧ B 22 j = 0) → ∃ B', EX4_start (N + 1000000) d (f + 1 + 2 * m) 2 [some (rv (some 19)), some (rv (some 73)), some (iv (nI i))] (B, J, cd) = EX4_start (N + 1000000) d f 54 [some (rv (some 19)), none, some (iv 0)] (B', J, cd) ∧ fr [20, 21, 22] I B' ∧ (∀ j, j < 6 → B' 20 j = nI ((fs0 P).1 j) ∧ B' 21 j = 0 ∧ B' 22 j = 0) := by
  intro m
  induction m with
  | zero =>
    intro i f B hi hB hx
    have : i = 6 := by omega
    subst this
    exact ⟨B, by rw [Nat.mul_zero, Nat.add_zero, sgX4_start_73_2, if_pos (by decide)], hB, hx⟩
  | succ m ih =>
    intro i f B hi hB hx
    have i6 : i < 6 := by omega
    have i31 : i < 2 ^ 31 := by omega
    have r1 : EX4_start (N + 1000000) d (f + 1 + 2 * m + 1 + 1) 2 [some (rv (some 19)), some (rv (some 73)), some (iv (nI i))] (B, J, cd) = EX4_start (N + 1000000) d (f + 1 + 2 * m + 1) 32 [some (rv (some 19)), some (rv (some 73)), some (iv (nI i))] (wr B 20 i (nI ((fs0 P).1 i)), J, cd) := by
      rw [sgX4_start_73_2, if_neg (show ¬ (6 : Int32) ≤ nI i from nI_ge (b := 6) i6 (by decide)), inb_t i6 i31, nI_clamp i31]
      by_cases hc : i < P.1
      · rw [if_neg (by rw [hB 73 (by decide), c0]; exact nI_ge hc (by omega)), if_pos rfl, if_pos rfl, hB 76 (by decide), c3 i hc, show (fs0 P).1 i = P.2.2.2.1 i from if_pos hc]
      · rw [if_pos (by rw [hB 73 (by decide), c0]; exact nI_le (by omega) i31), if_pos rfl, show (fs0 P).1 i = 0 from if_neg hc]; rfl
    rw [show f + 1 + 2 * (m + 1) = f + 1 + 2 * m + 1 + 1 by omega, r1, sgX4_start_73_32, inb_t i6 i31, if_pos rfl, if_pos rfl, nI_clamp i31, nI_1]
    refine ih (i + 1) f _ (by omega) (((hB.w (by simp)).w (by simp)).w (by simp)) (fun j hj => ?_)
    rw [wr_ne (show 20 ≠ 22 by decide), wr_ne (show 20 ≠ 21 by decide), wr_ne (show 21 ≠ 22 by decide)]
    by_cases e : j = i
    · subst e
      rw [wr_eq, wr_eq, wr_eq]
      exact ⟨rfl, rfl, rfl⟩
    · rw [wr_nj e, wr_nj e, wr_nj e, wr_ne (show 21 ≠ 20 by decide), wr_ne (show 22 ≠ 21 by decide), wr_ne (show 22 ≠ 20 by decide)]
      exact hx j (by omega)
theorem s_start_73 (N d : Nat) {P : RP} (hn : P.1 ≤ 6) (I : Nat → Nat → Int32) (J : Nat → Nat → Int64) (cd : Nat × Nat) (c0 : I 73 0 = nI P.1) (c3 : ∀ i, i < P.1 → I 76 i = nI (P.2.2.2.1 i)) :
    ∃ B, arun (N + 1000000) (d + 1) 29 [rv (some 19), rv (some 73)] (I, J, cd) = some (rv none, (B, J, cd)) ∧ fr [20, 21, 22, 23] I B ∧ flowAt B (fs0 P) := by
  have l2 : ∀ (m i f : Nat) (C B : Nat → Nat → Int32), i + m = 7 → fr [23] C B → (∀ j, j < i → B 23 j = 0) → ∃ B', EX4_start (N + 1000000) d (f + 1 + m) 54 [some (rv (some 19)), none, some (iv (nI i))] (B, J, cd) = some (rv none, (B', J, cd)) ∧ fr [23] C B' ∧ (∀ j, j < 7 → B' 23 j = 0) := by
    intro m
    induction m with
    | zero =>
      intro i f C B hi hB hx
      have : i = 7 := by omega
      subst this
      exact ⟨B, by rw [Nat.add_zero, sgX4_start_73_54, if_pos (by decide)], hB, hx⟩
    | succ m ih =>
      intro i f C B hi hB hx
      rw [show f + 1 + (m + 1) = f + 1 + m + 1 by omega, sgX4_start_73_54, if_neg (show ¬ (7 : Int32) ≤ nI i from nI_ge (b := 7) (by omega) (by decide)), inb_t (show i < 7 by omega) (by omega), if_pos rfl, nI_clamp (by omega), nI_1]
      refine ih (i + 1) f C _ (by omega) (hB.w (by simp)) (fun j hj => ?_)
      by_cases e : j = i
      · subst e; rw [wr_eq]
      · rw [wr_nj e]; exact hx j (by omega)
  obtain ⟨B1, r1, f1, g1⟩ := l_start1_73 N d hn I J cd c0 c3 6 0 (N + 999986) I (by omega) fr.rf (fun j hj => absurd hj (by omega))
  obtain ⟨B2, r2, f2, g2⟩ := l2 7 0 (N + 999978) B1 B1 (by omega) fr.rf (fun j hj => absurd hj (by omega))
  rw [nI_0] at r1 r2
  refine ⟨B2, ?_, (f1.mo (by intro a; simp <;> omega)).tr (f2.mo (by intro a; simp <;> omega)), fun i hi => ?_, fun v hv => ?_⟩
  · rw [enX4_start, sgX4_start_73_0]
    exact r1.trans r2
  · rw [f2 20 (by decide), f2 21 (by decide), f2 22 (by decide)]
    exact g1 i hi
  · exact g2 v hv

theorem l_start1_80 (N d : Nat) {P : RP} (hn : P.1 ≤ 6) (I : Nat → Nat → Int32) (J : Nat → Nat → Int64) (cd : Nat × Nat) (c0 : I 80 0 = nI P.1) (c3 : ∀ i, i < P.1 → I 83 i = nI (P.2.2.2.1 i)) :
    ∀ (m i f : Nat) (B : Nat → Nat → Int32), i + m = 6 → fr [20, 21, 22] I B → (∀ j, j < i → B 20 j = nI ((fs0 P).1 j) ∧ B 21 j = 0 ∧ B 22 j = 0) → ∃ B', EX4_start (N + 1000000) d (f + 1 + 2 * m) 2 [some (rv (some 19)), some (rv (some 80)), some (iv (nI i))] (B, J, cd) = EX4_start (N + 1000000) d f 54 [some (rv (some 19)), none, some (iv 0)] (B', J, cd) ∧ fr [20, 21, 22] I B' ∧ (∀ j, j < 6 → B' 20 j = nI ((fs0 P).1 j) ∧ B' 21 j = 0 ∧ B' 22 j = 0) := by
  intro m
  induction m with
  | zero =>
    intro i f B hi hB hx
    have : i = 6 := by omega
    subst this
    exact ⟨B, by rw [Nat.mul_zero, Nat.add_zero, sgX4_start_80_2, if_pos (by decide)], hB, hx⟩
  | succ m ih =>
    intro i f B hi hB hx
    have i6 : i < 6 := by omega
    have i31 : i < 2 ^ 31 := by omega
    have r1 : EX4_start (N + 1000000) d (f + 1 + 2 * m + 1 + 1) 2 [some (rv (some 19)), some (rv (some 80)), some (iv (nI i))] (B, J, cd) = EX4_start (N + 1000000) d (f + 1 + 2 * m + 1) 32 [some (rv (some 19)), some (rv (some 80)), some (iv (nI i))] (wr B 20 i (nI ((fs0 P).1 i)), J, cd) := by
      rw [sgX4_start_80_2, if_neg (show ¬ (6 : Int32) ≤ nI i from nI_ge (b := 6) i6 (by decide)), inb_t i6 i31, nI_clamp i31]
      by_cases hc : i < P.1
      · rw [if_neg (by rw [hB 80 (by decide), c0]; exact nI_ge hc (by omega)), if_pos rfl, if_pos rfl, hB 83 (by decide), c3 i hc, show (fs0 P).1 i = P.2.2.2.1 i from if_pos hc]
      · rw [if_pos (by rw [hB 80 (by decide), c0]; exact nI_le (by omega) i31), if_pos rfl, show (fs0 P).1 i = 0 from if_neg hc]; rfl
    rw [show f + 1 + 2 * (m + 1) = f + 1 + 2 * m + 1 + 1 by omega, r1, sgX4_start_80_32, inb_t i6 i31, if_pos rfl, if_pos rfl, nI_clamp i31, nI_1]
    refine ih (i + 1) f _ (by omega) (((hB.w (by simp)).w (by simp)).w (by simp)) (fun j hj => ?_)
    rw [wr_ne (show 20 ≠ 22 by decide), wr_ne (show 20 ≠ 21 by decide), wr_ne (show 21 ≠ 22 by decide)]
    by_cases e : j = i
    · subst e
      rw [wr_eq, wr_eq, wr_eq]
      exact ⟨rfl, rfl, rfl⟩
    · rw [wr_nj e, wr_nj e, wr_nj e, wr_ne (show 21 ≠ 20 by decide), wr_ne (show 22 ≠ 21 by decide), wr_ne (show 22 ≠ 20 by decide)]
      exact hx j (by omega)
theorem s_start_80 (N d : Nat) {P : RP} (hn : P.1 ≤ 6) (I : Nat → Nat → Int32) (J : Nat → Nat → Int64) (cd : Nat × Nat) (c0 : I 80 0 = nI P.1) (c3 : ∀ i, i < P.1 → I 83 i = nI (P.2.2.2.1 i)) :
    ∃ B, arun (N + 1000000) (d + 1) 29 [rv (some 19), rv (some 80)] (I, J, cd) = some (rv none, (B, J, cd)) ∧ fr [20, 21, 22, 23] I B ∧ flowAt B (fs0 P) := by
  have l2 : ∀ (m i f : Nat) (C B : Nat → Nat → Int32), i + m = 7 → fr [23] C B → (∀ j, j < i → B 23 j = 0) → ∃ B', EX4_start (N + 1000000) d (f + 1 + m) 54 [some (rv (some 19)), none, some (iv (nI i))] (B, J, cd) = some (rv none, (B', J, cd)) ∧ fr [23] C B' ∧ (∀ j, j < 7 → B' 23 j = 0) := by
    intro m
    induction m with
    | zero =>
      intro i f C B hi hB hx
      have : i = 7 := by omega
      subst this
      exact ⟨B, by rw [Nat.add_zero, sgX4_start_80_54, if_pos (by decide)], hB, hx⟩
    | succ m ih =>
      intro i f C B hi hB hx
      rw [show f + 1 + (m + 1) = f + 1 + m + 1 by omega, sgX4_start_80_54, if_neg (show ¬ (7 : Int32) ≤ nI i from nI_ge (b := 7) (by omega) (by decide)), inb_t (show i < 7 by omega) (by omega), if_pos rfl, nI_clamp (by omega), nI_1]
      refine ih (i + 1) f C _ (by omega) (hB.w (by simp)) (fun j hj => ?_)
      by_cases e : j = i
      · subst e; rw [wr_eq]
      · rw [wr_nj e]; exact hx j (by omega)
  obtain ⟨B1, r1, f1, g1⟩ := l_start1_80 N d hn I J cd c0 c3 6 0 (N + 999986) I (by omega) fr.rf (fun j hj => absurd hj (by omega))
  obtain ⟨B2, r2, f2, g2⟩ := l2 7 0 (N + 999978) B1 B1 (by omega) fr.rf (fun j hj => absurd hj (by omega))
  rw [nI_0] at r1 r2
  refine ⟨B2, ?_, (f1.mo (by intro a; simp <;> omega)).tr (f2.mo (by intro a; simp <;> omega)), fun i hi => ?_, fun v hv => ?_⟩
  · rw [enX4_start, sgX4_start_80_0]
    exact r1.trans r2
  · rw [f2 20 (by decide), f2 21 (by decide), f2 22 (by decide)]
    exact g1 i hi
  · exact g2 v hv

theorem l_replay (N d : Nat) {P : RP} (hP : okP P) (h0 : 0 < P.1) {ow : Nat → Nat} {D : Nat} {sh vl : Nat → Nat} (I : Nat → Nat → Int32) (J : Nat → Nat → Int64) (hC : courN P ow I 73) (hD : deedN P I 25 D sh vl) :
    ∀ (m k f : Nat) (B : Nat → Nat → Int32), k + m = D → fr [20, 21, 22, 23, 24] I B → flowAt B (flowN P sh vl k) → ∃ B', EX9_replay (N + 1000000) (d + 3) (f + 1 + m) 13 [some (rv (some 0)), some (iv (nI k))] (B, J, 73, 80) = some (rv none, (B', J, 73, 80)) ∧ fr [20, 21, 22, 23, 24] I B' ∧ flowAt B' (flowN P sh vl D) := by
  have hn := hP.1
  intro m
  induction m with
  | zero =>
    intro k f B hk hB hF
    have : k = D := by omega
    subst this
    exact ⟨B, by rw [Nat.add_zero, sgX9_replay_13, if_pos (by rw [hB 25 (by decide), hD.2.1]; exact Int32.le_refl _)], hB, hF⟩
  | succ m ih =>
    intro k f B hk hB hF
    have h40 := hD.1
    have h7 : k % 7 < 7 := Nat.mod_lt _ (by decide)
    have hCB : courN P ow B 73 := hC.eq (fun a h1 h2 => hB a (by simp; omega))
    obtain ⟨e1, e2, hs, hv⟩ := hD.2.2 k (by omega)
    have e26 : B 26 k = nI (sh k) := by rw [hB 26 (by decide)]; exact e1
    have e27 : B 27 k = nI (vl k) := by rw [hB 27 (by decide)]; exact e2
    have e77 : B 77 (k % 7) = nI (P.2.2.2.2 (k % 7)) := (hCB.2.2.2.2.1 _ h7).1
    obtain ⟨B1, r1, f1, g1⟩ := s_flowPass N d hP h0 (sub64 hn hs) (flowN_le P hP sh vl k) (hP.2.2.1 _ h7) hv B J (73, 80) hCB hF
    obtain ⟨B', r2, f2, g2⟩ := ih (k + 1) f B1 (by omega) (hB.tr f1) g1
    refine ⟨B', ?_, f2, g2⟩
    rw [show f + 1 + (m + 1) = f + 1 + m + 1 by omega, sgX9_replay_13, if_neg (by rw [hB 25 (by decide), hD.2.1]; exact nI_ge (by omega) (by omega)), rem7 (by omega), inb_t (show k < 40 by omega) (by omega), inb_t h7 (by omega), if_pos rfl, if_pos rfl, if_pos rfl, nI_clamp (show k < 2 ^ 31 by omega), nI_clamp (show k % 7 < 2 ^ 31 by omega), e26, e27, e77, bI r1]
    try dsimp only
    rw [nI_1]
    exact r2
theorem s_replay (N d : Nat) {P : RP} (hP : okP P) {ow : Nat → Nat} {D : Nat} {sh vl : Nat → Nat} (h0 : 0 < P.1 ∨ D = 0) (I : Nat → Nat → Int32) (J : Nat → Nat → Int64) (hC : courN P ow I 73) (hD : deedN P I 25 D sh vl) :
    ∃ B, arun (N + 1000000) (d + 4) 128 [rv (some 0)] (I, J, 73, 80) = some (rv none, (B, J, 73, 80)) ∧ fr [20, 21, 22, 23, 24] I B ∧ flowAt B (flowN P sh vl D) := by
  have hn := hP.1
  have h40 := hD.1
  obtain ⟨B1, r1, f1, g1⟩ := s_start_73 N (d + 2) hn I J (73, 80) hC.1 (fun i hi => (hC.2.2.2.1 i hi).2.2)
  by_cases hz : D = 0
  · subst hz
    refine ⟨B1, ?_, f1.mo (by intro a; simp <;> omega), g1⟩
    rw [enX9_replay, sgX9_replay_0, bV r1]
    try dsimp only
    rw [sgX9_replay_13, if_pos (by rw [f1 25 (by decide), hD.2.1]; decide)]
  · have h0' : 0 < P.1 := h0.resolve_right hz
    have hC1 : courN P ow B1 73 := hC.eq (fun a h1 h2 => f1 a (by simp; omega))
    obtain ⟨B2, r2, f2, g2⟩ := l_replay N d hP h0' B1 J hC1 (hD.eq (f1 25 (by decide)) (f1 (25 + 1) (by decide)) (f1 (25 + 2) (by decide))) D 0 (N + 999998 - D) B1 (by omega) fr.rf g1
    rw [nI_0] at r2
    refine ⟨B2, ?_, (f1.mo (by intro a; simp <;> omega)).tr f2, g2⟩
    rw [enX9_replay, sgX9_replay_0, bV r1]
    try dsimp only
    rw [show N + 999999 = N + 999998 - D + 1 + D by omega]
    exact r2
