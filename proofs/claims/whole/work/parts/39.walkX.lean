/-! WALKS of the class: what runs, what is left, which GRIND -/
/-- only cells of S were changed -/
def fr (S : List Nat) (I B : Nat → Nat → Int32) : Prop := ∀ a, a ∉ S → B a = I a
theorem fr.rf {S : List Nat} {I : Nat → Nat → Int32} : fr S I I := fun _ _ => rfl
theorem fr.tr {S : List Nat} {I B C : Nat → Nat → Int32} (h : fr S I B) (k : fr S B C) : fr S I C := fun a ha => (k a ha).trans (h a ha)
theorem fr.w {S : List Nat} {I B : Nat → Nat → Int32} {a i : Nat} {v : Int32} (h : fr S I B) (ha : a ∈ S) : fr S I (wr B a i v) := fun b hb => by
  have : b ≠ a := fun q => hb (q ▸ ha)
  rw [wr_at, if_neg this]
  exact h b hb
theorem fr.wC {S : List Nat} {I B : Nat → Nat → Int32} {a : Nat} {f : Nat → Int32} (h : fr S I B) (ha : a ∈ S) : fr S I (wrC B a f) := fun b hb => by
  have : b ≠ a := fun q => hb (q ▸ ha)
  rw [wrC_at, if_neg this]
  exact h b hb
theorem fr.mo {S T : List Nat} {I B : Nat → Nat → Int32} (h : fr S I B) (hs : ∀ a, a ∈ S → a ∈ T) : fr T I B := fun a ha => h a (fun q => ha (hs a q))
theorem wr_ne {α : Type} {I : Nat → Nat → α} {a i : Nat} {v : α} {b : Nat} (h : b ≠ a) : wr I a i v b = I b := if_neg h
theorem wr_eq {α : Type} {I : Nat → Nat → α} {a i : Nat} {v : α} : wr I a i v a i = v := by simp [wr_at, up1_at]
theorem wr_nj {α : Type} {I : Nat → Nat → α} {a i : Nat} {v : α} {j : Nat} (h : j ≠ i) : wr I a i v a j = I a j := by simp [wr_at, up1_at, h]
theorem courN.eq {P : RP} {ow : Nat → Nat} {I B : Nat → Nat → Int32} (h : courN P ow I 73) (e : ∀ a, 73 ≤ a → a ≤ 79 → B a = I a) : courN P ow B 73 := by
  unfold courN at h ⊢
  rw [e 73 (by omega) (by omega), e (73 + 1) (by omega) (by omega), e (73 + 2) (by omega) (by omega), e (73 + 3) (by omega) (by omega), e (73 + 4) (by omega) (by omega), e (73 + 5) (by omega) (by omega), e (73 + 6) (by omega) (by omega)]
  exact h
theorem okP.k {P : RP} (h : okP P) {i : Nat} (hi : i < P.1) : P.2.1 i ≤ 5 := (h.2.1 i hi).1
theorem okP.m {P : RP} (h : okP P) {i : Nat} (hi : i < P.1) : P.2.2.1 i ≤ 9 := (h.2.1 i hi).2.2.1
theorem ranN_le (P : RP) (w : Nat → Nat) (s i : Nat) : ranN P w s i ≤ w i := runN_le _ _ _ _
theorem s_runFromT (N d : Nat) {k m w : Nat} (hk : k < 2 ^ 30) (hm : m < 2 ^ 30) (hw : w < 2 ^ 30) (A : AH) : arun (N + 1000000) (d + 1) 41 [iv (nI k), iv (nI m), iv (nI w), iv 1] A = some (iv (nI (runN k m w true)), A) := s_runFrom N d hk hm hw true A
theorem s_runFromF (N d : Nat) {k m w : Nat} (hk : k < 2 ^ 30) (hm : m < 2 ^ 30) (hw : w < 2 ^ 30) (A : AH) : arun (N + 1000000) (d + 1) 41 [iv (nI k), iv (nI m), iv (nI w), iv 0] A = some (iv (nI (runN k m w false)), A) := s_runFrom N d hk hm hw false A
theorem l_letRun (N d : Nat) {P : RP} (hP : okP P) {w : Nat → Nat} {s : Nat} (hs : s < 64) (hw : ∀ i, w i ≤ 99) {q1 q2 : Nat} (a1 : alO q1 = some 6) (a2 : alO q2 = some 6) (b1 : alen 0 q1 = 6) (b2 : alen 0 q2 = 6) (hq : q1 ≠ q2) (h2 : q2 < 73) (I : Nat → Nat → Int32) (J : Nat → Nat → Int64) (cd : Nat × Nat) (c0 : I 73 0 = nI P.1) (c1 : ∀ i, i < P.1 → I 74 i = nI (P.2.1 i) ∧ I 75 i = nI (P.2.2.1 i)) (cw : ∀ i, i < P.1 → I q1 i = nI (w i)) :
    ∀ (m i f : Nat) (B : Nat → Nat → Int32), i + m = P.1 → m < f → fr [q2] I B → (∀ j, j < i → B q2 j = nI (ranN P w s j)) → ∃ B', EX2_letRun (N + 1000000) (d + 1) f 3 [some (rv (some 73)), some (rv (some q1)), some (rv (some q2)), some (iv (nI s)), some (iv (nI i))] (B, J, cd) = some (rv none, (B', J, cd)) ∧ fr [q2] I B' ∧ ∀ j, j < P.1 → B' q2 j = nI (ranN P w s j) := by
  have hn := hP.1
  intro m
  induction m with
  | zero =>
    intro i f B hi hf hB hr
    obtain ⟨g, rfl⟩ : ∃ g, f = g + 1 := ⟨f - 1, by omega⟩
    have : i = P.1 := by omega
    subst this
    have e73 : B 73 = I 73 := hB 73 (by simp; omega)
    exact ⟨B, by rw [sgX2_letRun_3, if_pos (by rw [e73, c0]; exact Int32.le_refl _)], hB, hr⟩
  | succ m ih =>
    intro i f B hi hf hB hr
    obtain ⟨g, rfl⟩ : ∃ g, f = g + 1 := ⟨f - 1, by omega⟩
    have e73 : B 73 = I 73 := hB 73 (by simp; omega)
    have e74 : B 74 = I 74 := hB 74 (by simp; omega)
    have e75 : B 75 = I 75 := hB 75 (by simp; omega)
    have eq1 : B q1 = I q1 := hB q1 (by simpa using hq)
    have hil : i < P.1 := by omega
    have st : EX2_letRun (N + 1000000) (d + 1) (g + 1) 3 [some (rv (some 73)), some (rv (some q1)), some (rv (some q2)), some (iv (nI s)), some (iv (nI i))] (B, J, cd) = EX2_letRun (N + 1000000) (d + 1) g 3 [some (rv (some 73)), some (rv (some q1)), some (rv (some q2)), some (iv (nI s)), some (iv (nI (i + 1)))] (wr B q2 i (nI (ranN P w s i)), J, cd) := by
      have c6 : ¬ nI 6 ≤ nI i := nI_ge (by omega) (by decide)
      rw [sgX2_letRun_3, if_neg (by rw [e73, c0]; exact nI_ge (by omega) (by omega)), a1, Option.bind_some, if_neg c6, a2, Option.bind_some, if_neg c6, b1, b2]
      simp only [inb_t (show i < 6 by omega) (show i < 2 ^ 31 by omega), nI_clamp (show i < 2 ^ 31 by omega), if_true, e74, e75, eq1, (c1 i hil).1, (c1 i hil).2, cw i hil, sh_bit s hs i (by omega), nI_1]
      have k5 := hP.k hil
      have m9 := hP.m hil
      have w9 := hw i
      cases hb : s.testBit i with
      | true =>
        rw [if_neg (by decide), bI (s_runFromT _ _ (by omega) (by omega) (by omega) _)]
        try dsimp only
        try dsimp only
        simp only [ranN, hb]
      | false =>
        rw [if_pos (by decide), bI (s_runFromF _ _ (by omega) (by omega) (by omega) _)]
        try dsimp only
        try dsimp only
        simp only [ranN, hb]
    rw [st]
    refine ih (i + 1) g _ (by omega) (by omega) (hB.w (by simp)) (fun j hj => ?_)
    by_cases e : j = i
    · subst e; rw [wr_eq]
    · rw [wr_nj e]; exact hr j (by omega)
theorem s_letRun (N d : Nat) {P : RP} (hP : okP P) {w : Nat → Nat} {s : Nat} (hs : s < 64) (hw : ∀ i, w i ≤ 99) {q1 q2 : Nat} (a1 : alO q1 = some 6) (a2 : alO q2 = some 6) (b1 : alen 0 q1 = 6) (b2 : alen 0 q2 = 6) (hq : q1 ≠ q2) (h2 : q2 < 73) {ow : Nat → Nat} (I : Nat → Nat → Int32) (J : Nat → Nat → Int64) (cd : Nat × Nat) (hC : courN P ow I 73) (cw : ∀ i, i < P.1 → I q1 i = nI (w i)) :
    ∃ B', arun (N + 1000000) (d + 2) 22 [rv (some 73), rv (some q1), rv (some q2), iv (nI s)] (I, J, cd) = some (rv none, (B', J, cd)) ∧ fr [q2] I B' ∧ ∀ j, j < P.1 → B' q2 j = nI (ranN P w s j) := by
  have hn := hP.1
  have l := l_letRun N d hP hs hw a1 a2 b1 b2 hq h2 I J cd hC.1 (fun i hi => ⟨(hC.2.2.2.1 i hi).1, (hC.2.2.2.1 i hi).2.1⟩) cw P.1 0 (N + 999999) I (by omega) (by omega) fr.rf (fun j hj => absurd hj (by omega))
  rw [nI_0] at l
  rw [enX2_letRun, sgX2_letRun_0]
  exact l
theorem l_takeIn (N d : Nat) {P : RP} (hP : okP P) {w : Nat → Nat} {s : Nat} (hw : ∀ i, w i ≤ 99) {q1 q2 : Nat} (a1 : alO q1 = some 6) (a2 : alO q2 = some 6) (b1 : alen 0 q1 = 6) (b2 : alen 0 q2 = 6) (hq : q1 ≠ q2) (h1 : q1 < 73) {rain : Nat} (hrn : rain ≤ 9) (I : Nat → Nat → Int32) (J : Nat → Nat → Int64) (cd : Nat × Nat) (c0 : I 73 0 = nI P.1) (c1 : ∀ i, i < P.1 → I 74 i = nI (P.2.1 i)) (cw : ∀ i, i < 6 → I q1 i = nI (w i)) (cr : ∀ i, i < P.1 → I q2 i = nI (ranN P w s i)) :
    ∀ (m i f : Nat) (B : Nat → Nat → Int32), i + m = P.1 → m < f → fr [q1] I B → (∀ j, j < 6 → B q1 j = nI (if j < i then watN P w s rain j else w j)) → ∃ B', EX2_takeIn (N + 1000000) (d + 1) f 6 [some (rv (some 73)), some (rv (some q1)), some (rv (some q2)), none, some (iv (nI (comeN P w s rain i))), some (iv (nI i))] (B, J, cd) = some (rv none, (B', J, cd)) ∧ fr [q1] I B' ∧ ∀ j, j < 6 → B' q1 j = nI (watN P w s rain j) := by
  have hn := hP.1
  intro m
  induction m with
  | zero =>
    intro i f B hi hf hB hr
    obtain ⟨g, rfl⟩ : ∃ g, f = g + 1 := ⟨f - 1, by omega⟩
    have : i = P.1 := by omega
    subst this
    have e73 : B 73 = I 73 := hB 73 (by simp; omega)
    refine ⟨B, by rw [sgX2_takeIn_6, if_pos (by rw [e73, c0]; exact Int32.le_refl _)], hB, fun j hj => ?_⟩
    rw [hr j hj]
    by_cases e : j < P.1
    · rw [if_pos e]
    · rw [if_neg e, watN, if_neg e]
  | succ m ih =>
    intro i f B hi hf hB hr
    obtain ⟨g, rfl⟩ : ∃ g, f = g + 1 := ⟨f - 1, by omega⟩
    have e73 : B 73 = I 73 := hB 73 (by simp; omega)
    have e74 : B 74 = I 74 := hB 74 (by simp; omega)
    have eq2 : B q2 = I q2 := hB q2 (by simpa using hq.symm)
    have hil : i < P.1 := by omega
    have hl := ranN_le P w s i
    have hcm : comeN P w s rain i ≤ 99 := by
      unfold comeN
      split
      · omega
      · exact Nat.le_trans (ranN_le P w s (i - 1)) (hw _)
    have st : EX2_takeIn (N + 1000000) (d + 1) (g + 1) 6 [some (rv (some 73)), some (rv (some q1)), some (rv (some q2)), none, some (iv (nI (comeN P w s rain i))), some (iv (nI i))] (B, J, cd) = EX2_takeIn (N + 1000000) (d + 1) g 6 [some (rv (some 73)), some (rv (some q1)), some (rv (some q2)), none, some (iv (nI (comeN P w s rain (i + 1)))), some (iv (nI (i + 1)))] (wr B q1 i (nI (watN P w s rain i)), J, cd) := by
      have c6 : ¬ nI 6 ≤ nI i := nI_ge (by omega) (by decide)
      rw [sgX2_takeIn_6, if_neg (by rw [e73, c0]; exact nI_ge (by omega) (by omega)), a1, Option.bind_some, if_neg c6, a2, Option.bind_some, if_neg c6, b1, b2]
      have k5 := hP.k hil
      have w9 := hw i
      simp only [inb_t (show i < 6 by omega) (show i < 2 ^ 31 by omega), nI_clamp (show i < 2 ^ 31 by omega), if_true, e74, eq2, c1 i hil, cr i hil, hr i (by omega), if_neg (Nat.lt_irrefl i), pk_sub hl, nI_add, nI_1]
      rw [bI (s_settle _ _ (by omega) (by omega) _)]
      try dsimp only
      simp only [if_true, wr_ne (Ne.symm hq), eq2, cr i hil]
      rw [show comeN P w s rain (i + 1) = ranN P w s i from rfl, watN, if_pos hil]
    rw [st]
    refine ih (i + 1) g _ (by omega) (by omega) (hB.w (by simp)) (fun j hj => ?_)
    by_cases e : j = i
    · subst e; rw [wr_eq, if_pos (by omega)]
    · rw [wr_nj e, hr j hj]
      by_cases e2 : j < i
      · rw [if_pos e2, if_pos (by omega)]
      · rw [if_neg e2, if_neg (by omega)]
theorem s_takeIn (N d : Nat) {P : RP} (hP : okP P) {w : Nat → Nat} {s : Nat} (hw : ∀ i, w i ≤ 99) {q1 q2 : Nat} (a1 : alO q1 = some 6) (a2 : alO q2 = some 6) (b1 : alen 0 q1 = 6) (b2 : alen 0 q2 = 6) (hq : q1 ≠ q2) (h1 : q1 < 73) {rain : Nat} (hrn : rain ≤ 9) {ow : Nat → Nat} (I : Nat → Nat → Int32) (J : Nat → Nat → Int64) (cd : Nat × Nat) (hC : courN P ow I 73) (cw : ∀ i, i < 6 → I q1 i = nI (w i)) (cr : ∀ i, i < P.1 → I q2 i = nI (ranN P w s i)) :
    ∃ B', arun (N + 1000000) (d + 2) 23 [rv (some 73), rv (some q1), rv (some q2), iv (nI rain)] (I, J, cd) = some (rv none, (B', J, cd)) ∧ fr [q1] I B' ∧ ∀ j, j < 6 → B' q1 j = nI (watN P w s rain j) := by
  have hn := hP.1
  have l := l_takeIn N d hP hw a1 a2 b1 b2 hq h1 hrn I J cd hC.1 (fun i hi => (hC.2.2.2.1 i hi).1) cw cr P.1 0 (N + 999999) I (by omega) (by omega) fr.rf (fun j hj => by rw [if_neg (by omega)]; exact cw j hj)
  rw [nI_0, show comeN P w s rain 0 = rain from rfl] at l
  rw [enX2_takeIn, sgX2_takeIn_0]
  exact l
theorem s_toSea (N d : Nat) {P : RP} (hP : okP P) (h0 : 0 < P.1) {w : Nat → Nat} {s : Nat} {q2 : Nat} (a2 : alO q2 = some 6) (b2 : alen 0 q2 = 6) {ow : Nat → Nat} (I : Nat → Nat → Int32) (J : Nat → Nat → Int64) (cd : Nat × Nat) (hC : courN P ow I 73) (cr : ∀ i, i < P.1 → I q2 i = nI (ranN P w s i)) :
    arun (N + 1000000) (d + 1) 24 [rv (some 73), rv (some q2)] (I, J, cd) = some (iv (nI (seaN P w s)), (I, J, cd)) := by
  have hn := hP.1
  have e1 : nI P.1 - 1 = nI (P.1 - 1) := pk_sub (b := 1) (by omega)
  rw [enX2_toSea, sgX2_toSea_0, if_neg (by rw [hC.1]; exact nI_nle h0 (by omega)), a2, Option.bind_some, if_neg (by rw [hC.1]; exact nI_nlt (by omega) (by decide)), b2]
  simp only [hC.1, e1, inb_t (show P.1 - 1 < 6 by omega) (show P.1 - 1 < 2 ^ 31 by omega), nI_clamp (show P.1 - 1 < 2 ^ 31 by omega), if_true, cr (P.1 - 1) (by omega), seaN]
/-- what GRINDS, as a set -/
def gsN (P : RP) (w : Nat → Nat) (s : Nat) : Nat := bitsN (fun i => grdN P w s i) P.1
theorem l_grindingBy (N d : Nat) {P : RP} (hP : okP P) {w : Nat → Nat} {s : Nat} (hw : ∀ i, w i ≤ 99) {q2 : Nat} (a2 : alO q2 = some 6) (b2 : alen 0 q2 = 6) {ow : Nat → Nat} (I : Nat → Nat → Int32) (J : Nat → Nat → Int64) (cd : Nat × Nat) (hC : courN P ow I 73) (cr : ∀ i, i < P.1 → I q2 i = nI (ranN P w s i)) :
    ∀ (m i f : Nat), i + m = P.1 → m < f → EX2_grindingBy (N + 1000000) (d + 1) f 4 [some (rv (some 73)), some (rv (some q2)), some (iv (nI (bitsN (fun i => grdN P w s i) i))), some (iv (nI i))] (I, J, cd) = some (iv (nI (gsN P w s)), (I, J, cd)) := by
  have hn := hP.1
  intro m
  induction m with
  | zero =>
    intro i f hi hf
    obtain ⟨g, rfl⟩ : ∃ g, f = g + 1 := ⟨f - 1, by omega⟩
    have : i = P.1 := by omega
    subst this
    rw [sgX2_grindingBy_4, if_pos (by rw [hC.1]; exact Int32.le_refl _), gsN]
  | succ m ih =>
    intro i f hi hf
    obtain ⟨g, rfl⟩ : ∃ g, f = g + 1 := ⟨f - 1, by omega⟩
    have hil : i < P.1 := by omega
    have hb := bitsN_lt (fun i => grdN P w s i) i
    have hb6 := bitsN_64 (fun i => grdN P w s i) (n := i) (by omega)
    have hl := ranN_le P w s i
    have k5 := hP.k hil
    have m9 := hP.m hil
    have w9 := hw i
    have c6 : ¬ nI 6 ≤ nI i := nI_ge (by omega) (by decide)
    have k1 : I 74 i = nI (P.2.1 i) := (hC.2.2.2.1 i hil).1
    have k2 : I 75 i = nI (P.2.2.1 i) := (hC.2.2.2.1 i hil).2.1
    rw [sgX2_grindingBy_4, if_neg (by rw [hC.1]; exact nI_ge (by omega) (by omega)), a2, Option.bind_some, if_neg c6, b2]
    simp only [inb_t (show i < 6 by omega) (show i < 2 ^ 31 by omega), nI_clamp (show i < 2 ^ 31 by omega), if_true, k1, k2, cr i hil]
    rw [bI (s_grindsBy _ _ (by omega) (by omega) (by omega) _)]
    try dsimp only
    have := ih (i + 1) g (by omega) (by omega)
    simp only [bitsN] at this
    try dsimp only
    rw [show grN (P.2.1 i) (P.2.2.1 i) (ranN P w s i) = grdN P w s i from rfl]
    cases hc : grdN P w s i with
    | true =>
      simp only [hc, if_true] at this
      rw [if_neg (by decide), or_bit i (by omega) _ hb6 hb, nI_1]
      exact this
    | false =>
      simp only [hc, Bool.false_eq_true, if_false, Nat.add_zero] at this
      rw [if_pos (by decide), nI_1]
      exact this
theorem s_grindingBy (N d : Nat) {P : RP} (hP : okP P) {w : Nat → Nat} {s : Nat} (hw : ∀ i, w i ≤ 99) {q2 : Nat} (a2 : alO q2 = some 6) (b2 : alen 0 q2 = 6) {ow : Nat → Nat} (I : Nat → Nat → Int32) (J : Nat → Nat → Int64) (cd : Nat × Nat) (hC : courN P ow I 73) (cr : ∀ i, i < P.1 → I q2 i = nI (ranN P w s i)) : arun (N + 1000000) (d + 2) 25 [rv (some 73), rv (some q2)] (I, J, cd) = some (iv (nI (gsN P w s)), (I, J, cd)) := by
  have hn := hP.1
  have l := l_grindingBy N d hP hw a2 b2 I J cd hC cr P.1 0 (N + 999999) (by omega) (by omega)
  rw [nI_0, show bitsN (fun i => grdN P w s i) 0 = 0 from rfl, nI_0] at l
  rw [enX2_grindingBy, sgX2_grindingBy_0]
  exact l
theorem bitsN_test (p : Nat → Bool) : ∀ n i, (bitsN p n).testBit i = (decide (i < n) && p i)
  | 0, i => by simp [bitsN]
  | n + 1, i => by
    have h := bitsN_test p n
    have hlt := bitsN_lt p n
    simp only [bitsN]
    by_cases c : p n = true
    · rw [if_pos c, Nat.add_comm]
      by_cases e : i = n
      · subst e
        rw [Nat.testBit_two_pow_add_eq, Nat.testBit_lt_two_pow hlt]
        simp [c]
      · by_cases e2 : i < n
        · rw [Nat.testBit_two_pow_add_gt e2, h i]
          simp [e2, show i < n + 1 by omega]
        · rw [Nat.testBit_lt_two_pow (Nat.lt_of_lt_of_le (show 2 ^ n + bitsN p n < 2 ^ (n + 1) by rw [Nat.pow_succ]; omega) (Nat.pow_le_pow_right (by decide) (by omega)))]
          simp [show ¬ i < n + 1 by omega]
    · rw [if_neg c, Nat.add_zero, h i]
      by_cases e : i = n
      · subst e; simp [c]
      · by_cases e2 : i < n
        · simp [e2, show i < n + 1 by omega]
        · simp [e2, show ¬ i < n + 1 by omega]
def flowAt (I : Nat → Nat → Int32) (F : FS) : Prop := (∀ i, i < 6 → I 20 i = nI (F.1 i) ∧ I 21 i = nI (F.2.1 i) ∧ I 22 i = nI (F.2.2.1 i)) ∧ ∀ v, v < 7 → I 23 v = nI (F.2.2.2 v)
theorem l_flowPass (N d : Nat) {P : RP} (hP : okP P) (h0 : 0 < P.1) {F : FS} {s : Nat} (hw : ∀ i, F.1 i ≤ 99) {v : Nat} (hv : v < 7) {ow : Nat → Nat} (I : Nat → Nat → Int32) (J : Nat → Nat → Int64) (cd : Nat × Nat) (hC : courN P ow I 73) (cr : ∀ i, i < P.1 → I 24 i = nI (ranN P F.1 s i)) (hF : ∀ i, i < 6 → I 21 i = nI (F.2.1 i) ∧ I 22 i = nI (F.2.2.1 i)) (hS : ∀ v, v < 7 → I 23 v = nI (F.2.2.2 v)) :
    ∀ (m i f : Nat) (B : Nat → Nat → Int32), i + m = P.1 → m < f → fr [21, 22] I B → (∀ j, j < 6 → B 21 j = nI (F.2.1 j + (if j < i ∧ grdN P F.1 s j then 1 else 0)) ∧ B 22 j = nI (F.2.2.1 j + (if j < i then ranN P F.1 s j else 0))) → ∃ B', EX4_pass (N + 1000000) (d + 1) f 39 [some (rv (some 19)), some (rv (some 73)), none, none, some (iv (nI v)), some (iv (nI (gsN P F.1 s))), some (iv (nI i))] (B, J, cd) = some (iv (nI (seaN P F.1 s)), (B', J, cd)) ∧ fr [21, 22, 23] I B' ∧ (∀ j, j < 6 → B' 21 j = nI (F.2.1 j + (if j < P.1 ∧ grdN P F.1 s j then 1 else 0)) ∧ B' 22 j = nI (F.2.2.1 j + (if j < P.1 then ranN P F.1 s j else 0))) ∧ (∀ u, u < 7 → B' 23 u = nI (F.2.2.2 u + (if u = v then seaN P F.1 s else 0))) := by
  have hn := hP.1
  have hg6 := bitsN_64 (fun i => grdN P F.1 s i) hn
  intro m
  induction m with
  | zero =>
    intro i f B hi hf hB hr
    obtain ⟨g, rfl⟩ : ∃ g, f = g + 1 := ⟨f - 1, by omega⟩
    have : i = P.1 := by omega
    subst this
    have hCB : courN P ow B 73 := hC.eq (fun a h1 h2 => hB a (by simp; omega))
    have e24 : B 24 = I 24 := hB 24 (by decide)
    have e23 : B 23 = I 23 := hB 23 (by decide)
    refine ⟨wr B 23 v (nI (F.2.2.2 v) + nI (seaN P F.1 s)), ?_, ?_, ?_, ?_⟩
    · rw [sgX4_pass_39, if_pos (by rw [hCB.1]; exact Int32.le_refl _), bI (s_toSea _ _ hP h0 (w := F.1) (s := s) (by rfl) (by rfl) _ _ _ hCB (fun i hi => by rw [e24]; exact cr i hi))]
      try dsimp only
      try dsimp only
      rw [bI (s_isVillageO _ _ hv _)]
      try dsimp only
      try dsimp only
      rw [if_neg n10, inb_t hv (by omega), nI_clamp (by omega), if_pos rfl, if_pos rfl, e23, hS v hv]
    · exact (hB.mo (by intro a; simp <;> omega)).w (by simp)
    · intro j hj
      rw [wr_ne (by decide), wr_ne (by decide)]
      exact hr j hj
    · intro u hu
      by_cases e : u = v
      · subst e; rw [wr_eq, nI_add, if_pos rfl]
      · rw [wr_nj e, e23, hS u hu, if_neg e, Nat.add_zero]
  | succ m ih =>
    intro i f B hi hf hB hr
    obtain ⟨g, rfl⟩ : ∃ g, f = g + 1 := ⟨f - 1, by omega⟩
    have e73 : B 73 = I 73 := hB 73 (by decide)
    have e24 : B 24 = I 24 := hB 24 (by decide)
    have hil : i < P.1 := by omega
    have hr1 := hr i (by omega)
    simp only [if_neg (Nat.lt_irrefl i), Nat.add_zero, Nat.lt_irrefl, false_and, if_false] at hr1
    have ht : (gsN P F.1 s).testBit i = grdN P F.1 s i := by
      rw [gsN, bitsN_test]; simp [hil]
    have st : EX4_pass (N + 1000000) (d + 1) (g + 1) 39 [some (rv (some 19)), some (rv (some 73)), none, none, some (iv (nI v)), some (iv (nI (gsN P F.1 s))), some (iv (nI i))] (B, J, cd) = EX4_pass (N + 1000000) (d + 1) g 39 [some (rv (some 19)), some (rv (some 73)), none, none, some (iv (nI v)), some (iv (nI (gsN P F.1 s))), some (iv (nI (i + 1)))] (wr (wr B 21 i (nI (F.2.1 i) + (if grdN P F.1 s i then 1 else 0))) 22 i (nI (F.2.2.1 i) + nI (ranN P F.1 s i)), J, cd) := by
      rw [sgX4_pass_39, if_neg (by rw [e73, hC.1]; exact nI_ge (by omega) (by omega))]
      simp only [inb_t (show i < 6 by omega) (show i < 2 ^ 31 by omega), nI_clamp (show i < 2 ^ 31 by omega), if_true, e24, cr i hil, hr1.1, hr1.2, sh_bit (gsN P F.1 s) hg6 i (by omega), ht, nI_1]
    rw [st]
    refine ih (i + 1) g _ (by omega) (by omega) ((hB.w (by simp)).w (by simp)) (fun j hj => ?_)
    have hrj := hr j hj
    by_cases e : j = i
    · subst e
      refine ⟨?_, by rw [wr_eq, if_pos (by omega), nI_add]⟩
      rw [wr_ne (by decide), wr_eq]
      cases hgd : grdN P F.1 s j with
      | true => rw [if_pos rfl, if_pos ⟨by omega, rfl⟩]; exact nI_1 _
      | false => rw [if_neg (by simp), if_neg (by simp)]; exact nI_add _ 0
    · rw [wr_ne (show 21 ≠ 22 by decide), wr_nj e, wr_nj e, wr_ne (show 22 ≠ 21 by decide), hrj.1, hrj.2]
      by_cases e2 : j < i
      · simp [e2, show j < i + 1 by omega]
      · simp [e2, show ¬ j < i + 1 by omega]
theorem s_flowPass (N d : Nat) {P : RP} (hP : okP P) (h0 : 0 < P.1) {F : FS} {s : Nat} (hs : s < 64) (hw : ∀ i, F.1 i ≤ 99) {rain : Nat} (hrn : rain ≤ 9) {v : Nat} (hv : v < 7) {ow : Nat → Nat} (I : Nat → Nat → Int32) (J : Nat → Nat → Int64) (cd : Nat × Nat) (hC : courN P ow I 73) (hF : flowAt I F) :
    ∃ B', arun (N + 1000000) (d + 3) 30 [rv (some 19), rv (some 73), iv (nI s), iv (nI rain), iv (nI v)] (I, J, cd) = some (iv (nI (seaN P F.1 s)), (B', J, cd)) ∧ fr [20, 21, 22, 23, 24] I B' ∧ flowAt B' (stepN P F s rain v) := by
  have hn := hP.1
  obtain ⟨B1, r1, f1, g1⟩ := s_letRun N d hP hs hw (q1 := 20) (q2 := 24) rfl rfl rfl rfl (by decide) (by decide) I J cd hC (fun i hi => (hF.1 i (by omega)).1)
  have hC1 : courN P ow B1 73 := hC.eq (fun a h1 h2 => f1 a (by simp; omega))
  obtain ⟨B2, r2, f2, g2⟩ := s_takeIn N d hP hw (s := s) (q1 := 20) (q2 := 24) rfl rfl rfl rfl (by decide) (by decide) hrn B1 J cd hC1 (fun i hi => by rw [f1 20 (by decide)]; exact (hF.1 i hi).1) g1
  have hC2 : courN P ow B2 73 := hC1.eq (fun a h1 h2 => f2 a (by simp; omega))
  have e24 : ∀ i, i < P.1 → B2 24 i = nI (ranN P F.1 s i) := fun i hi => by rw [f2 24 (by decide)]; exact g1 i hi
  have r3 := s_grindingBy N d hP hw (s := s) (q2 := 24) rfl rfl B2 J cd hC2 e24
  obtain ⟨B', r4, f4, g4, g5⟩ := l_flowPass N (d + 1) hP h0 (s := s) hw hv B2 J cd hC2 e24 (fun i hi => by rw [f2 21 (by decide), f2 22 (by decide), f1 21 (by decide), f1 22 (by decide)]; exact ⟨(hF.1 i hi).2.1, (hF.1 i hi).2.2⟩) (fun v hv => by rw [f2 23 (by decide), f1 23 (by decide)]; exact hF.2 v hv) P.1 0 (N + 999999) B2 (by omega) (by omega) fr.rf (fun j hj => by simp; rw [f2 21 (by decide), f2 22 (by decide), f1 21 (by decide), f1 22 (by decide)]; exact ⟨(hF.1 j hj).2.1, (hF.1 j hj).2.2⟩)
  rw [nI_0] at r4
  refine ⟨B', ?_, ?_, ?_, ?_⟩
  · rw [enX4_pass, sgX4_pass_0, bV r1]
    try dsimp only
    rw [bV r2]
    try dsimp only
    rw [bI r3]
    try dsimp only
    exact r4
  · exact ((f1.mo (by simp)).tr (f2.mo (by simp))).tr (f4.mo (by intro a; simp <;> omega))
  · intro i hi
    rw [f4 20 (by decide), g2 i hi]
    exact ⟨rfl, (g4 i hi).1, (g4 i hi).2⟩
  · intro u hu
    exact g5 u hu
