/-! ways, first: the calls -/
theorem WI_n {k : Nat} (h : k ≤ 999) : WI 999 (nI k) := ⟨nI_pos (by omega), nI_le (b := 999) h (by decide)⟩
theorem op_ways (r : Int32) : OK2 98 214 [iv r] := by
  intro N d I J h
  obtain ⟨P, ow, F, D, hP, how, hC, hD, h25, hFl, hRf, h32, hw⟩ := h.un
  have hn := hP.1
  rcases sea_cases N (d + 13) h hP hC hRf r with ⟨v, I1, I2, v0, vn, e1, e2, hr⟩ | ⟨h0, j, n, du, hj, rfl, hn1, hn4, h9, h89, hdu, hv, e1⟩
  · refine ⟨iv v, I1, J, I2, J, ?_, ?_, hr⟩
    · rw [enX9_ways, sgX9_ways_0, bI e1]
      try dsimp only
      rw [if_neg v0]
    · rw [enX10_ways, sgX10_ways_0, bI e2]
      try dsimp only
      rw [if_neg vn]
  · have hpw := pw8 (n := n) (mS_le hP) hn4
    obtain ⟨B1, r1, f1, x1⟩ := s_give_49 N (d + 16) hj hn4 I J (73, 80) h9
    obtain ⟨B2, r2, f2, -, q1, -, -, q4⟩ := s_seek N (d + 7) hP h0 how (go := 3) (vil := 0) (due := du) hD hw (n := n) hn4 (by decide) (by decide) hdu B1 J (73, 80) (hC.eq (fun a h1 h2 => f1 a (by simp; omega))) (hFl.eq (fun a h1 h2 => f1 a (by simp; omega))) (fun q => absurd q (by decide)) (fun _ i hi => by rw [x1 i hi]; exact (hv i hi).1)
    have hfd := fld_1 P ow D F 3 0 du n 0 (mS P ^ n) σ0
    rw [show σ0.1 = 0 from rfl] at hfd
    generalize hσ : fldS (stpS P ow D F 3 0 du n) 0 (mS P ^ n) σ0 = σ at *
    have f2' : fr [48, 49, 50, 51, 52, 53, 55, 56, 57, 58, 59, 60] I B2 := (f1.mo (by intro a; simp <;> omega)).tr (f2.mo (by intro a; simp <;> omega))
    have fX : fr [0, 48, 49, 50, 51, 52, 53, 55, 56, 57, 58, 59, 60] I (wr B2 0 14 σ.2.2.2) := (f2'.mo (by intro a; simp <;> omega)).w (by simp)
    have hR1 : refAt P ow (wr B2 0 14 σ.2.2.2) F D := hRf.eq (fun a h1 h2 => fX a (by simp; omega)) (by rw [fX 87 (by decide)]) (by rw [fX 87 (by decide)]) (by rw [fX 87 (by decide)])
    obtain ⟨B3, r3, f3, g3, m3, m3'⟩ := s_setSets N (d + 16) hP (wr B2 0 14 σ.2.2.2) (wr (wr J 0 15 (lN (σ.1 / Nat.gcd σ.1 1))) 0 16 (lN (1 / Nat.gcd σ.1 1))) (73, 80) hR1
    have hR3 : refAt P ow B3 F D := hR1.eq (fun a h1 h2 => f3 a (by simp; omega)) (g3 10 (by decide)) (g3 18 (by decide)) (g3 25 (by decide))
    obtain ⟨B4, r4, f4, n4⟩ := s_begin N (d + 17) hn B3 (wr (wr J 0 15 (lN (σ.1 / Nat.gcd σ.1 1))) 0 16 (lN (1 / Nat.gcd σ.1 1))) (73, 80) hR3
    have hR4 : refAt P ow B4 F D := hR3.eq (fun a h1 h2 => f4 a (by simp; omega)) (by rw [f4 87 (by decide)]) (by rw [f4 87 (by decide)]) (by rw [f4 87 (by decide)])
    have e4 : ∀ a, a ∉ [87, 107, 109] → B4 a = wr B2 0 14 σ.2.2.2 a := fun a ha => by
      simp at ha
      rw [f4 a (by simp; omega), f3 a (by simp; omega)]
    obtain ⟨B5, r5, hr5⟩ := l_mways N (d + 15) hP h0 hw how hD (n := n) (r := j) (vil := 0) (due := du) hdu hn1 hn4 hj (wr (wr J 0 15 (lN (σ.1 / Nat.gcd σ.1 1))) 0 16 (lN (1 / Nat.gcd σ.1 1))) (73, 80) n4 (by rw [f4 87 (by decide), g3 32 (by decide), fX 87 (by decide)]; exact h32) ⟨by rw [f4 87 (by decide)]; exact m3, fun k hk => by rw [f4 109 (by decide)]; exact m3' k hk⟩ (by rw [e4 89 (by decide), fX 89 (by decide)]; exact h89) (fun k hk => by rw [e4 90 (by decide), fX 90 (by decide)]; exact (hv k hk).2) (mS P ^ n) 0 (N + 999999) B4 0 (nI (gatN P)) (by omega) (by omega) ⟨fr.rf, f87.rf, hR4⟩ ⟨rfl, Or.inl ⟨rfl, rfl, rfl⟩⟩
    rw [hσ, nI_0] at r5
    refine ⟨iv 1, wr B2 0 14 σ.2.2.2, (wr (wr J 0 15 (lN (σ.1 / Nat.gcd σ.1 1))) 0 16 (lN (1 / Nat.gcd σ.1 1))), wr B5 87 2 σ.2.2.2, wr (wr (wr (wr J 0 15 (lN (σ.1 / Nat.gcd σ.1 1))) 0 16 (lN (1 / Nat.gcd σ.1 1))) 87 3 (lN (σ.1 / Nat.gcd σ.1 1))) 87 4 (lN (1 / Nat.gcd σ.1 1)), ?_, ?_, ?_⟩
    rotate_left
    · rw [enX10_ways, sgX10_ways_0, bI (m_seaO N (d + 15) hP h0 hj hn1 hn4 (wr B2 0 14 σ.2.2.2) (wr (wr J 0 15 (lN (σ.1 / Nat.gcd σ.1 1))) 0 16 (lN (1 / Nat.gcd σ.1 1))) (73, 80) hR1.1 (by rw [fX 89 (by decide)]; exact h89) (fun k hk => by rw [fX 90 (by decide), (hv k hk).2]; exact WI_n (hdu k)))]
      try dsimp only
      try dsimp only
      rw [if_pos (by decide), bV r3]
      try dsimp only
      rw [bI (s_gateSet _ _ hn (fun i hi => (hP.2.1 i hi).1) _ _ _ hR3.1 (fun i hi => (hR3.2.2.2.1 i hi).1))]
      try dsimp only
      try dsimp only
      rw [bV r4]
      exact r5
    · have e87 : ∀ k, k ∉ [2, 18, 25, 31, 34] → wr B5 87 2 σ.2.2.2 87 k = I 87 k := fun k hk => by
        simp at hk
        rw [wr_nj (by omega), hr5.2.1 k (by simp; omega), f4 87 (by decide), g3 k (by simp; omega), fX 87 (by decide)]
      have e00 : wr B5 87 2 σ.2.2.2 0 = wr B2 0 14 σ.2.2.2 0 := by rw [wr_ne (by decide), hr5.1 0 (by decide), f4 0 (by decide), f3 0 (by decide)]
      refine h.trial hn hRf (hr5.2.2.eq (fun a h1 h2 => wr_ne (by omega)) (wr_nj (by decide)) (wr_nj (by decide)) (wr_nj (by decide))) ((((fX.mo (by decide)).tr (f3.mo (by decide))).tr (f4.mo (by decide))).tr ((hr5.1.mo (by decide)).w (by decide))) (fun i hi => by rw [e00, wr_nj hi, f2' 0 (by decide)]) (e87 0 (by decide)) (e87 32 (by decide)) (by rw [e00, wr_eq, wr_eq]) (jj_ok _ _ _)
    · rw [enX9_ways, sgX9_ways_0, bI e1]
      try dsimp only
      rw [if_pos rfl, bV r1]
      try dsimp only
      rw [bI (s_sizeOfN_1 N (d + 17) hj B1 J (73, 80) (n := n) (by rw [f1 9 (by decide)]; exact h9) (by omega))]
      try dsimp only
      try dsimp only
      rw [f1 25 (by decide), h25, show (3 : Int32) = nI 3 from rfl, bV r2]
      try dsimp only
      rw [q1, nI_l (by omega), show (1 : Int64) = lN 1 from rfl, bV (s_fracX N (d + 17) (show σ.1 < 2 ^ 63 by omega) (by decide) (by decide) _ _)]
      try dsimp only
      try dsimp only
      rw [q4 hn1, bI (s_tell _ _ _ _ _)]
      try dsimp only
-- first
theorem fi_rel (P : RP) (ow : Nat → Nat) (t : Nat) (F : FS) (vil : Nat) (due : Nat → Nat) (n : Nat) : ∀ j, ((fldS (stpS P ow t F 3 vil due n) 0 j σ0).1 = 0 ∧ ∀ q, q < j → fitA P ow t F 3 due (plN P n q) n = false) ∨ ∃ p, p < j ∧ 0 < (fldS (stpS P ow t F 3 vil due n) 0 j σ0).1 ∧ (fldS (stpS P ow t F 3 vil due n) 0 j σ0).2.1 = 0 ∧ (fldS (stpS P ow t F 3 vil due n) 0 j σ0).2.2.1 = plN P n p ∧ fitA P ow t F 3 due (plN P n p) n = true ∧ ∀ q, q < p → fitA P ow t F 3 due (plN P n q) n = false
  | 0 => Or.inl ⟨rfl, fun q hq => absurd hq (by omega)⟩
  | j + 1 => by
    have es : fldS (stpS P ow t F 3 vil due n) 0 (j + 1) σ0 = stpS P ow t F 3 vil due n j (fldS (stpS P ow t F 3 vil due n) 0 j σ0) := by
      show stpS P ow t F 3 vil due n (0 + j) _ = _
      rw [Nat.zero_add]
    rw [es]
    have hcc : fitA P ow t F 3 due (plN P n j) n = true ∨ fitA P ow t F 3 due (plN P n j) n = false := by cases fitA P ow t F 3 due (plN P n j) n <;> simp
    rcases fi_rel P ow t F vil due n j with ⟨h1, h2⟩ | ⟨p, hp, h1, h2, h3, h4, h5⟩
    · rcases hcc with c | c
      · refine Or.inr ⟨j, by omega, ?_, ?_, ?_, c, h2⟩
        · rw [stpS, if_pos c, arrS_1]; omega
        · rw [stpS, if_pos c, arrS_t, if_pos (Or.inl h1), gai3]
        · rw [stpS, if_pos c, arrS_p, if_pos (Or.inl h1)]
      · refine Or.inl ⟨?_, fun q hq => ?_⟩
        · rw [stpS, if_neg (by rw [c]; decide)]; exact h1
        · by_cases e : q = j
          · subst e; exact c
          · exact h2 q (by omega)
    · refine Or.inr ⟨p, by omega, ?_, ?_, ?_, h4, h5⟩
      · rcases hcc with c | c
        · rw [stpS, if_pos c, arrS_1]; omega
        · rw [stpS, if_neg (by rw [c]; decide)]; exact h1
      · rcases hcc with c | c
        · rw [stpS, if_pos c, arrS_t, gai3, h2]; split <;> rfl
        · rw [stpS, if_neg (by rw [c]; decide)]; exact h2
      · rcases hcc with c | c
        · rw [stpS, if_pos c, arrS_p, gai3, h2, if_neg (fun q => q.elim (by omega) (fun z => z (Int32.le_refl _)))]; exact h3
        · rw [stpS, if_neg (by rw [c]; decide)]; exact h3
theorem l_mfirst (N d : Nat) {P : RP} (hP : okP P) (h0 : 0 < P.1) {F : FS} (hw : ∀ i, F.1 i ≤ 99) {ow : Nat → Nat} (how : ∀ d, d < 7 → ow d ≤ 6) {t : Nat} (ht : t ≤ 40) {n r p : Nat} {due : Nat → Nat} (hdu : ∀ i, due i ≤ 999) (hn : n ≤ 4) (hr : r < 6) (hp : p ≤ mS P ^ n) (x2 : Int32) {I : Nat → Nat → Int32} (J : Nat → Nat → Int64) (cd : Nat × Nat) (hN : noteN P (I 107) 0 F t) (hR : I 87 32 = -9) (hm : msAt P I) (h89 : I 89 r = nI n) (h90 : ∀ k, k < n → I 90 (40 * r + k) = nI (due k)) (hno : ∀ q, q < p → fitA P ow t F 3 due (plN P n q) n = false) :
    ∀ (m j f : Nat) (B : Nat → Nat → Int32), j + m = p → rAt P ow F t I B → ∃ B', EX10_first (N + 1000000) (d + 4) (f + m) 40 [some (rv (some 87)), some (iv (nI r)), some (iv x2), none, some (iv (nI n)), some (iv (nI j)), none, none] (B, J, cd) = EX10_first (N + 1000000) (d + 4) f 40 [some (rv (some 87)), some (iv (nI r)), some (iv x2), none, some (iv (nI n)), some (iv (nI p)), none, none] (B', J, cd) ∧ rAt P ow F t I B' := by
  have hn6 := hP.1
  have hpw := pw8 (mS_le hP) hn
  intro m
  induction m with
  | zero =>
    intro j f B hj hB
    have : j = p := by omega
    subst this
    exact ⟨B, rfl, hB⟩
  | succ m ih =>
    intro j f B hj hB
    obtain ⟨B1, r1, hB1⟩ := s_comes N d hP h0 hw how ht hdu hn (j := j) (by omega) hr J cd hN hB hR hm h89 h90
    obtain ⟨B', r2, hB'⟩ := ih (j + 1) f B1 (by omega) hB1
    refine ⟨B', ?_, hB'⟩
    rw [show f + (m + 1) = f + m + 1 by omega, sgX10_first_40, bI (s_plans _ _ hP hn _ _ _ (hB.ms hm))]
    try dsimp only
    rw [if_neg (nI_ge (by omega) (by omega)), bI r1]
    try dsimp only
    rw [if_pos (by rw [hno j (by omega)]; rfl), nI_1]
    exact r2
theorem l_mfirst2 (N d : Nat) {P : RP} (hP : okP P) {n j : Nat} (hn : n ≤ 4) (hj : j < 2 ^ 20) (I : Nat → Nat → Int32) (J : Nat → Nat → Int64) (cd : Nat × Nat) (hm : msAt P I) : ∀ (m k f : Nat), k + m = n → EX10_first (N + 1000000) (d + 2) (f + 1 + m) 76 [some (rv (some 87)), none, none, none, some (iv (nI n)), some (iv (nI j)), some (iv (nI (shN (plN P n j) k))), some (iv (nI k))] (I, J, cd) = some (iv (nI (shN (plN P n j) n)), (I, J, cd)) := by
  have hn6 := hP.1
  intro m
  induction m with
  | zero =>
    intro k f hk
    have : k = n := by omega
    subst this
    rw [Nat.add_zero, sgX10_first_76, if_pos (Int32.le_refl _)]
  | succ m ih =>
    intro k f hk
    have es : nI (shN (plN P n j) k) + nI (pc6 (plN P n j k)) = nI (shN (plN P n j) (k + 1)) := nI_add _ _
    rw [show f + 1 + (m + 1) = f + 1 + m + 1 by omega, sgX10_first_76, if_neg (nI_ge (by omega) (by omega)), bI (s_setOf _ _ hP (show k < n by omega) hn hj _ _ _ hm)]
    try dsimp only
    rw [bI (s_bits10 _ _ (sub64 hn6 (plN_ok n j k)) _)]
    try dsimp only
    rw [es, nI_1]
    exact ih (k + 1) f (by omega)
theorem l_shutT (N d : Nat) {n : Nat} (hn : n ≤ 4) {ss : Nat → Nat} (hs : ∀ i, i < n → ss i < 64) (I : Nat → Nat → Int32) (J : Nat → Nat → Int64) (cd : Nat × Nat) (h3 : I 48 3 = nI n) (h50 : ∀ i, i < n → I 50 i = nI (ss i)) : ∀ (m k f : Nat), k + m = n → EX5_shutTogether (N + 1000000) (d + 1) (f + 1 + m) 4 [some (rv (some 48)), some (iv (nI (shN ss k))), some (iv (nI k))] (I, J, cd) = some (iv (nI (shN ss n)), (I, J, cd)) := by
  intro m
  induction m with
  | zero =>
    intro k f hk
    have : k = n := by omega
    subst this
    rw [Nat.add_zero, sgX5_shutTogether_4, if_pos (by rw [h3]; exact Int32.le_refl _)]
  | succ m ih =>
    intro k f hk
    have es : nI (shN ss k) + nI (pc6 (ss k)) = nI (shN ss (k + 1)) := nI_add _ _
    rw [show f + 1 + (m + 1) = f + 1 + m + 1 by omega, sgX5_shutTogether_4, if_neg (by rw [h3]; exact nI_ge (by omega) (by omega)), inb_t (show k < 4 by omega) (by omega), if_pos rfl, nI_clamp (by omega), h50 k (by omega), bI (s_bits _ _ (hs k (by omega)) _)]
    try dsimp only
    rw [es, nI_1]
    exact ih (k + 1) f (by omega)
theorem op_first (r to : Int32) : OK2 99 215 [iv r, iv to] := by
  intro N d I J h
  obtain ⟨P, ow, F, D, hP, how, hC, hD, h25, hFl, hRf, h32, hw⟩ := h.un
  have hn := hP.1
  rcases ixc to 6 (by decide) with hto | ⟨z, hz, rfl⟩
  · refine ⟨iv (-1), I, J, I, J, ?_, ?_, h⟩
    · have e : arun (N + 1000000) (d + 19) 122 [rv (some 0), iv 0, iv r] (I, J, 73, 80) = some (iv (-1), (I, J, 73, 80)) := by
        rw [enX9_refuseSeas, sgX9_refuseSeas_0, bI (x_riverB _ _ (Or.inl rfl) _ _)]
        try dsimp only
        rw [if_neg (by decide)]
      rw [enX9_first, sgX9_first_0, bI (s_isOneN_1 _ _ hto _)]
      try dsimp only
      rw [bI e]
      try dsimp only
      rw [if_neg (by decide)]
    · rw [enX10_first, sgX10_first_0, bI (s_isRow _ _ _ _)]
      try dsimp only
      rw [b2i_f (b2_rowN hto), if_pos rfl]
  · rcases sea_cases N (d + 13) h hP hC hRf r with ⟨v, I1, I2, v0, vn, e1, e2, hr⟩ | ⟨h0, j, n, du, hj, rfl, hn1, hn4, h9, h89, hdu, hv, e1⟩
    · refine ⟨iv v, I1, J, I2, J, ?_, ?_, hr⟩
      · rw [enX9_first, sgX9_first_0, bI (s_isOne_1 _ _ hz _)]
        try dsimp only
        rw [bI e1]
        try dsimp only
        rw [if_neg v0]
      · rw [enX10_first, sgX10_first_0, bI (s_isRow _ _ _ _)]
        try dsimp only
        rw [b2i_t (b2_row hz), if_neg n10, bI e2]
        try dsimp only
        rw [if_neg vn]
    · have hpw := pw8 (n := n) (mS_le hP) hn4
      obtain ⟨B1, r1, f1, x1⟩ := s_give_49 N (d + 16) hj hn4 I J (73, 80) h9
      obtain ⟨B2, r2, f2, q0, q1, -, q3, -⟩ := s_seek N (d + 7) hP h0 how (go := 3) (vil := 0) (due := du) hD hw (n := n) hn4 (by decide) (by decide) hdu B1 J (73, 80) (hC.eq (fun a h1 h2 => f1 a (by simp; omega))) (hFl.eq (fun a h1 h2 => f1 a (by simp; omega))) (fun q => absurd q (by decide)) (fun _ i hi => by rw [x1 i hi]; exact (hv i hi).1)
      have hfd := fld_1 P ow D F 3 0 du n 0 (mS P ^ n) σ0
      have hfi := fi_rel P ow D F 0 du n (mS P ^ n)
      rw [show σ0.1 = 0 from rfl] at hfd
      generalize hσ : fldS (stpS P ow D F 3 0 du n) 0 (mS P ^ n) σ0 = σ at *
      have f2' : fr [48, 49, 50, 51, 52, 53, 55, 56, 57, 58, 59, 60] I B2 := (f1.mo (by intro a; simp <;> omega)).tr (f2.mo (by intro a; simp <;> omega))
      -- the reference's road up to its loop, over any heap that the class may leave
      have ref : ∀ (X : Nat → Nat → Int32), (∀ a, a ∉ [9, 48, 49, 50, 51, 52, 53, 55, 56, 57, 58, 59, 60] → a ≠ 3 + z → X a = I a) → ∃ B4, (∀ {q : Option RES}, EX10_first (N + 1000000) (d + 19) (N + 999999) 40 [some (rv (some 87)), some (iv (nI j)), some (iv (nI z)), none, some (iv (nI n)), some (iv 0), none, none] (B4, J, 73, 80) = q → arun (N + 1000000) (d + 20) 215 [rv (some 87), iv (nI j), iv (nI z)] (X, J, 73, 80) = q) ∧ fr [87, 107, 109] X B4 ∧ f87 [34] X B4 ∧ refAt P ow B4 F D ∧ noteN P (B4 107) 0 F D ∧ msAt P B4 := by
        intro X eX
        have hR1 : refAt P ow X F D := hRf.eq (fun a h1 h2 => eX a (by simp; omega) (by omega)) (by rw [eX 87 (by decide) (by omega)]) (by rw [eX 87 (by decide) (by omega)]) (by rw [eX 87 (by decide) (by omega)])
        obtain ⟨B3, r3, f3, g3, m3, m3'⟩ := s_setSets N (d + 16) hP X J (73, 80) hR1
        have hR3 : refAt P ow B3 F D := hR1.eq (fun a h1 h2 => f3 a (by simp; omega)) (g3 10 (by decide)) (g3 18 (by decide)) (g3 25 (by decide))
        obtain ⟨B4, r4, f4, n4⟩ := s_begin N (d + 17) hn B3 J (73, 80) hR3
        refine ⟨B4, ?_, (f3.mo (by decide)).tr (f4.mo (by decide)), fun k hk => by rw [f4 87 (by decide)]; exact g3 k hk, hR3.eq (fun a h1 h2 => f4 a (by simp; omega)) (by rw [f4 87 (by decide)]) (by rw [f4 87 (by decide)]) (by rw [f4 87 (by decide)]), n4, by rw [f4 87 (by decide)]; exact m3, fun k hk => by rw [f4 109 (by decide)]; exact m3' k hk⟩
        intro q hq
        rw [enX10_first, sgX10_first_0, bI (s_isRow _ _ _ _)]
        try dsimp only
        rw [b2i_t (b2_row hz), if_neg n10, bI (m_seaO N (d + 15) hP h0 hj hn1 hn4 X J (73, 80) hR1.1 (by rw [eX 89 (by decide) (by omega)]; exact h89) (fun k hk => by rw [eX 90 (by decide) (by omega), (hv k hk).2]; exact WI_n (hdu k)))]
        try dsimp only
        try dsimp only
        rw [if_pos (by decide), bV r3]
        try dsimp only
        rw [inb_t hj (by omega), if_pos rfl, bV r4]
        try dsimp only
        rw [nI_clamp (by omega), f3 89 (by decide), eX 89 (by decide) (by omega), h89]
        exact hq
      have cls : ∀ {q : Option RES}, (if B2 48 4 = 0 then some (iv (-9), (B2, J, 73, 80)) else (cV (arun (N + 1000000) (d + 19)) 60 [rv (some 1), iv (nI z), rv (some 50), iv (B2 48 3)] (B2, J, 73, 80)).bind fun r6 => (cI (arun (N + 1000000) (d + 19)) 36 [rv (some 48)] r6).bind fun r7 => some (iv r7.1, r7.2)) = q → arun (N + 1000000) (d + 20) 99 [rv (some 0), iv (nI j), iv (nI z)] (I, J, 73, 80) = q := by
        intro q hq
        rw [enX9_first, sgX9_first_0, bI (s_isOne_1 _ _ hz _)]
        try dsimp only
        rw [bI e1]
        try dsimp only
        rw [if_pos rfl, bV r1]
        try dsimp only
        rw [bI (s_sizeOfN_1 N (d + 17) hj B1 J (73, 80) (n := n) (by rw [f1 9 (by decide)]; exact h9) (by omega))]
        try dsimp only
        rw [f1 25 (by decide), h25, show (3 : Int32) = nI 3 from rfl, bV r2]
        exact hq
      rcases hfi with ⟨h1, h2⟩ | ⟨p, hp, h1, h2, h3, h4, h5⟩
      · obtain ⟨B4, k4, f4, g4, hR4, n4, m4⟩ := ref B2 (fun a ha _ => f2' a (by simp at ha ⊢; omega))
        obtain ⟨B5, r5, hr5⟩ := l_mfirst N (d + 15) hP h0 hw how hD (n := n) (r := j) (p := mS P ^ n) (due := du) hdu hn4 hj (Nat.le_refl _) (nI z) J (73, 80) n4 (by rw [g4 32 (by decide), f2' 87 (by decide)]; exact h32) m4 (by rw [f4 89 (by decide), f2' 89 (by decide)]; exact h89) (fun k hk => by rw [f4 90 (by decide), f2' 90 (by decide)]; exact (hv k hk).2) h2 (mS P ^ n) 0 (N + 999999 - mS P ^ n) B4 (by omega) ⟨fr.rf, f87.rf, hR4⟩
        rw [nI_0, show N + 999999 - mS P ^ n + mS P ^ n = N + 999999 by omega] at r5
        refine ⟨iv (-9), B2, J, B5, J, cls (by rw [if_pos (by rw [q1, h1]; rfl)]), k4 ?_, ?_⟩
        · rw [r5, show N + 999999 - mS P ^ n = N + 999998 - mS P ^ n + 1 by omega, sgX10_first_40, bI (s_plans _ _ hP hn4 _ _ _ (hr5.ms m4))]
          try dsimp only
          rw [if_pos (Int32.le_refl _)]
        · have e00 : B5 0 = I 0 := by rw [hr5.1 0 (by decide), f4 0 (by decide), f2' 0 (by decide)]
          have e87 : ∀ k, k ∉ [18, 25, 31, 34] → B5 87 k = I 87 k := fun k hk => by
            simp at hk
            rw [hr5.2.1 k (by simp; omega), g4 k (by simp; omega), f2' 87 (by decide)]
          exact h.trial hn hRf hr5.2.2 (((f2'.mo (by decide)).tr (f4.mo (by decide))).tr (hr5.1.mo (by decide))) (fun i _ => by rw [e00]) (e87 0 (by decide)) (e87 32 (by decide)) (by rw [e00, e87 2 (by decide)]; exact h.2.2.2.1.1) h.2.2.2.1.2
      · obtain ⟨B3, r3, f3, t1, t2, t3⟩ := s_take N (d + 15) hz (n := n) hn4 B2 J (73, 80) (by rw [f2' 1 (by decide)]; exact h.1.1)
        have fX : ∀ a, a ∉ [9, 48, 49, 50, 51, 52, 53, 55, 56, 57, 58, 59, 60] → a ≠ 3 + z → B3 a = I a := fun a ha h3 => by
          simp at ha
          rw [f3 a (by simp; omega), f2' a (by simp; omega)]
        obtain ⟨B4, k4, f4, g4, hR4, n4, m4⟩ := ref B3 fX
        have f387 : B3 87 = I 87 := fX 87 (by decide) (by omega)
        obtain ⟨B5, r5, hr5⟩ := l_mfirst N (d + 15) hP h0 hw how hD (n := n) (r := j) (p := p) (due := du) hdu hn4 hj (by omega) (nI z) J (73, 80) n4 (by rw [g4 32 (by decide), f387]; exact h32) m4 (by rw [f4 89 (by decide), fX 89 (by decide) (by omega)]; exact h89) (fun k hk => by rw [f4 90 (by decide), fX 90 (by decide) (by omega)]; exact (hv k hk).2) h5 p 0 (N + 999999 - p) B4 (by omega) ⟨fr.rf, f87.rf, hR4⟩
        rw [nI_0, show N + 999999 - p + p = N + 999999 by omega] at r5
        obtain ⟨B6, r6, hr6⟩ := s_comes N (d + 15) hP h0 hw how hD hdu hn4 (j := p) (by omega) hj J (73, 80) n4 hr5 (by rw [g4 32 (by decide), f387]; exact h32) m4 (by rw [f4 89 (by decide), fX 89 (by decide) (by omega)]; exact h89) (fun k hk => by rw [f4 90 (by decide), fX 90 (by decide) (by omega)]; exact (hv k hk).2)
        obtain ⟨B7, r7, f7, s1, s2, s3, s4⟩ := s_layPlan N (d + 17) hP hn4 (j := p) (by omega) hz B6 J (73, 80) (hr6.ms m4)
        have m7 : msAt P B7 := (hr6.ms m4).eq (f7 109 (by decide)) (by rw [f7 87 (by decide)])
        have l7 := l_mfirst2 N (d + 17) hP hn4 (j := p) (by omega) B7 J (73, 80) m7 n 0 (N + 999997 - p - n) (by omega)
        rw [show shN (plN P n p) 0 = 0 from rfl, nI_0, show N + 999997 - p - n + 1 + n = N + 999998 - p by omega] at l7
        have lX := l_shutT N (d + 17) hn4 (ss := plN P n p) (fun i _ => sub64 hn (plN_ok n p i)) B3 J (73, 80) (by rw [f3 48 (by simp; omega)]; exact q0) (fun i hi => by rw [f3 50 (by simp; omega), q3 h1 i hi, h3]) n 0 (N + 999998 - n) (by omega)
        rw [show shN (plN P n p) 0 = 0 from rfl, nI_0, show N + 999998 - n + 1 + n = N + 999999 by omega] at lX
        have e6 : ∀ a, a ∉ [87, 98, 99, 100, 101, 107, 108, 109] → B6 a = B3 a := fun a ha => by
          simp at ha
          rw [hr6.1 a (by simp; omega), f4 a (by simp; omega)]
        have e7 : ∀ a, a ≠ 89 → a ≠ 90 → B7 a = B6 a := fun a h1 h2 => f7 a (by simp; omega)
        have e87 : ∀ k, k ∉ [18, 25, 31, 34] → B7 87 k = I 87 k := fun k hk => by
          simp at hk
          rw [e7 87 (by decide) (by decide), hr6.2.1 k (by simp; omega), g4 k (by simp; omega), f387]
        refine ⟨iv (nI (shN (plN P n p) n)), B3, J, B7, J, cls ?_, k4 ?_, ?_⟩
        · rw [if_neg (by rw [q1]; exact nI_ne0 h1 (by omega)), q0, bV r3]
          try dsimp only
          rw [bI (x := nI (shN (plN P n p) n)) (B := (B3, J, 73, 80)) (by rw [enX5_shutTogether, sgX5_shutTogether_0]; exact lX)]
        · rw [r5, show N + 999999 - p = N + 999998 - p + 1 by omega, sgX10_first_40, bI (s_plans _ _ hP hn4 _ _ _ (hr5.ms m4))]
          try dsimp only
          rw [if_neg (nI_ge (by omega) (by omega)), bI r6]
          try dsimp only
          rw [if_neg (by rw [h4]; decide), bV r7]
          exact l7
        · refine h.trialR hn hRf (hr6.2.2.eq (fun a h1 h2 => e7 a (by omega) (by omega)) (by rw [e7 87 (by decide) (by decide)]) (by rw [e7 87 (by decide) (by decide)]) (by rw [e7 87 (by decide) (by decide)])) hz (n := n) (by omega) ?_ ?_ (e87 0 (by decide)) (e87 32 (by decide)) ?_ h.2.2.2.1.2 ?_ ?_ s1 ?_ ?_ ?_
          · intro a ha h9 h3 h89 h90
            have k1 : a ∉ [87, 98, 99, 100, 101, 107, 108, 109] := fun q => ha ((by decide : ∀ b ∈ [87, 98, 99, 100, 101, 107, 108, 109], b ∈ TC) a q)
            have k2 : a ∉ [48, 49, 50, 51, 52, 53, 55, 56, 57, 58, 59, 60] := fun q => ha ((by decide : ∀ b ∈ [48, 49, 50, 51, 52, 53, 55, 56, 57, 58, 59, 60], b ∈ TC) a q)
            rw [e7 a h89 h90, e6 a k1, fX a (by simp at k2 ⊢; omega) h3]
          · intro i hi
            rw [e7 0 (by decide) (by decide), e6 0 (by decide), fX 0 (by decide) (by omega)]
          · rw [e7 0 (by decide) (by decide), e6 0 (by decide), fX 0 (by decide) (by omega), e87 2 (by decide)]
            exact h.2.2.2.1.1
          · rw [e7 9 (by decide) (by decide), e6 9 (by decide)]; exact t1
          · intro i hi
            rw [e7 9 (by decide) (by decide), e6 9 (by decide), t2 i hi, f2' 9 (by decide)]
          · intro i hi
            rw [s2 i hi, e6 89 (by decide), fX 89 (by decide) (by omega)]
          · intro i hi
            rw [e7 (3 + z) (by omega) (by omega), e6 (3 + z) (by simp; omega), t3 i hi, q3 h1 i hi, h3, s3 i (by omega), if_pos hi]
          · intro i hi
            rw [s4 i hi, e6 90 (by decide), fX 90 (by decide) (by omega)]
