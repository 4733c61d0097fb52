/-! most, all -/
def moN (g : Nat → Nat) : Nat → Nat
  | 0 => 0
  | j + 1 => max (moN g j) (g j)
theorem mo_le (g : Nat → Nat) (c : Nat) (hg : ∀ j, g j ≤ c) : ∀ j, moN g j ≤ c
  | 0 => Nat.zero_le _
  | j + 1 => Nat.max_le.mpr ⟨mo_le g c hg j, hg j⟩
theorem most_rel {P : RP} {ow : Nat → Nat} {t : Nat} {F : FS} (hw : ∀ i, F.1 i ≤ 99) {vil : Nat} {due : Nat → Nat} {n : Nat} (hn : n ≤ 4) : ∀ j, (fldS (stpS P ow t F 2 vil due n) 0 j σ0).2.1 = nI (moN (fun j => otN P ow t F vil (plN P n j) n) j)
  | 0 => rfl
  | j + 1 => by
    have ih := most_rel (P := P) (ow := ow) (t := t) hw (vil := vil) (due := due) hn j
    have hg : ∀ j, (fun j => otN P ow t F vil (plN P n j) n) j ≤ 400 := fun j => by
      have := ot_le P ow t F hw vil (plN P n j) n
      show otN P ow t F vil (plN P n j) n ≤ 400
      omega
    have h1 := mo_le _ 400 hg j
    have h2 : otN P ow t F vil (plN P n j) n ≤ 400 := hg j
    have es : fldS (stpS P ow t F 2 vil due n) 0 (j + 1) σ0 = arrS (fldS (stpS P ow t F 2 vil due n) 0 j σ0) (plN P n j) (nI (otN P ow t F vil (plN P n j) n)) := by
      show stpS P ow t F 2 vil due n (0 + j) _ = _
      rw [Nat.zero_add, stpS, if_pos (fit02 P ow t F 2 due (plN P n j) (by decide) n), gai2]
    rw [es, arrS_t, ih]
    show _ = nI (max (moN (fun j => otN P ow t F vil (plN P n j) n) j) (otN P ow t F vil (plN P n j) n))
    by_cases c : otN P ow t F vil (plN P n j) n ≤ moN (fun j => otN P ow t F vil (plN P n j) n) j
    · rw [Nat.max_eq_left c]
      by_cases z : (fldS (stpS P ow t F 2 vil due n) 0 j σ0).1 = 0
      · rw [if_pos (Or.inl z)]
        -- nothing found yet: nothing was done yet
        have fj : ∀ j, (fldS (stpS P ow t F 2 vil due n) 0 j σ0).1 = j := by
          intro j
          induction j with
          | zero => rfl
          | succ j ih =>
            show (stpS P ow t F 2 vil due n (0 + j) _).1 = _
            rw [Nat.zero_add, stpS, if_pos (fit02 P ow t F 2 due (plN P n j) (by decide) n), arrS_1, ih]
        have : j = 0 := (fj j).symm.trans z
        subst this
        have e0 : moN (fun j => otN P ow t F vil (plN P n j) n) 0 = 0 := rfl
        rw [e0] at c ⊢
        rw [show otN P ow t F vil (plN P n 0) n = 0 by omega]
      · rw [if_neg (fun q => q.elim z (fun y => y (nI_le c (by omega))))]
    · rw [Nat.max_eq_right (by omega), if_pos (Or.inr (nI_ge (by omega) (by omega)))]
theorem l_mmost1 (N d : Nat) {P : RP} (hP : okP P) (h0 : 0 < P.1) {F : FS} (hw : ∀ i, F.1 i ≤ 99) {ow : Nat → Nat} (how : ∀ d, d < 7 → ow d ≤ 6) {t : Nat} (ht : t ≤ 40) {n j v : Nat} (hn : n ≤ 4) (hj : j < 2 ^ 20) (hv : v < 7) {I C : Nat → Nat → Int32} (J : Nat → Nat → Int64) (cd : Nat × Nat) (hN : noteN P (I 107) 0 F t) (hrC : rAt P ow F t I C) (hR : I 87 32 = -9) (hm : msAt P I) (x4 : Int32) :
    ∀ (m k f : Nat) (B : Nat → Nat → Int32), k + m = n → mAt P P.2.2.2.2 ow t (plN P n j) F C k B → ∃ B', EX10_most (N + 1000000) (d + 3) (f + 1 + m) 62 [some (rv (some 87)), some (iv (nI v)), some (iv (nI n)), some (iv (nI (F.2.2.2 v))), some (iv x4), some (iv (nI j)), some (iv (nI k))] (B, J, cd) = EX10_most (N + 1000000) (d + 3) f 49 [some (rv (some 87)), some (iv (nI v)), some (iv (nI n)), some (iv (nI (F.2.2.2 v))), some (iv (mxI x4 (nI (otN P ow t F v (plN P n j) n)))), some (iv (nI (j + 1))), none] (B', J, cd) ∧ rAt P ow F t I B' := by
  have hn6 := hP.1
  intro m
  induction m with
  | zero =>
    intro k f B hk hA
    have : k = n := by omega
    subst this
    have z := wkN_z P P.2.2.2.2 ow t (plN P k j) F k
    obtain ⟨B2, r2, hB2, -⟩ := m_bk N (d + 1) hn6 J cd hN hrC hA
    refine ⟨B2, ?_, hB2⟩
    have eo : B 101 v - nI (F.2.2.2 v) = nI (otN P ow t F v (plN P k j) k) := by
      rw [(hA.2.2.2.2.2.2 v hv).2.2, z.2.2 v, pk_sub (by omega), Nat.add_sub_cancel_left, ot_eq]
    rw [Nat.add_zero, sgX10_most_62, if_pos (Int32.le_refl _), inb_t hv (by omega), if_pos rfl, nI_clamp (by omega), eo, bI (s_greater _ _ _ _ _)]
    try dsimp only
    try dsimp only
    rw [bV r2]
    try dsimp only
    rw [nI_1]
  | succ m ih =>
    intro k f B hk hA
    obtain ⟨B1, r1, hA1, -⟩ := m_step N d hP h0 hw how ht (R9 (by rw [hrC.2.1 32 (by decide)]; exact hR)) (k := k) (by omega) (plN_ok n j k) B J cd hA
    obtain ⟨B', r2, hA2⟩ := ih (k + 1) f B1 (by omega) hA1
    refine ⟨B', ?_, hA2⟩
    rw [show f + 1 + (m + 1) = f + 1 + m + 1 by omega, sgX10_most_62, if_neg (nI_ge (by omega) (by omega)), bI (s_setOf _ _ hP (show k < n by omega) hn hj _ _ _ (hA.ms (hrC.ms hm)))]
    try dsimp only
    try dsimp only
    rw [bI r1]
    try dsimp only
    rw [nI_1]
    exact r2
theorem l_mmost (N d : Nat) {P : RP} (hP : okP P) (h0 : 0 < P.1) {F : FS} (hw : ∀ i, F.1 i ≤ 99) {ow : Nat → Nat} (how : ∀ d, d < 7 → ow d ≤ 6) {t : Nat} (ht : t ≤ 40) {n v : Nat} (hn : n ≤ 4) (hv : v < 7) {I : Nat → Nat → Int32} (J : Nat → Nat → Int64) (cd : Nat × Nat) (hN : noteN P (I 107) 0 F t) (hR : I 87 32 = -9) (hm : msAt P I) :
    ∀ (m j f : Nat) (B : Nat → Nat → Int32), j + m = mS P ^ n → 10 * m < f → rAt P ow F t I B → ∃ B', EX10_most (N + 1000000) (d + 3) f 49 [some (rv (some 87)), some (iv (nI v)), some (iv (nI n)), some (iv (nI (F.2.2.2 v))), some (iv (nI (moN (fun j => otN P ow t F v (plN P n j) n) j))), some (iv (nI j)), none] (B, J, cd) = some (iv (nI (moN (fun j => otN P ow t F v (plN P n j) n) (mS P ^ n))), (B', J, cd)) ∧ rAt P ow F t I B' := by
  have hn6 := hP.1
  have hpw := pw8 (mS_le hP) hn
  have hg : ∀ j, (fun j => otN P ow t F v (plN P n j) n) j ≤ 400 := fun j => by
    have := ot_le P ow t F hw v (plN P n j) n
    show otN P ow t F v (plN P n j) n ≤ 400
    omega
  intro m
  induction m with
  | zero =>
    intro j f B hj hf hB
    have : j = mS P ^ n := by omega
    subst this
    obtain ⟨g, rfl⟩ : ∃ g, f = g + 1 := ⟨f - 1, by omega⟩
    refine ⟨B, ?_, hB⟩
    rw [sgX10_most_49, bI (s_plans _ _ hP hn _ _ _ (hB.ms hm))]
    try dsimp only
    try dsimp only
    rw [if_pos (Int32.le_refl _)]
  | succ m ih =>
    intro j f B hj hf hB
    obtain ⟨g, rfl⟩ : ∃ g, f = g + 1 + n + 1 := ⟨f - n - 2, by omega⟩
    obtain ⟨B1, r1, hB1⟩ := l_mmost1 N d hP h0 hw how ht hn (j := j) (by omega) hv J cd hN hB hR hm (nI (moN (fun j => otN P ow t F v (plN P n j) n) j)) n 0 g B (by omega) hB.m0
    obtain ⟨B', r3, rest⟩ := ih (j + 1) g B1 (by omega) (by omega) hB1
    refine ⟨B', ?_, rest⟩
    have h1 := mo_le _ 400 hg j
    have h2 : otN P ow t F v (plN P n j) n ≤ 400 := hg j
    rw [nI_0, mx_N (by omega) (by omega)] at r1
    rw [sgX10_most_49, bI (s_plans _ _ hP hn _ _ _ (hB.ms hm))]
    try dsimp only
    try dsimp only
    rw [if_neg (nI_ge (by omega) (by omega)), r1]
    exact r3
theorem op_most (x y : Int32) : OK2 95 208 [iv x, iv y] := by
  intro N d I J h
  obtain ⟨P, ow, F, D, hP, how, hC, hD, h25, hFl, hRf, h32, hw⟩ := h.un
  have hn := hP.1
  have c4 : (4 : Int32) = nI 4 := rfl
  rcases ixc x 7 (by decide) with hx | ⟨v, hv, rfl⟩
  · refine ⟨iv (-1), I, J, I, J, ?_, ?_, h⟩
    · rw [enX9_most, sgX9_most_0, bI (s_isVillageB _ _ hx _)]
      try dsimp only
      try dsimp only
      rw [c4, bI (x_searchB _ _ (by decide) (Or.inl rfl) _ _)]
      try dsimp only
      try dsimp only
      rw [if_neg (by decide)]
    · rw [enX10_most, sgX10_most_0, bI (s_isDay _ _ _ _)]
      try dsimp only
      try dsimp only
      rw [b2i_f (b2_dayN hx), if_pos rfl]
  · rcases ixc y 5 (by decide) with hy | ⟨n, hn5, rfl⟩
    · refine ⟨iv (-1), I, J, I, J, ?_, ?_, h⟩
      · rw [enX9_most, sgX9_most_0, bI (s_isVillageO _ _ hv _)]
        try dsimp only
        try dsimp only
        rw [c4, bI (x_searchB _ _ (by decide) (Or.inr hy) _ _)]
        try dsimp only
        try dsimp only
        rw [if_neg (by decide)]
      · rw [enX10_most, sgX10_most_0, bI (s_isDay _ _ _ _)]
        try dsimp only
        try dsimp only
        rw [b2i_t (b2_day hv), if_neg n10, bI (s_in _ _ _ _ _ _)]
        try dsimp only
        try dsimp only
        rw [b2i_f (b2_4N hy), if_pos rfl]
    · by_cases hz : P.1 = 0
      · refine ⟨iv (-4), I, J, I, J, ?_, ?_, h⟩
        · rw [enX9_most, sgX9_most_0, bI (s_isVillageO _ _ hv _)]
          try dsimp only
          try dsimp only
          rw [c4, bI (x_search0 _ _ (by decide) (by omega) _ _ (by rw [hC.1, hz]; rfl))]
          try dsimp only
          try dsimp only
          rw [if_neg (by decide), ← c4]
        · rw [enX10_most, sgX10_most_0, bI (s_isDay _ _ _ _)]
          try dsimp only
          try dsimp only
          rw [b2i_t (b2_day hv), if_neg n10, bI (s_in _ _ _ _ _ _)]
          try dsimp only
          try dsimp only
          rw [b2i_t (b2_4 (by omega)), if_neg n10, if_pos (by rw [hRf.1, hz]; rfl)]
      · have h0 : 0 < P.1 := by omega
        have hpw := pw8 (n := n) (mS_le hP) (by omega)
        have fv : fr [48] I (wr I 48 2 (nI v)) := fr.rf.w (by simp)
        obtain ⟨B1, r1, f1', -, -, q2, -, -⟩ := s_seek N (d + 7) hP h0 how (go := 2) (vil := v) (due := fun _ => 0) hD hw (n := n) (by omega) (by decide) hv (fun _ => by omega) (wr I 48 2 (nI v)) J (73, 80) (hC.eq (fun a h1 h2 => fv a (by simp; omega))) (hFl.eq (fun a h1 h2 => fv a (by simp; omega))) (fun _ => wr_eq) (fun q => absurd q (by decide))
        have f1 : fr [48, 50, 51, 52, 53, 55, 56, 57, 58, 59, 60] I B1 := (fv.mo (by intro a; simp <;> omega)).tr f1'
        rw [most_rel hw (by omega)] at q2
        have hR1 : refAt P ow B1 F D := hRf.eq (fun a h1 h2 => f1 a (by simp; omega)) (by rw [f1 87 (by decide)]) (by rw [f1 87 (by decide)]) (by rw [f1 87 (by decide)])
        obtain ⟨B3, r3, f3, g3, m3, m3'⟩ := s_setSets N (d + 16) hP B1 J (73, 80) hR1
        have hR3 : refAt P ow B3 F D := hR1.eq (fun a h1 h2 => f3 a (by simp; omega)) (g3 10 (by decide)) (g3 18 (by decide)) (g3 25 (by decide))
        obtain ⟨B4, r4, f4, n4⟩ := s_begin N (d + 17) hn B3 J (73, 80) hR3
        have hR4 : refAt P ow B4 F D := hR3.eq (fun a h1 h2 => f4 a (by simp; omega)) (by rw [f4 87 (by decide)]) (by rw [f4 87 (by decide)]) (by rw [f4 87 (by decide)])
        obtain ⟨B6, r6, hr6⟩ := l_mmost N (d + 16) hP h0 hw how hD (n := n) (by omega) hv J (73, 80) n4 (by rw [f4 87 (by decide), g3 32 (by decide), f1 87 (by decide)]; exact h32) ⟨by rw [f4 87 (by decide)]; exact m3, fun k hk => by rw [f4 109 (by decide)]; exact m3' k hk⟩ (mS P ^ n) 0 (N + 999999) B4 (by omega) (by omega) ⟨fr.rf, f87.rf, hR4⟩
        rw [show moN (fun j => otN P ow D F v (plN P n j) n) 0 = 0 from rfl, nI_0] at r6
        have e87 : ∀ k, k ∉ [18, 25, 31, 34] → B6 87 k = I 87 k := fun k hk => by
          simp at hk
          rw [hr6.2.1 k (by simp; omega), f4 87 (by decide), g3 k (by simp; omega), f1 87 (by decide)]
        have e00 : B6 0 = I 0 := by rw [hr6.1 0 (by decide), f4 0 (by decide), f3 0 (by decide), f1 0 (by decide)]
        refine ⟨iv (nI (moN (fun j => otN P ow D F v (plN P n j) n) (mS P ^ n))), B1, J, B6, J, ?_, ?_, h.trial hn hRf hr6.2.2 ((((f1.mo (by decide)).tr (f3.mo (by decide))).tr (f4.mo (by decide))).tr (hr6.1.mo (by decide))) (fun i _ => by rw [e00]) (e87 0 (by decide)) (e87 32 (by decide)) (by rw [e00, e87 2 (by decide)]; exact h.2.2.2.1.1) h.2.2.2.1.2⟩
        · rw [enX9_most, sgX9_most_0, bI (s_isVillageO _ _ hv _)]
          try dsimp only
          try dsimp only
          rw [c4, bI (x_searchO _ _ (by decide) (by omega) _ _ (by rw [hC.1]; exact nI_ne0 h0 (by omega)))]
          try dsimp only
          try dsimp only
          rw [if_pos rfl, h25, show (2 : Int32) = nI 2 from rfl, bV r1]
          try dsimp only
          rw [q2]
        · rw [enX10_most, sgX10_most_0, bI (s_isDay _ _ _ _)]
          try dsimp only
          try dsimp only
          rw [b2i_t (b2_day hv), if_neg n10, bI (s_in _ _ _ _ _ _)]
          try dsimp only
          try dsimp only
          rw [b2i_t (b2_4 (by omega)), if_neg n10, if_neg (by rw [hR1.1]; exact nI_ne0 h0 (by omega)), bV r3]
          try dsimp only
          rw [inb_t hv (by omega), if_pos rfl, bV r4]
          try dsimp only
          rw [nI_clamp (show v < 2 ^ 31 by omega), (hR3.2.2.2.2 v hv).2.2]
          exact r6
-- all
/-- how much is SHUT by a PLAN -/
def shN (ss : Nat → Nat) (n : Nat) : Nat := sumN (fun i => pc6 (ss i)) n
theorem sh_le (ss : Nat → Nat) : ∀ n, shN ss n ≤ 6 * n
  | 0 => Nat.le_refl _
  | n + 1 => by
    have := sh_le ss n
    have h6 := pc6_le (ss n)
    unfold shN at this ⊢
    simp only [sumN]
    omega
theorem neg_ad (a b : Int32) : -a + -b = -(a + b) := by
  apply Int32.toBitVec_inj.1
  simp
  rw [BitVec.neg_add, BitVec.sub_eq_add_neg]
theorem gai1 (P : RP) (ow : Nat → Nat) (t : Nat) (F : FS) (vil : Nat) (ss : Nat → Nat) : ∀ k, gaiA P ow t F 1 vil ss k = -nI (shN ss k)
  | 0 => by
    show (0 : Int32) = -nI 0
    decide
  | k + 1 => by
    show gaiA P ow t F 1 vil ss k + gainD P ow t F 1 vil ss k = -nI (sumN _ k + pc6 (ss k))
    rw [gai1 P ow t F vil ss k, gainD, if_neg (by decide), if_pos rfl, neg_ad, nI_add]; rfl
theorem neg_le24 : ∀ a, a ≤ 24 → ∀ b, b ≤ 24 → ((-nI a ≤ -nI b) ↔ b ≤ a) := by decide +kernel
def alR (P : RP) (n : Nat) (σ : HS) (b f : Int32) : Prop := (σ.1 = 0 ∧ b = -9 ∧ f = 1048576) ∨ (0 < σ.1 ∧ ∃ p s, p < 2 ^ 20 ∧ s ≤ 24 ∧ b = nI p ∧ f = nI s ∧ σ.2.1 = -nI s ∧ σ.2.2.1 = plN P n p)
theorem all_step {P : RP} {ow : Nat → Nat} {t : Nat} {F : FS} {vil : Nat} {due : Nat → Nat} {n : Nat} (hn : n ≤ 4) {σ : HS} {b f : Int32} (h : alR P n σ b f) {j : Nat} (hj : j < 2 ^ 20) : alR P n (stpS P ow t F 1 vil due n j σ) (if fitA P ow t F 1 due (plN P n j) n then (if f ≤ nI (shN (plN P n j) n) then b else nI j) else b) (if fitA P ow t F 1 due (plN P n j) n then (if f ≤ nI (shN (plN P n j) n) then f else nI (shN (plN P n j) n)) else f) := by
  have hs := sh_le (plN P n j) n
  rw [stpS]
  by_cases hf : fitA P ow t F 1 due (plN P n j) n = true
  · rw [if_pos hf, if_pos hf, if_pos hf, gai1]
    refine Or.inr ⟨by rw [arrS_1]; omega, ?_⟩
    rcases h with ⟨h1, h2, h3⟩ | ⟨h1, p, s, hp, hs24, h2, h3, h4, h5⟩
    · have c : ¬ f ≤ nI (shN (plN P n j) n) := by
        rw [h3]; exact nI_ge (b := 1048576) (by omega) (by decide)
      rw [if_neg c, if_neg c]
      exact ⟨j, shN (plN P n j) n, hj, by omega, rfl, rfl, by rw [arrS_t, if_pos (Or.inl h1)], by rw [arrS_p, if_pos (Or.inl h1)]⟩
    · by_cases c : s ≤ shN (plN P n j) n
      · have c' : f ≤ nI (shN (plN P n j) n) := by rw [h3]; exact nI_le c (by omega)
        rw [if_pos c', if_pos c']
        have cc : ¬ (σ.1 = 0 ∨ ¬ -nI (shN (plN P n j) n) ≤ σ.2.1) := fun q => q.elim (by omega) (fun z => z (by rw [h4]; exact (neg_le24 _ (by omega) _ hs24).mpr c))
        exact ⟨p, s, hp, hs24, h2, h3, by rw [arrS_t, if_neg cc]; exact h4, by rw [arrS_p, if_neg cc]; exact h5⟩
      · have c' : ¬ f ≤ nI (shN (plN P n j) n) := by rw [h3]; exact nI_ge (by omega) (by omega)
        rw [if_neg c', if_neg c']
        have cc : σ.1 = 0 ∨ ¬ -nI (shN (plN P n j) n) ≤ σ.2.1 := Or.inr (by rw [h4]; exact fun z => c ((neg_le24 _ (by omega) _ hs24).mp z))
        exact ⟨j, shN (plN P n j) n, hj, by omega, rfl, rfl, by rw [arrS_t, if_pos cc], by rw [arrS_p, if_pos cc]⟩
  · rw [if_neg hf, if_neg hf, if_neg hf]
    exact h
theorem l_mall1 (N d : Nat) {P : RP} (hP : okP P) (h0 : 0 < P.1) {F : FS} (hw : ∀ i, F.1 i ≤ 99) {ow : Nat → Nat} (how : ∀ d, d < 7 → ow d ≤ 6) {t : Nat} (ht : t ≤ 40) {n j : Nat} {due : Nat → Nat} (hn : n ≤ 4) (hj : j < 2 ^ 20) {I : Nat → Nat → Int32} (J : Nat → Nat → Int64) (cd : Nat × Nat) (hR : I 87 32 = -9) (hm : msAt P I) (x2 x4 x5 : Int32) :
    ∀ (m k f : Nat) (B : Nat → Nat → Int32), k + m = n → m + 2 ≤ f → mAt P P.2.2.2.2 ow t (plN P n j) F I k B → fitA P ow t F 1 due (plN P n j) k = true → ∃ B' g k', f ≤ g + m + 2 ∧ EX10_all (N + 1000000) (d + 3) f 72 [some (rv (some 87)), some (iv (nI n)), some (iv x2), some (iv (nI (milN P))), some (iv x4), some (iv x5), some (iv (nI j)), some (iv (nI (shN (plN P n j) k))), some (iv 1), some (iv (nI k))] (B, J, cd) = EX10_all (N + 1000000) (d + 3) g 155 [some (rv (some 87)), some (iv (nI n)), some (iv x2), some (iv (nI (milN P))), some (iv (if fitA P ow t F 1 due (plN P n j) n then (if x5 ≤ nI (shN (plN P n j) n) then x4 else nI j) else x4)), some (iv (if fitA P ow t F 1 due (plN P n j) n then (if x5 ≤ nI (shN (plN P n j) n) then x5 else nI (shN (plN P n j) n)) else x5)), some (iv (nI j)), none, none, none] (B', J, cd) ∧ mAt P P.2.2.2.2 ow t (plN P n j) F I k' B' := by
  have hn6 := hP.1
  intro m
  induction m with
  | zero =>
    intro k f B hk hf hA hfit
    have : k = n := by omega
    subst this
    obtain ⟨g, rfl⟩ : ∃ g, f = g + 1 + 1 := ⟨f - 2, by omega⟩
    refine ⟨B, g, k, by omega, ?_, hA⟩
    rw [sgX10_all_72, if_pos (Int32.le_refl _), sgX10_all_135, if_neg n10, if_pos hfit, if_pos hfit]
    by_cases c : x5 ≤ nI (shN (plN P k j) k)
    · rw [if_pos c, if_pos c, if_pos c]
    · rw [if_neg c, if_neg c, if_neg c]
  | succ m ih =>
    intro k f B hk hf hA hfit
    obtain ⟨f', rfl⟩ : ∃ f', f = f' + 1 := ⟨f - 1, by omega⟩
    obtain ⟨B1, r1, hA1, e31⟩ := m_step N d hP h0 hw how ht (R9 hR) (k := k) (by omega) (plN_ok n j k) B J cd hA
    have hs6 : plN P n j k < 64 := sub64 hn6 (plN_ok n j k)
    have hgs : gsD P ow t F (plN P n j) k < 64 := bitsN_64 _ hn6
    have hmi : milN P < 64 := bitsN_64 _ hn6
    have es : nI (shN (plN P n j) k) + nI (pc6 (plN P n j k)) = nI (shN (plN P n j) (k + 1)) := nI_add _ _
    have c1 : (nI (gsD P ow t F (plN P n j) k) = nI (milN P)) = (gsD P ow t F (plN P n j) k = milN P) := neq (by omega) (by omega)
    have efit : fitA P ow t F 1 due (plN P n j) (k + 1) = decide (gsD P ow t F (plN P n j) k = milN P) := by
      show (fitA P ow t F 1 due (plN P n j) k && fitD P ow t F 1 due (plN P n j) k) = _
      rw [hfit, Bool.true_and, fitD, if_pos rfl]
    have st : ∀ {q : Option RES}, (if gsD P ow t F (plN P n j) k = milN P then EX10_all (N + 1000000) (d + 3) f' 72 [some (rv (some 87)), some (iv (nI n)), some (iv x2), some (iv (nI (milN P))), some (iv x4), some (iv x5), some (iv (nI j)), some (iv (nI (shN (plN P n j) (k + 1)))), some (iv 1), some (iv (nI (k + 1)))] (B1, J, cd) else EX10_all (N + 1000000) (d + 3) f' 72 [some (rv (some 87)), some (iv (nI n)), some (iv x2), some (iv (nI (milN P))), some (iv x4), some (iv x5), some (iv (nI j)), some (iv (nI (shN (plN P n j) (k + 1)))), some (iv 0), some (iv (nI (k + 1)))] (B1, J, cd)) = q → EX10_all (N + 1000000) (d + 3) (f' + 1) 72 [some (rv (some 87)), some (iv (nI n)), some (iv x2), some (iv (nI (milN P))), some (iv x4), some (iv x5), some (iv (nI j)), some (iv (nI (shN (plN P n j) k))), some (iv 1), some (iv (nI k))] (B, J, cd) = q := by
      intro q hq
      rw [sgX10_all_72, if_neg (nI_ge (by omega) (by omega)), if_neg n10, bI (s_setOf _ _ hP (show k < n by omega) hn hj _ _ _ (hA.ms hm))]
      try dsimp only
      try dsimp only
      rw [bI r1]
      try dsimp only
      rw [bI (s_setOf _ _ hP (show k < n by omega) hn hj _ _ _ (hA1.ms hm))]
      try dsimp only
      try dsimp only
      rw [bI (s_bits10 _ _ hs6 _)]
      try dsimp only
      try dsimp only
      rw [es, nI_1, ← hq]
      by_cases c : gsD P ow t F (plN P n j) k = milN P
      · rw [if_pos (by rw [e31]; exact congrArg nI c), if_pos c]
      · rw [if_neg (by rw [e31]; exact fun z => c (c1.mp z)), if_neg c]
    by_cases c : gsD P ow t F (plN P n j) k = milN P
    · obtain ⟨B', g, k', hg, r2, hA2⟩ := ih (k + 1) f' B1 (by omega) (by omega) hA1 (by rw [efit]; simp [c])
      refine ⟨B', g, k', by omega, st ?_, hA2⟩
      rw [if_pos c]
      exact r2
    · have hfn : fitA P ow t F 1 due (plN P n j) n = false := by
        have := fitA_mono P ow t F 1 due (plN P n j) (k := k + 1) (by rw [efit]; simp [c]) m
        rw [show k + 1 + m = n by omega] at this
        exact this
      obtain ⟨g, rfl⟩ : ∃ g, f' = g + 1 + 1 := ⟨f' - 2, by omega⟩
      refine ⟨B1, g, k + 1, by omega, st ?_, hA1⟩
      have e135 : EX10_all (N + 1000000) (d + 3) (g + 1) 135 [some (rv (some 87)), some (iv (nI n)), some (iv x2), some (iv (nI (milN P))), some (iv x4), some (iv x5), some (iv (nI j)), some (iv (nI (shN (plN P n j) (k + 1)))), some (iv 0), none] (B1, J, cd) = EX10_all (N + 1000000) (d + 3) g 155 [some (rv (some 87)), some (iv (nI n)), some (iv x2), some (iv (nI (milN P))), some (iv x4), some (iv x5), some (iv (nI j)), none, none, none] (B1, J, cd) := by
        rw [sgX10_all_135, if_pos rfl]
      rw [if_neg c, hfn, sgX10_all_72]
      by_cases z : n ≤ k + 1
      · rw [if_pos (nI_le z (by omega)), e135]; rfl
      · rw [if_neg (nI_ge (by omega) (by omega)), if_pos rfl, e135]; rfl
theorem l_mall (N d : Nat) {P : RP} (hP : okP P) (h0 : 0 < P.1) {F : FS} (hw : ∀ i, F.1 i ≤ 99) {ow : Nat → Nat} (how : ∀ d, d < 7 → ow d ≤ 6) {t : Nat} (ht : t ≤ 40) {n r vil : Nat} {due : Nat → Nat} (hn : n ≤ 4) (hr : r < 6) {I : Nat → Nat → Int32} (J : Nat → Nat → Int64) (cd : Nat × Nat) (hN : noteN P (I 107) 0 F t) (hR : I 87 32 = -9) (hm : msAt P I) :
    ∀ (m j f : Nat) (B : Nat → Nat → Int32) (b fe : Int32), j + m = mS P ^ n → 20 * m < f → rAt P ow F t I B → alR P n (fldS (stpS P ow t F 1 vil due n) 0 j σ0) b fe → ∃ B' C b' f', EX10_all (N + 1000000) (d + 3) f 53 [some (rv (some 87)), some (iv (nI n)), some (iv (nI r)), some (iv (nI (milN P))), some (iv b), some (iv fe), some (iv (nI j)), none, none, none] (B, J, cd) = some (iv (if b' = -9 then -9 else f'), (B', J, cd)) ∧ rAt P ow F t I C ∧ alR P n (fldS (stpS P ow t F 1 vil due n) 0 (mS P ^ n) σ0) b' f' ∧ (b' = -9 → B' = C) ∧ (¬ b' = -9 → fr [89, 90] C B' ∧ B' 89 r = nI n ∧ (∀ i, i ≠ r → B' 89 i = C 89 i) ∧ (∀ i, i < n → B' 90 (40 * r + i) = nI ((fldS (stpS P ow t F 1 vil due n) 0 (mS P ^ n) σ0).2.2.1 i)) ∧ (∀ i, i < 40 * r ∨ 40 * r + 40 ≤ i → B' 90 i = C 90 i)) := by
  have hn6 := hP.1
  have hpw := pw8 (mS_le hP) hn
  intro m
  induction m with
  | zero =>
    intro j f B b fe hj hf hB hA
    have : j = mS P ^ n := by omega
    subst this
    obtain ⟨g, rfl⟩ : ∃ g, f = g + 1 := ⟨f - 1, by omega⟩
    by_cases c : b = -9
    · refine ⟨B, B, b, fe, ?_, hB, hA, fun _ => rfl, fun q => absurd c q⟩
      rw [sgX10_all_53, bI (s_plans _ _ hP hn _ _ _ (hB.ms hm))]
      try dsimp only
      try dsimp only
      rw [if_pos (Int32.le_refl _), if_pos c, if_pos c]
    · rcases hA with ⟨-, q, -⟩ | ⟨h1, p, s, hp, hs24, h2, h3, h4, h5⟩
      · exact absurd q c
      · obtain ⟨B', r1, f1, s1, s2, s3, s4⟩ := s_layPlan N (d + 1) hP hn (j := p) hp hr B J cd (hB.ms hm)
        refine ⟨B', B, b, fe, ?_, hB, Or.inr ⟨h1, p, s, hp, hs24, h2, h3, h4, h5⟩, fun q => absurd q c, fun _ => ⟨f1, s1, s2, fun i hi => by rw [s3 i (by omega), if_pos hi, h5], s4⟩⟩
        rw [sgX10_all_53, bI (s_plans _ _ hP hn _ _ _ (hB.ms hm))]
        try dsimp only
        try dsimp only
        rw [if_pos (Int32.le_refl _), if_neg c, if_neg c, h2, bV r1]
  | succ m ih =>
    intro j f B b fe hj hf hB hA
    obtain ⟨g, rfl⟩ : ∃ g, f = g + 1 := ⟨f - 1, by omega⟩
    obtain ⟨B1, g1, k1, hg1, r1, hM⟩ := l_mall1 N d hP h0 hw how ht (due := due) hn (j := j) (by omega) J cd (by rw [hB.2.1 32 (by decide)]; exact hR) (hB.ms hm) (nI r) b fe n 0 g B (by omega) (by omega) hB.m0 rfl
    obtain ⟨g2, rfl⟩ : ∃ g2, g1 = g2 + 1 := ⟨g1 - 1, by omega⟩
    obtain ⟨B2, r2, hB2, -⟩ := m_bk N (d + 1) hn6 J cd hN hB hM
    have hst := all_step (P := P) (ow := ow) (t := t) (F := F) (vil := vil) (due := due) hn hA (j := j) (by omega)
    obtain ⟨B', C, b', f', r3, rest⟩ := ih (j + 1) g2 B2 _ _ (by omega) (by omega) hB2 (show alR P n (stpS P ow t F 1 vil due n (0 + j) (fldS (stpS P ow t F 1 vil due n) 0 j σ0)) _ _ by rw [Nat.zero_add]; exact hst)
    refine ⟨B', C, b', f', ?_, rest⟩
    rw [show shN (plN P n j) 0 = 0 from rfl, nI_0] at r1
    rw [sgX10_all_53, bI (s_plans _ _ hP hn _ _ _ (hB.ms hm))]
    try dsimp only
    try dsimp only
    rw [if_neg (nI_ge (by omega) (by omega)), r1, sgX10_all_155, bV r2]
    try dsimp only
    rw [nI_1]
    exact r3

theorem nn9 {p : Nat} (h : p < 2 ^ 20) : ¬ nI p = -9 := fun q => absurd (nI_pos' (n := p) (by omega)) (by rw [q]; decide)
theorem op_all (x r : Int32) : OK2 94 207 [iv x, iv r] := by
  intro N d I J h
  obtain ⟨P, ow, F, D, hP, how, hC, hD, h25, hFl, hRf, h32, hw⟩ := h.un
  have hn := hP.1
  have c4 : (4 : Int32) = nI 4 := rfl
  rcases ixc r 6 (by decide) with hr | ⟨j, hj, rfl⟩
  · refine ⟨iv (-1), I, J, I, J, ?_, ?_, h⟩
    · rw [enX9_all, sgX9_all_0, bI (s_isOneN_1 _ _ hr _)]
      try dsimp only
      try dsimp only
      rw [c4, bI (x_searchB _ _ (by decide) (Or.inl rfl) _ _)]
      try dsimp only
      try dsimp only
      rw [if_neg (by decide)]
    · rw [enX10_all, sgX10_all_0, bI (s_in _ _ _ _ _ _)]
      try dsimp only
      try dsimp only
      by_cases q : ¬ x < 0 ∧ ¬ (4 : Int32) < x
      · rw [b2i_t q, if_neg n10, bI (s_isRow _ _ _ _)]
        try dsimp only
        try dsimp only
        rw [b2i_f (b2_rowN hr), if_pos rfl]
      · rw [b2i_f q, if_pos rfl]
  · rcases ixc x 5 (by decide) with hx | ⟨n, hn5, rfl⟩
    · refine ⟨iv (-1), I, J, I, J, ?_, ?_, h⟩
      · rw [enX9_all, sgX9_all_0, bI (s_isOne_1 _ _ hj _)]
        try dsimp only
        try dsimp only
        rw [c4, bI (x_searchB _ _ (by decide) (Or.inr hx) _ _)]
        try dsimp only
        try dsimp only
        rw [if_neg (by decide)]
      · rw [enX10_all, sgX10_all_0, bI (s_in _ _ _ _ _ _)]
        try dsimp only
        try dsimp only
        rw [b2i_f (b2_4N hx), if_pos rfl]
    · by_cases hz : P.1 = 0
      · refine ⟨iv (-4), I, J, I, J, ?_, ?_, h⟩
        · rw [enX9_all, sgX9_all_0, bI (s_isOne_1 _ _ hj _)]
          try dsimp only
          try dsimp only
          rw [c4, bI (x_search0 _ _ (by decide) (by omega) _ _ (by rw [hC.1, hz]; rfl))]
          try dsimp only
          try dsimp only
          rw [if_neg (by decide), ← c4]
        · rw [enX10_all, sgX10_all_0, bI (s_in _ _ _ _ _ _)]
          try dsimp only
          try dsimp only
          rw [b2i_t (b2_4 (by omega)), if_neg n10, bI (s_isRow _ _ _ _)]
          try dsimp only
          try dsimp only
          rw [b2i_t (b2_row hj), if_neg n10, if_pos (by rw [hRf.1, hz]; rfl)]
      · have h0 : 0 < P.1 := by omega
        have hpw := pw8 (n := n) (mS_le hP) (by omega)
        obtain ⟨B1, r1, f1, -, q1, q2, q3, -⟩ := s_seek N (d + 7) hP h0 how (go := 1) (vil := 0) (due := fun _ => 0) hD hw (n := n) (by omega) (by decide) (by decide) (fun _ => by omega) I J (73, 80) hC hFl (fun q => absurd q (by decide)) (fun q => absurd q (by decide))
        have hfd := fld_1 P ow D F 1 0 (fun _ => 0) n 0 (mS P ^ n) σ0
        rw [show σ0.1 = 0 from rfl] at hfd
        obtain ⟨B2, r2, f2, t1, t2, t3⟩ := s_take N (d + 15) hj (n := n) (by omega) B1 J (73, 80) (by rw [f1 1 (by decide)]; exact h.1.1)
        -- the reference, from a heap that differs from I in the class's cells alone
        have ref : ∀ X : Nat → Nat → Int32, (∀ a, a ∉ [48, 50, 51, 52, 53, 55, 56, 57, 58, 59, 60] → a ≠ 9 → a ≠ 3 + j → X a = I a) → ∃ B' C b' f', arun (N + 1000000) (d + 20) 207 [rv (some 87), iv (nI n), iv (nI j)] (X, J, 73, 80) = some (iv (if b' = -9 then -9 else f'), (B', J, 73, 80)) ∧ refAt P ow C F D ∧ (∀ a, a ∉ [87, 98, 99, 100, 101, 107, 108, 109] → C a = X a) ∧ (∀ k, k ∉ [18, 25, 31, 34] → C 87 k = I 87 k) ∧ alR P n (fldS (stpS P ow D F 1 0 (fun _ => 0) n) 0 (mS P ^ n) σ0) b' f' ∧ (b' = -9 → B' = C) ∧ (¬ b' = -9 → fr [89, 90] C B' ∧ B' 89 j = nI n ∧ (∀ i, i ≠ j → B' 89 i = C 89 i) ∧ (∀ i, i < n → B' 90 (40 * j + i) = nI ((fldS (stpS P ow D F 1 0 (fun _ => 0) n) 0 (mS P ^ n) σ0).2.2.1 i)) ∧ (∀ i, i < 40 * j ∨ 40 * j + 40 ≤ i → B' 90 i = C 90 i)) := by
          intro X fX
          have hR1 : refAt P ow X F D := hRf.eq (fun a h1 h2 => fX a (by simp; omega) (by omega) (by omega)) (by rw [fX 87 (by decide) (by omega) (by omega)]) (by rw [fX 87 (by decide) (by omega) (by omega)]) (by rw [fX 87 (by decide) (by omega) (by omega)])
          obtain ⟨B3, r3, f3, g3, m3, m3'⟩ := s_setSets N (d + 16) hP X J (73, 80) hR1
          have hR3 : refAt P ow B3 F D := hR1.eq (fun a h1 h2 => f3 a (by simp; omega)) (g3 10 (by decide)) (g3 18 (by decide)) (g3 25 (by decide))
          obtain ⟨B4, r4, f4, n4⟩ := s_begin N (d + 17) hn B3 J (73, 80) hR3
          have hR4 : refAt P ow B4 F D := hR3.eq (fun a h1 h2 => f4 a (by simp; omega)) (by rw [f4 87 (by decide)]) (by rw [f4 87 (by decide)]) (by rw [f4 87 (by decide)])
          obtain ⟨B6, C, b', f', r6, hrC, hal, z1, z2⟩ := l_mall N (d + 16) hP h0 hw how hD (n := n) (r := j) (vil := 0) (due := fun _ => 0) (by omega) hj J (73, 80) n4 (by rw [f4 87 (by decide), g3 32 (by decide), fX 87 (by decide) (by omega) (by omega)]; exact h32) ⟨by rw [f4 87 (by decide)]; exact m3, fun k hk => by rw [f4 109 (by decide)]; exact m3' k hk⟩ (mS P ^ n) 0 (N + 999999) B4 (-9) 1048576 (by omega) (by omega) ⟨fr.rf, f87.rf, hR4⟩ (Or.inl ⟨rfl, rfl, rfl⟩)
          rw [nI_0] at r6
          refine ⟨B6, C, b', f', ?_, hrC.2.2, fun a ha => ?_, fun k hk => ?_, hal, z1, z2⟩
          · rw [enX10_all, sgX10_all_0, bI (s_in _ _ _ _ _ _)]
            try dsimp only
            try dsimp only
            rw [b2i_t (b2_4 (by omega)), if_neg n10, bI (s_isRow _ _ _ _)]
            try dsimp only
            try dsimp only
            rw [b2i_t (b2_row hj), if_neg n10, if_neg (by rw [hR1.1]; exact nI_ne0 h0 (by omega)), bV r3]
            try dsimp only
            rw [bI (show arun (N + 1000000) (d + 19) 206 [rv (some 87)] (B3, J, 73, 80) = some (iv (nI (milN P)), (B3, J, 73, 80)) from s_millSet N (d + 17) hn (fun i hi => hP.k hi) B3 J (73, 80) hR3.1 (fun i hi => (hR3.2.2.2.1 i hi).1))]
            try dsimp only
            try dsimp only
            rw [bV r4]
            exact r6
          · simp at ha
            rw [hrC.1 a (by simp; omega), f4 a (by simp; omega), f3 a (by simp; omega)]
          · simp at hk
            rw [hrC.2.1 k (by simp; omega), f4 87 (by decide), g3 k (by simp; omega), fX 87 (by decide) (by omega) (by omega)]
        by_cases hf0 : (fldS (stpS P ow D F 1 0 (fun _ => 0) n) 0 (mS P ^ n) σ0).1 = 0
        · obtain ⟨B6, C, b', f', rM, hrC, eC, e87, hal, z1, -⟩ := ref B1 (fun a h1 _ _ => f1 a h1)
          rcases hal with ⟨-, hb, -⟩ | ⟨q, -⟩
          · rw [if_pos hb] at rM
            have e6 := z1 hb
            subst e6
            refine ⟨iv (-9), B1, J, B6, J, ?_, rM, h.trial hn hRf hrC (fun a ha => ?_) (fun i _ => by rw [eC 0 (by decide), f1 0 (by decide)]) (e87 0 (by decide)) (e87 32 (by decide)) (by rw [eC 0 (by decide), f1 0 (by decide), e87 2 (by decide)]; exact h.2.2.2.1.1) h.2.2.2.1.2⟩
            · rw [enX9_all, sgX9_all_0, bI (s_isOne_1 _ _ hj _)]
              try dsimp only
              try dsimp only
              rw [c4, bI (x_searchO _ _ (by decide) (by omega) _ _ (by rw [hC.1]; exact nI_ne0 h0 (by omega)))]
              try dsimp only
              try dsimp only
              rw [if_pos rfl, h25, show (1 : Int32) = nI 1 from rfl, bV r1]
              try dsimp only
              rw [if_pos (by rw [q1, hf0]; rfl)]
            · have k1 : a ∉ [87, 98, 99, 100, 101, 107, 108, 109] := fun q => ha ((by decide : ∀ b ∈ [87, 98, 99, 100, 101, 107, 108, 109], b ∈ TC) a q)
              have k2 : a ∉ [48, 50, 51, 52, 53, 55, 56, 57, 58, 59, 60] := fun q => ha ((by decide : ∀ b ∈ [48, 50, 51, 52, 53, 55, 56, 57, 58, 59, 60], b ∈ TC) a q)
              rw [eC a k1, f1 a k2]
          · exact absurd hf0 (by omega)
        · have fX : ∀ a, a ∉ [48, 50, 51, 52, 53, 55, 56, 57, 58, 59, 60] → a ≠ 9 → a ≠ 3 + j → B2 a = I a := fun a h1 h2 h3 => by rw [f2 a (by simp; exact ⟨h2, h3⟩), f1 a h1]
          obtain ⟨B6, C, b', f', rM, hrC, eC, e87C, hal, -, z2⟩ := ref B2 fX
          rcases hal with ⟨q, -⟩ | ⟨-, p, s, hp, hs24, h2, h3, h4, h5⟩
          · exact absurd q hf0
          · have hb9 : ¬ b' = -9 := by rw [h2]; exact nn9 hp
            rw [if_neg hb9, h3] at rM
            obtain ⟨f6, s1, s2, s3, s4⟩ := z2 hb9
            have e6 : ∀ a, a ≠ 89 → a ≠ 90 → B6 a = C a := fun a h1 h2 => f6 a (by simp; omega)
            have e87 : ∀ k, k ∉ [18, 25, 31, 34] → B6 87 k = I 87 k := fun k hk => by rw [e6 87 (by decide) (by decide), e87C k hk]
            refine ⟨iv (nI s), B2, J, B6, J, ?_, rM, ?_⟩
            · rw [enX9_all, sgX9_all_0, bI (s_isOne_1 _ _ hj _)]
              try dsimp only
              try dsimp only
              rw [c4, bI (x_searchO _ _ (by decide) (by omega) _ _ (by rw [hC.1]; exact nI_ne0 h0 (by omega)))]
              try dsimp only
              try dsimp only
              rw [if_pos rfl, h25, show (1 : Int32) = nI 1 from rfl, bV r1]
              try dsimp only
              rw [if_neg (by rw [q1]; exact nI_ne0 (by omega) (by omega)), bV r2]
              try dsimp only
              rw [f2 48 (by simp; omega), q2, h4, Int32.neg_neg]
            · refine h.trialR hn hRf (hrC.eq (fun a h1 h2 => e6 a (by omega) (by omega)) (by rw [e6 87 (by decide) (by decide)]) (by rw [e6 87 (by decide) (by decide)]) (by rw [e6 87 (by decide) (by decide)])) hj (n := n) (by omega) ?_ ?_ (e87 0 (by decide)) (e87 32 (by decide)) ?_ h.2.2.2.1.2 ?_ ?_ s1 ?_ ?_ ?_
              · intro a ha h9 h3' h89 h90
                have k1 : a ∉ [87, 98, 99, 100, 101, 107, 108, 109] := fun q => ha ((by decide : ∀ b ∈ [87, 98, 99, 100, 101, 107, 108, 109], b ∈ TC) a q)
                have k2 : a ∉ [48, 50, 51, 52, 53, 55, 56, 57, 58, 59, 60] := fun q => ha ((by decide : ∀ b ∈ [48, 50, 51, 52, 53, 55, 56, 57, 58, 59, 60], b ∈ TC) a q)
                rw [e6 a h89 h90, eC a k1, fX a k2 h9 h3']
              · intro i hi
                rw [e6 0 (by decide) (by decide), eC 0 (by decide), fX 0 (by decide) (by omega) (by omega)]
              · rw [e6 0 (by decide) (by decide), eC 0 (by decide), fX 0 (by decide) (by omega) (by omega), e87 2 (by decide)]
                exact h.2.2.2.1.1
              · rw [e6 9 (by decide) (by decide), eC 9 (by decide)]; exact t1
              · intro i hi
                rw [e6 9 (by decide) (by decide), eC 9 (by decide), t2 i hi, f1 9 (by decide)]
              · intro i hi
                rw [s2 i hi, eC 89 (by decide), fX 89 (by decide) (by omega) (by omega)]
              · intro i hi
                rw [e6 (3 + j) (by omega) (by omega), eC (3 + j) (by simp; omega), t3 i hi, q3 (by omega) i hi, s3 i hi]
              · intro i hi
                rw [s4 i hi, eC 90 (by decide), fX 90 (by decide) (by omega) (by omega)]
