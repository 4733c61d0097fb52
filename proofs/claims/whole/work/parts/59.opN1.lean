/-! count -/
theorem flowN_z (P : RP) (sh vl : Nat → Nat) : ∀ t i, P.1 ≤ i → (flowN P sh vl t).1 i = 0 ∧ (flowN P sh vl t).2.1 i = 0
  | 0, i, h => ⟨if_neg (by omega), rfl⟩
  | t + 1, i, h => by
    obtain ⟨h1, h2⟩ := flowN_z P sh vl t i h
    refine ⟨?_, ?_⟩
    · show watN P (flowN P sh vl t).1 _ _ i = 0
      rw [watN, if_neg (by omega), h1]
    · show (flowN P sh vl t).2.1 i + (if i < P.1 ∧ grdN P (flowN P sh vl t).1 _ i then 1 else 0) = 0
      rw [h2, if_neg (fun q => absurd q.1 (by omega))]
theorem sumN_z (f : Nat → Nat) (n : Nat) (h : ∀ i, n ≤ i → f i = 0) : ∀ k, sumN f (n + k) = sumN f n
  | 0 => rfl
  | k + 1 => by
    show sumN f (n + k) + f (n + k) = _
    rw [sumN_z f n h k, h _ (by omega), Nat.add_zero]
theorem Rel.un3 {I : Nat → Nat → Int32} {J : Nat → Nat → Int64} (h : Rel I J) : ∃ (P : RP) (ow : Nat → Nat) (F : FS) (D : Nat) (kp : Nat → Bool) (KD : Nat → Nat), okP P ∧ courN P ow I 73 ∧ I 25 0 = nI D ∧ flowAt I F ∧ refAt P ow I F D ∧ (∀ i, P.1 ≤ i → F.1 i = 0 ∧ F.2.1 i = 0) ∧ (∀ k, k < 3 → I 38 k = (if kp k then 1 else 0) ∧ I 105 k = (if kp k then 1 else 0) ∧ (kp k = true → I (29 + 3 * k) 0 = nI (KD k) ∧ I 106 (1107 * k + 1081) = nI (KD k))) := by
  obtain ⟨P, ow, D, sh, vl, kp, KD, ksh, kvl, hP, how, hC, hDd, h0, hfl, hsea, hkp, h10, h18, h25, h32, hmr, hmw, hnt⟩ := h.2.2.2.2
  refine ⟨P, ow, flowN P sh vl D, D, kp, KD, hP, hC, hDd.2.1, ⟨hfl, hsea⟩, ⟨h10, h18, h25, hmr, hmw⟩, flowN_z P sh vl D, fun k hk => ?_⟩
  obtain ⟨a, b, c⟩ := hkp k hk
  refine ⟨a, b, fun q => ?_⟩
  obtain ⟨c1, -, c3, -⟩ := c q
  exact ⟨c1.2.1, c3.2.1⟩
theorem l_sum_20 (N d : Nat) (g : Nat → Nat) (I : Nat → Nat → Int32) (J : Nat → Nat → Int64) (cd : Nat × Nat) (hg : ∀ i, i < 6 → I 20 i = nI (g i)) : ∀ (m k f : Nat), k + m = 6 → EX9_sum (N + 1000000) d (f + 1 + m) 10 [none, some (iv (nI (sumN g k))), some (rv (some 20)), some (iv (nI 6)), some (iv (nI k)), none] (I, J, cd) = some (iv (nI (sumN g 6)), (I, J, cd)) := by
  intro m
  induction m with
  | zero =>
    intro k f hk
    have : k = 6 := by omega
    subst this
    rw [Nat.add_zero, sgX9_sum_20_10, if_pos (Int32.le_refl _)]
  | succ m ih =>
    intro k f hk
    have es : nI (sumN g k) + nI (g k) = nI (sumN g (k + 1)) := nI_add _ _
    rw [show f + 1 + (m + 1) = f + 1 + m + 1 by omega, sgX9_sum_20_10, if_neg (nI_ge (by omega) (by omega)), inb_t (show k < 6 by omega) (by omega), if_pos rfl, nI_clamp (by omega), hg k (by omega), es, nI_1]
    exact ih (k + 1) f (by omega)
theorem s_sum_20 (N d : Nat) (g : Nat → Nat) (I : Nat → Nat → Int32) (J : Nat → Nat → Int64) (cd : Nat × Nat) (hg : ∀ i, i < 6 → I 20 i = nI (g i)) : arun (N + 1000000) (d + 1) 136 [rv (some 20)] (I, J, cd) = some (iv (nI (sumN g 6)), (I, J, cd)) := by
  have l := l_sum_20 N d g I J cd hg 6 0 (N + 999998 - 6) (by omega)
  rw [show sumN g 0 = 0 from rfl, nI_0, show N + 999998 - 6 + 1 + 6 = N + 999999 by omega] at l
  rw [enX9_sum, sgX9_sum_20_0]
  exact l
theorem l_sum_21 (N d : Nat) (g : Nat → Nat) (I : Nat → Nat → Int32) (J : Nat → Nat → Int64) (cd : Nat × Nat) (hg : ∀ i, i < 6 → I 21 i = nI (g i)) : ∀ (m k f : Nat), k + m = 6 → EX9_sum (N + 1000000) d (f + 1 + m) 10 [none, some (iv (nI (sumN g k))), some (rv (some 21)), some (iv (nI 6)), some (iv (nI k)), none] (I, J, cd) = some (iv (nI (sumN g 6)), (I, J, cd)) := by
  intro m
  induction m with
  | zero =>
    intro k f hk
    have : k = 6 := by omega
    subst this
    rw [Nat.add_zero, sgX9_sum_21_10, if_pos (Int32.le_refl _)]
  | succ m ih =>
    intro k f hk
    have es : nI (sumN g k) + nI (g k) = nI (sumN g (k + 1)) := nI_add _ _
    rw [show f + 1 + (m + 1) = f + 1 + m + 1 by omega, sgX9_sum_21_10, if_neg (nI_ge (by omega) (by omega)), inb_t (show k < 6 by omega) (by omega), if_pos rfl, nI_clamp (by omega), hg k (by omega), es, nI_1]
    exact ih (k + 1) f (by omega)
theorem s_sum_21 (N d : Nat) (g : Nat → Nat) (I : Nat → Nat → Int32) (J : Nat → Nat → Int64) (cd : Nat × Nat) (hg : ∀ i, i < 6 → I 21 i = nI (g i)) : arun (N + 1000000) (d + 1) 136 [rv (some 21)] (I, J, cd) = some (iv (nI (sumN g 6)), (I, J, cd)) := by
  have l := l_sum_21 N d g I J cd hg 6 0 (N + 999998 - 6) (by omega)
  rw [show sumN g 0 = 0 from rfl, nI_0, show N + 999998 - 6 + 1 + 6 = N + 999999 by omega] at l
  rw [enX9_sum, sgX9_sum_21_0]
  exact l
theorem l_sum_23 (N d : Nat) (g : Nat → Nat) (I : Nat → Nat → Int32) (J : Nat → Nat → Int64) (cd : Nat × Nat) (hg : ∀ i, i < 7 → I 23 i = nI (g i)) : ∀ (m k f : Nat), k + m = 7 → EX9_sum (N + 1000000) d (f + 1 + m) 10 [none, some (iv (nI (sumN g k))), some (rv (some 23)), some (iv (nI 7)), some (iv (nI k)), none] (I, J, cd) = some (iv (nI (sumN g 7)), (I, J, cd)) := by
  intro m
  induction m with
  | zero =>
    intro k f hk
    have : k = 7 := by omega
    subst this
    rw [Nat.add_zero, sgX9_sum_23_10, if_pos (Int32.le_refl _)]
  | succ m ih =>
    intro k f hk
    have es : nI (sumN g k) + nI (g k) = nI (sumN g (k + 1)) := nI_add _ _
    rw [show f + 1 + (m + 1) = f + 1 + m + 1 by omega, sgX9_sum_23_10, if_neg (nI_ge (by omega) (by omega)), inb_t (show k < 7 by omega) (by omega), if_pos rfl, nI_clamp (by omega), hg k (by omega), es, nI_1]
    exact ih (k + 1) f (by omega)
theorem s_sum_23 (N d : Nat) (g : Nat → Nat) (I : Nat → Nat → Int32) (J : Nat → Nat → Int64) (cd : Nat × Nat) (hg : ∀ i, i < 7 → I 23 i = nI (g i)) : arun (N + 1000000) (d + 1) 136 [rv (some 23)] (I, J, cd) = some (iv (nI (sumN g 7)), (I, J, cd)) := by
  have l := l_sum_23 N d g I J cd hg 7 0 (N + 999998 - 7) (by omega)
  rw [show sumN g 0 = 0 from rfl, nI_0, show N + 999998 - 7 + 1 + 7 = N + 999999 by omega] at l
  rw [enX9_sum, sgX9_sum_23_0]
  exact l
theorem l_howM_1 (N d : Nat) (g : Nat → Nat) (I : Nat → Nat → Int32) (J : Nat → Nat → Int64) (cd : Nat × Nat) (hg : ∀ i, i < 6 → g i = if I 9 i = -1 then 0 else 1) : ∀ (m k f : Nat), k + m = 6 → EX8_howMany (N + 1000000) (d + 2) (f + 1 + m) 4 [some (rv (some 1)), some (iv (nI (sumN g k))), some (iv (nI k))] (I, J, cd) = some (iv (nI (sumN g 6)), (I, J, cd)) := by
  intro m
  induction m with
  | zero =>
    intro k f hk
    have : k = 6 := by omega
    subst this
    rw [Nat.add_zero, sgX8_howMany_1_4, if_pos (Int32.le_refl _)]
  | succ m ih =>
    intro k f hk
    have i1 := ih (k + 1) f (by omega)
    have eg := hg k (by omega)
    have es : nI (sumN g (k + 1)) = nI (sumN g k) + nI (g k) := (nI_add _ _).symm
    rw [es, eg] at i1
    rw [show f + 1 + (m + 1) = f + 1 + m + 1 by omega, sgX8_howMany_1_4, if_neg (nI_ge (by omega) (by omega)), bI (s_isThere_1 _ _ (show k < 6 by omega) _ _ _)]
    try dsimp only
    rw [nI_1]
    by_cases c : I 9 k = -1
    · rw [if_pos c] at i1
      rw [if_pos (b2i_f (fun q => q c))]
      exact i1
    · rw [if_neg c] at i1
      rw [if_neg (by rw [b2i_t c]; exact n10)]
      exact i1
theorem s_howM_1 (N d : Nat) (g : Nat → Nat) (I : Nat → Nat → Int32) (J : Nat → Nat → Int64) (cd : Nat × Nat) (hg : ∀ i, i < 6 → g i = if I 9 i = -1 then 0 else 1) : arun (N + 1000000) (d + 3) 66 [rv (some 1)] (I, J, cd) = some (iv (nI (sumN g 6)), (I, J, cd)) := by
  have l := l_howM_1 N d g I J cd hg 6 0 (N + 999998 - 6) (by omega)
  rw [show sumN g 0 = 0 from rfl, nI_0, show N + 999998 - 6 + 1 + 6 = N + 999999 by omega] at l
  rw [enX8_howMany, sgX8_howMany_1_0]
  exact l
theorem l_howM_10 (N d : Nat) (g : Nat → Nat) (I : Nat → Nat → Int32) (J : Nat → Nat → Int64) (cd : Nat × Nat) (hg : ∀ i, i < 4 → g i = if I 16 i = -1 then 0 else 1) : ∀ (m k f : Nat), k + m = 4 → EX8_howMany (N + 1000000) (d + 2) (f + 1 + m) 4 [some (rv (some 10)), some (iv (nI (sumN g k))), some (iv (nI k))] (I, J, cd) = some (iv (nI (sumN g 4)), (I, J, cd)) := by
  intro m
  induction m with
  | zero =>
    intro k f hk
    have : k = 4 := by omega
    subst this
    rw [Nat.add_zero, sgX8_howMany_10_4, if_pos (Int32.le_refl _)]
  | succ m ih =>
    intro k f hk
    have i1 := ih (k + 1) f (by omega)
    have eg := hg k (by omega)
    have es : nI (sumN g (k + 1)) = nI (sumN g k) + nI (g k) := (nI_add _ _).symm
    rw [es, eg] at i1
    rw [show f + 1 + (m + 1) = f + 1 + m + 1 by omega, sgX8_howMany_10_4, if_neg (nI_ge (by omega) (by omega)), bI (s_isThere_10 _ _ (show k < 4 by omega) _ _ _)]
    try dsimp only
    rw [nI_1]
    by_cases c : I 16 k = -1
    · rw [if_pos c] at i1
      rw [if_pos (b2i_f (fun q => q c))]
      exact i1
    · rw [if_neg c] at i1
      rw [if_neg (by rw [b2i_t c]; exact n10)]
      exact i1
theorem s_howM_10 (N d : Nat) (g : Nat → Nat) (I : Nat → Nat → Int32) (J : Nat → Nat → Int64) (cd : Nat × Nat) (hg : ∀ i, i < 4 → g i = if I 16 i = -1 then 0 else 1) : arun (N + 1000000) (d + 3) 66 [rv (some 10)] (I, J, cd) = some (iv (nI (sumN g 4)), (I, J, cd)) := by
  have l := l_howM_10 N d g I J cd hg 4 0 (N + 999998 - 4) (by omega)
  rw [show sumN g 0 = 0 from rfl, nI_0, show N + 999998 - 4 + 1 + 4 = N + 999999 by omega] at l
  rw [enX8_howMany, sgX8_howMany_10_0]
  exact l
theorem l_keptR (N d : Nat) (g : Nat → Nat) (I : Nat → Nat → Int32) (J : Nat → Nat → Int64) (hg : ∀ i, i < 3 → g i = if I 38 i = 0 then 0 else 1) : ∀ (m k f : Nat), k + m = 3 → EX9_keptRivers (N + 1000000) d (f + 1 + m) 4 [some (rv (some 0)), some (iv (nI (sumN g k))), some (iv (nI k))] (I, J, 73, 80) = some (iv (nI (sumN g 3)), (I, J, 73, 80)) := by
  intro m
  induction m with
  | zero =>
    intro k f hk
    have : k = 3 := by omega
    subst this
    rw [Nat.add_zero, sgX9_keptRivers_4, if_pos (by decide)]
  | succ m ih =>
    intro k f hk
    have i1 := ih (k + 1) f (by omega)
    have eg := hg k (by omega)
    have es : nI (sumN g (k + 1)) = nI (sumN g k) + nI (g k) := (nI_add _ _).symm
    rw [es, eg] at i1
    rw [show f + 1 + (m + 1) = f + 1 + m + 1 by omega, sgX9_keptRivers_4, if_neg (show ¬ (3 : Int32) ≤ nI k from nI_ge (b := 3) (by omega) (by decide)), inb_t (show k < 3 by omega) (by omega), if_pos rfl, nI_clamp (by omega), nI_1]
    by_cases c : I 38 k = 0
    · rw [if_pos c] at i1
      rw [if_pos c]
      exact i1
    · rw [if_neg c] at i1
      rw [if_neg c]
      exact i1
theorem s_keptR (N d : Nat) (g : Nat → Nat) (I : Nat → Nat → Int32) (J : Nat → Nat → Int64) (hg : ∀ i, i < 3 → g i = if I 38 i = 0 then 0 else 1) : arun (N + 1000000) (d + 1) 135 [rv (some 0)] (I, J, 73, 80) = some (iv (nI (sumN g 3)), (I, J, 73, 80)) := by
  have l := l_keptR N d g I J hg 3 0 (N + 999995) (by omega)
  rw [show sumN g 0 = 0 from rfl, nI_0] at l
  rw [enX9_keptRivers, sgX9_keptRivers_0]
  exact l
theorem l_there (N d : Nat) (w : Int32) (g : Nat → Nat) (I : Nat → Nat → Int32) (J : Nat → Nat → Int64) (cd : Nat × Nat) (hs : ∀ (k f : Nat) (x : Int32), k < 6 → EX10_there (N + 1000000) d (f + 1) 4 [some (rv (some 87)), some (iv w), some (iv x), some (iv (nI k))] (I, J, cd) = EX10_there (N + 1000000) d f 4 [some (rv (some 87)), some (iv w), some (iv (x + nI (g k))), some (iv (nI (k + 1)))] (I, J, cd)) : ∀ (m k f : Nat), k + m = 6 → EX10_there (N + 1000000) d (f + 1 + m) 4 [some (rv (some 87)), some (iv w), some (iv (nI (sumN g k))), some (iv (nI k))] (I, J, cd) = some (iv (nI (sumN g 6)), (I, J, cd)) := by
  intro m
  induction m with
  | zero =>
    intro k f hk
    have : k = 6 := by omega
    subst this
    rw [Nat.add_zero, sgX10_there_4, if_pos (by decide)]
  | succ m ih =>
    intro k f hk
    have es : nI (sumN g k) + nI (g k) = nI (sumN g (k + 1)) := nI_add _ _
    rw [show f + 1 + (m + 1) = f + 1 + m + 1 by omega, hs k (f + 1 + m) _ (by omega), es]
    exact ih (k + 1) f (by omega)
theorem s_there (N d : Nat) (w : Int32) (g : Nat → Nat) (I : Nat → Nat → Int32) (J : Nat → Nat → Int64) (cd : Nat × Nat) (hs : ∀ (k f : Nat) (x : Int32), k < 6 → EX10_there (N + 1000000) d (f + 1) 4 [some (rv (some 87)), some (iv w), some (iv x), some (iv (nI k))] (I, J, cd) = EX10_there (N + 1000000) d f 4 [some (rv (some 87)), some (iv w), some (iv (x + nI (g k))), some (iv (nI (k + 1)))] (I, J, cd)) : arun (N + 1000000) (d + 1) 230 [rv (some 87), iv w] (I, J, cd) = some (iv (nI (sumN g 6)), (I, J, cd)) := by
  have l := l_there N d w g I J cd hs 6 0 (N + 999992) (by omega)
  rw [show sumN g 0 = 0 from rfl, nI_0] at l
  rw [enX10_there, sgX10_there_0]
  exact l
theorem s_there8 (N d : Nat) (g : Nat → Nat) (I : Nat → Nat → Int32) (J : Nat → Nat → Int64) (cd : Nat × Nat) (hg : ∀ i, i < 6 → g i = if 0 ≤ I 89 i then 1 else 0) : arun (N + 1000000) (d + 1) 230 [rv (some 87), iv 8] (I, J, cd) = some (iv (nI (sumN g 6)), (I, J, cd)) := by
  refine s_there N d 8 g I J cd (fun k f x hk => ?_)
  rw [sgX10_there_4, if_neg (show ¬ (6 : Int32) ≤ nI k from nI_ge (b := 6) (by omega) (by decide)), if_pos rfl, inb_t hk (by omega), if_pos rfl, nI_clamp (by omega), nI_1, hg k hk]
  by_cases c : 0 ≤ I 89 k
  · rw [if_pos c, if_pos c]; rfl
  · rw [if_neg c, if_neg c, if_neg (by decide), if_neg (by decide)]; rfl
theorem s_there9 (N d : Nat) (g : Nat → Nat) (I : Nat → Nat → Int32) (J : Nat → Nat → Int64) (cd : Nat × Nat) (hg : ∀ i, i < 6 → g i = if i < 4 ∧ 0 ≤ I 92 i then 1 else 0) : arun (N + 1000000) (d + 1) 230 [rv (some 87), iv 9] (I, J, cd) = some (iv (nI (sumN g 6)), (I, J, cd)) := by
  refine s_there N d 9 g I J cd (fun k f x hk => ?_)
  rw [sgX10_there_4, if_neg (show ¬ (6 : Int32) ≤ nI k from nI_ge (b := 6) (by omega) (by decide)), if_neg (by decide), if_pos rfl, hg k hk]
  by_cases h4 : k < 4
  · rw [if_neg (show ¬ (4 : Int32) ≤ nI k from nI_ge (b := 4) (by omega) (by decide)), inb_t h4 (by omega), if_pos rfl, nI_clamp (by omega), nI_1]
    by_cases c : 0 ≤ I 92 k
    · rw [if_pos c, if_pos ⟨h4, c⟩]; rfl
    · rw [if_neg c, if_neg (show ¬ (9 : Int32) = 10 by decide), if_neg (fun q => c q.2)]; rfl
  · rw [if_pos (show (4 : Int32) ≤ nI k from nI_le (a := 4) (by omega) (by omega)), if_neg (by decide), if_neg (fun q => h4 q.1), nI_1]; rfl
theorem s_there10 (N d : Nat) (g : Nat → Nat) (I : Nat → Nat → Int32) (J : Nat → Nat → Int64) (cd : Nat × Nat) (hg : ∀ i, i < 6 → g i = if i < 3 ∧ I 105 i = 1 then 1 else 0) : arun (N + 1000000) (d + 1) 230 [rv (some 87), iv 10] (I, J, cd) = some (iv (nI (sumN g 6)), (I, J, cd)) := by
  refine s_there N d 10 g I J cd (fun k f x hk => ?_)
  rw [sgX10_there_4, if_neg (show ¬ (6 : Int32) ≤ nI k from nI_ge (b := 6) (by omega) (by decide)), if_neg (by decide), if_neg (by decide), if_pos rfl, hg k hk]
  by_cases h3 : k < 3
  · rw [if_neg (show ¬ (3 : Int32) ≤ nI k from nI_ge (b := 3) (by omega) (by decide)), inb_t h3 (by omega), if_pos rfl, nI_clamp (by omega), nI_1]
    by_cases c : I 105 k = 1
    · rw [if_pos c, if_pos ⟨h3, c⟩]; rfl
    · rw [if_neg c, if_neg (fun q => c q.2)]; rfl
  · rw [if_pos (show (3 : Int32) ≤ nI k from nI_le (a := 3) (by omega) (by omega)), if_neg (fun q => h3 q.1), nI_1]; rfl
theorem l_tells (N d : Nat) (x1 : Int32) (g : Nat → Nat) {n : Nat} (hn : n ≤ 6) (I : Nat → Nat → Int32) (J : Nat → Nat → Int64) (cd : Nat × Nat) (h10 : I 87 10 = nI n) (hg : ∀ i, i < n → I 98 i = nI (g i)) : ∀ (m k f : Nat), k + m = n → EX10_tells (N + 1000000) d (f + 1 + m) 4 [some (rv (some 87)), some (iv x1), some (iv (nI (sumN g k))), some (iv (nI k))] (I, J, cd) = EX10_tells (N + 1000000) d (f + 1) 4 [some (rv (some 87)), some (iv x1), some (iv (nI (sumN g n))), some (iv (nI n))] (I, J, cd) := by
  intro m
  induction m with
  | zero =>
    intro k f hk
    have : k = n := by omega
    subst this
    rfl
  | succ m ih =>
    intro k f hk
    have es : nI (sumN g k) + nI (g k) = nI (sumN g (k + 1)) := nI_add _ _
    rw [show f + 1 + (m + 1) = f + 1 + m + 1 by omega, sgX10_tells_4, if_neg (by rw [h10]; exact nI_ge (by omega) (by omega)), inb_t (show k < 6 by omega) (by omega), if_pos rfl, nI_clamp (by omega), hg k (by omega), es, nI_1]
    exact ih (k + 1) f (by omega)
/-- what the counts are -/
def cntV (P : RP) (F : FS) (D : Nat) (g8 g9 g10 : Nat → Nat) : Nat → Int32
  | 0 => nI P.1
  | 1 => nI D
  | 2 => nI D
  | 3 => nI (sumN F.1 P.1)
  | 4 => nI (sumN F.2.2.2 7)
  | 5 => nI (sumN F.2.1 P.1)
  | 6 => nI (pc6 (gatN P))
  | 7 => nI (pc6 (milN P))
  | 8 => nI (sumN g8 6)
  | 9 => nI (sumN g9 6)
  | _ => nI (sumN g10 6)
theorem cnt_both {I : Nat → Nat → Int32} {J : Nat → Nat → Int64} (h : Rel I J) : ∃ v : Nat → Int32, ∀ k, k < 11 → ∀ (N d : Nat) (J' : Nat → Nat → Int64), arun (N + 1000000) (d + 5) 134 [rv (some 0), iv (nI k)] (I, J', 73, 80) = some (iv (v k), (I, J', 73, 80)) ∧ arun (N + 1000000) (d + 5) 231 [rv (some 87), iv (nI k)] (I, J', 73, 80) = some (iv (v k), (I, J', 73, 80)) := by
  obtain ⟨P, ow, F, D, kp, KD, hP, hC, h25, hFl, hRf, hz, hk⟩ := h.un3
  have hn := hP.1
  have hgt : gatN P < 64 := bitsN_64 _ hn
  have hmi : milN P < 64 := bitsN_64 _ hn
  have z3 : sumN F.1 6 = sumN F.1 P.1 := by
    have := sumN_z F.1 P.1 (fun i hi => (hz i hi).1) (6 - P.1)
    rwa [show P.1 + (6 - P.1) = 6 by omega] at this
  have z5 : sumN F.2.1 6 = sumN F.2.1 P.1 := by
    have := sumN_z F.2.1 P.1 (fun i hi => (hz i hi).2) (6 - P.1)
    rwa [show P.1 + (6 - P.1) = 6 by omega] at this
  have r8 : ∀ i, i < 6 → (0 ≤ I 89 i ↔ ¬ I 9 i = -1) := by
    intro i hi
    rcases h.1.2 i hi with ⟨a, b⟩ | ⟨n, hl, a, b, -⟩
    · rw [a, b]; decide
    · rw [a, b]; exact ⟨fun _ => n1n n (by omega), fun _ => nI_pos' (by omega)⟩
  have r9 : ∀ i, i < 4 → (0 ≤ I 92 i ↔ ¬ I 16 i = -1) := by
    intro i hi
    rcases h.2.1.2 i hi with ⟨a, b⟩ | ⟨n, hl, a, b, -⟩
    · rw [a, b]; decide
    · rw [a, b]; exact ⟨fun _ => n1n n (by omega), fun _ => nI_pos' (by omega)⟩
  have z9 : sumN (fun i => if i < 4 ∧ 0 ≤ I 92 i then 1 else 0) 6 = sumN (fun i => if i < 4 ∧ 0 ≤ I 92 i then 1 else 0) 4 := sumN_z _ 4 (fun i hi => if_neg (fun q => absurd q.1 (by omega))) 2
  have z10 : sumN (fun i => if i < 3 ∧ I 105 i = 1 then 1 else 0) 6 = sumN (fun i => if i < 3 ∧ I 105 i = 1 then 1 else 0) 3 := sumN_z _ 3 (fun i hi => if_neg (fun q => absurd q.1 (by omega))) 3
  refine ⟨cntV P F D (fun i => if 0 ≤ I 89 i then 1 else 0) (fun i => if i < 4 ∧ 0 ≤ I 92 i then 1 else 0) (fun i => if i < 3 ∧ I 105 i = 1 then 1 else 0), fun k hk11 N d J' => ?_⟩
  have tl : ∀ {q : Option RES}, EX10_tells (N + 1000000) (d + 4) (N + 999998 - P.1 + 1) 4 [some (rv (some 87)), some (iv (nI k)), some (iv (nI (sumN F.1 P.1))), some (iv (nI P.1))] (I, J', 73, 80) = q → arun (N + 1000000) (d + 5) 231 [rv (some 87), iv (nI k)] (I, J', 73, 80) = q := by
    intro q hq
    have l := l_tells N (d + 4) (nI k) F.1 hn I J' (73, 80) hRf.1 (fun i hi => (hRf.2.2.2.1 i hi).2.2.1) P.1 0 (N + 999998 - P.1) (by omega)
    rw [show sumN F.1 0 = 0 from rfl, nI_0, show N + 999998 - P.1 + 1 + P.1 = N + 999999 by omega] at l
    rw [enX10_tells, sgX10_tells_0, l]
    exact hq
  have c10 : I 87 10 ≤ nI P.1 := by rw [hRf.1]; exact Int32.le_refl _
  have cc : k = 0 ∨ k = 1 ∨ k = 2 ∨ k = 3 ∨ k = 4 ∨ k = 5 ∨ k = 6 ∨ k = 7 ∨ k = 8 ∨ k = 9 ∨ k = 10 := by omega
  rcases cc with rfl | rfl | rfl | rfl | rfl | rfl | rfl | rfl | rfl | rfl | rfl
  · refine ⟨?_, tl ?_⟩
    · rw [enX9_counted, sgX9_counted_0, if_pos (by decide)]
      rw [hC.1]; rfl
    · rw [sgX10_tells_4, if_pos c10, if_pos (by decide)]
      rw [hRf.1]; rfl
  · refine ⟨?_, tl ?_⟩
    · rw [enX9_counted, sgX9_counted_0, if_neg (by decide), if_pos (by decide)]
      rw [h25]; rfl
    · rw [sgX10_tells_4, if_pos c10, if_neg (by decide), if_pos (by decide)]
      rw [hRf.2.2.1]; rfl
  · refine ⟨?_, tl ?_⟩
    · rw [enX9_counted, sgX9_counted_0, if_neg (by decide), if_neg (by decide), if_pos (by decide)]
      rw [h25]; rfl
    · rw [sgX10_tells_4, if_pos c10, if_neg (by decide), if_neg (by decide), if_pos (by decide)]
      rw [hRf.2.2.1]; rfl
  · refine ⟨?_, tl ?_⟩
    · rw [enX9_counted, sgX9_counted_0, if_neg (by decide), if_neg (by decide), if_neg (by decide), if_pos (by decide)]
      rw [bI (s_sum_20 N (d + 3) F.1 I J' (73, 80) (fun i hi => (hFl.1 i hi).1))]
      try dsimp only
      try dsimp only
      rw [z3]; rfl
    · rw [sgX10_tells_4, if_pos c10, if_neg (by decide), if_neg (by decide), if_neg (by decide), if_pos (by decide)]
      rfl
  · refine ⟨?_, tl ?_⟩
    · rw [enX9_counted, sgX9_counted_0, if_neg (by decide), if_neg (by decide), if_neg (by decide), if_neg (by decide), if_pos (by decide)]
      rw [bI (s_sum_23 N (d + 3) F.2.2.2 I J' (73, 80) hFl.2)]
      try dsimp only
      rfl
    · rw [sgX10_tells_4, if_pos c10, if_neg (by decide), if_neg (by decide), if_neg (by decide), if_neg (by decide), if_pos (by decide)]
      rw [hRf.2.1]; rfl
  · refine ⟨?_, tl ?_⟩
    · rw [enX9_counted, sgX9_counted_0, if_neg (by decide), if_neg (by decide), if_neg (by decide), if_neg (by decide), if_neg (by decide), if_pos (by decide)]
      rw [bI (s_sum_21 N (d + 3) F.2.1 I J' (73, 80) (fun i hi => (hFl.1 i hi).2.1))]
      try dsimp only
      try dsimp only
      rw [z5]; rfl
    · rw [sgX10_tells_4, if_pos c10, if_neg (by decide), if_neg (by decide), if_neg (by decide), if_neg (by decide), if_neg (by decide), if_pos (by decide)]
      rw [bI (s_groundMany N (d + 3) hn _ _ _ hRf)]
      try dsimp only
      rfl
  · refine ⟨?_, tl ?_⟩
    · rw [enX9_counted, sgX9_counted_0, if_neg (by decide), if_neg (by decide), if_neg (by decide), if_neg (by decide), if_neg (by decide), if_neg (by decide), if_pos (by decide)]
      rw [hC.2.1, bI (s_bits N (d + 3) hgt _)]
      try dsimp only
      rfl
    · rw [sgX10_tells_4, if_pos c10, if_neg (by decide), if_neg (by decide), if_neg (by decide), if_neg (by decide), if_neg (by decide), if_neg (by decide), if_pos (by decide)]
      rw [bI (s_gateSet N (d + 2) hn (fun i hi => (hP.2.1 i hi).1) _ _ _ hRf.1 (fun i hi => (hRf.2.2.2.1 i hi).1))]
      try dsimp only
      try dsimp only
      rw [bI (s_bits10 N (d + 3) (show bitsN (fun i => isG (P.2.1 i)) P.1 < 64 from hgt) _)]
      try dsimp only
      rfl
  · refine ⟨?_, tl ?_⟩
    · rw [enX9_counted, sgX9_counted_0, if_neg (by decide), if_neg (by decide), if_neg (by decide), if_neg (by decide), if_neg (by decide), if_neg (by decide), if_neg (by decide), if_pos (by decide)]
      rw [hC.2.2.1, bI (s_bits N (d + 3) hmi _)]
      try dsimp only
      rfl
    · rw [sgX10_tells_4, if_pos c10, if_neg (by decide), if_neg (by decide), if_neg (by decide), if_neg (by decide), if_neg (by decide), if_neg (by decide), if_neg (by decide), if_pos (by decide)]
      rw [bI (s_millSet N (d + 2) hn (fun i hi => (hP.2.1 i hi).1) _ _ _ hRf.1 (fun i hi => (hRf.2.2.2.1 i hi).1))]
      try dsimp only
      try dsimp only
      rw [bI (s_bits10 N (d + 3) (show bitsN (fun i => isM (P.2.1 i)) P.1 < 64 from hmi) _)]
      try dsimp only
      rfl
  · refine ⟨?_, tl ?_⟩
    · rw [enX9_counted, sgX9_counted_0, if_neg (by decide), if_neg (by decide), if_neg (by decide), if_neg (by decide), if_neg (by decide), if_neg (by decide), if_neg (by decide), if_neg (by decide), if_pos (by decide)]
      rw [bI (s_howM_1 N (d + 1) (fun i => if 0 ≤ I 89 i then 1 else 0) I J' (73, 80) (fun i hi => by
        by_cases c : I 9 i = -1
        · rw [if_pos c]; exact if_neg (fun q => (r8 i hi).mp q c)
        · rw [if_neg c]; exact if_pos ((r8 i hi).mpr c)))]
      rfl
    · rw [sgX10_tells_4, if_pos c10, if_neg (by decide), if_neg (by decide), if_neg (by decide), if_neg (by decide), if_neg (by decide), if_neg (by decide), if_neg (by decide), if_neg (by decide)]
      rw [show nI 8 = (8 : Int32) from rfl, bI (s_there8 N (d + 3) _ I J' (73, 80) (fun i hi => rfl))]
      try dsimp only
      rfl
  · refine ⟨?_, tl ?_⟩
    · rw [enX9_counted, sgX9_counted_0, if_neg (by decide), if_neg (by decide), if_neg (by decide), if_neg (by decide), if_neg (by decide), if_neg (by decide), if_neg (by decide), if_neg (by decide), if_neg (by decide), if_pos (by decide)]
      rw [bI (s_howM_10 N (d + 1) (fun i => if i < 4 ∧ 0 ≤ I 92 i then 1 else 0) I J' (73, 80) (fun i hi => by
        by_cases c : I 16 i = -1
        · rw [if_pos c]; exact if_neg (fun q => (r9 i hi).mp q.2 c)
        · rw [if_neg c]; exact if_pos ⟨hi, (r9 i hi).mpr c⟩))]
      try dsimp only
      rw [← z9]; rfl
    · rw [sgX10_tells_4, if_pos c10, if_neg (by decide), if_neg (by decide), if_neg (by decide), if_neg (by decide), if_neg (by decide), if_neg (by decide), if_neg (by decide), if_neg (by decide)]
      rw [show nI 9 = (9 : Int32) from rfl, bI (s_there9 N (d + 3) _ I J' (73, 80) (fun i hi => rfl))]
      try dsimp only
      rfl
  · refine ⟨?_, tl ?_⟩
    · rw [enX9_counted, sgX9_counted_0, if_neg (by decide), if_neg (by decide), if_neg (by decide), if_neg (by decide), if_neg (by decide), if_neg (by decide), if_neg (by decide), if_neg (by decide), if_neg (by decide), if_neg (by decide)]
      rw [bI (s_keptR N (d + 3) (fun i => if i < 3 ∧ I 105 i = 1 then 1 else 0) I J' (fun i hi => by
        obtain ⟨a, b, -⟩ := hk i hi
        cases e : kp i with
        | true => rw [a, b, e]; simp [hi]
        | false => rw [a, b, e]; simp))]
      try dsimp only
      rw [← z10]; rfl
    · rw [sgX10_tells_4, if_pos c10, if_neg (by decide), if_neg (by decide), if_neg (by decide), if_neg (by decide), if_neg (by decide), if_neg (by decide), if_neg (by decide), if_neg (by decide)]
      rw [show nI 10 = (10 : Int32) from rfl, bI (s_there10 N (d + 3) _ I J' (73, 80) (fun i hi => rfl))]
      try dsimp only
      rfl
theorem op_count (x : Int32) : OK2 108 232 [iv x] := by
  intro N d I J h
  obtain ⟨v, hv⟩ := cnt_both h
  rcases ixc x 11 (by decide) with hx | ⟨k, hk, rfl⟩
  · refine ⟨iv (-1), I, J, I, J, ?_, ?_, h⟩
    · rw [enX9_count, sgX9_count_0]
      rcases hx with q | q
      · rw [if_pos q]
      · by_cases q0 : x < 0
        · rw [if_pos q0]
        · rw [if_neg q0, if_neg (show ¬ x < 11 from Int32.not_lt.mpr q)]
    · rw [enX10_count, sgX10_count_0, bI (s_in _ _ _ _ _ _)]
      try dsimp only
      try dsimp only
      rw [b2i_f (fun q => hx.elim q.1 (fun z => q.2 (i_le_lt (k := 10) (by decide) z))), if_pos rfl]
  · refine ⟨iv (v k), I, J, I, J, ?_, ?_, h⟩
    · rw [enX9_count, sgX9_count_0, if_neg (nI_pos (by omega)), if_pos (show nI k < 11 from nI_lt (b := 11) (by omega) (by decide)), bI (hv k hk N (d + 14) J).1]
      try dsimp only
    · rw [enX10_count, sgX10_count_0, bI (s_in _ _ _ _ _ _)]
      try dsimp only
      try dsimp only
      rw [b2i_t ⟨nI_pos (by omega), nI_nlt (a := 10) (by omega) (by omega)⟩, if_neg n10, bI (hv k hk N (d + 14) J).2]
      try dsimp only
