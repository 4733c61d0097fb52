/-! all PLANS, by number: the sets that can be SHUT, a PLAN's sets, laid into a row -/
def mS (P : RP) : Nat := (setsN P).length
def stN (P : RP) (k : Nat) : Nat := (setsN P).getD k 0
theorem stN_at {P : RP} {k : Nat} (h : k < (setsN P).length) : (setsN P)[k] = stN P k := by
  rw [stN, List.getD_eq_getElem?_getD, List.getElem?_eq_getElem h]; rfl
theorem stN_ok {P : RP} {k : Nat} (h : k < mS P) : stN P k &&& gatN P = stN P k := by
  have : (setsN P)[k]'h ∈ setsN P := List.getElem_mem h
  rw [stN_at h] at this
  have := (List.mem_filter.mp this).2
  simpa using this
theorem stN_okk (P : RP) (k : Nat) : stN P k &&& gatN P = stN P k := by
  by_cases h : k < mS P
  · exact stN_ok h
  · rw [stN, List.getD_eq_getElem?_getD, List.getElem?_eq_none (by unfold mS at h; omega)]
    exact Nat.zero_and _
/-- the sets below s -/
def preS (g s : Nat) : List Nat := (List.range s).filter (fun x => x &&& g = x)
theorem preS_s (g s : Nat) : preS g (s + 1) = if s &&& g = s then preS g s ++ [s] else preS g s := by
  unfold preS
  rw [List.range_succ, List.filter_append]
  by_cases h : s &&& g = s
  · simp [h]
  · simp [h]
theorem preS_mono (g s : Nat) : ∀ k, (preS g s).length ≤ (preS g (s + k)).length
  | 0 => Nat.le_refl _
  | k + 1 => by
    have := preS_mono g s k
    rw [← Nat.add_assoc, preS_s]
    split
    · rw [List.length_append]; omega
    · exact this
theorem preS_end {g : Nat} : ∀ k, preS g (g + 1 + k) = preS g (g + 1)
  | 0 => rfl
  | k + 1 => by
    rw [← Nat.add_assoc, preS_s, if_neg, preS_end k]
    intro h
    have : (g + 1 + k) &&& g ≤ g := Nat.and_le_right
    omega
theorem preS_all {P : RP} (hn : P.1 ≤ 6) : preS (gatN P) (gatN P + 1) = setsN P := by
  have h : gatN P < 64 := bitsN_64 _ hn
  have := preS_end (g := gatN P) (63 - gatN P)
  rw [show gatN P + 1 + (63 - gatN P) = 64 by omega] at this
  rw [← this]; rfl
theorem preS_le {P : RP} (hP : okP P) {s : Nat} (hs : s ≤ gatN P + 1) : (preS (gatN P) s).length ≤ mS P := by
  have := preS_mono (gatN P) s (gatN P + 1 - s)
  rw [show s + (gatN P + 1 - s) = gatN P + 1 by omega, preS_all hP.1] at this
  exact this
theorem mS_le {P : RP} (hP : okP P) : mS P ≤ 8 := hP.2.2.2
theorem mS_pos {P : RP} (hn : P.1 ≤ 6) : 0 < mS P := by
  have : (0 : Nat) ∈ setsN P := List.mem_filter.mpr ⟨List.mem_range.mpr (by decide), by simp⟩
  exact List.length_pos_of_mem this
theorem CSn {P : RP} (hn : P.1 ≤ 6) {s : Nat} (hs : s < 2 ^ 31) : CS (gatN P) (nI s) ↔ s &&& gatN P = s := by
  constructor
  · intro h
    obtain ⟨s', h6, e, h'⟩ := h.of hn
    have : s = s' := nI_inj hs (by omega) e
    rw [this]; exact h'
  · exact fun h => CS.in hn h
theorem get_app {l : List Nat} {a : Nat} {k : Nat} (h : k < (l ++ [a]).length) : (l ++ [a])[k] = if h' : k < l.length then l[k] else a := by
  by_cases c : k < l.length
  · rw [dif_pos c, List.getElem_append_left c]
  · rw [dif_neg c, List.getElem_append_right (by omega)]
    simp
theorem l_setSets (N d : Nat) {P : RP} (hP : okP P) (I : Nat → Nat → Int32) (J : Nat → Nat → Int64) (cd : Nat × Nat) : ∀ (m s f : Nat) (B : Nat → Nat → Int32), s + m = gatN P + 1 → m < f → fr [87, 109] I B → f87 [34] I B → B 87 34 = nI (preS (gatN P) s).length → (∀ k (h : k < (preS (gatN P) s).length), B 109 k = nI ((preS (gatN P) s)[k])) → ∃ B', EX10_setSets (N + 1000000) d f 12 [some (rv (some 87)), some (iv (nI (gatN P))), some (iv (nI s))] (B, J, cd) = some (rv none, (B', J, cd)) ∧ fr [87, 109] I B' ∧ f87 [34] I B' ∧ B' 87 34 = nI (mS P) ∧ (∀ k, k < mS P → B' 109 k = nI (stN P k)) := by
  have hn := hP.1
  have hg : gatN P < 64 := bitsN_64 _ hn
  intro m
  induction m with
  | zero =>
    intro s f B hs hf hB hB7 hc hx
    have : s = gatN P + 1 := by omega
    subst this
    obtain ⟨g, rfl⟩ : ∃ g, f = g + 1 := ⟨f - 1, by omega⟩
    rw [preS_all hn] at hc
    refine ⟨B, by rw [sgX10_setSets_12, if_pos (nI_lt (by omega) (by omega))], hB, hB7, hc, fun k hk => ?_⟩
    have := hx k (by rw [preS_all hn]; exact hk)
    rw [this, ← stN_at hk]
    congr 2
    exact preS_all hn
  | succ m ih =>
    intro s f B hs hf hB hB7 hc hx
    obtain ⟨g, rfl⟩ : ∃ g, f = g + 1 := ⟨f - 1, by omega⟩
    have hl8 := mS_le hP
    rw [sgX10_setSets_12, if_neg (nI_nlt (by omega) (by omega)), nI_1]
    by_cases c : s &&& gatN P = s
    · have hle := preS_le hP (s := s + 1) (by omega)
      have es : preS (gatN P) (s + 1) = preS (gatN P) s ++ [s] := by rw [preS_s, if_pos c]
      rw [es, List.length_append] at hle
      have hlt : (preS (gatN P) s).length < 8 := by simp at hle; omega
      rw [if_pos (show CS (gatN P) (nI s) from CS.in hn c), hc, inb_t hlt (by omega), if_pos rfl, nI_clamp (by omega), nI_1]
      refine ih (s + 1) g _ (by omega) (by omega) ((hB.w (by simp)).w (by simp)) ((hB7.o (by decide)).w (by simp)) (by rw [wr_eq, es, List.length_append]; rfl) (fun k hk => ?_)
      have hk' : k < (preS (gatN P) s ++ [s]).length := by rw [← es]; exact hk
      have eg : (preS (gatN P) (s + 1))[k] = (preS (gatN P) s ++ [s])[k] := by congr 1
      rw [eg, get_app hk', wr_ne (by decide)]
      by_cases e : k = (preS (gatN P) s).length
      · rw [e, wr_eq, dif_neg (by omega)]
      · rw [List.length_append] at hk'
        simp at hk'
        have hkl : k < (preS (gatN P) s).length := by omega
        rw [wr_nj e, dif_pos hkl]
        exact hx k hkl
    · have es : preS (gatN P) (s + 1) = preS (gatN P) s := by rw [preS_s, if_neg c]
      rw [if_neg (show ¬ CS (gatN P) (nI s) from fun q => c ((CSn hn (by omega)).mp q))]
      refine ih (s + 1) g _ (by omega) (by omega) hB hB7 (by rw [es]; exact hc) (fun k hk => ?_)
      have hk' : k < (preS (gatN P) s).length := by rw [← es]; exact hk
      rw [hx k hk']
      congr 2
      exact es.symm
theorem s_setSets (N d : Nat) {P : RP} (hP : okP P) {ow : Nat → Nat} {F : FS} {t : Nat} (I : Nat → Nat → Int32) (J : Nat → Nat → Int64) (cd : Nat × Nat) (hA : refAt P ow I F t) :
    ∃ B, arun (N + 1000000) (d + 3) 200 [rv (some 87)] (I, J, cd) = some (rv none, (B, J, cd)) ∧ fr [87, 109] I B ∧ f87 [34] I B ∧ B 87 34 = nI (mS P) ∧ (∀ k, k < mS P → B 109 k = nI (stN P k)) := by
  have hn := hP.1
  have hg : gatN P < 64 := bitsN_64 _ hn
  obtain ⟨B, r, f, g, e, x⟩ := l_setSets N (d + 2) hP I J cd (gatN P + 1) 0 (N + 999999) (wr I 87 34 0) (by omega) (by omega) (fr.rf.w (by simp)) (f87.rf.w (by simp)) wr_eq (fun k hk => absurd hk (by simp [preS]))
  rw [nI_0] at r
  refine ⟨B, ?_, f, g, e, x⟩
  rw [enX10_setSets, sgX10_setSets_0, bI (s_gate _ _ hP _ _ _ hA.1 (fun i hi => (hA.2.2.2.1 i hi).1))]
  try dsimp only
  exact r
/-- the reference knows the sets -/
def msAt (P : RP) (I : Nat → Nat → Int32) : Prop := I 87 34 = nI (mS P) ∧ ∀ k, k < mS P → I 109 k = nI (stN P k)
/-- what a PLAN's number says for day k of n -/
def plN (P : RP) (n j k : Nat) : Nat := stN P (j / mS P ^ (n - 1 - k) % mS P)
theorem plN_ok {P : RP} (n j k : Nat) : plN P n j k &&& gatN P = plN P n j k := stN_okk P _
theorem plN_pre {P : RP} {n j k i : Nat} (hi : i < k) (hk : k ≤ n) : plN P n j i = plN P k (j / mS P ^ (n - k)) i := by
  unfold plN
  rw [Nat.div_div_eq_div_mul, ← Nat.pow_add, show n - k + (k - 1 - i) = n - 1 - i by omega]
theorem pw8 {m n : Nat} (hm : m ≤ 8) (hn : n ≤ 4) : m ^ n ≤ 4096 := by
  have h1 : m ^ n ≤ 8 ^ n := Nat.pow_le_pow_left hm n
  have h2 : 8 ^ n ≤ 8 ^ 4 := Nat.pow_le_pow_right (by decide) hn
  have : (8 : Nat) ^ 4 = 4096 := by decide
  omega
theorem l_setOf (N d : Nat) {P : RP} (hP : okP P) {k : Nat} (hk : k < 4) (I : Nat → Nat → Int32) (J : Nat → Nat → Int64) (cd : Nat × Nat) (hm : msAt P I) : ∀ (r x f : Nat), k + r < 100 → x < 2 ^ 20 → EX10_setOf (N + 1000000) d (f + 1 + r) 8 [some (rv (some 87)), none, none, some (iv (nI k)), some (iv (nI x)), some (iv (nI (k + r)))] (I, J, cd) = some (iv (nI (stN P (x / mS P ^ r % mS P))), (I, J, cd)) := by
  have h8 := mS_le hP
  have h1 := mS_pos hP.1
  have hz : ¬ I 87 34 = 0 := by rw [hm.1]; exact nI_ne0 h1 (by omega)
  intro r
  induction r with
  | zero =>
    intro x f hr hx
    have hl : x % mS P < mS P := Nat.mod_lt _ h1
    rw [Nat.add_zero, sgX10_setOf_8, if_pos (show nI (k + 0) ≤ nI k from Int32.le_refl _), if_neg hz, hm.1, pk_rem (by omega) h1 (by omega), inb_t (show x % mS P < 8 by omega) (by omega), if_pos rfl, nI_clamp (by omega), hm.2 _ hl, Nat.pow_zero, Nat.div_one]
  | succ r ih =>
    intro x f hr hx
    have hd : x / mS P ≤ x := Nat.div_le_self _ _
    rw [show f + 1 + (r + 1) = f + 1 + r + 1 by omega, sgX10_setOf_8, if_neg (nI_ge (by omega) (by omega)), if_neg hz, hm.1, pk_div (by omega) h1 (by omega), show k + (r + 1) = k + r + 1 by omega, pk_m1, ih (x / mS P) f (by omega) (by omega), Nat.div_div_eq_div_mul, Nat.pow_succ, Nat.mul_comm (mS P ^ r)]
theorem s_setOf (N d : Nat) {P : RP} (hP : okP P) {n j k : Nat} (hk : k < n) (hn : n ≤ 4) (hj : j < 2 ^ 20) (I : Nat → Nat → Int32) (J : Nat → Nat → Int64) (cd : Nat × Nat) (hm : msAt P I) : arun (N + 1000000) (d + 1) 202 [rv (some 87), iv (nI j), iv (nI n), iv (nI k)] (I, J, cd) = some (iv (nI (plN P n j k)), (I, J, cd)) := by
  have l := l_setOf N d hP (k := k) (by omega) I J cd hm (n - 1 - k) j (N + 999998 - (n - 1 - k)) (by omega) hj
  rw [enX10_setOf, sgX10_setOf_0, show nI n - 1 = nI (n - 1) from pk_sub (b := 1) (by omega), show N + 999999 = N + 999998 - (n - 1 - k) + 1 + (n - 1 - k) by omega]
  rw [show k + (n - 1 - k) = n - 1 by omega] at l
  exact l
theorem l_plans (N d : Nat) {P : RP} (hP : okP P) {n : Nat} (hn : n ≤ 4) (I : Nat → Nat → Int32) (J : Nat → Nat → Int64) (cd : Nat × Nat) (hm : msAt P I) : ∀ (m k f : Nat), k + m = n → EX10_plans (N + 1000000) d (f + 1 + m) 4 [some (rv (some 87)), some (iv (nI n)), some (iv (nI (mS P ^ k))), some (iv (nI k))] (I, J, cd) = some (iv (nI (mS P ^ n)), (I, J, cd)) := by
  intro m
  induction m with
  | zero =>
    intro k f hk
    have : k = n := by omega
    subst this
    rw [Nat.add_zero, sgX10_plans_4, if_pos (Int32.le_refl _)]
  | succ m ih =>
    intro k f hk
    rw [show f + 1 + (m + 1) = f + 1 + m + 1 by omega, sgX10_plans_4, if_neg (nI_ge (by omega) (by omega)), hm.1, pk_mul, nI_1, ← Nat.pow_succ]
    exact ih (k + 1) f (by omega)
theorem s_plans (N d : Nat) {P : RP} (hP : okP P) {n : Nat} (hn : n ≤ 4) (I : Nat → Nat → Int32) (J : Nat → Nat → Int64) (cd : Nat × Nat) (hm : msAt P I) : arun (N + 1000000) (d + 1) 201 [rv (some 87), iv (nI n)] (I, J, cd) = some (iv (nI (mS P ^ n)), (I, J, cd)) := by
  have l := l_plans N d hP hn I J cd hm n 0 (N + 999998 - n) (by omega)
  rw [nI_0] at l
  rw [enX10_plans, sgX10_plans_0, show N + 999999 = N + 999998 - n + 1 + n by omega]
  exact l
theorem msAt.eq {P : RP} {I B : Nat → Nat → Int32} (h : msAt P I) (e : B 109 = I 109) (e4 : B 87 34 = I 87 34) : msAt P B := ⟨e4.trans h.1, by rw [e]; exact h.2⟩
theorem l_layPlan (N d : Nat) {P : RP} (hP : okP P) {n j r : Nat} (hn : n ≤ 4) (hj : j < 2 ^ 20) (hr : r < 6) (I : Nat → Nat → Int32) (J : Nat → Nat → Int64) (cd : Nat × Nat) (hm : msAt P I) : ∀ (m k f : Nat) (B : Nat → Nat → Int32), k + m = 40 → fr [90] I B → (∀ i, i < k → B 90 (40 * r + i) = if i < n then nI (plN P n j i) else 0) → (∀ i, i < 40 * r ∨ 40 * r + k ≤ i → B 90 i = I 90 i) → ∃ B', EX10_layPlan (N + 1000000) (d + 1) (f + 1 + m) 10 [some (rv (some 87)), some (iv (nI j)), some (iv (nI n)), some (iv (nI r)), some (iv (nI k))] (B, J, cd) = some (rv none, (B', J, cd)) ∧ fr [90] I B' ∧ (∀ i, i < 40 → B' 90 (40 * r + i) = if i < n then nI (plN P n j i) else 0) ∧ (∀ i, i < 40 * r ∨ 40 * r + 40 ≤ i → B' 90 i = I 90 i) := by
  intro m
  induction m with
  | zero =>
    intro k f B hk hB hx ho
    have : k = 40 := by omega
    subst this
    exact ⟨B, by rw [Nat.add_zero, sgX10_layPlan_10, if_pos (by decide)], hB, hx, ho⟩
  | succ m ih =>
    intro k f B hk hB hx ho
    have hmB : msAt P B := hm.eq (hB 109 (by decide)) (by rw [hB 87 (by decide)])
    have st : EX10_layPlan (N + 1000000) (d + 1) (f + 1 + m + 1) 10 [some (rv (some 87)), some (iv (nI j)), some (iv (nI n)), some (iv (nI r)), some (iv (nI k))] (B, J, cd) = EX10_layPlan (N + 1000000) (d + 1) (f + 1 + m) 10 [some (rv (some 87)), some (iv (nI j)), some (iv (nI n)), some (iv (nI r)), some (iv (nI (k + 1)))] (wr B 90 (40 * r + k) (if k < n then nI (plN P n j k) else 0), J, cd) := by
      rw [sgX10_layPlan_10, if_neg (show ¬ (40 : Int32) ≤ nI k from nI_ge (b := 40) (by omega) (by decide))]
      by_cases c : k < n
      · rw [if_neg (nI_ge c (by omega)), bI (s_setOf _ _ hP c hn hj _ _ _ hmB)]
        try dsimp only
        try dsimp only
        rw [bV (s_setRow _ _ hr (by omega) _ _ _ _)]
        try dsimp only
        try dsimp only
        rw [if_pos c, nI_1]
      · rw [if_pos (nI_le (by omega) (by omega)), bV (s_setRow _ _ hr (by omega) _ _ _ _)]
        try dsimp only
        try dsimp only
        rw [if_neg c, nI_1]
    rw [show f + 1 + (m + 1) = f + 1 + m + 1 by omega, st]
    refine ih (k + 1) f _ (by omega) (hB.w (by simp)) (fun i hi => ?_) (fun i hi => ?_)
    · by_cases e : i = k
      · subst e; rw [wr_eq]
      · rw [wr_nj (by omega)]; exact hx i (by omega)
    · rw [wr_nj (by omega)]; exact ho i (by omega)
theorem s_layPlan (N d : Nat) {P : RP} (hP : okP P) {n j r : Nat} (hn : n ≤ 4) (hj : j < 2 ^ 20) (hr : r < 6) (I : Nat → Nat → Int32) (J : Nat → Nat → Int64) (cd : Nat × Nat) (hm : msAt P I) :
    ∃ B, arun (N + 1000000) (d + 2) 203 [rv (some 87), iv (nI j), iv (nI n), iv (nI r)] (I, J, cd) = some (rv none, (B, J, cd)) ∧ fr [89, 90] I B ∧ B 89 r = nI n ∧ (∀ i, i ≠ r → B 89 i = I 89 i) ∧ (∀ i, i < 40 → B 90 (40 * r + i) = if i < n then nI (plN P n j i) else 0) ∧ (∀ i, i < 40 * r ∨ 40 * r + 40 ≤ i → B 90 i = I 90 i) := by
  have hm1 : msAt P (wr I 89 r (nI n)) := hm.eq (wr_ne (by decide)) (by rw [wr_ne (by decide)])
  obtain ⟨B, e, f, x, o⟩ := l_layPlan N d hP hn hj hr (wr I 89 r (nI n)) J cd hm1 40 0 (N + 999958) _ (by omega) fr.rf (fun i hi => absurd hi (by omega)) (fun i _ => rfl)
  rw [nI_0] at e
  refine ⟨B, ?_, (fr.rf.w (by simp)).tr (f.mo (by intro a; simp <;> omega)), ?_, fun i hi => ?_, x, fun i hi => ?_⟩
  · rw [enX10_layPlan, sgX10_layPlan_0, inb_t hr (by omega), if_pos rfl, nI_clamp (by omega)]
    exact e
  · rw [f 89 (by decide), wr_eq]
  · rw [f 89 (by decide), wr_nj hi]
  · rw [o i hi, wr_ne (by decide)]
theorem pc6_t : ∀ s, s < 64 → sumN (fun k => if s.testBit k then 1 else 0) 6 = pc6 s := by decide +kernel
theorem l_bits (N d : Nat) {s : Nat} (hs : s < 64) (I : Nat → Nat → Int32) (J : Nat → Nat → Int64) (cd : Nat × Nat) : ∀ (m k f : Nat), k + m = 6 → EX10_bits (N + 1000000) d (f + 1 + m) 4 [some (iv (nI s)), some (iv (nI (sumN (fun k => if s.testBit k then 1 else 0) k))), some (iv (nI k))] (I, J, cd) = some (iv (nI (pc6 s)), (I, J, cd)) := by
  intro m
  induction m with
  | zero =>
    intro k f hk
    have : k = 6 := by omega
    subst this
    rw [Nat.add_zero, sgX10_bits_4, if_pos (by decide), pc6_t s hs]
  | succ m ih =>
    intro k f hk
    have := ih (k + 1) f (by omega)
    have e : (if s.testBit k then (1 : Int32) else 0) = nI (if s.testBit k then 1 else 0) := by cases s.testBit k <;> rfl
    rw [show f + 1 + (m + 1) = f + 1 + m + 1 by omega, sgX10_bits_4, if_neg (show ¬ (6 : Int32) ≤ nI k from nI_ge (b := 6) (by omega) (by decide)), sh_bit s hs k (by omega), e, nI_add, nI_1]
    exact this
theorem s_bits10 (N d : Nat) {s : Nat} (hs : s < 64) (A : AH) : arun (N + 1000000) (d + 1) 204 [iv (nI s)] A = some (iv (nI (pc6 s)), A) := by
  obtain ⟨I, J, cd⟩ := A
  have l := l_bits N d hs I J cd 6 0 (N + 999992) (by omega)
  rw [nI_0] at l
  rw [enX10_bits, sgX10_bits_0]
  exact l
-- the class's rows: taken, given
theorem l_take (N d : Nat) {j n : Nat} (hj : j < 6) (hn : n ≤ 4) (I : Nat → Nat → Int32) (J : Nat → Nat → Int64) (cd : Nat × Nat) (h9 : I 9 j = nI n) : ∀ (m k f : Nat) (B : Nat → Nat → Int32), k + m = n → fr [3 + j] I B → (∀ i, i < k → B (3 + j) i = I 50 i) → ∃ B', EX8_take (N + 1000000) (d + 3) (f + 1 + m) 10 [some (rv (some 1)), some (iv (nI j)), some (rv (some 50)), some (iv (nI n)), some (iv (nI k))] (B, J, cd) = some (rv none, (B', J, cd)) ∧ fr [3 + j] I B' ∧ (∀ i, i < n → B' (3 + j) i = I 50 i) := by
  intro m
  induction m with
  | zero =>
    intro k f B hk hB hx
    have : k = n := by omega
    subst this
    exact ⟨B, by rw [Nat.add_zero, sgX8_take_10, if_pos (Int32.le_refl _)], hB, hx⟩
  | succ m ih =>
    intro k f B hk hB hx
    rw [show f + 1 + (m + 1) = f + 1 + m + 1 by omega, sgX8_take_10, if_neg (nI_ge (by omega) (by omega)), if_neg (nI_ge (by omega) (by omega)), inb_t (show k < 4 by omega) (by omega), if_pos rfl, nI_clamp (by omega), bV (s_change_1 _ _ hj _ _ _ _ (by rw [hB 9 (by simp; omega)]; exact h9) (by omega) (by omega))]
    try dsimp only
    try dsimp only
    rw [nI_1, hB 50 (by simp; omega)]
    refine ih (k + 1) f _ (by omega) (hB.w (by simp)) (fun i hi => ?_)
    by_cases e : i = k
    · subst e; rw [wr_eq]
    · rw [wr_nj e]; exact hx i (by omega)
theorem s_take (N d : Nat) {j n : Nat} (hj : j < 6) (hn : n ≤ 4) (I : Nat → Nat → Int32) (J : Nat → Nat → Int64) (cd : Nat × Nat) (hlim : I 1 0 = nI 40) :
    ∃ B, arun (N + 1000000) (d + 4) 60 [rv (some 1), iv (nI j), rv (some 50), iv (nI n)] (I, J, cd) = some (rv none, (B, J, cd)) ∧ fr [9, 3 + j] I B ∧ B 9 j = nI n ∧ (∀ i, i ≠ j → B 9 i = I 9 i) ∧ (∀ i, i < n → B (3 + j) i = I 50 i) := by
  have f1 : fr [9, 3 + j] I (wrC (wr I 9 j (nI n)) (3 + j) (fillF (I (3 + j)) n 0)) := (fr.rf.w (by simp)).wC (by simp)
  have e9 : wrC (wr I 9 j (nI n)) (3 + j) (fillF (I (3 + j)) n 0) 9 = wr I 9 j (nI n) 9 := by rw [wrC_at, if_neg (by omega)]
  obtain ⟨B, r, f, x⟩ := l_take N d hj hn _ J cd (by rw [e9, wr_eq]) n 0 (N + 999998 - n) (wrC (wr I 9 j (nI n)) (3 + j) (fillF (I (3 + j)) n 0)) (by omega) fr.rf (fun i hi => absurd hi (by omega))
  rw [nI_0] at r
  refine ⟨B, ?_, f1.tr (f.mo (by intro a; simp <;> omega)), ?_, fun i hi => ?_, fun i hi => ?_⟩
  · rw [enX8_take, sgX8_take_0, bV (s_make_1 _ _ hj (by omega) _ _ _ _ hlim)]
    try dsimp only
    try dsimp only
    rw [show N + 999999 = N + 999998 - n + 1 + n by omega]
    exact r
  · rw [f 9 (by simp; omega), e9, wr_eq]
  · rw [f 9 (by simp; omega), e9, wr_nj hi]
  · rw [x i hi, f1 50 (by simp; omega)]

theorem l_give_49 (N d : Nat) {j n : Nat} (hj : j < 6) (hn : n ≤ 4) (I : Nat → Nat → Int32) (J : Nat → Nat → Int64) (cd : Nat × Nat) (h9 : I 9 j = nI n) : ∀ (m k f : Nat) (B : Nat → Nat → Int32), k + m = n → fr [49] I B → (∀ i, i < k → B 49 i = I (3 + j) i) → ∃ B', EX8_giveTo (N + 1000000) (d + 2) (f + 1 + m) 2 [some (rv (some 1)), some (iv (nI j)), some (rv (some 49)), some (iv (nI k))] (B, J, cd) = some (rv none, (B', J, cd)) ∧ fr [49] I B' ∧ (∀ i, i < n → B' 49 i = I (3 + j) i) := by
  intro m
  induction m with
  | zero =>
    intro k f B hk hB hx
    have : k = n := by omega
    subst this
    refine ⟨B, ?_, hB, hx⟩
    rw [Nat.add_zero, sgX8_giveTo_49_2, bI (s_sizeOfN_1 _ _ hj _ _ _ (by rw [hB 9 (by decide)]; exact h9) (by omega))]
    try dsimp only
    try dsimp only
    rw [if_pos (Int32.le_refl _)]
  | succ m ih =>
    intro k f B hk hB hx
    rw [show f + 1 + (m + 1) = f + 1 + m + 1 by omega, sgX8_giveTo_49_2, bI (s_sizeOfN_1 _ _ hj _ _ _ (by rw [hB 9 (by decide)]; exact h9) (by omega))]
    try dsimp only
    try dsimp only
    rw [if_neg (nI_ge (by omega) (by omega)), if_neg (nI_ge (by omega) (by omega)), inb_t hj (by omega), if_pos rfl, nI_clamp (show j < 2 ^ 31 by omega), RF_2 _ hj, Option.bind_some, al_2 j hj, inb_t (show k < 40 by omega) (by omega), if_pos rfl, inb_t (show k < 4 by omega) (by omega), if_pos rfl, nI_clamp (show k < 2 ^ 31 by omega), nI_1, hB (3 + j) (by simp; omega)]
    refine ih (k + 1) f _ (by omega) (hB.w (by simp)) (fun i hi => ?_)
    by_cases e : i = k
    · subst e; rw [wr_eq]
    · rw [wr_nj e]; exact hx i (by omega)
theorem s_give_49 (N d : Nat) {j n : Nat} (hj : j < 6) (hn : n ≤ 4) (I : Nat → Nat → Int32) (J : Nat → Nat → Int64) (cd : Nat × Nat) (h9 : I 9 j = nI n) :
    ∃ B, arun (N + 1000000) (d + 3) 61 [rv (some 1), iv (nI j), rv (some 49)] (I, J, cd) = some (rv none, (B, J, cd)) ∧ fr [49] I B ∧ (∀ i, i < n → B 49 i = I (3 + j) i) := by
  obtain ⟨B, r, f, x⟩ := l_give_49 N d hj hn I J cd h9 n 0 (N + 999998 - n) I (by omega) fr.rf (fun i hi => absurd hi (by omega))
  rw [nI_0] at r
  refine ⟨B, ?_, f, x⟩
  rw [enX8_giveTo, sgX8_giveTo_49_0, show N + 999999 = N + 999998 - n + 1 + n by omega]
  exact r

theorem l_give_62 (N d : Nat) {j n : Nat} (hj : j < 6) (hn : n ≤ 4) (I : Nat → Nat → Int32) (J : Nat → Nat → Int64) (cd : Nat × Nat) (h9 : I 9 j = nI n) : ∀ (m k f : Nat) (B : Nat → Nat → Int32), k + m = n → fr [62] I B → (∀ i, i < k → B 62 i = I (3 + j) i) → ∃ B', EX8_giveTo (N + 1000000) (d + 2) (f + 1 + m) 2 [some (rv (some 1)), some (iv (nI j)), some (rv (some 62)), some (iv (nI k))] (B, J, cd) = some (rv none, (B', J, cd)) ∧ fr [62] I B' ∧ (∀ i, i < n → B' 62 i = I (3 + j) i) := by
  intro m
  induction m with
  | zero =>
    intro k f B hk hB hx
    have : k = n := by omega
    subst this
    refine ⟨B, ?_, hB, hx⟩
    rw [Nat.add_zero, sgX8_giveTo_62_2, bI (s_sizeOfN_1 _ _ hj _ _ _ (by rw [hB 9 (by decide)]; exact h9) (by omega))]
    try dsimp only
    try dsimp only
    rw [if_pos (Int32.le_refl _)]
  | succ m ih =>
    intro k f B hk hB hx
    rw [show f + 1 + (m + 1) = f + 1 + m + 1 by omega, sgX8_giveTo_62_2, bI (s_sizeOfN_1 _ _ hj _ _ _ (by rw [hB 9 (by decide)]; exact h9) (by omega))]
    try dsimp only
    try dsimp only
    rw [if_neg (nI_ge (by omega) (by omega)), if_neg (nI_ge (by omega) (by omega)), inb_t hj (by omega), if_pos rfl, nI_clamp (show j < 2 ^ 31 by omega), RF_2 _ hj, Option.bind_some, al_2 j hj, inb_t (show k < 40 by omega) (by omega), if_pos rfl, inb_t (show k < 4 by omega) (by omega), if_pos rfl, nI_clamp (show k < 2 ^ 31 by omega), nI_1, hB (3 + j) (by simp; omega)]
    refine ih (k + 1) f _ (by omega) (hB.w (by simp)) (fun i hi => ?_)
    by_cases e : i = k
    · subst e; rw [wr_eq]
    · rw [wr_nj e]; exact hx i (by omega)
theorem s_give_62 (N d : Nat) {j n : Nat} (hj : j < 6) (hn : n ≤ 4) (I : Nat → Nat → Int32) (J : Nat → Nat → Int64) (cd : Nat × Nat) (h9 : I 9 j = nI n) :
    ∃ B, arun (N + 1000000) (d + 3) 61 [rv (some 1), iv (nI j), rv (some 62)] (I, J, cd) = some (rv none, (B, J, cd)) ∧ fr [62] I B ∧ (∀ i, i < n → B 62 i = I (3 + j) i) := by
  obtain ⟨B, r, f, x⟩ := l_give_62 N d hj hn I J cd h9 n 0 (N + 999998 - n) I (by omega) fr.rf (fun i hi => absurd hi (by omega))
  rw [nI_0] at r
  refine ⟨B, ?_, f, x⟩
  rw [enX8_giveTo, sgX8_giveTo_62_0, show N + 999999 = N + 999998 - n + 1 + n by omega]
  exact r

theorem l_give_18 (N d : Nat) {j n : Nat} (hj : j < 4) (hn : n ≤ 60) (I : Nat → Nat → Int32) (J : Nat → Nat → Int64) (cd : Nat × Nat) (h9 : I 16 j = nI n) : ∀ (m k f : Nat) (B : Nat → Nat → Int32), k + m = n → fr [18] I B → (∀ i, i < k → B 18 i = I (12 + j) i) → ∃ B', EX8_giveTo (N + 1000000) (d + 2) (f + 1 + m) 2 [some (rv (some 10)), some (iv (nI j)), some (rv (some 18)), some (iv (nI k))] (B, J, cd) = some (rv none, (B', J, cd)) ∧ fr [18] I B' ∧ (∀ i, i < n → B' 18 i = I (12 + j) i) := by
  intro m
  induction m with
  | zero =>
    intro k f B hk hB hx
    have : k = n := by omega
    subst this
    refine ⟨B, ?_, hB, hx⟩
    rw [Nat.add_zero, sgX8_giveTo_18_2, bI (s_sizeOfN_10 _ _ hj _ _ _ (by rw [hB 16 (by decide)]; exact h9) (by omega))]
    try dsimp only
    try dsimp only
    rw [if_pos (Int32.le_refl _)]
  | succ m ih =>
    intro k f B hk hB hx
    rw [show f + 1 + (m + 1) = f + 1 + m + 1 by omega, sgX8_giveTo_18_2, bI (s_sizeOfN_10 _ _ hj _ _ _ (by rw [hB 16 (by decide)]; exact h9) (by omega))]
    try dsimp only
    try dsimp only
    rw [if_neg (nI_ge (by omega) (by omega)), if_neg (nI_ge (by omega) (by omega)), inb_t hj (by omega), if_pos rfl, nI_clamp (show j < 2 ^ 31 by omega), RF_11 _ hj, Option.bind_some, al_11 j hj, inb_t (show k < 60 by omega) (by omega), if_pos rfl, if_pos rfl, nI_clamp (show k < 2 ^ 31 by omega), nI_1, hB (12 + j) (by simp; omega)]
    refine ih (k + 1) f _ (by omega) (hB.w (by simp)) (fun i hi => ?_)
    by_cases e : i = k
    · subst e; rw [wr_eq]
    · rw [wr_nj e]; exact hx i (by omega)
theorem s_give_18 (N d : Nat) {j n : Nat} (hj : j < 4) (hn : n ≤ 60) (I : Nat → Nat → Int32) (J : Nat → Nat → Int64) (cd : Nat × Nat) (h9 : I 16 j = nI n) :
    ∃ B, arun (N + 1000000) (d + 3) 61 [rv (some 10), iv (nI j), rv (some 18)] (I, J, cd) = some (rv none, (B, J, cd)) ∧ fr [18] I B ∧ (∀ i, i < n → B 18 i = I (12 + j) i) := by
  obtain ⟨B, r, f, x⟩ := l_give_18 N d hj hn I J cd h9 n 0 (N + 999998 - n) I (by omega) fr.rf (fun i hi => absurd hi (by omega))
  rw [nI_0] at r
  refine ⟨B, ?_, f, x⟩
  rw [enX8_giveTo, sgX8_giveTo_18_0, show N + 999999 = N + 999998 - n + 1 + n by omega]
  exact r
