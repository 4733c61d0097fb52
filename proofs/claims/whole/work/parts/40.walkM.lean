/-! WALKS of the reference -/
theorem sub64 {P : RP} (hn : P.1 ≤ 6) {s : Nat} (h : s &&& gatN P = s) : s < 64 := by
  rw [← h]
  exact Nat.lt_of_le_of_lt Nat.and_le_right (bitsN_64 _ hn)
theorem subG {P : RP} {s : Nat} (h : s &&& gatN P = s) {i : Nat} (hi : i < P.1) (ht : s.testBit i = true) : isG (P.2.1 i) = true := by
  rw [← h, Nat.testBit_and, gatN, bitsN_test] at ht
  simp [hi] at ht
  exact ht.2
theorem s_has (N d : Nat) {s i : Nat} (hs : s < 64) (hi : i < 6) (A : AH) : arun (N + 1000000) (d + 1) 140 [iv (nI s), iv (nI i)] A = some (iv (if s.testBit i then 1 else 0), A) := by
  obtain ⟨I, J, cd⟩ := A
  rw [enX10_has, sgX10_has_0, sh_bit s hs i hi]
  cases s.testBit i with
  | true => rw [if_pos (by decide)]; rfl
  | false => rw [if_neg (by decide)]; rfl
theorem l_runs40 (N d n : Nat) {k m w i : Nat} (hi : i < 6) (hk : k ≤ 5) (hm : m ≤ 9) (hw : w ≤ 99) (I : Nat → Nat → Int32) (J : Nat → Nat → Int64) (cd : Nat × Nat) (h96 : I 96 i = nI k) (h97 : I 97 i = nI m) : EX10_runsFrom (N + 1000000) (d + 1) (n + 1) 40 [some (rv (some 87)), some (iv (nI i)), none, some (iv (nI w))] (I, J, cd) = some (iv (nI (runN k m w false)), (I, J, cd)) := by
  rw [sgX10_runsFrom_40]
  simp only [inb_t hi (show i < 2 ^ 31 by omega), nI_clamp (show i < 2 ^ 31 by omega), if_true, h96, h97]
  have e4 : (nI k = 4) = (k = 4) := neq (b := 4) (by omega) (by decide)
  have e5 : (nI w ≤ nI m) = (w ≤ m) := nle (by omega) (by omega)
  simp only [e4, e5, runN, Bool.false_eq_true, if_false]
  by_cases h : k = 4
  · rw [if_pos h]
    by_cases h5 : w ≤ m
    · rw [if_pos h5, if_neg (by omega)]
    · rw [if_neg h5, if_pos ⟨h, by omega⟩]
  · rw [if_neg h, if_neg (fun q => h q.1)]
theorem s_runsFrom (N d : Nat) {k m w i s : Nat} (hi : i < 6) (hs : s < 64) (hk : k ≤ 5) (hm : m ≤ 9) (hw : w ≤ 99) (hg : s.testBit i = true → isG k = true) (I : Nat → Nat → Int32) (J : Nat → Nat → Int64) (cd : Nat × Nat) (h96 : I 96 i = nI k) (h97 : I 97 i = nI m) (h98 : I 98 i = nI w) : arun (N + 1000000) (d + 2) 177 [rv (some 87), iv (nI i), iv (nI s)] (I, J, cd) = some (iv (nI (runN k m w (s.testBit i))), (I, J, cd)) := by
  rw [enX10_runsFrom, sgX10_runsFrom_0]
  simp only [inb_t hi (show i < 2 ^ 31 by omega), nI_clamp (show i < 2 ^ 31 by omega), if_true, h96, h97, h98]
  rw [bI (s_isGate _ _ hk _)]
  try dsimp only
  try dsimp only
  cases hb : s.testBit i with
  | true =>
    rw [hg hb, if_neg (by decide), bI (s_has _ _ hs hi _)]
    try dsimp only
    try dsimp only
    rw [hb, if_neg (by decide), bI (s_greater _ _ _ _ _)]
    try dsimp only
    try dsimp only
    rw [h97]
    have : mxI 0 (nI w - nI m) = nI (w - m) := by
      unfold mxI
      by_cases h : m < w
      · rw [pk_sub (by omega), if_pos (show (0 : Int32) < nI (w - m) from nI_lt (a := 0) (by omega) (by omega))]
      · by_cases h2 : w = m
        · subst h2; rw [pk_sub (by omega), Nat.sub_self]; rfl
        · have h3 : nI w - nI m < 0 := pk_sneg (by omega) (by omega)
          rw [if_neg (fun q => absurd (Int32.lt_trans q h3) (by decide)), Nat.sub_eq_zero_of_le (by omega)]; rfl
    rw [this]
    rfl
  | false =>
    cases hk2 : isG k with
    | true =>
      rw [if_neg (by decide), bI (s_has _ _ hs hi _)]
      try dsimp only
      try dsimp only
      rw [hb, if_pos (by decide), l_runs40 _ _ _ hi hk hm hw _ _ _ h96 h97]
    | false => rw [if_pos (by decide), l_runs40 _ _ _ hi hk hm hw _ _ _ h96 h97]
theorem s_grinds10 (N d : Nat) {k m r i : Nat} (hi : i < 6) (hk : k ≤ 5) (hm : m ≤ 9) (hr : r ≤ 99) (I : Nat → Nat → Int32) (J : Nat → Nat → Int64) (cd : Nat × Nat) (h96 : I 96 i = nI k) (h97 : I 97 i = nI m) : arun (N + 1000000) (d + 2) 178 [rv (some 87), iv (nI i), iv (nI r)] (I, J, cd) = some (iv (if grN k m r then 1 else 0), (I, J, cd)) := by
  rw [enX10_grindsBy, sgX10_grindsBy_0]
  simp only [inb_t hi (show i < 2 ^ 31 by omega), nI_clamp (show i < 2 ^ 31 by omega), if_true, h96]
  rw [bI (s_isMill _ _ hk _)]
  try dsimp only
  try dsimp only
  have e2 : (nI k = 2) = (k = 2) := neq (b := 2) (by omega) (by decide)
  have e1 : (nI r < nI m) = (r < m) := nlt (by omega) (by omega)
  have e3 : (nI m + 2 < nI r) = (m + 2 < r) := by
    rw [show nI m + 2 = nI (m + 2) from nI_add m 2]
    exact nlt (by omega) (by omega)
  simp only [h96, h97, e1, e2, e3]
  have c : k = 0 ∨ k = 1 ∨ k = 2 ∨ k = 3 ∨ k = 4 ∨ k = 5 := by omega
  rcases c with rfl | rfl | rfl | rfl | rfl | rfl
  · rfl
  · rfl
  · rw [if_neg (by decide)]
    by_cases h : r < m
    · simp [h, grN, show ¬ m ≤ r by omega]
    · simp [h, grN, show m ≤ r by omega]
  · rfl
  · rfl
  · rw [if_neg (by decide)]
    by_cases h : r < m
    · simp [h, grN, show ¬ m ≤ r by omega]
    · by_cases h' : m + 2 < r
      · simp [h, h', grN, show ¬ r ≤ m + 2 by omega]
      · simp [h, h', grN, show r ≤ m + 2 by omega, show m ≤ r by omega]
/-- the reference's RIVER is F, behind t DEEDS -/
def refAt (P : RP) (ow : Nat → Nat) (I : Nat → Nat → Int32) (F : FS) (t : Nat) : Prop := I 87 10 = nI P.1 ∧ I 87 18 = nI (sumN F.2.2.2 7) ∧ I 87 25 = nI t ∧ (∀ i, i < P.1 → I 96 i = nI (P.2.1 i) ∧ I 97 i = nI (P.2.2.1 i) ∧ I 98 i = nI (F.1 i) ∧ I 99 i = nI (F.2.1 i) ∧ I 100 i = nI (F.2.2.1 i)) ∧ (∀ d, d < 7 → I 94 d = nI (P.2.2.2.2 d) ∧ I 95 d = nI (ow d) ∧ I 101 d = nI (F.2.2.2 d))
/-- but for some fields, the reference's own object is as it was -/
def f87 (L : List Nat) (I B : Nat → Nat → Int32) : Prop := ∀ k, k ∉ L → B 87 k = I 87 k
theorem f87.rf {L : List Nat} {I : Nat → Nat → Int32} : f87 L I I := fun _ _ => rfl
theorem f87.tr {L : List Nat} {I B C : Nat → Nat → Int32} (h : f87 L I B) (k : f87 L B C) : f87 L I C := fun a ha => (k a ha).trans (h a ha)
theorem f87.w {L : List Nat} {I B : Nat → Nat → Int32} {i : Nat} {v : Int32} (h : f87 L I B) (hi : i ∈ L) : f87 L I (wr B 87 i v) := fun k hk => by
  have : k ≠ i := fun q => hk (q ▸ hi)
  rw [wr_nj this]
  exact h k hk
theorem f87.o {L : List Nat} {I B : Nat → Nat → Int32} {a i : Nat} {v : Int32} (h : f87 L I B) (ha : a ≠ 87) : f87 L I (wr B a i v) := fun k hk => by
  rw [wr_ne (Ne.symm ha)]
  exact h k hk
theorem f87.mo {L M : List Nat} {I B : Nat → Nat → Int32} (h : f87 L I B) (hs : ∀ a, a ∈ L → a ∈ M) : f87 M I B := fun a ha => h a (fun q => ha (hs a q))
theorem f87.fr {S L : List Nat} {I B : Nat → Nat → Int32} (h : fr S I B) (hs : 87 ∉ S) : f87 L I B := fun k _ => by rw [h 87 hs]
theorem l_pass1 (N d : Nat) {P : RP} (hP : okP P) {w : Nat → Nat} {s : Nat} (hs : s &&& gatN P = s) (hw : ∀ i, w i ≤ 99) (I : Nat → Nat → Int32) (J : Nat → Nat → Int64) (cd : Nat × Nat) (c0 : I 87 10 = nI P.1) (c1 : ∀ i, i < P.1 → I 96 i = nI (P.2.1 i) ∧ I 97 i = nI (P.2.2.1 i) ∧ I 98 i = nI (w i)) {t : Nat} (ht : t < 1000) (h25 : I 87 25 = nI t) :
    ∀ (m i f : Nat) (B : Nat → Nat → Int32), i + m = P.1 → fr [87, 108] I B → f87 [31] I B → B 87 31 = nI (bitsN (fun i => grdN P w s i) i) → (∀ j, j < i → B 108 j = nI (ranN P w s j)) → ∃ B', EX10_pass (N + 1000000) (d + 2) (f + 1 + m) 7 [some (rv (some 87)), some (iv (nI s)), some (iv (nI i)), none, none] (B, J, cd) = EX10_pass (N + 1000000) (d + 2) f 73 [some (rv (some 87)), none, some (iv (nI (t % 7))), some (iv 0), none] (B', J, cd) ∧ fr [87, 108] I B' ∧ f87 [31] I B' ∧ B' 87 31 = nI (gsN P w s) ∧ (∀ j, j < P.1 → B' 108 j = nI (ranN P w s j)) := by
  have hn := hP.1
  have hs6 := sub64 hn hs
  intro m
  induction m with
  | zero =>
    intro i f B hi hB hB7 hg hr
    have : i = P.1 := by omega
    subst this
    have e10 : B 87 10 = nI P.1 := by rw [hB7 10 (by decide)]; exact c0
    have e25 : B 87 25 = nI t := by rw [hB7 25 (by decide)]; exact h25
    have er : nI t - nI t / 7 * 7 = nI (t % 7) := pk_rem (d := 7) (by omega) (by omega) (by omega)
    refine ⟨B, ?_, hB, hB7, hg, hr⟩
    rw [Nat.add_zero, sgX10_pass_7, if_pos (by rw [e10]; exact Int32.le_refl _), e25, er]
  | succ m ih =>
    intro i f B hi hB hB7 hg hr
    have hil : i < P.1 := by omega
    have e10 : B 87 10 = nI P.1 := by rw [hB7 10 (by decide)]; exact c0
    have e96 : B 96 = I 96 := hB 96 (by decide)
    have e97 : B 97 = I 97 := hB 97 (by decide)
    have e98 : B 98 = I 98 := hB 98 (by decide)
    have k5 := hP.k hil
    have m9 := hP.m hil
    have w9 := hw i
    have hl := ranN_le P w s i
    have hb := bitsN_lt (fun i => grdN P w s i) i
    have hb6 := bitsN_64 (fun i => grdN P w s i) (n := i) (by omega)
    have st : EX10_pass (N + 1000000) (d + 2) (f + 1 + m + 1) 7 [some (rv (some 87)), some (iv (nI s)), some (iv (nI i)), none, none] (B, J, cd) = EX10_pass (N + 1000000) (d + 2) (f + 1 + m) 7 [some (rv (some 87)), some (iv (nI s)), some (iv (nI (i + 1))), none, none] (wr (wr B 108 i (nI (ranN P w s i))) 87 31 (nI (bitsN (fun i => grdN P w s i) (i + 1))), J, cd) := by
      rw [sgX10_pass_7, if_neg (by rw [e10]; exact nI_ge (by omega) (by omega)), bI (s_runsFrom _ _ (k := P.2.1 i) (m := P.2.2.1 i) (w := w i) (by omega) hs6 k5 m9 w9 (fun q => subG hs hil q) _ _ _ (by rw [e96]; exact (c1 i hil).1) (by rw [e97]; exact (c1 i hil).2.1) (by rw [e98]; exact (c1 i hil).2.2))]
      try dsimp only
      try dsimp only
      rw [show runN (P.2.1 i) (P.2.2.1 i) (w i) (s.testBit i) = ranN P w s i from rfl]
      simp only [inb_t (show i < 6 by omega) (show i < 2 ^ 31 by omega), nI_clamp (show i < 2 ^ 31 by omega), if_true, wr_eq]
      rw [bI (s_grinds10 _ _ (k := P.2.1 i) (m := P.2.2.1 i) (by omega) k5 m9 (by omega) _ _ _ (by rw [wr_ne (by decide), e96]; exact (c1 i hil).1) (by rw [wr_ne (by decide), e97]; exact (c1 i hil).2.1))]
      try dsimp only
      try dsimp only
      rw [show grN (P.2.1 i) (P.2.2.1 i) (ranN P w s i) = grdN P w s i from rfl, hg, nI_1]
      simp only [bitsN]
      have hcc : grdN P w s i = true ∨ grdN P w s i = false := by cases grdN P w s i <;> simp
      rcases hcc with hc | hc
      · rw [if_neg (by rw [hc]; decide), or_bit i (by omega) _ hb6 hb, if_pos hc]
      · rw [if_pos (by rw [hc]; decide), or_zero _ hb6, if_neg (by rw [hc]; decide)]; rfl
    rw [show f + 1 + (m + 1) = f + 1 + m + 1 by omega, st]
    refine ih (i + 1) f _ (by omega) ((hB.w (by simp)).w (by simp)) ((hB7.o (by decide)).w (by simp)) wr_eq (fun j hj => ?_)
    rw [wr_ne (by decide)]
    by_cases e : j = i
    · subst e; rw [wr_eq]
    · rw [wr_nj e]; exact hr j (by omega)
theorem sumN_ext {f g : Nat → Nat} : ∀ n, (∀ i, i < n → f i = g i) → sumN f n = sumN g n
  | 0, _ => rfl
  | n + 1, h => by simp only [sumN]; rw [sumN_ext n (fun i hi => h i (by omega)), h n (by omega)]
theorem sumN_add {f g : Nat → Nat} : ∀ n, sumN (fun i => f i + g i) n = sumN f n + sumN g n
  | 0 => rfl
  | n + 1 => by simp only [sumN]; rw [sumN_add n]; omega
theorem sumN_one {v c : Nat} : ∀ n, sumN (fun i => if i = v then c else 0) n = if v < n then c else 0
  | 0 => by simp [sumN]
  | n + 1 => by
    simp only [sumN]
    rw [sumN_one n]
    by_cases h : v < n
    · rw [if_pos h, if_neg (by omega), if_pos (by omega)]; rfl
    · by_cases e : v = n
      · subst e; simp
      · rw [if_neg h, if_neg (by omega), if_neg (by omega)]
theorem sea_sum (P : RP) (F : FS) (s rain : Nat) {v : Nat} (hv : v < 7) : sumN (stepN P F s rain v).2.2.2 7 = sumN F.2.2.2 7 + seaN P F.1 s := by
  show sumN (fun u => F.2.2.2 u + (if u = v then seaN P F.1 s else 0)) 7 = _
  rw [sumN_add, sumN_one, if_pos hv]
theorem l_pass2 (N d : Nat) {P : RP} (hP : okP P) (h0 : 0 < P.1) {F : FS} {s : Nat} (hw : ∀ i, F.1 i ≤ 99) {rain : Nat} (hrn : rain ≤ 9) {ow : Nat → Nat} (how : ∀ d, d < 7 → ow d ≤ 6) {t : Nat} (I : Nat → Nat → Int32) (J : Nat → Nat → Int64) (cd : Nat × Nat) (hA : refAt P ow I F t) (hg : I 87 31 = nI (gsN P F.1 s)) (hr : ∀ j, j < P.1 → I 108 j = nI (ranN P F.1 s j)) (hd : rain = if I 87 32 = nI (t % 7) then 0 else P.2.2.2.2 (t % 7)) :
    ∀ (m i f : Nat) (B : Nat → Nat → Int32), i + m = P.1 → fr [98, 99, 100] I B → (∀ j, j < P.1 → B 98 j = nI (if j < i then watN P F.1 s rain j else F.1 j) ∧ B 99 j = nI (F.2.1 j + (if j < i ∧ grdN P F.1 s j then 1 else 0)) ∧ B 100 j = nI (F.2.2.1 j + (if j < i then ranN P F.1 s j else 0))) → ∃ B', EX10_pass (N + 1000000) (d + 2) (f + 1 + 4 * m) 73 [some (rv (some 87)), none, some (iv (nI (t % 7))), some (iv (nI i)), none] (B, J, cd) = some (iv (nI (seaN P F.1 s)), (B', J, cd)) ∧ fr [87, 98, 99, 100, 101] I B' ∧ f87 [18, 25] I B' ∧ refAt P ow B' (stepN P F s rain (ow (t % 7))) (t + 1) := by
  have hn := hP.1
  have ht7 : t % 7 < 7 := Nat.mod_lt _ (by decide)
  have hg6 := bitsN_64 (fun i => grdN P F.1 s i) hn
  obtain ⟨a10, a18, a25, aR, aW⟩ := hA
  intro m
  induction m with
  | zero =>
    intro i f B hi hB hx
    have : i = P.1 := by omega
    subst this
    have e87 : B 87 = I 87 := hB 87 (by decide)
    have e95 : B 95 = I 95 := hB 95 (by decide)
    have e101 : B 101 = I 101 := hB 101 (by decide)
    have e108 : B 108 = I 108 := hB 108 (by decide)
    have ho : ow (t % 7) < 7 := by have := how _ ht7; omega
    have e1 : nI P.1 - 1 = nI (P.1 - 1) := pk_sub (b := 1) (by omega)
    have es : I 108 (P.1 - 1) = nI (seaN P F.1 s) := hr _ (by omega)
    refine ⟨wr (wr (wr B 87 18 (nI (sumN F.2.2.2 7) + nI (seaN P F.1 s))) 101 (ow (t % 7)) (nI (F.2.2.2 (ow (t % 7))) + nI (seaN P F.1 s))) 87 25 (nI t + 1), ?_, ?_, ?_, ?_⟩
    · rw [sgX10_pass_73, if_pos (by rw [e87, a10]; exact Int32.le_refl _)]
      simp only [e87, e95, e101, e108, a10, a18, a25, e1, (aW _ ht7).2.1, (aW _ ho).2.2, inb_t (show P.1 - 1 < 6 by omega) (show P.1 - 1 < 2 ^ 31 by omega), nI_clamp (show P.1 - 1 < 2 ^ 31 by omega), inb_t ht7 (show t % 7 < 2 ^ 31 by omega), nI_clamp (show t % 7 < 2 ^ 31 by omega), inb_t ho (show ow (t % 7) < 2 ^ 31 by omega), nI_clamp (show ow (t % 7) < 2 ^ 31 by omega), if_true, es]
    · exact ((((hB.mo (by intro a; simp <;> omega)).w (by simp)).w (by simp)).w (by simp))
    · exact ((((f87.fr hB (by decide)).w (by simp)).o (by decide)).w (by simp))
    · refine ⟨?_, ?_, ?_, ?_, ?_⟩
      · rw [wr_nj (by decide), wr_ne (by decide), wr_nj (by decide), e87]; exact a10
      · rw [wr_nj (by decide), wr_ne (by decide), wr_eq, sea_sum _ _ _ _ ho, nI_add]
      · rw [wr_eq, nI_1]
      · intro j hj
        simp only [wr_ne (show 96 ≠ 87 by decide), wr_ne (show 96 ≠ 101 by decide), wr_ne (show 97 ≠ 87 by decide), wr_ne (show 97 ≠ 101 by decide), wr_ne (show 98 ≠ 87 by decide), wr_ne (show 98 ≠ 101 by decide), wr_ne (show 99 ≠ 87 by decide), wr_ne (show 99 ≠ 101 by decide), wr_ne (show 100 ≠ 87 by decide), wr_ne (show 100 ≠ 101 by decide), hB 96 (by decide), hB 97 (by decide)]
        have q := hx j hj
        rw [if_pos hj, if_pos hj] at q
        refine ⟨(aR j hj).1, (aR j hj).2.1, q.1, q.2.1, ?_⟩
        rw [q.2.2]
        show _ = nI (F.2.2.1 j + (if j < P.1 then ranN P F.1 s j else 0))
        rw [if_pos hj]
      · intro u hu
        simp only [wr_ne (show 94 ≠ 87 by decide), wr_ne (show 94 ≠ 101 by decide), wr_ne (show 95 ≠ 87 by decide), wr_ne (show 95 ≠ 101 by decide), wr_ne (show 101 ≠ 87 by decide), hB 94 (by decide), e95]
        refine ⟨(aW u hu).1, (aW u hu).2.1, ?_⟩
        show _ = nI (F.2.2.2 u + (if u = ow (t % 7) then seaN P F.1 s else 0))
        by_cases e : u = ow (t % 7)
        · rw [e, wr_eq, if_pos rfl, nI_add]
        · rw [wr_nj e, wr_ne (by decide), e101, (aW u hu).2.2, if_neg e, Nat.add_zero]
  | succ m ih =>
    intro i f B hi hB hx
    have hil : i < P.1 := by omega
    have e87 : B 87 = I 87 := hB 87 (by decide)
    have e94 : B 94 = I 94 := hB 94 (by decide)
    have e96 : B 96 = I 96 := hB 96 (by decide)
    have e108 : B 108 = I 108 := hB 108 (by decide)
    have k5 := hP.k hil
    have w9 := hw i
    have hl := ranN_le P F.1 s i
    have q := hx i hil
    simp only [Nat.lt_irrefl, false_and, if_false, Nat.add_zero] at q
    have i6 : i < 6 := by omega
    have i31 : i < 2 ^ 31 := by omega
    have hcm : comeN P F.1 s rain i ≤ 99 := by
      unfold comeN
      split
      · omega
      · exact Nat.le_trans (ranN_le P F.1 s (i - 1)) (hw _)
    have r1 : ∀ f, EX10_pass (N + 1000000) (d + 2) (f + 1) 73 [some (rv (some 87)), none, some (iv (nI (t % 7))), some (iv (nI i)), none] (B, J, cd) = EX10_pass (N + 1000000) (d + 2) f 130 [some (rv (some 87)), none, some (iv (nI (t % 7))), some (iv (nI i)), some (iv (nI (F.1 i - ranN P F.1 s i + comeN P F.1 s rain i)))] (B, J, cd) := by
      intro f
      rw [sgX10_pass_73, if_neg (by rw [e87, a10]; exact nI_ge hil (by omega))]
      simp only [inb_t i6 i31, nI_clamp i31, if_true, e87, e94, e108, q.1, hr i hil, pk_sub hl, inb_t ht7 (show t % 7 < 2 ^ 31 by omega), nI_clamp (show t % 7 < 2 ^ 31 by omega)]
      by_cases hz : i = 0
      · subst hz
        rw [if_pos (by decide), show comeN P F.1 s rain 0 = rain from rfl]
        by_cases hdr : nI (t % 7) = I 87 32
        · rw [if_pos hdr]
          rw [if_pos hdr.symm] at hd
          rw [hd, Int32.add_zero]; rfl
        · rw [if_neg hdr, (aW _ ht7).1, nI_add]
          rw [if_neg (fun z => hdr z.symm)] at hd
          rw [← hd]
      · have e1 : nI i - 1 = nI (i - 1) := pk_sub (b := 1) (by omega)
        rw [if_neg (nI_nle (by omega) i31), e1]
        simp only [inb_t (show i - 1 < 6 by omega) (show i - 1 < 2 ^ 31 by omega), nI_clamp (show i - 1 < 2 ^ 31 by omega), if_true, hr (i - 1) (by omega), nI_add]
        rw [comeN, if_neg hz]
    have r2 : ∀ f u, u ≤ 300 → EX10_pass (N + 1000000) (d + 2) (f + 1 + 1) 130 [some (rv (some 87)), none, some (iv (nI (t % 7))), some (iv (nI i)), some (iv (nI u))] (B, J, cd) = EX10_pass (N + 1000000) (d + 2) f 175 [some (rv (some 87)), none, some (iv (nI (t % 7))), some (iv (nI i)), none] (wr B 98 i (nI (setN (P.2.1 i) u)), J, cd) := by
      intro f u hu
      have h3 : ∀ v, v ≤ 300 → EX10_pass (N + 1000000) (d + 2) (f + 1) 155 [some (rv (some 87)), none, some (iv (nI (t % 7))), some (iv (nI i)), some (iv (nI v))] (B, J, cd) = EX10_pass (N + 1000000) (d + 2) f 175 [some (rv (some 87)), none, some (iv (nI (t % 7))), some (iv (nI i)), none] (wr B 98 i (nI (min 99 v)), J, cd) := by
        intro v hv
        rw [sgX10_pass_155]
        simp only [inb_t i6 i31, nI_clamp i31, if_true]
        by_cases h9 : v ≤ 99
        · rw [if_pos (show nI v ≤ 99 from nI_le (b := 99) h9 (by decide)), Nat.min_eq_right h9]
        · rw [if_neg (show ¬ nI v ≤ 99 from nI_ge (a := 99) (by omega) (by omega)), Nat.min_eq_left (by omega)]; rfl
      have ek : (nI (P.2.1 i) = 3) = (P.2.1 i = 3) := neq (b := 3) (by omega) (by decide)
      rw [sgX10_pass_130]
      simp only [inb_t i6 i31, nI_clamp i31, if_true, e96, (aR i hil).1, ek, setN]
      by_cases hk : P.2.1 i = 3
      · rw [if_pos hk, if_pos hk]
        by_cases hu0 : u = 0
        · subst hu0
          rw [if_pos (by decide), show nI 0 - 0 = nI 0 from rfl, h3 0 (by omega)]
        · rw [if_neg (nI_nle (by omega) (by omega)), show nI u - 1 = nI (u - 1) from pk_sub (b := 1) (by omega), h3 _ (by omega)]
      · rw [if_neg hk, if_neg hk, show nI u - 0 = nI u from Int32.sub_zero _, h3 _ hu]
    have r3 : ∀ f, EX10_pass (N + 1000000) (d + 2) (f + 1) 175 [some (rv (some 87)), none, some (iv (nI (t % 7))), some (iv (nI i)), none] (wr B 98 i (nI (watN P F.1 s rain i)), J, cd) = EX10_pass (N + 1000000) (d + 2) f 73 [some (rv (some 87)), none, some (iv (nI (t % 7))), some (iv (nI (i + 1))), none] (wr (wr (wr B 98 i (nI (watN P F.1 s rain i))) 99 i (nI (F.2.1 i + (if grdN P F.1 s i then 1 else 0)))) 100 i (nI (F.2.2.1 i + ranN P F.1 s i)), J, cd) := by
      intro f
      have htb : (gsN P F.1 s).testBit i = grdN P F.1 s i := by
        rw [gsN, bitsN_test]; simp [hil]
      have hgi : (if grdN P F.1 s i then (1 : Int32) else 0) = nI (if grdN P F.1 s i then 1 else 0) := by
        cases grdN P F.1 s i <;> rfl
      rw [sgX10_pass_175]
      simp only [inb_t i6 i31, nI_clamp i31, if_true, wr_ne (show 87 ≠ 98 by decide), wr_ne (show 99 ≠ 98 by decide), wr_ne (show 100 ≠ 98 by decide), wr_ne (show 108 ≠ 98 by decide), wr_ne (show 100 ≠ 99 by decide), wr_ne (show 108 ≠ 99 by decide), e87, e108, hg, hr i hil, q.2.1, q.2.2, sh_bit (gsN P F.1 s) hg6 i i6, htb, hgi, nI_add, nI_1]
    have hwt : setN (P.2.1 i) (F.1 i - ranN P F.1 s i + comeN P F.1 s rain i) = watN P F.1 s rain i := by rw [watN, if_pos hil]
    rw [show f + 1 + 4 * (m + 1) = f + 1 + 4 * m + 1 + 1 + 1 + 1 by omega, r1, r2 _ _ (by omega), hwt, r3]
    refine ih (i + 1) f _ (by omega) (((hB.w (by simp)).w (by simp)).w (by simp)) (fun j hj => ?_)
    have qj := hx j hj
    simp only [wr_ne (show 98 ≠ 100 by decide), wr_ne (show 98 ≠ 99 by decide), wr_ne (show 99 ≠ 100 by decide)]
    by_cases e : j = i
    · subst e
      rw [wr_eq, wr_eq, wr_eq]
      simp [show j < j + 1 by omega]
    · rw [wr_nj e, wr_nj e, wr_nj e, wr_ne (show 99 ≠ 98 by decide), wr_ne (show 100 ≠ 99 by decide), wr_ne (show 100 ≠ 98 by decide), qj.1, qj.2.1, qj.2.2]
      by_cases e2 : j < i
      · simp [e2, show j < i + 1 by omega]
      · simp [e2, show ¬ j < i + 1 by omega]
theorem refAt.eq {P : RP} {ow : Nat → Nat} {I B : Nat → Nat → Int32} {F : FS} {t : Nat} (h : refAt P ow I F t) (e : ∀ a, 94 ≤ a → a ≤ 101 → B a = I a) (e10 : B 87 10 = I 87 10) (e18 : B 87 18 = I 87 18) (e25 : B 87 25 = I 87 25) : refAt P ow B F t := by
  obtain ⟨a10, a18, a25, aR, aW⟩ := h
  refine ⟨e10.trans a10, e18.trans a18, e25.trans a25, fun i hi => ?_, fun u hu => ?_⟩
  · rw [e 96 (by omega) (by omega), e 97 (by omega) (by omega), e 98 (by omega) (by omega), e 99 (by omega) (by omega), e 100 (by omega) (by omega)]
    exact aR i hi
  · rw [e 94 (by omega) (by omega), e 95 (by omega) (by omega), e 101 (by omega) (by omega)]
    exact aW u hu
/-- the reference's DAY -/
theorem s_pass (N d : Nat) {P : RP} (hP : okP P) (h0 : 0 < P.1) {F : FS} {s : Nat} (hs : s &&& gatN P = s) (hw : ∀ i, F.1 i ≤ 99) {rain : Nat} {ow : Nat → Nat} (how : ∀ d, d < 7 → ow d ≤ 6) {t : Nat} (ht : t < 1000) (I : Nat → Nat → Int32) (J : Nat → Nat → Int64) (cd : Nat × Nat) (hA : refAt P ow I F t) (hd : rain = if I 87 32 = nI (t % 7) then 0 else P.2.2.2.2 (t % 7)) :
    ∃ B', arun (N + 1000000) (d + 3) 179 [rv (some 87), iv (nI s)] (I, J, cd) = some (iv (nI (seaN P F.1 s)), (B', J, cd)) ∧ fr [87, 98, 99, 100, 101, 108] I B' ∧ f87 [18, 25, 31] I B' ∧ refAt P ow B' (stepN P F s rain (ow (t % 7))) (t + 1) ∧ B' 87 31 = nI (gsN P F.1 s) := by
  have hn := hP.1
  have ht7 : t % 7 < 7 := Nat.mod_lt _ (by decide)
  have hrn : rain ≤ 9 := by
    rw [hd]
    split
    · omega
    · exact hP.2.2.1 _ ht7
  obtain ⟨B1, r1, f1, g1, h31, h108⟩ := l_pass1 N d hP hs hw (wr I 87 31 0) J cd (by rw [wr_nj (by decide)]; exact hA.1) (fun i hi => by rw [wr_ne (by decide), wr_ne (by decide), wr_ne (by decide)]; exact ⟨(hA.2.2.2.1 i hi).1, (hA.2.2.2.1 i hi).2.1, (hA.2.2.2.1 i hi).2.2.1⟩) ht (by rw [wr_nj (by decide)]; exact hA.2.2.1) P.1 0 (N + 999999 - 1 - P.1) (wr I 87 31 0) (by omega) fr.rf f87.rf wr_eq (fun j hj => absurd hj (by omega))
  have g1' : f87 [31] I B1 := (f87.rf.w (by simp)).tr g1
  have f1' : fr [87, 108] I B1 := (fr.rf.w (by simp)).tr f1
  have hA1 : refAt P ow B1 F t := hA.eq (fun a h1 h2 => f1' a (by simp; omega)) (g1' 10 (by decide)) (g1' 18 (by decide)) (g1' 25 (by decide))
  obtain ⟨B', r2, f2, g2, hA2⟩ := l_pass2 N d hP h0 hw hrn how B1 J cd hA1 h31 h108 (by rw [g1' 32 (by decide)]; exact hd) P.1 0 (N + 999999 - 1 - P.1 - 1 - 4 * P.1) B1 (by omega) fr.rf (fun j hj => by simp; exact ⟨(hA1.2.2.2.1 j hj).2.2.1, (hA1.2.2.2.1 j hj).2.2.2.1, (hA1.2.2.2.1 j hj).2.2.2.2⟩)
  rw [nI_0] at r1 r2
  refine ⟨B', ?_, ?_, ?_, hA2, ?_⟩
  · rw [enX10_pass, sgX10_pass_0, show N + 999999 = N + 999999 - 1 - P.1 + 1 + P.1 by omega, r1]
    rw [show N + 999999 - 1 - P.1 = N + 999999 - 1 - P.1 - 1 - 4 * P.1 + 1 + 4 * P.1 by omega, r2]
  · exact (f1'.mo (by intro a; simp <;> omega)).tr (f2.mo (by intro a; simp <;> omega))
  · exact (g1'.mo (by intro a; simp <;> omega)).tr (g2.mo (by intro a; simp <;> omega))
  · rw [g2 31 (by decide)]; exact h31
