/-! BREAKING: the class -/
theorem l_powX (N d : Nat) {b e : Nat} (hb : b < 2 ^ 31) (he : e ≤ 6) (I : Nat → Nat → Int32) (J : Nat → Nat → Int64) (cd : Nat × Nat) : ∀ (m k f : Nat), k + m = e → EX1_power (N + 1000000) d (f + 1 + m) 5 [some (iv (nI b)), some (iv (nI e)), some (jv (lN (b ^ k))), none, some (iv (nI k))] (I, J, cd) = some (jv (lN (b ^ e)), (I, J, cd)) := by
  intro m
  induction m with
  | zero =>
    intro k f hk
    have : k = e := by omega
    subst this
    rw [Nat.add_zero, sgX1_power_5, if_pos (Int32.le_refl _)]
  | succ m ih =>
    intro k f hk
    rw [show f + 1 + (m + 1) = f + 1 + m + 1 by omega, sgX1_power_5, if_neg (nI_ge (by omega) (by omega)), if_neg (show ¬ (6 : Int32) ≤ nI k from nI_ge (b := 6) (by omega) (by decide)), nI_l hb, lN_mul, ← Nat.pow_succ, nI_1]
    exact ih (k + 1) f (by omega)
theorem s_powX (N d : Nat) {b e : Nat} (hb : b < 2 ^ 31) (he : e ≤ 6) (A : AH) : arun (N + 1000000) (d + 1) 14 [iv (nI b), iv (nI e)] A = some (jv (lN (b ^ e)), A) := by
  obtain ⟨I, J, cd⟩ := A
  have l := l_powX N d hb he I J cd e 0 (N + 999998 - e) (by omega)
  rw [Nat.pow_zero, show lN 1 = (1 : Int64) from rfl, nI_0, show N + 999998 - e + 1 + e = N + 999999 by omega] at l
  rw [enX1_power, sgX1_power_0]
  exact l
theorem l_powM (N d : Nat) {b e : Nat} (he : e ≤ 40) (I : Nat → Nat → Int32) (J : Nat → Nat → Int64) (cd : Nat × Nat) : ∀ (m k f : Nat), k + m = e → EX10_power (N + 1000000) d (f + 1 + m) 5 [some (jv (lN b)), none, some (iv (nI e)), some (jv (lN (b ^ k))), none, some (iv (nI k))] (I, J, cd) = some (jv (lN (b ^ e)), (I, J, cd)) := by
  intro m
  induction m with
  | zero =>
    intro k f hk
    have : k = e := by omega
    subst this
    rw [Nat.add_zero, sgX10_power_5, if_pos (Int32.le_refl _)]
  | succ m ih =>
    intro k f hk
    rw [show f + 1 + (m + 1) = f + 1 + m + 1 by omega, sgX10_power_5, if_neg (nI_ge (by omega) (by omega)), lN_mul, ← Nat.pow_succ, nI_1]
    exact ih (k + 1) f (by omega)
theorem s_powM (N d : Nat) {b e : Nat} (he : e ≤ 40) (A : AH) : arun (N + 1000000) (d + 1) 222 [jv (lN b), iv (nI e)] A = some (jv (lN (b ^ e)), A) := by
  obtain ⟨I, J, cd⟩ := A
  have l := l_powM N d (b := b) he I J cd e 0 (N + 999998 - e) (by omega)
  rw [Nat.pow_zero, show lN 1 = (1 : Int64) from rfl, nI_0, show N + 999998 - e + 1 + e = N + 999999 by omega] at l
  rw [enX10_power, sgX10_power_0]
  exact l
theorem dn_all : ∀ s, s < 64 → ∀ h, h < 64 → nI s &&& (nI h ^^^ -1) = nI (dnN s h) := by decide +kernel
theorem dn_lt {s h : Nat} (hs : s < 64) : dnN s h < 64 := Nat.lt_of_le_of_lt Nat.and_le_left hs
theorem s_weight (N d : Nat) {p s h : Nat} (hp : p ≤ 12) (hs : s < 64) (hh : h < 64) (B : Nat → Nat → Int32) (J : Nat → Nat → Int64) (cd : Nat × Nat) (h6 : B 61 6 = nI p) : arun (N + 1000000) (d + 2) 13 [rv (some 61), iv (nI s), iv (nI h)] (B, J, cd) = some (jv (lN (wtN p s h)), (B, J, cd)) := by
  have ci := can_iff hs (nI h)
  have e12 : (12 : Int32) - nI p = nI (12 - p) := pk_sub (a := 12) hp
  rw [enX1_weightOf, sgX1_weightOf_0]
  by_cases c : h &&& s = h
  · rw [if_pos (ci.mpr ⟨h, hh, rfl, c⟩), bI (s_bits N d hh _)]
    try dsimp only
    try dsimp only
    rw [h6, e12, bJ (s_powX N d (show 12 - p < 2 ^ 31 by omega) (pc6_le h) _)]
    try dsimp only
    try dsimp only
    rw [dn_all s hs h hh, bI (s_bits N d (dn_lt hs) _)]
    try dsimp only
    try dsimp only
    rw [h6, bJ (s_powX N d (show p < 2 ^ 31 by omega) (pc6_le _) _)]
    try dsimp only
    try dsimp only
    rw [lN_mul, wtN, if_pos c]
  · rw [if_neg (fun w => by
      obtain ⟨s', h64, e, h'⟩ := ci.mp w
      have : h = s' := nI_inj (by omega) (by omega) e
      subst this
      exact c h'), wtN, if_neg c]
    rfl
def seT (P : RP) (ow : Nat → Nat) (t : Nat) (F : FS) (hh : Nat → Nat) (k : Nat) : Nat := sumN (fun i => seaD P ow t F hh i) k
def V1 (P : RP) (ow : Nat → Nat) (t : Nat) (F : FS) (n : Nat) (hh : Nat → Nat) : Nat := seT P ow t F hh n
def V2 (P : RP) (ow : Nat → Nat) (t : Nat) (F : FS) (n og : Nat) (hh : Nat → Nat) : Nat := if og ≤ gtN P ow t F hh n then 1 else 0
theorem seT_ext (P : RP) (ow : Nat → Nat) (t : Nat) (F : FS) {hh hh' : Nat → Nat} {k : Nat} (h : ∀ i, i < k → hh' i = hh i) : seT P ow t F hh' k = seT P ow t F hh k := sumN_ext k (fun i hi => seaD_ext P ow t F (fun j hj => h j (by omega)))
theorem gtN_ext (P : RP) (ow : Nat → Nat) (t : Nat) (F : FS) {hh hh' : Nat → Nat} {k : Nat} (h : ∀ i, i < k → hh' i = hh i) : gtN P ow t F hh' k = gtN P ow t F hh k := sumN_ext k (fun i hi => by rw [gsD_ext P ow t F (fun j hj => h j (by omega))])
theorem seT_le (P : RP) (ow : Nat → Nat) (t : Nat) (F : FS) (hw : ∀ i, F.1 i ≤ 99) (hh : Nat → Nat) : ∀ k, seT P ow t F hh k ≤ 99 * k
  | 0 => Nat.le_refl _
  | k + 1 => by
    have := seT_le P ow t F hw hh k
    have hse : seaD P ow t F hh k ≤ 99 := Nat.le_trans (ranN_le _ _ _ _) (wkN_le _ _ _ _ _ _ hw k _)
    show seT P ow t F hh k + seaD P ow t F hh k ≤ _
    omega
def BKp (P : RP) (ow : Nat → Nat) (n og p t : Nat) (ss : Nat → Nat) (B : Nat → Nat → Int32) : Prop := courN P ow B 73 ∧ B 61 4 = nI n ∧ B 61 5 = nI og ∧ B 61 6 = nI p ∧ (∀ i, i < n → B 62 i = nI (ss i)) ∧ B 63 6 = nI t ∧ B 63 0 = -1
def BF (I B : Nat → Nat → Int32) : Prop := fr [63, 67, 68, 69, 70, 71] I B ∧ (∀ f, f ≠ 1 → f ≠ 2 → B 63 f = I 63 f)
theorem BF.rf {I : Nat → Nat → Int32} : BF I I := ⟨fr.rf, fun _ _ _ => rfl⟩
theorem BF.tr {I B C : Nat → Nat → Int32} (h : BF I B) (k : BF B C) : BF I C := ⟨h.1.tr k.1, fun f h1 h2 => (k.2 f h1 h2).trans (h.2 f h1 h2)⟩
theorem BKp.eq {P : RP} {ow : Nat → Nat} {n og p t : Nat} {ss : Nat → Nat} {I B : Nat → Nat → Int32} (h : BKp P ow n og p t ss I) (e : BF I B) : BKp P ow n og p t ss B := by
  obtain ⟨h1, h2, h3, h4, h5, h6, h7⟩ := h
  refine ⟨h1.eq (fun a p q => e.1 a (by simp; omega)), ?_, ?_, ?_, ?_, ?_, ?_⟩
  · rw [e.1 61 (by decide)]; exact h2
  · rw [e.1 61 (by decide)]; exact h3
  · rw [e.1 61 (by decide)]; exact h4
  · rw [e.1 62 (by decide)]; exact h5
  · rw [e.2 6 (by decide) (by decide)]; exact h6
  · rw [e.2 0 (by decide) (by decide)]; exact h7
def CW (P : RP) (ow : Nat → Nat) (t : Nat) (F : FS) (ss : Nat → Nat) (k : Nat) (B : Nat → Nat → Int32) : Prop := ∀ i, i ≤ k → ∀ x, x < 6 → B (66 + i) x = nI ((wkN P P.2.2.2.2 ow t ss F i).1 x)
def JF (J K : Nat → Nat → Int64) : Prop := ∀ a j, ¬ (a = 61 ∧ (j = 1 ∨ j = 2)) → K a j = J a j
theorem JF.rf {J : Nat → Nat → Int64} : JF J J := fun _ _ _ => rfl
theorem JF.tr {J K M : Nat → Nat → Int64} (h : JF J K) (k : JF K M) : JF J M := fun a j q => (k a j q).trans (h a j q)
theorem p12 : (12 : Nat) ^ 12 < 2 ^ 63 := by decide
theorem x_spr (N d : Nat) {P : RP} (hP : okP P) (h0 : 0 < P.1) {ow : Nat → Nat} {n og p t : Nat} (hog : og ≤ 99) (hp : p ≤ 12) (ht : t ≤ 40) {F : FS} (hw : ∀ i, F.1 i ≤ 99) (hn : n ≤ 4) {ss : Nat → Nat} (hs : ∀ k, ss k &&& gatN P = ss k) (cd : Nat × Nat) :
    ∀ (r k : Nat) (hh : Nat → Nat) (w : Nat) (B : Nat → Nat → Int32) (J : Nat → Nat → Int64), k + r = n → w * 12 ^ DkN ss r k ≤ 12 ^ 12 → BKp P ow n og p t ss B → CW P ow t F hh k B → ∃ B' J', arun (N + 1000000) (d + r + 6) 12 [rv (some 61), rv (some 73), iv (nI k), jv (lN w), iv (nI (seT P ow t F hh k)), iv (nI (gtN P ow t F hh k))] (B, J, cd) = some (rv none, (B', J', cd)) ∧ BF B B' ∧ CW P ow t F hh k B' ∧ JF J J' ∧ J' 61 1 = J 61 1 + lN (clT P p ss (V1 P ow t F n) r k hh w) ∧ J' 61 2 = J 61 2 + lN (clT P p ss (V2 P ow t F n og) r k hh w) := by
  have hn6 := hP.1
  have h8 := mS_le hP
  intro r
  induction r with
  | zero =>
    intro k hh w B J hk hwb hK hV
    have : k = n := by omega
    subst this
    have hse := seT_le P ow t F hw hh k
    have hgt := gt_le P ow t F hh k
    have e1 : lN w * Int32.toInt64 (nI (seT P ow t F hh k)) = lN (w * V1 P ow t F k hh) := by
      rw [nI_l (by omega), lN_mul]; rfl
    have jf : ∀ x y, JF J (wr (wr J 61 1 x) 61 2 y) := fun x y a j q => by
      by_cases c : a = 61
      · subst c
        have : j ≠ 1 ∧ j ≠ 2 := ⟨fun z => q ⟨rfl, Or.inl z⟩, fun z => q ⟨rfl, Or.inr z⟩⟩
        rw [wr_nj this.2, wr_nj this.1]
      · rw [wr_ne c, wr_ne c]
    rw [enX1_spread, sgX1_spread_0, if_neg (by rw [hK.2.1]; exact nI_nlt (Nat.le_refl _) (by omega)), e1]
    by_cases c : og ≤ gtN P ow t F hh k
    · have ev : V2 P ow t F k og hh = 1 := if_pos c
      refine ⟨B, _, by rw [if_neg (by rw [hK.2.2.1]; exact nI_nlt c (by omega))], BF.rf, hV, jf _ _, ?_, ?_⟩
      · rw [wr_nj (by decide), wr_eq]; rfl
      · rw [wr_eq]
        show _ = J 61 2 + lN (w * V2 P ow t F k og hh)
        rw [ev, Nat.mul_one]
    · have ev : V2 P ow t F k og hh = 0 := if_neg c
      refine ⟨B, _, by rw [if_pos (by rw [hK.2.2.1]; exact nI_lt (by omega) (by omega))], BF.rf, hV, jf _ _, ?_, ?_⟩
      · rw [wr_nj (by decide), wr_eq]; rfl
      · rw [wr_eq]
        show _ = J 61 2 + lN (w * V2 P ow t F k og hh)
        rw [ev, Nat.mul_zero]
        rfl
  | succ r ih =>
    intro k hh w B J hk hwb hK hV
    have hsk := sub64 hn6 (hs k)
    have hw12 : w * 12 ^ pc6 (ss k) * 12 ^ DkN ss r (k + 1) ≤ 12 ^ 12 := by
      rw [Nat.mul_assoc, ← Nat.pow_add, ← DkN_s]; exact hwb
    have wle : ∀ e, e < mS P → w * wtN p (ss k) (stN P e) * 12 ^ DkN ss r (k + 1) ≤ 12 ^ 12 := fun e he => Nat.le_trans (Nat.mul_le_mul_right _ (Nat.mul_le_mul_left _ (wt_le hn6 hp (hs k) he))) hw12
    have loop : ∀ (mm e f : Nat) (C : Nat → Nat → Int32) (K : Nat → Nat → Int64), e + mm = mS P → mm < f → BF B C → CW P ow t F hh k C → JF J K → K 61 1 = J 61 1 + lN (sumN (fun e => clT P p ss (V1 P ow t F n) r (k + 1) (up1 hh k (stN P e)) (w * wtN p (ss k) (stN P e))) e) → K 61 2 = J 61 2 + lN (sumN (fun e => clT P p ss (V2 P ow t F n og) r (k + 1) (up1 hh k (stN P e)) (w * wtN p (ss k) (stN P e))) e) → ∃ B' J', EX1_spread (N + 1000000) (d + r + 6) f 49 [some (rv (some 61)), some (rv (some 73)), some (iv (nI k)), some (jv (lN w)), none, some (iv (nI (seT P ow t F hh k))), some (iv (nI (gtN P ow t F hh k))), some (iv (nI e)), none, none, none, none] (C, K, cd) = some (rv none, (B', J', cd)) ∧ BF B B' ∧ CW P ow t F hh k B' ∧ JF J J' ∧ J' 61 1 = J 61 1 + lN (clT P p ss (V1 P ow t F n) (r + 1) k hh w) ∧ J' 61 2 = J 61 2 + lN (clT P p ss (V2 P ow t F n og) (r + 1) k hh w) := by
      intro mm
      induction mm with
      | zero =>
        intro e f C K he hf hFC hVC hJ q1 q2
        have : e = mS P := by omega
        subst this
        obtain ⟨g, rfl⟩ : ∃ g, f = g + 1 := ⟨f - 1, by omega⟩
        have hKC := hK.eq hFC
        refine ⟨C, K, ?_, hFC, hVC, hJ, q1, q2⟩
        rw [sgX1_spread_49, if_pos (by rw [(hKC.1.2.2.2.2.2 h0).1]; exact Int32.le_refl _)]
      | succ mm ihm =>
        intro e f C K he hf hFC hVC hJ q1 q2
        obtain ⟨g, rfl⟩ : ∃ g, f = g + 1 := ⟨f - 1, by omega⟩
        have hKC := hK.eq hFC
        have heL : e < mS P := by omega
        have e79 : C 79 e = nI (stN P e) := by
          have := (hKC.1.2.2.2.2.2 h0).2 e heL
          rw [stN_at heL] at this
          exact this
        have e62 : C 62 k = nI (ss k) := hKC.2.2.2.2.1 k (by omega)
        have hs6 := sub64 hn6 (stN_okk P e)
        have xb : w * wtN p (ss k) (stN P e) < 2 ^ 63 := Nat.lt_of_le_of_lt (Nat.le_trans (Nat.le_mul_of_pos_right _ (Nat.pow_pos (by decide))) (wle e heL)) p12
        have en : ∀ {q : Option RES}, (if w * wtN p (ss k) (stN P e) = 0 then EX1_spread (N + 1000000) (d + r + 6) g 49 [some (rv (some 61)), some (rv (some 73)), some (iv (nI k)), some (jv (lN w)), none, some (iv (nI (seT P ow t F hh k))), some (iv (nI (gtN P ow t F hh k))), some (iv (nI e + 1)), none, none, none, none] (C, K, cd) else (cV (arun (N + 1000000) (d + r + 6)) 6 [rv (some 63), rv (some 73), iv (nI k), iv (nI (stN P e))] (C, K, cd)).bind fun r2 => (cI (arun (N + 1000000) (d + r + 6)) 0 [iv (r2.1 63 2)] r2).bind fun r3 => (cV (arun (N + 1000000) (d + r + 6)) 12 [rv (some 61), rv (some 73), iv (nI k + 1), jv (lN (w * wtN p (ss k) (stN P e))), iv (nI (seT P ow t F hh k) + (r3.2.1 63 1)), iv (nI (gtN P ow t F hh k) + r3.1)] r3.2).bind fun r4 => EX1_spread (N + 1000000) (d + r + 6) g 49 [some (rv (some 61)), some (rv (some 73)), some (iv (nI k)), some (jv (lN w)), none, some (iv (nI (seT P ow t F hh k))), some (iv (nI (gtN P ow t F hh k))), some (iv (nI e + 1)), none, none, none, none] r4) = q → EX1_spread (N + 1000000) (d + r + 6) (g + 1) 49 [some (rv (some 61)), some (rv (some 73)), some (iv (nI k)), some (jv (lN w)), none, some (iv (nI (seT P ow t F hh k))), some (iv (nI (gtN P ow t F hh k))), some (iv (nI e)), none, none, none, none] (C, K, cd) = q := by
          intro q hq
          rw [sgX1_spread_49, if_neg (by rw [(hKC.1.2.2.2.2.2 h0).1]; exact nI_ge heL (by show mS P < _; omega)), inb_t (show e < 8 by omega) (by omega), if_pos rfl, inb_t (show k < 4 by omega) (by omega), if_pos rfl, nI_clamp (show e < 2 ^ 31 by omega), nI_clamp (show k < 2 ^ 31 by omega), e79, e62, bJ (s_weight N (d + r + 4) hp hsk hs6 C K cd hKC.2.2.2.1)]
          try dsimp only
          try dsimp only
          rw [lN_mul, ← hq]
          by_cases z : w * wtN p (ss k) (stN P e) = 0
          · rw [if_pos z, if_pos (by rw [lg_le]; exact fun y => absurd ((pk_lLT (a := 0) (by decide) xb).mp y) (by omega))]
          · rw [if_neg z, if_neg (by rw [lg_le]; exact fun y => y ((pk_lLT (a := 0) (by decide) xb).mpr (by omega)))]
        by_cases z : w * wtN p (ss k) (stN P e) = 0
        · obtain ⟨B', J', r4, rest⟩ := ihm (e + 1) g C K (by omega) (by omega) hFC hVC hJ (by
            show K 61 1 = J 61 1 + lN (sumN _ e + clT P p ss (V1 P ow t F n) r (k + 1) (up1 hh k (stN P e)) (w * wtN p (ss k) (stN P e)))
            rw [z, clT_0, Nat.add_zero]; exact q1) (by
            show K 61 2 = J 61 2 + lN (sumN _ e + clT P p ss (V2 P ow t F n og) r (k + 1) (up1 hh k (stN P e)) (w * wtN p (ss k) (stN P e)))
            rw [z, clT_0, Nat.add_zero]; exact q2)
          refine ⟨B', J', en ?_, rest⟩
          rw [if_pos z, nI_1]
          exact r4
        · have lo : ∀ i, i < k → up1 hh k (stN P e) i = hh i := fun i hi => by rw [up1_at, if_neg (by omega)]
          have hi' : up1 hh k (stN P e) k = stN P e := by rw [up1_at, if_pos rfl]
          have ewk : wkN P P.2.2.2.2 ow t (up1 hh k (stN P e)) F k = wkN P P.2.2.2.2 ow t hh F k := wk_ext P _ ow t F k lo
          obtain ⟨C1, r1, f1, g1, b1, b2, x1⟩ := s_branch_63 N (d + r + 2) hP h0 hs6 (wkN_le P P.2.2.2.2 ow t hh F hw k) (k := k) (t := t) (by omega) ht C K cd hKC.1 hKC.2.2.2.2.2.1 hKC.2.2.2.2.2.2 (hVC k (Nat.le_refl _))
          have hF1 : BF C C1 := ⟨f1.mo (by intro a; simp; omega), g1⟩
          have c1 : C1 63 1 = nI (seaD P ow t F (up1 hh k (stN P e)) k) := by rw [b1, seaD, ewk, hi']
          have c2 : C1 63 2 = nI (gsD P ow t F (up1 hh k (stN P e)) k) := by rw [b2, gsD, ewk, hi']
          have hgs : gsD P ow t F (up1 hh k (stN P e)) k < 64 := bitsN_64 _ hn6
          have hV1 : CW P ow t F (up1 hh k (stN P e)) (k + 1) C1 := by
            intro i hi x hx
            by_cases c : i = k + 1
            · subst c
              rw [x1 x hx]
              show nI (watN P (wkN P P.2.2.2.2 ow t hh F k).1 (stN P e) _ x) = nI (watN P (wkN P P.2.2.2.2 ow t (up1 hh k (stN P e)) F k).1 (up1 hh k (stN P e) k) _ x)
              rw [ewk, hi']
            · rw [f1 _ (by simp; omega), wk_ext P _ ow t F i (fun j hj => lo j (by omega))]
              exact hVC i (by omega) x hx
          obtain ⟨C2, K2, r2, hF2, hV2, hJ2, p1, p2⟩ := ih (k + 1) (up1 hh k (stN P e)) (w * wtN p (ss k) (stN P e)) C1 K (by omega) (wle e heL) (hKC.eq hF1) hV1
          have hV2' : CW P ow t F hh k C2 := fun i hi x hx => by
            rw [hV2 i (by omega) x hx, wk_ext P _ ow t F i (fun j hj => lo j (by omega))]
          have es : nI (seT P ow t F hh k) + nI (seaD P ow t F (up1 hh k (stN P e)) k) = nI (seT P ow t F (up1 hh k (stN P e)) (k + 1)) := by
            rw [nI_add, ← seT_ext P ow t F lo]; rfl
          have eg : nI (gtN P ow t F hh k) + nI (pc6 (gsD P ow t F (up1 hh k (stN P e)) k)) = nI (gtN P ow t F (up1 hh k (stN P e)) (k + 1)) := by
            rw [nI_add, ← gtN_ext P ow t F lo]; rfl
          obtain ⟨B', J', r4, rest⟩ := ihm (e + 1) g C2 K2 (by omega) (by omega) (hFC.tr (hF1.tr hF2)) hV2' (hJ.tr hJ2) (by
            show K2 61 1 = J 61 1 + lN (sumN _ e + clT P p ss (V1 P ow t F n) r (k + 1) (up1 hh k (stN P e)) (w * wtN p (ss k) (stN P e)))
            rw [p1, q1, Int64.add_assoc, lN_add]) (by
            show K2 61 2 = J 61 2 + lN (sumN _ e + clT P p ss (V2 P ow t F n og) r (k + 1) (up1 hh k (stN P e)) (w * wtN p (ss k) (stN P e)))
            rw [p2, q2, Int64.add_assoc, lN_add])
          refine ⟨B', J', en ?_, rest⟩
          rw [if_neg z, bV r1]
          try dsimp only
          rw [c2, bI (s_bits _ _ hgs _)]
          try dsimp only
          try dsimp only
          rw [c1, es, eg, nI_1, bV r2]
          try dsimp only
          rw [nI_1]
          exact r4
    obtain ⟨B', J', e1, e2⟩ := loop (mS P) 0 (N + 999999) B J (by omega) (by omega) BF.rf hV JF.rf (by show J 61 1 = J 61 1 + 0; rw [Int64.add_zero]) (by show J 61 2 = J 61 2 + 0; rw [Int64.add_zero])
    rw [nI_0] at e1
    refine ⟨B', J', ?_, e2⟩
    rw [show d + (r + 1) + 6 = d + r + 6 + 1 by omega, enX1_spread, sgX1_spread_0, if_pos (by rw [hK.2.1]; exact nI_lt (by omega) (by omega))]
    exact e1
theorem l_weigh (N d : Nat) {n : Nat} (hn : n ≤ 4) {ss : Nat → Nat} (hs : ∀ k, ss k < 64) (B : Nat → Nat → Int32) (cd : Nat × Nat) (h4 : B 61 4 = nI n) (h62 : ∀ i, i < n → B 62 i = nI (ss i)) : ∀ (m k f : Nat) (J : Nat → Nat → Int64), k + m = n → J 61 3 = lN (12 ^ shN ss k) → ∃ J', EX1_weigh (N + 1000000) (d + 1) (f + m) 53 [some (rv (some 61)), some (rv (some 73)), none, none, none, none, none, some (iv (nI k))] (B, J, cd) = EX1_weigh (N + 1000000) (d + 1) f 53 [some (rv (some 61)), some (rv (some 73)), none, none, none, none, none, some (iv (nI n))] (B, J', cd) ∧ J' 61 3 = lN (12 ^ shN ss n) ∧ (∀ a j, ¬ (a = 61 ∧ j = 3) → J' a j = J a j) := by
  intro m
  induction m with
  | zero =>
    intro k f J hk hJ
    have : k = n := by omega
    subst this
    exact ⟨J, rfl, hJ, fun _ _ _ => rfl⟩
  | succ m ih =>
    intro k f J hk hJ
    obtain ⟨J', r, h1, h2⟩ := ih (k + 1) f (wr J 61 3 (lN (12 ^ shN ss (k + 1)))) (by omega) wr_eq
    refine ⟨J', ?_, h1, fun a j q => ?_⟩
    · have e : lN (12 ^ shN ss k) * lN (12 ^ pc6 (ss k)) = lN (12 ^ shN ss (k + 1)) := by
        rw [lN_mul, ← Nat.pow_add]; rfl
      rw [show f + (m + 1) = f + m + 1 by omega, sgX1_weigh_53, if_neg (by rw [h4]; exact nI_ge (by omega) (by omega)), inb_t (show k < 4 by omega) (by omega), if_pos rfl, nI_clamp (by omega), h62 k (by omega), bI (s_bits _ _ (hs k) _)]
      try dsimp only
      try dsimp only
      rw [show (12 : Int32) = nI 12 from rfl, bJ (s_powX N d (by decide) (pc6_le _) _)]
      try dsimp only
      try dsimp only
      rw [hJ, e, nI_1]
      exact r
    · rw [h2 a j q]
      by_cases c : a = 61
      · subst c
        rw [wr_nj (fun z => q ⟨rfl, z⟩)]
      · rw [wr_ne c]
theorem s_weigh (N d : Nat) {P : RP} (hP : okP P) (h0 : 0 < P.1) {ow : Nat → Nat} {n og p t : Nat} (hog : og ≤ 99) (hp : p ≤ 12) (ht : t ≤ 40) {F : FS} (hw : ∀ i, F.1 i ≤ 99) (hn : n ≤ 4) {ss : Nat → Nat} (hs : ∀ k, ss k &&& gatN P = ss k) (I : Nat → Nat → Int32) (J : Nat → Nat → Int64) (cd : Nat × Nat) (hC : courN P ow I 73) (hF : flowAt I F) (h62 : ∀ i, i < n → I 62 i = nI (ss i)) :
    ∃ B J', arun (N + 1000000) (d + 12) 11 [rv (some 61), rv (some 73), rv (some 20), iv (nI t), iv (nI n), iv (nI og), iv (nI p)] (I, J, cd) = some (rv none, (B, J', cd)) ∧ fr [61, 63, 64, 66, 67, 68, 69, 70, 71] I B ∧ (∀ a, a ≠ 61 → J' a = J a) ∧ J' 61 1 = lN (clT P p ss (V1 P ow t F n) n 0 (fun _ => 0) 1) ∧ J' 61 2 = lN (clT P p ss (V2 P ow t F n og) n 0 (fun _ => 0) 1) ∧ J' 61 3 = lN (12 ^ shN ss n) := by
  have hn6 := hP.1
  obtain ⟨B1, r1, f1, b6, b0, -, -, -, bw⟩ := s_abegin_63 N (d + 9) (t := t) (by omega) I J cd
  have f2 : fr [61, 63, 64, 66] I (wr (wr (wr B1 61 4 (nI n)) 61 5 (nI og)) 61 6 (nI p)) := (((f1.mo (by intro a; simp <;> omega)).w (by simp)).w (by simp)).w (by simp)
  have h4 : wr (wr (wr B1 61 4 (nI n)) 61 5 (nI og)) 61 6 (nI p) 61 4 = nI n := by rw [wr_nj (by decide), wr_nj (by decide), wr_eq]
  have h62' : ∀ i, i < n → wr (wr (wr B1 61 4 (nI n)) 61 5 (nI og)) 61 6 (nI p) 62 i = nI (ss i) := fun i hi => by rw [f2 62 (by decide)]; exact h62 i hi
  have hK : BKp P ow n og p t ss (wr (wr (wr B1 61 4 (nI n)) 61 5 (nI og)) 61 6 (nI p)) := by
    refine ⟨hC.eq (fun a p q => f2 a (by simp; omega)), h4, ?_, wr_eq, h62', ?_, ?_⟩
    · rw [wr_nj (by decide), wr_eq]
    · rw [wr_ne (by decide), wr_ne (by decide), wr_ne (by decide)]; exact b6
    · rw [wr_ne (by decide), wr_ne (by decide), wr_ne (by decide)]; exact b0
  have hV : CW P ow t F (fun _ => 0) 0 (wr (wr (wr B1 61 4 (nI n)) 61 5 (nI og)) 61 6 (nI p)) := by
    intro i hi x hx
    have : i = 0 := by omega
    subst this
    rw [wr_ne (show 66 + 0 ≠ 61 by decide), wr_ne (show 66 + 0 ≠ 61 by decide), wr_ne (show 66 + 0 ≠ 61 by decide), bw x hx]
    exact (hF.1 x hx).1
  obtain ⟨J2, r2, j3, j2⟩ := l_weigh N (d + 10) hn (ss := ss) (fun k => sub64 hn6 (hs k)) _ cd h4 h62' n 0 (N + 999999 - n) (wr (wr (wr J 61 1 0) 61 2 0) 61 3 1) (by omega) (by rw [wr_eq]; rfl)
  rw [nI_0, show N + 999999 - n + n = N + 999999 by omega] at r2
  have hd12 : 1 * 12 ^ DkN ss n 0 ≤ 12 ^ 12 := by
    rw [Nat.one_mul]
    exact Nat.pow_le_pow_right (by decide) (Nat.le_trans (DkN_le hP hs n 0) (by omega))
  obtain ⟨B3, J3, r3, hF3, -, hJ3, p1, p2⟩ := x_spr N (d + 5 - n) hP h0 hog hp ht hw hn hs cd n 0 (fun _ => 0) 1 _ J2 (by omega) hd12 hK hV
  rw [show d + 5 - n + n + 6 = d + 11 by omega, nI_0, show lN 1 = (1 : Int64) from rfl, show seT P ow t F (fun _ => 0) 0 = 0 from rfl, show gtN P ow t F (fun _ => 0) 0 = 0 from rfl, nI_0] at r3
  refine ⟨B3, J3, ?_, (f2.mo (by intro a; simp <;> omega)).tr (hF3.1.mo (by intro a; simp <;> omega)), fun a ha => ?_, ?_, ?_, ?_⟩
  · rw [enX1_weigh, sgX1_weigh_0, bV r1]
    try dsimp only
    rw [show (4 : Int32) = nI 4 from rfl, bI (s_min _ _ _ _ _)]
    try dsimp only
    try dsimp only
    rw [mn_N (by omega) (by omega), Nat.min_eq_left hn, show (0 : Int32) = nI 0 from rfl, bI (s_max _ _ _ _ _)]
    try dsimp only
    try dsimp only
    rw [mx_N (by omega) (by omega), Nat.max_eq_right (by omega), show nI 0 = (0 : Int32) from rfl, r2, show N + 999999 - n = N + 999998 - n + 1 by omega, sgX1_weigh_53, if_pos (by rw [h4]; exact Int32.le_refl _), bV r3]
  · funext j
    rw [hJ3 a j (fun q => ha q.1), j2 a j (fun q => ha q.1), wr_ne ha, wr_ne ha, wr_ne ha]
  · rw [p1, j2 61 1 (fun q => absurd q.2 (by decide)), wr_nj (by decide), wr_nj (by decide), wr_eq, Int64.zero_add]
  · rw [p2, j2 61 2 (fun q => absurd q.2 (by decide)), wr_nj (by decide), wr_eq, Int64.zero_add]
  · rw [hJ3 61 3 (fun q => absurd q.2 (by decide))]; exact j3
