/-! duel -/
def chN (b : Bool) (g : Nat → Nat) : Nat → Nat
  | 0 => 0
  | e + 1 => if e = 0 then g e else if b then max (chN b g e) (g e) else min (chN b g e) (g e)
def mxS (g : Nat → Nat) : Nat → Nat
  | 0 => 0
  | e + 1 => max (mxS g e) (g e)
def mnS (g : Nat → Nat) : Nat → Nat
  | 0 => 0
  | e + 1 => if e = 0 then g e else min (mnS g e) (g e)
theorem ch_t (g : Nat → Nat) : ∀ m, chN true g m = mxS g m
  | 0 => rfl
  | e + 1 => by
    show (if e = 0 then g e else max (chN true g e) (g e)) = max (mxS g e) (g e)
    by_cases q : e = 0
    · subst q; rw [if_pos rfl]; show g 0 = max 0 (g 0); omega
    · rw [if_neg q, ch_t g e]
theorem ch_f (g : Nat → Nat) : ∀ m, chN false g m = mnS g m
  | 0 => rfl
  | e + 1 => by
    show (if e = 0 then g e else min (chN false g e) (g e)) = if e = 0 then g e else min (mnS g e) (g e)
    rw [ch_f g e]
theorem mxS_add (a : Nat) (g : Nat → Nat) : ∀ m, mxS (fun s => a + g s) (m + 1) = a + mxS g (m + 1)
  | 0 => by show max 0 (a + g 0) = a + max 0 (g 0); omega
  | m + 1 => by
    show max (mxS (fun s => a + g s) (m + 1)) (a + g (m + 1)) = a + max (mxS g (m + 1)) (g (m + 1))
    rw [mxS_add a g m]; omega
theorem mnS_add (a : Nat) (g : Nat → Nat) : ∀ m, mnS (fun s => a + g s) (m + 1) = a + mnS g (m + 1)
  | 0 => rfl
  | m + 1 => by
    show (if m + 1 = 0 then a + g (m + 1) else min (mnS (fun s => a + g s) (m + 1)) (a + g (m + 1))) = a + (if m + 1 = 0 then g (m + 1) else min (mnS g (m + 1)) (g (m + 1)))
    rw [mnS_add a g m, if_neg (by omega), if_neg (by omega)]; omega
theorem mxS_c (a : Nat) : ∀ m, mxS (fun _ => a) (m + 1) = a
  | 0 => by show max 0 a = a; omega
  | m + 1 => by
    show max (mxS (fun _ => a) (m + 1)) a = a
    rw [mxS_c a m]; omega
theorem mnS_c (a : Nat) : ∀ m, mnS (fun _ => a) (m + 1) = a
  | 0 => rfl
  | m + 1 => by
    show (if m + 1 = 0 then a else min (mnS (fun _ => a) (m + 1)) a) = a
    rw [mnS_c a m, if_neg (by omega)]; omega
theorem chN_le {b : Bool} {g : Nat → Nat} {M : Nat} (h : ∀ e, g e ≤ M) : ∀ m, chN b g m ≤ M
  | 0 => Nat.zero_le _
  | e + 1 => by
    have h1 := chN_le (b := b) h e
    have h2 := h e
    simp only [chN]
    split
    · exact h2
    · split <;> omega
theorem mxS_le {g : Nat → Nat} {M : Nat} (h : ∀ e, g e ≤ M) : ∀ m, mxS g m ≤ M
  | 0 => Nat.zero_le _
  | e + 1 => by
    have h1 := mxS_le h e
    have h2 := h e
    show max _ _ ≤ _
    omega
theorem mnS_le {g : Nat → Nat} {M : Nat} (h : ∀ e, g e ≤ M) : ∀ m, mnS g m ≤ M
  | 0 => Nat.zero_le _
  | e + 1 => by
    have h1 := mnS_le h e
    have h2 := h e
    simp only [mnS]
    split <;> omega
/-- what they come to who choose by turns -/
def duC (P : RP) (ow : Nat → Nat) (t : Nat) (F : FS) : Nat → Nat → (Nat → Nat) → Nat
  | 0, _, _ => 0
  | r + 1, k, ss => chN (decide (k % 2 = 0)) (fun e => pc6 (gsD P ow t F (up1 ss k (stN P e)) k) + duC P ow t F r (k + 1) (up1 ss k (stN P e))) (mS P)
theorem duC_le (P : RP) (ow : Nat → Nat) (t : Nat) (F : FS) : ∀ r k ss, duC P ow t F r k ss ≤ 6 * r
  | 0, _, _ => Nat.le_refl _
  | r + 1, k, ss => by
    refine chN_le (fun e => ?_) _
    have h1 := duC_le P ow t F r (k + 1) (up1 ss k (stN P e))
    have h2 := pc6_le (gsD P ow t F (up1 ss k (stN P e)) k)
    omega
def CK (P : RP) (ow : Nat → Nat) (n t : Nat) (B : Nat → Nat → Int32) : Prop := courN P ow B 73 ∧ B 48 3 = nI n ∧ B 52 6 = nI t ∧ B 52 0 = -1
def CF (I B : Nat → Nat → Int32) : Prop := fr [52, 56, 57, 58, 59, 60] I B ∧ (∀ f, f ≠ 1 → f ≠ 2 → B 52 f = I 52 f)
theorem CF.rf {I : Nat → Nat → Int32} : CF I I := ⟨fr.rf, fun _ _ _ => rfl⟩
theorem CF.tr {I B C : Nat → Nat → Int32} (h : CF I B) (k : CF B C) : CF I C := ⟨h.1.tr k.1, fun f h1 h2 => (k.2 f h1 h2).trans (h.2 f h1 h2)⟩
theorem CK.eq {P : RP} {ow : Nat → Nat} {n t : Nat} {I B : Nat → Nat → Int32} (h : CK P ow n t I) (e : CF I B) : CK P ow n t B := by
  obtain ⟨h1, h2, h3, h4⟩ := h
  refine ⟨h1.eq (fun a p q => e.1 a (by simp; omega)), ?_, ?_, ?_⟩
  · rw [e.1 48 (by decide)]; exact h2
  · rw [e.2 6 (by decide) (by decide)]; exact h3
  · rw [e.2 0 (by decide) (by decide)]; exact h4
def CV (P : RP) (ow : Nat → Nat) (t : Nat) (F : FS) (ss : Nat → Nat) (k : Nat) (B : Nat → Nat → Int32) : Prop := ∀ i, i ≤ k → ∀ x, x < 6 → B (55 + i) x = nI ((wkN P P.2.2.2.2 ow t ss F i).1 x)
theorem x_cont (N d : Nat) {P : RP} (hP : okP P) (h0 : 0 < P.1) {ow : Nat → Nat} {n t : Nat} (ht : t ≤ 40) {F : FS} (hw : ∀ i, F.1 i ≤ 99) (hn : n ≤ 4) (J : Nat → Nat → Int64) (cd : Nat × Nat) :
    ∀ (r k : Nat) (ss : Nat → Nat) (B : Nat → Nat → Int32), k + r = n → CK P ow n t B → CV P ow t F ss k B → ∃ B', arun (N + 1000000) (d + r + 6) 38 [rv (some 48), rv (some 73), iv (nI k)] (B, J, cd) = some (iv (nI (duC P ow t F r k ss)), (B', J, cd)) ∧ CF B B' ∧ CV P ow t F ss k B' := by
  have hn6 := hP.1
  have h8 := mS_le hP
  intro r
  induction r with
  | zero =>
    intro k ss B hk hK hV
    have : k = n := by omega
    subst this
    refine ⟨B, ?_, CF.rf, hV⟩
    rw [enX5_contend, sgX5_contend_0, if_neg (by rw [hK.2.1]; exact nI_nlt (Nat.le_refl _) (by omega))]
    rfl
  | succ r ih =>
    intro k ss B hk hK hV
    have gle : ∀ e, pc6 (gsD P ow t F (up1 ss k (stN P e)) k) + duC P ow t F r (k + 1) (up1 ss k (stN P e)) ≤ 6 * (r + 1) := fun e => by
      have h1 := duC_le P ow t F r (k + 1) (up1 ss k (stN P e))
      have h2 := pc6_le (gsD P ow t F (up1 ss k (stN P e)) k)
      omega
    have loop : ∀ (mm e f : Nat) (C : Nat → Nat → Int32), e + mm = mS P → 2 * mm + 1 ≤ f → CF B C → CV P ow t F ss k C → ∃ B', EX5_contend (N + 1000000) (d + r + 6) f 28 [some (rv (some 48)), some (rv (some 73)), some (iv (nI k)), some (iv (if decide (k % 2 = 0) then 1 else 0)), some (iv (nI (chN (decide (k % 2 = 0)) (fun e => pc6 (gsD P ow t F (up1 ss k (stN P e)) k) + duC P ow t F r (k + 1) (up1 ss k (stN P e))) e))), some (iv (nI e)), none] (C, J, cd) = some (iv (nI (duC P ow t F (r + 1) k ss)), (B', J, cd)) ∧ CF B B' ∧ CV P ow t F ss k B' := by
      intro mm
      induction mm with
      | zero =>
        intro e f C he hf hFC hVC
        have : e = mS P := by omega
        subst this
        obtain ⟨g, rfl⟩ : ∃ g, f = g + 1 := ⟨f - 1, by omega⟩
        have hKC := hK.eq hFC
        refine ⟨C, ?_, hFC, hVC⟩
        rw [sgX5_contend_28, if_pos (by rw [(hKC.1.2.2.2.2.2 h0).1]; exact Int32.le_refl _)]
        rfl
      | succ mm ihm =>
        intro e f C he hf hFC hVC
        obtain ⟨g, rfl⟩ : ∃ g, f = g + 1 + 1 := ⟨f - 2, by omega⟩
        have hKC := hK.eq hFC
        have heL : e < mS P := by omega
        have e79 : C 79 e = nI (stN P e) := by
          have := (hKC.1.2.2.2.2.2 h0).2 e heL
          rw [stN_at heL] at this
          exact this
        have hs6 := sub64 hn6 (stN_okk P e)
        have lo : ∀ i, i < k → up1 ss k (stN P e) i = ss i := fun i hi => by rw [up1_at, if_neg (by omega)]
        have hi' : up1 ss k (stN P e) k = stN P e := by rw [up1_at, if_pos rfl]
        have ewk : wkN P P.2.2.2.2 ow t (up1 ss k (stN P e)) F k = wkN P P.2.2.2.2 ow t ss F k := wk_ext P _ ow t F k lo
        obtain ⟨C1, r1, f1, g1, b1, b2, x1⟩ := s_branch_52 N (d + r + 2) hP h0 hs6 (wkN_le P P.2.2.2.2 ow t ss F hw k) (k := k) (t := t) (by omega) ht C J cd hKC.1 hKC.2.2.1 hKC.2.2.2 (hVC k (Nat.le_refl _))
        have hF1 : CF C C1 := ⟨f1.mo (by intro a; simp; omega), g1⟩
        have c2 : C1 52 2 = nI (gsD P ow t F (up1 ss k (stN P e)) k) := by rw [b2, gsD, ewk, hi']
        have hgs : gsD P ow t F (up1 ss k (stN P e)) k < 64 := bitsN_64 _ hn6
        have hV1 : CV P ow t F (up1 ss k (stN P e)) (k + 1) C1 := by
          intro i hi x hx
          by_cases c : i = k + 1
          · subst c
            rw [x1 x hx]
            show nI (watN P (wkN P P.2.2.2.2 ow t ss F k).1 (stN P e) _ x) = nI (watN P (wkN P P.2.2.2.2 ow t (up1 ss k (stN P e)) F k).1 (up1 ss k (stN P e) k) _ x)
            rw [ewk, hi']
          · rw [f1 _ (by simp; omega), wk_ext P _ ow t F i (fun j hj => lo j (by omega))]
            exact hVC i (by omega) x hx
        obtain ⟨C2, r2, hF2, hV2⟩ := ih (k + 1) (up1 ss k (stN P e)) C1 (by omega) (hKC.eq hF1) hV1
        have hV2' : CV P ow t F ss k C2 := fun i hi x hx => by
          rw [hV2 i (by omega) x hx, wk_ext P _ ow t F i (fun j hj => lo j (by omega))]
        have es : nI (pc6 (gsD P ow t F (up1 ss k (stN P e)) k)) + nI (duC P ow t F r (k + 1) (up1 ss k (stN P e))) = nI (pc6 (gsD P ow t F (up1 ss k (stN P e)) k) + duC P ow t F r (k + 1) (up1 ss k (stN P e))) := nI_add _ _
        obtain ⟨B', r4, hF4, hV4⟩ := ihm (e + 1) g C2 (by omega) (by omega) (hFC.tr (hF1.tr hF2)) hV2'
        obtain ⟨B'', r5, hF5, hV5⟩ := ihm (e + 1) (g + 1) C2 (by omega) (by omega) (hFC.tr (hF1.tr hF2)) hV2'
        have hge := gle e
        have hch := chN_le (b := decide (k % 2 = 0)) gle e
        have go : ∀ {q : Option RES}, (if nI e = 0 then EX5_contend (N + 1000000) (d + r + 6) (g + 1) 104 [some (rv (some 48)), some (rv (some 73)), some (iv (nI k)), some (iv (if decide (k % 2 = 0) then 1 else 0)), none, some (iv (nI e)), some (iv (nI (pc6 (gsD P ow t F (up1 ss k (stN P e)) k) + duC P ow t F r (k + 1) (up1 ss k (stN P e)))))] (C2, J, cd) else if (if decide (k % 2 = 0) then (1 : Int32) else 0) = 0 then (if nI (chN (decide (k % 2 = 0)) (fun e => pc6 (gsD P ow t F (up1 ss k (stN P e)) k) + duC P ow t F r (k + 1) (up1 ss k (stN P e))) e) ≤ nI (pc6 (gsD P ow t F (up1 ss k (stN P e)) k) + duC P ow t F r (k + 1) (up1 ss k (stN P e))) then EX5_contend (N + 1000000) (d + r + 6) (g + 1) 28 [some (rv (some 48)), some (rv (some 73)), some (iv (nI k)), some (iv (if decide (k % 2 = 0) then 1 else 0)), some (iv (nI (chN (decide (k % 2 = 0)) (fun e => pc6 (gsD P ow t F (up1 ss k (stN P e)) k) + duC P ow t F r (k + 1) (up1 ss k (stN P e))) e))), some (iv (nI e + 1)), none] (C2, J, cd) else EX5_contend (N + 1000000) (d + r + 6) (g + 1) 104 [some (rv (some 48)), some (rv (some 73)), some (iv (nI k)), some (iv (if decide (k % 2 = 0) then 1 else 0)), none, some (iv (nI e)), some (iv (nI (pc6 (gsD P ow t F (up1 ss k (stN P e)) k) + duC P ow t F r (k + 1) (up1 ss k (stN P e)))))] (C2, J, cd)) else (if nI (pc6 (gsD P ow t F (up1 ss k (stN P e)) k) + duC P ow t F r (k + 1) (up1 ss k (stN P e))) ≤ nI (chN (decide (k % 2 = 0)) (fun e => pc6 (gsD P ow t F (up1 ss k (stN P e)) k) + duC P ow t F r (k + 1) (up1 ss k (stN P e))) e) then EX5_contend (N + 1000000) (d + r + 6) (g + 1) 28 [some (rv (some 48)), some (rv (some 73)), some (iv (nI k)), some (iv (if decide (k % 2 = 0) then 1 else 0)), some (iv (nI (chN (decide (k % 2 = 0)) (fun e => pc6 (gsD P ow t F (up1 ss k (stN P e)) k) + duC P ow t F r (k + 1) (up1 ss k (stN P e))) e))), some (iv (nI e + 1)), none] (C2, J, cd) else EX5_contend (N + 1000000) (d + r + 6) (g + 1) 104 [some (rv (some 48)), some (rv (some 73)), some (iv (nI k)), some (iv (if decide (k % 2 = 0) then 1 else 0)), none, some (iv (nI e)), some (iv (nI (pc6 (gsD P ow t F (up1 ss k (stN P e)) k) + duC P ow t F r (k + 1) (up1 ss k (stN P e)))))] (C2, J, cd))) = q → EX5_contend (N + 1000000) (d + r + 6) (g + 1 + 1) 28 [some (rv (some 48)), some (rv (some 73)), some (iv (nI k)), some (iv (if decide (k % 2 = 0) then 1 else 0)), some (iv (nI (chN (decide (k % 2 = 0)) (fun e => pc6 (gsD P ow t F (up1 ss k (stN P e)) k) + duC P ow t F r (k + 1) (up1 ss k (stN P e))) e))), some (iv (nI e)), none] (C, J, cd) = q := by
          intro q hq
          rw [sgX5_contend_28, if_neg (by rw [(hKC.1.2.2.2.2.2 h0).1]; exact nI_ge heL (by show mS P < _; omega)), inb_t (show e < 8 by omega) (by omega), if_pos rfl, nI_clamp (show e < 2 ^ 31 by omega), e79, bV r1]
          try dsimp only
          rw [c2, bI (s_bits _ _ hgs _)]
          try dsimp only
          try dsimp only
          rw [nI_1, bI r2]
          try dsimp only
          rw [es]
          exact hq
        have take : (chN (decide (k % 2 = 0)) (fun e => pc6 (gsD P ow t F (up1 ss k (stN P e)) k) + duC P ow t F r (k + 1) (up1 ss k (stN P e))) (e + 1)) = pc6 (gsD P ow t F (up1 ss k (stN P e)) k) + duC P ow t F r (k + 1) (up1 ss k (stN P e)) → EX5_contend (N + 1000000) (d + r + 6) (g + 1) 104 [some (rv (some 48)), some (rv (some 73)), some (iv (nI k)), some (iv (if decide (k % 2 = 0) then 1 else 0)), none, some (iv (nI e)), some (iv (nI (pc6 (gsD P ow t F (up1 ss k (stN P e)) k) + duC P ow t F r (k + 1) (up1 ss k (stN P e)))))] (C2, J, cd) = some (iv (nI (duC P ow t F (r + 1) k ss)), (B', J, cd)) := by
          intro q
          rw [q] at r4
          rw [sgX5_contend_104, nI_1]
          exact r4
        have keep : (chN (decide (k % 2 = 0)) (fun e => pc6 (gsD P ow t F (up1 ss k (stN P e)) k) + duC P ow t F r (k + 1) (up1 ss k (stN P e))) (e + 1)) = chN (decide (k % 2 = 0)) (fun e => pc6 (gsD P ow t F (up1 ss k (stN P e)) k) + duC P ow t F r (k + 1) (up1 ss k (stN P e))) e → EX5_contend (N + 1000000) (d + r + 6) (g + 1) 28 [some (rv (some 48)), some (rv (some 73)), some (iv (nI k)), some (iv (if decide (k % 2 = 0) then 1 else 0)), some (iv (nI (chN (decide (k % 2 = 0)) (fun e => pc6 (gsD P ow t F (up1 ss k (stN P e)) k) + duC P ow t F r (k + 1) (up1 ss k (stN P e))) e))), some (iv (nI e + 1)), none] (C2, J, cd) = some (iv (nI (duC P ow t F (r + 1) k ss)), (B'', J, cd)) := by
          intro q
          rw [q] at r5
          rw [nI_1]
          exact r5
        by_cases z : e = 0
        · refine ⟨B', go ?_, hF4, hV4⟩
          rw [if_pos (by rw [z]; rfl)]
          exact take (by simp only [chN]; rw [if_pos z])
        · have nz : ¬ nI e = 0 := nI_ne0 (by omega) (by omega)
          by_cases p : k % 2 = 0
          · by_cases c : pc6 (gsD P ow t F (up1 ss k (stN P e)) k) + duC P ow t F r (k + 1) (up1 ss k (stN P e)) ≤ chN (decide (k % 2 = 0)) (fun e => pc6 (gsD P ow t F (up1 ss k (stN P e)) k) + duC P ow t F r (k + 1) (up1 ss k (stN P e))) e
            · refine ⟨B'', go ?_, hF5, hV5⟩
              rw [if_neg nz, if_neg (show ¬ (if decide (k % 2 = 0) then (1 : Int32) else 0) = 0 by simp [p]), if_pos (nI_le c (by omega))]
              refine keep ?_
              simp only [chN]
              rw [if_neg z, if_pos (by simp [p])]
              omega
            · refine ⟨B', go ?_, hF4, hV4⟩
              rw [if_neg nz, if_neg (show ¬ (if decide (k % 2 = 0) then (1 : Int32) else 0) = 0 by simp [p]), if_neg (nI_ge (by omega) (by omega))]
              refine take ?_
              simp only [chN]
              rw [if_neg z, if_pos (by simp [p])]
              omega
          · by_cases c : chN (decide (k % 2 = 0)) (fun e => pc6 (gsD P ow t F (up1 ss k (stN P e)) k) + duC P ow t F r (k + 1) (up1 ss k (stN P e))) e ≤ pc6 (gsD P ow t F (up1 ss k (stN P e)) k) + duC P ow t F r (k + 1) (up1 ss k (stN P e))
            · refine ⟨B'', go ?_, hF5, hV5⟩
              rw [if_neg nz, if_pos (show (if decide (k % 2 = 0) then (1 : Int32) else 0) = 0 by simp [p]), if_pos (nI_le c (by omega))]
              refine keep ?_
              simp only [chN]
              rw [if_neg z, if_neg (by simp [p])]
              omega
            · refine ⟨B', go ?_, hF4, hV4⟩
              rw [if_neg nz, if_pos (show (if decide (k % 2 = 0) then (1 : Int32) else 0) = 0 by simp [p]), if_neg (nI_ge (by omega) (by omega))]
              refine take ?_
              simp only [chN]
              rw [if_neg z, if_neg (by simp [p])]
              omega
    obtain ⟨B', e1, e2, e3⟩ := loop (mS P) 0 (N + 999998) B (by omega) (by omega) CF.rf hV
    rw [show chN (decide (k % 2 = 0)) (fun e => pc6 (gsD P ow t F (up1 ss k (stN P e)) k) + duC P ow t F r (k + 1) (up1 ss k (stN P e))) 0 = 0 from rfl, nI_0] at e1
    refine ⟨B', ?_, e2, e3⟩
    have er : nI k - nI k / 2 * 2 = nI (k % 2) := pk_rem (d := 2) (by omega) (by omega) (by omega)
    rw [show d + (r + 1) + 6 = d + r + 6 + 1 by omega, enX5_contend, sgX5_contend_0, if_pos (by rw [hK.2.1]; exact nI_lt (by omega) (by omega)), er]
    by_cases p : k % 2 = 0
    · rw [show (if decide (k % 2 = 0) then (1 : Int32) else 0) = 1 by simp [p]] at e1
      rw [if_pos (by rw [p]; rfl), sgX5_contend_22]
      exact e1
    · rw [show (if decide (k % 2 = 0) then (1 : Int32) else 0) = 0 by simp [p]] at e1
      rw [if_neg (nI_ne0 (by omega) (by omega)), sgX5_contend_22]
      exact e1
theorem s_contest (N d : Nat) {P : RP} (hP : okP P) (h0 : 0 < P.1) {ow : Nat → Nat} {n t : Nat} (ht : t ≤ 40) {F : FS} (hw : ∀ i, F.1 i ≤ 99) (hn : n ≤ 4) (I : Nat → Nat → Int32) (J : Nat → Nat → Int64) (cd : Nat × Nat) (hC : courN P ow I 73) (hF : flowAt I F) :
    ∃ B, arun (N + 1000000) (d + 12) 37 [rv (some 48), rv (some 73), rv (some 20), iv (nI t), iv (nI n)] (I, J, cd) = some (iv (nI (duC P ow t F n 0 (fun _ => 0))), (B, J, cd)) ∧ fr [48, 52, 53, 55, 56, 57, 58, 59, 60] I B := by
  obtain ⟨B1, r1, f1, b6, b0, -, -, -, bw⟩ := s_abegin_52 N (d + 9) (t := t) (by omega) I J cd
  have f2 : fr [48, 52, 53, 55] I (wr B1 48 3 (nI n)) := (f1.mo (by intro a; simp <;> omega)).w (by simp)
  have hK : CK P ow n t (wr B1 48 3 (nI n)) := ⟨hC.eq (fun a p q => f2 a (by simp; omega)), wr_eq, by rw [wr_ne (by decide)]; exact b6, by rw [wr_ne (by decide)]; exact b0⟩
  have hV : CV P ow t F (fun _ => 0) 0 (wr B1 48 3 (nI n)) := by
    intro i hi x hx
    have : i = 0 := by omega
    subst this
    rw [wr_ne (show 55 + 0 ≠ 48 by decide), bw x hx]
    exact (hF.1 x hx).1
  obtain ⟨B, r, hf, -⟩ := x_cont N (d + 5 - n) hP h0 ht hw hn J cd n 0 (fun _ => 0) _ (by omega) hK hV
  rw [show d + 5 - n + n + 6 = d + 11 by omega, nI_0] at r
  refine ⟨B, ?_, (f2.mo (by intro a; simp <;> omega)).tr (hf.1.mo (by intro a; simp <;> omega))⟩
  rw [enX5_contest, sgX5_contest_0, bV r1]
  try dsimp only
  rw [show (4 : Int32) = nI 4 from rfl, bI (s_min _ _ _ _ _)]
  try dsimp only
  try dsimp only
  rw [mn_N (by omega) (by omega), Nat.min_eq_left hn, show (0 : Int32) = nI 0 from rfl, bI (s_max _ _ _ _ _)]
  try dsimp only
  try dsimp only
  rw [mx_N (by omega) (by omega), Nat.max_eq_right (by omega), show nI 0 = (0 : Int32) from rfl, bI r]
-- the reference
def ss3 (P : RP) (a b c k : Nat) : Nat := stN P (if k = 0 then a else if k = 1 then b else c)
theorem ss3_ok (P : RP) (a b c k : Nat) : ss3 P a b c k &&& gatN P = ss3 P a b c k := stN_okk P _
def rB (P : RP) (ow : Nat → Nat) (F : FS) (t : Nat) (I B : Nat → Nat → Int32) : Prop := fr [87, 98, 99, 100, 101, 107, 108] I B ∧ f87 [18, 25, 31] I B ∧ refAt P ow B F t
theorem l_gBy (N d : Nat) {P : RP} (hP : okP P) (h0 : 0 < P.1) {F : FS} (hw : ∀ i, F.1 i ≤ 99) {ow : Nat → Nat} (how : ∀ d, d < 7 → ow d ≤ 6) {t : Nat} (ht : t ≤ 40) {n a b c : Nat} (hn : n ≤ 3) (ha : a < mS P) (hb : b < mS P) (hc : c < mS P) {I : Nat → Nat → Int32} (J : Nat → Nat → Int64) (cd : Nat × Nat) (hR : I 87 32 = -9) (hm : msAt P I) (hN : noteN P (I 107) 0 F t) :
    ∀ (m k f : Nat) (B : Nat → Nat → Int32), k + m = n → mAt P P.2.2.2.2 ow t (ss3 P a b c) F I k B → ∃ B', EX10_groundBy (N + 1000000) (d + 3) (f + 1 + m) 13 [some (rv (some 87)), some (iv (nI n)), some (iv (nI a)), some (iv (nI b)), some (iv (nI c)), some (iv (nI (sumN F.2.1 P.1))), some (iv (nI k))] (B, J, cd) = some (iv (nI (gtN P ow t F (ss3 P a b c) n)), (B', J, cd)) ∧ fr [87, 98, 99, 100, 101, 108] I B' ∧ f87 [18, 25, 31] I B' ∧ refAt P ow B' F t := by
  have hn6 := hP.1
  have h8 := mS_le hP
  intro m
  induction m with
  | zero =>
    intro k f B hk hA
    have : k = n := by omega
    subst this
    have z := wkN_z P P.2.2.2.2 ow t (ss3 P a b c) F k
    obtain ⟨B5, r, f5, g5, hR5, -⟩ := m_back2 N (d + 1) hn6 J cd hN hA
    refine ⟨B5, ?_, f5, g5, hR5⟩
    have eg : nI (sumN (wkN P P.2.2.2.2 ow t (ss3 P a b c) F k).2.1 P.1) - nI (sumN F.2.1 P.1) = nI (gtN P ow t F (ss3 P a b c) k) := by
      rw [sumN_sub z.2.1, pk_sub (by omega), Nat.add_sub_cancel_left, gt_eq hn6]
    rw [Nat.add_zero, sgX10_groundBy_13, if_pos (Int32.le_refl _), bI (s_groundMany _ _ hn6 _ _ _ hA.2.2)]
    try dsimp only
    try dsimp only
    rw [bV r]
    try dsimp only
    rw [eg]
  | succ m ih =>
    intro k f B hk hA
    have hmB : msAt P B := hA.ms hm
    obtain ⟨B1, r1, hA1, -⟩ := m_step N d hP h0 hw how ht (R9 hR) (k := k) (by omega) (ss3_ok P a b c k) B J cd hA
    obtain ⟨B', r2, rest⟩ := ih (k + 1) f B1 (by omega) hA1
    refine ⟨B', ?_, rest⟩
    rw [show f + 1 + (m + 1) = f + 1 + m + 1 by omega, sgX10_groundBy_13, if_neg (nI_ge (by omega) (by omega))]
    have cc : k = 0 ∨ k = 1 ∨ k = 2 := by omega
    rcases cc with rfl | rfl | rfl
    · rw [if_pos (show nI 0 = 0 from rfl), inb_t (show a < 8 by omega) (by omega), if_pos rfl, nI_clamp (by omega), hmB.2 a ha]
      rw [show ss3 P a b c 0 = stN P a from rfl] at r1
      rw [bI r1]
      try dsimp only
      rw [nI_1]
      exact r2
    · rw [if_neg (by decide), if_pos (show nI 1 = 1 from rfl), inb_t (show b < 8 by omega) (by omega), if_pos rfl, nI_clamp (by omega), hmB.2 b hb]
      rw [show ss3 P a b c 1 = stN P b from rfl] at r1
      rw [bI r1]
      try dsimp only
      rw [nI_1]
      exact r2
    · rw [if_neg (by decide), if_neg (by decide), inb_t (show c < 8 by omega) (by omega), if_pos rfl, nI_clamp (by omega), hmB.2 c hc]
      rw [show ss3 P a b c 2 = stN P c from rfl] at r1
      rw [bI r1]
      try dsimp only
      rw [nI_1]
      exact r2
theorem s_gBy (N d : Nat) {P : RP} (hP : okP P) (h0 : 0 < P.1) {F : FS} (hw : ∀ i, F.1 i ≤ 99) {ow : Nat → Nat} (how : ∀ d, d < 7 → ow d ≤ 6) {t : Nat} (ht : t ≤ 40) {n a b c : Nat} (hn : n ≤ 3) (ha : a < mS P) (hb : b < mS P) (hc : c < mS P) {I C : Nat → Nat → Int32} (J : Nat → Nat → Int64) (cd : Nat × Nat) (hR : I 87 32 = -9) (hm : msAt P I) (hI : rB P ow F t I C) :
    ∃ B', arun (N + 1000000) (d + 4) 210 [rv (some 87), iv (nI n), iv (nI a), iv (nI b), iv (nI c)] (C, J, cd) = some (iv (nI (gtN P ow t F (ss3 P a b c) n)), (B', J, cd)) ∧ rB P ow F t I B' := by
  have hn6 := hP.1
  obtain ⟨B4, r4, f4, n4⟩ := s_begin N (d + 1) hn6 C J cd hI.2.2
  obtain ⟨B', r5, f5, g5, hR5⟩ := l_gBy N d hP h0 hw how ht hn ha hb hc J cd (I := B4) (by rw [f4 87 (by decide), hI.2.1 32 (by decide)]; exact hR) (hm.eq (by rw [f4 109 (by decide), hI.1 109 (by decide)]) (by rw [f4 87 (by decide), hI.2.1 34 (by decide)])) n4 n 0 (N + 999998 - n) B4 (by omega) (m_start f4 hI.2.2)
  rw [nI_0] at r5
  refine ⟨B', ?_, (hI.1.tr (f4.mo (by decide))).tr (f5.mo (by decide)), fun k hk => by rw [g5 k hk, f4 87 (by decide)]; exact hI.2.1 k hk, hR5⟩
  rw [enX10_groundBy, sgX10_groundBy_0, bI (s_groundMany _ _ hn6 _ _ _ hI.2.2)]
  try dsimp only
  try dsimp only
  rw [bV r4]
  try dsimp only
  rw [show N + 999999 = N + 999998 - n + 1 + n by omega]
  exact r5
def mxV (g : Nat → Nat) (c : Nat) : Int32 := if c = 0 then -1 else nI (mxS g c)
def mnV (g : Nat → Nat) (c : Nat) : Int32 := if c = 0 then 1048576 else nI (mnS g c)
theorem mxV_s {g : Nat → Nat} (h : ∀ e, g e ≤ 100) (c : Nat) : mxI (mxV g c) (nI (g c)) = mxV g (c + 1) := by
  have h1 := h c
  have h2 := mxS_le h c
  show _ = (if c + 1 = 0 then (-1 : Int32) else nI (mxS g (c + 1)))
  rw [if_neg (by omega), mxV]
  by_cases q : c = 0
  · subst q
    rw [if_pos rfl, mxI, if_pos (Int32.lt_of_lt_of_le (by decide : (-1 : Int32) < 0) (nI_pos' (by omega)))]
    show nI (g 0) = nI (max 0 (g 0))
    rw [Nat.max_eq_right (by omega)]
  · rw [if_neg q, mx_N (by omega) (by omega)]
    rfl
theorem mnV_s {g : Nat → Nat} (h : ∀ e, g e ≤ 100) (c : Nat) : (if mnV g c ≤ nI (g c) then mnV g c else nI (g c)) = mnV g (c + 1) := by
  have h1 := h c
  have h2 := mnS_le h c
  have e : mnV g (c + 1) = nI (if c = 0 then g c else min (mnS g c) (g c)) := by
    show (if c + 1 = 0 then (1048576 : Int32) else nI (mnS g (c + 1))) = _
    rw [if_neg (by omega)]; rfl
  rw [e, mnV]
  by_cases q : c = 0
  · rw [if_pos q, if_pos q, if_neg (show ¬ (1048576 : Int32) ≤ nI (g c) from nI_ge (b := 1048576) (by omega) (by decide))]
  · rw [if_neg q, if_neg q]
    by_cases z : mnS g c ≤ g c
    · rw [if_pos (nI_le z (by omega)), Nat.min_eq_left z]
    · rw [if_neg (nI_ge (by omega) (by omega)), Nat.min_eq_right (by omega)]
theorem l_du60 (N d : Nat) {P : RP} (hP : okP P) (h0 : 0 < P.1) {F : FS} (hw : ∀ i, F.1 i ≤ 99) {ow : Nat → Nat} (how : ∀ d, d < 7 → ow d ≤ 6) {t : Nat} (ht : t ≤ 40) {n a b : Nat} (hn : n ≤ 3) (ha : a < mS P) (hb : b < mS P) (x2 x4 : Int32) {I : Nat → Nat → Int32} (J : Nat → Nat → Int64) (cd : Nat × Nat) (hR : I 87 32 = -9) (hm : msAt P I) :
    ∀ (m c f : Nat) (B : Nat → Nat → Int32), c + m = mS P → rB P ow F t I B → ∃ B', EX10_duel (N + 1000000) (d + 4) (f + 1 + m) 60 [some (rv (some 87)), some (iv (nI n)), some (iv x2), some (iv (nI a)), some (iv x4), some (iv (nI b)), some (iv (mxV (fun c => gtN P ow t F (ss3 P a b c) n) c)), some (iv (nI c))] (B, J, cd) = EX10_duel (N + 1000000) (d + 4) f 45 [some (rv (some 87)), some (iv (nI n)), some (iv x2), some (iv (nI a)), some (iv (if x4 ≤ mxV (fun c => gtN P ow t F (ss3 P a b c) n) (mS P) then x4 else mxV (fun c => gtN P ow t F (ss3 P a b c) n) (mS P))), some (iv (nI (b + 1))), none, none] (B', J, cd) ∧ rB P ow F t I B' := by
  have h8 := mS_le hP
  have hg : ∀ c, gtN P ow t F (ss3 P a b c) n ≤ 100 := fun c => by have := gt_le P ow t F (ss3 P a b c) n; omega
  intro m
  induction m with
  | zero =>
    intro c f B hc hB
    have : c = mS P := by omega
    subst this
    refine ⟨B, ?_, hB⟩
    rw [Nat.add_zero, sgX10_duel_60, if_pos (by rw [hB.2.1 34 (by decide), hm.1]; exact Int32.le_refl _), nI_1]
    by_cases q : x4 ≤ mxV (fun c => gtN P ow t F (ss3 P a b c) n) (mS P)
    · rw [if_pos q, if_pos q]
    · rw [if_neg q, if_neg q]
  | succ m ih =>
    intro c f B hc hB
    obtain ⟨B1, r1, hB1⟩ := s_gBy N d hP h0 hw how ht hn ha hb (c := c) (by omega) J cd hR hm hB
    obtain ⟨B', r2, hB'⟩ := ih (c + 1) f B1 (by omega) hB1
    refine ⟨B', ?_, hB'⟩
    have ev := mxV_s (g := fun c => gtN P ow t F (ss3 P a b c) n) hg c
    rw [show f + 1 + (m + 1) = f + 1 + m + 1 by omega, sgX10_duel_60, if_neg (by rw [hB.2.1 34 (by decide), hm.1]; exact nI_ge (by omega) (by omega)), bI r1]
    try dsimp only
    rw [bI (s_greater _ _ _ _ _)]
    try dsimp only
    try dsimp only
    rw [ev, nI_1]
    exact r2
theorem l_du45 (N d : Nat) {P : RP} (hP : okP P) (h0 : 0 < P.1) {F : FS} (hw : ∀ i, F.1 i ≤ 99) {ow : Nat → Nat} (how : ∀ d, d < 7 → ow d ≤ 6) {t : Nat} (ht : t ≤ 40) {n a : Nat} (hn : n ≤ 3) (ha : a < mS P) (x2 : Int32) {I : Nat → Nat → Int32} (J : Nat → Nat → Int64) (cd : Nat × Nat) (hR : I 87 32 = -9) (hm : msAt P I) :
    ∀ (m b f : Nat) (B : Nat → Nat → Int32), b + m = mS P → rB P ow F t I B → ∃ B', EX10_duel (N + 1000000) (d + 4) (f + 1 + 10 * m) 45 [some (rv (some 87)), some (iv (nI n)), some (iv x2), some (iv (nI a)), some (iv (mnV (fun b => mxS (fun c => gtN P ow t F (ss3 P a b c) n) (mS P)) b)), some (iv (nI b)), none, none] (B, J, cd) = EX10_duel (N + 1000000) (d + 4) (f + (8 - mS P) * m) 29 [some (rv (some 87)), some (iv (nI n)), some (iv (mxI x2 (mnV (fun b => mxS (fun c => gtN P ow t F (ss3 P a b c) n) (mS P)) (mS P)))), some (iv (nI (a + 1))), none, none, none, none] (B', J, cd) ∧ rB P ow F t I B' := by
  have h8 := mS_le hP
  have h1 := mS_pos hP.1
  have hg : ∀ b, mxS (fun c => gtN P ow t F (ss3 P a b c) n) (mS P) ≤ 100 := fun b => mxS_le (fun c => by have := gt_le P ow t F (ss3 P a b c) n; omega) _
  intro m
  induction m with
  | zero =>
    intro b f B hb hB
    have : b = mS P := by omega
    subst this
    refine ⟨B, ?_, hB⟩
    rw [Nat.mul_zero, Nat.mul_zero, Nat.add_zero, sgX10_duel_45, if_pos (by rw [hB.2.1 34 (by decide), hm.1]; exact Int32.le_refl _), bI (s_greater _ _ _ _ _)]
    try dsimp only
    try dsimp only
    rw [nI_1]
    rfl
  | succ m ih =>
    intro b f B hb hB
    obtain ⟨B1, r1, hB1⟩ := l_du60 N d hP h0 hw how ht hn ha (b := b) (by omega) x2 (mnV (fun b => mxS (fun c => gtN P ow t F (ss3 P a b c) n) (mS P)) b) J cd hR hm (mS P) 0 (f + (8 - mS P) + 1 + 10 * m) B (by omega) hB
    obtain ⟨B', r2, hB'⟩ := ih (b + 1) (f + (8 - mS P)) B1 (by omega) hB1
    refine ⟨B', ?_, hB'⟩
    have ev : mxV (fun c => gtN P ow t F (ss3 P a b c) n) (mS P) = nI (mxS (fun c => gtN P ow t F (ss3 P a b c) n) (mS P)) := if_neg (by omega)
    have e2 := mnV_s (g := fun b => mxS (fun c => gtN P ow t F (ss3 P a b c) n) (mS P)) hg b
    rw [show mxV (fun c => gtN P ow t F (ss3 P a b c) n) 0 = -1 from rfl, nI_0, ev, e2, show f + (8 - mS P) + 1 + 10 * m + 1 + mS P = f + 1 + 10 * m + 9 by omega] at r1
    rw [show f + 1 + 10 * (m + 1) = f + 1 + 10 * m + 9 + 1 by omega, sgX10_duel_45, if_neg (by rw [hB.2.1 34 (by decide), hm.1]; exact nI_ge (by omega) (by omega)), r1, r2, Nat.mul_succ, show f + (8 - mS P) + (8 - mS P) * m = f + ((8 - mS P) * m + (8 - mS P)) by omega]
theorem l_du29 (N d : Nat) {P : RP} (hP : okP P) (h0 : 0 < P.1) {F : FS} (hw : ∀ i, F.1 i ≤ 99) {ow : Nat → Nat} (how : ∀ d, d < 7 → ow d ≤ 6) {t : Nat} (ht : t ≤ 40) {n : Nat} (hn : n ≤ 3) {I : Nat → Nat → Int32} (J : Nat → Nat → Int64) (cd : Nat × Nat) (hR : I 87 32 = -9) (hm : msAt P I) :
    ∀ (m a f : Nat) (B : Nat → Nat → Int32), a + m = mS P → 100 * m + 1 ≤ f → rB P ow F t I B → ∃ B', EX10_duel (N + 1000000) (d + 4) f 29 [some (rv (some 87)), some (iv (nI n)), some (iv (mxV (fun a => mnS (fun b => mxS (fun c => gtN P ow t F (ss3 P a b c) n) (mS P)) (mS P)) a)), some (iv (nI a)), none, none, none, none] (B, J, cd) = some (iv (nI (mxS (fun a => mnS (fun b => mxS (fun c => gtN P ow t F (ss3 P a b c) n) (mS P)) (mS P)) (mS P))), (B', J, cd)) ∧ rB P ow F t I B' := by
  have h8 := mS_le hP
  have h1 := mS_pos hP.1
  have hg : ∀ a, mnS (fun b => mxS (fun c => gtN P ow t F (ss3 P a b c) n) (mS P)) (mS P) ≤ 100 := fun a => mnS_le (fun b => mxS_le (fun c => by have := gt_le P ow t F (ss3 P a b c) n; omega) _) _
  intro m
  induction m with
  | zero =>
    intro a f B ha hf hB
    have : a = mS P := by omega
    subst this
    obtain ⟨g, rfl⟩ : ∃ g, f = g + 1 := ⟨f - 1, by omega⟩
    refine ⟨B, ?_, hB⟩
    rw [sgX10_duel_29, if_pos (by rw [hB.2.1 34 (by decide), hm.1]; exact Int32.le_refl _), mxV, if_neg (by omega)]
  | succ m ih =>
    intro a f B ha hf hB
    have hq : 10 * mS P ≤ 80 := by omega
    obtain ⟨g, rfl⟩ : ∃ g, f = g + 1 + 10 * mS P + 1 := ⟨f - (2 + 10 * mS P), by omega⟩
    obtain ⟨B1, r1, hB1⟩ := l_du45 N d hP h0 hw how ht hn (a := a) (by omega) (mxV (fun a => mnS (fun b => mxS (fun c => gtN P ow t F (ss3 P a b c) n) (mS P)) (mS P)) a) J cd hR hm (mS P) 0 g B (by omega) hB
    have ev : mnV (fun b => mxS (fun c => gtN P ow t F (ss3 P a b c) n) (mS P)) (mS P) = nI (mnS (fun b => mxS (fun c => gtN P ow t F (ss3 P a b c) n) (mS P)) (mS P)) := if_neg (by omega)
    have e2 := mxV_s (g := fun a => mnS (fun b => mxS (fun c => gtN P ow t F (ss3 P a b c) n) (mS P)) (mS P)) hg a
    rw [show mnV (fun b => mxS (fun c => gtN P ow t F (ss3 P a b c) n) (mS P)) 0 = 1048576 from rfl, nI_0, ev, e2] at r1
    obtain ⟨B', r2, hB'⟩ := ih (a + 1) (g + (8 - mS P) * mS P) B1 (by omega) (by omega) hB1
    refine ⟨B', ?_, hB'⟩
    rw [sgX10_duel_29, if_neg (by rw [hB.2.1 34 (by decide), hm.1]; exact nI_ge (by omega) (by omega)), r1, r2]
theorem du_eq (P : RP) (ow : Nat → Nat) (t : Nat) (F : FS) {n : Nat} (hn : n ≤ 3) {m : Nat} (hm : mS P = m + 1) : duC P ow t F n 0 (fun _ => 0) = mxS (fun a => mnS (fun b => mxS (fun c => gtN P ow t F (ss3 P a b c) n) (mS P)) (mS P)) (mS P) := by
  have g0 : ∀ a b c, gsD P ow t F (ss3 P a b c) 0 = gsD P ow t F (up1 (fun _ => 0) 0 (stN P a)) 0 := fun a b c => gsD_ext P ow t F (fun i hi => by
    have : i = 0 := by omega
    subst this; rfl)
  have g1 : ∀ a b c, gsD P ow t F (ss3 P a b c) 1 = gsD P ow t F (up1 (up1 (fun _ => 0) 0 (stN P a)) 1 (stN P b)) 1 := fun a b c => gsD_ext P ow t F (fun i hi => by
    have : i = 0 ∨ i = 1 := by omega
    rcases this with rfl | rfl <;> rfl)
  have g2 : ∀ a b c, gsD P ow t F (ss3 P a b c) 2 = gsD P ow t F (up1 (up1 (up1 (fun _ => 0) 0 (stN P a)) 1 (stN P b)) 2 (stN P c)) 2 := fun a b c => gsD_ext P ow t F (fun i hi => by
    have : i = 0 ∨ i = 1 ∨ i = 2 := by omega
    rcases this with rfl | rfl | rfl <;> rfl)
  have cc : n = 0 ∨ n = 1 ∨ n = 2 ∨ n = 3 := by omega
  rw [hm]
  rcases cc with rfl | rfl | rfl | rfl
  · show 0 = mxS (fun a => mnS (fun b => mxS (fun c => 0) (m + 1)) (m + 1)) (m + 1)
    simp only [mxS_c, mnS_c]
  · show chN true (fun a => pc6 (gsD P ow t F (up1 (fun _ => 0) 0 (stN P a)) 0) + 0) (mS P) = mxS (fun a => mnS (fun b => mxS (fun c => 0 + pc6 (gsD P ow t F (ss3 P a b c) 0)) (m + 1)) (m + 1)) (m + 1)
    simp only [g0, mxS_c, mnS_c, Nat.zero_add, Nat.add_zero, ch_t, hm]
  · show chN true (fun a => pc6 (gsD P ow t F (up1 (fun _ => 0) 0 (stN P a)) 0) + chN false (fun b => pc6 (gsD P ow t F (up1 (up1 (fun _ => 0) 0 (stN P a)) 1 (stN P b)) 1) + 0) (mS P)) (mS P) = mxS (fun a => mnS (fun b => mxS (fun c => 0 + pc6 (gsD P ow t F (ss3 P a b c) 0) + pc6 (gsD P ow t F (ss3 P a b c) 1)) (m + 1)) (m + 1)) (m + 1)
    simp only [g0, g1, mxS_c, mnS_add, Nat.zero_add, Nat.add_zero, ch_t, ch_f, hm]
  · show chN true (fun a => pc6 (gsD P ow t F (up1 (fun _ => 0) 0 (stN P a)) 0) + chN false (fun b => pc6 (gsD P ow t F (up1 (up1 (fun _ => 0) 0 (stN P a)) 1 (stN P b)) 1) + chN true (fun c => pc6 (gsD P ow t F (up1 (up1 (up1 (fun _ => 0) 0 (stN P a)) 1 (stN P b)) 2 (stN P c)) 2) + 0) (mS P)) (mS P)) (mS P) = mxS (fun a => mnS (fun b => mxS (fun c => 0 + pc6 (gsD P ow t F (ss3 P a b c) 0) + pc6 (gsD P ow t F (ss3 P a b c) 1) + pc6 (gsD P ow t F (ss3 P a b c) 2)) (m + 1)) (m + 1)) (m + 1)
    simp only [g0, g1, g2, Nat.add_assoc, mxS_add, mnS_add, Nat.zero_add, Nat.add_zero, ch_t, ch_f, hm]
theorem op_duel (x : Int32) : OK2 97 211 [iv x] := by
  intro N d I J h
  obtain ⟨P, ow, F, D, hP, how, hC, hD, h25, hFl, hRf, h32, hw⟩ := h.un
  have hn := hP.1
  have c3 : (3 : Int32) = nI 3 := rfl
  have in3 : ∀ {k : Nat}, k ≤ 3 → (¬ nI k < 0 ∧ ¬ (3 : Int32) < nI k) := fun hk => ⟨nI_pos (by omega), nI_nlt (a := 3) hk (by decide)⟩
  rcases ixc x 4 (by decide) with hx | ⟨n, hn4, rfl⟩
  · refine ⟨iv (-1), I, J, I, J, ?_, ?_, h⟩
    · rw [enX9_duel, sgX9_duel_0, c3, bI (x_searchB _ _ (by decide) (Or.inr hx) _ _)]
      try dsimp only
      try dsimp only
      rw [if_neg (by decide)]
    · rw [enX10_duel, sgX10_duel_0, bI (s_in _ _ _ _ _ _)]
      try dsimp only
      try dsimp only
      rw [b2i_f (fun q => hx.elim q.1 (fun z => q.2 (i_le_lt (k := 3) (by decide) z))), if_pos rfl]
  · by_cases hz : P.1 = 0
    · refine ⟨iv (-4), I, J, I, J, ?_, ?_, h⟩
      · rw [enX9_duel, sgX9_duel_0, c3, bI (x_search0 _ _ (by decide) (by omega) _ _ (by rw [hC.1, hz]; rfl))]
        try dsimp only
        try dsimp only
        rw [if_neg (by decide)]
      · rw [enX10_duel, sgX10_duel_0, bI (s_in _ _ _ _ _ _)]
        try dsimp only
        try dsimp only
        rw [b2i_t (in3 (by omega)), if_neg n10, if_pos (by rw [hRf.1, hz]; rfl)]
    · have h0 : 0 < P.1 := by omega
      have h1 := mS_pos hn
      have h8 := mS_le hP
      obtain ⟨B1, r1, f1⟩ := s_contest N (d + 7) hP h0 hD hw (n := n) (by omega) I J (73, 80) hC hFl
      have hR1 : refAt P ow B1 F D := hRf.eq (fun a h1 h2 => f1 a (by simp; omega)) (by rw [f1 87 (by decide)]) (by rw [f1 87 (by decide)]) (by rw [f1 87 (by decide)])
      obtain ⟨B3, r3, f3, g3, m3, m3'⟩ := s_setSets N (d + 16) hP B1 J (73, 80) hR1
      have hR3 : refAt P ow B3 F D := hR1.eq (fun a h1 h2 => f3 a (by simp; omega)) (g3 10 (by decide)) (g3 18 (by decide)) (g3 25 (by decide))
      obtain ⟨B6, r6, hr6⟩ := l_du29 N (d + 15) hP h0 hw how hD (n := n) (by omega) J (73, 80) (by rw [g3 32 (by decide), f1 87 (by decide)]; exact h32) ⟨m3, m3'⟩ (mS P) 0 (N + 999999) B3 (by omega) (by omega) ⟨fr.rf, f87.rf, hR3⟩
      have eq := du_eq P ow D F (n := n) (by omega) (m := mS P - 1) (by omega)
      rw [← eq, show mxV (fun a => mnS (fun b => mxS (fun c => gtN P ow D F (ss3 P a b c) n) (mS P)) (mS P)) 0 = -1 from rfl, nI_0] at r6
      have e87 : ∀ k, k ∉ [18, 25, 31, 34] → B6 87 k = I 87 k := fun k hk => by
        simp at hk
        rw [hr6.2.1 k (by simp; omega), g3 k (by simp; omega), f1 87 (by decide)]
      have e00 : B6 0 = I 0 := by rw [hr6.1 0 (by decide), f3 0 (by decide), f1 0 (by decide)]
      refine ⟨iv (nI (duC P ow D F n 0 (fun _ => 0))), B1, J, B6, J, ?_, ?_, h.trial hn hRf hr6.2.2 (((f1.mo (by decide)).tr (f3.mo (by decide))).tr (hr6.1.mo (by decide))) (fun i _ => by rw [e00]) (e87 0 (by decide)) (e87 32 (by decide)) (by rw [e00, e87 2 (by decide)]; exact h.2.2.2.1.1) h.2.2.2.1.2⟩
      · rw [enX9_duel, sgX9_duel_0, c3, bI (x_searchO _ _ (by decide) (by omega) _ _ (by rw [hC.1]; exact nI_ne0 h0 (by omega)))]
        try dsimp only
        try dsimp only
        rw [if_pos rfl, h25, bI r1]
      · rw [enX10_duel, sgX10_duel_0, bI (s_in _ _ _ _ _ _)]
        try dsimp only
        try dsimp only
        rw [b2i_t (in3 (by omega)), if_neg n10, if_neg (by rw [hR1.1]; exact nI_ne0 h0 (by omega)), bV r3]
        exact r6
