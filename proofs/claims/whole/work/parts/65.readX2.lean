/-! a TEXT read by the class: REACHES, sets, the whole -/
theorem s_takeR (N d : Nat) {tx : Nat → Int32} {L p : Nat} (hL : L ≤ 60) (hp : p ≤ L) {R : RR} (hR : okR R) (B : Nat → Nat → Int32) (J : Nat → Nat → Int64) (cd : Nat × Nat) (hB : RDp tx L p B) (hD : DR R B) : ∃ B', arun (N + 1000000) (d + 4) 47 [rv (some 17), rv (some 80)] (B, J, cd) = some (iv (if (rcR tx L p R).1 then 1 else 0), (B', J, cd)) ∧ fr [17, 80, 81, 82, 83] B B' ∧ RDp tx L (rcR tx L p R).2.1 B' ∧ DR (rcR tx L p R).2.2 B' := by
  have sn := s_seen N (d + 2) hL (show p ≤ 60 by omega) B J cd hB
  have bad : ∀ {q : Option RES}, rcR tx L p R = (false, p, R) → q = some (iv 0, (B, J, cd)) → ∃ B', q = some (iv (if (rcR tx L p R).1 then 1 else 0), (B', J, cd)) ∧ fr [17, 80, 81, 82, 83] B B' ∧ RDp tx L (rcR tx L p R).2.1 B' ∧ DR (rcR tx L p R).2.2 B' := by
    intro q e hq
    exact ⟨B, by rw [hq, e]; rfl, fr.rf, by rw [e]; exact hB, by rw [e]; exact hD⟩
  rw [enX7_takesReach, sgX7_takesReach_0, bI sn]
  try dsimp only
  rw [bI (s_byL N (d + 2) _ _)]
  try dsimp only
  try dsimp only
  by_cases c : p < L
  · have es : seeN tx L p = tx p := if_pos c
    rw [es]
    by_cases ck : kB (tx p) ≤ 5
    · rw [if_pos ck, if_neg (n1n _ (by omega)), bI (s_room N (d + 1) hR ck B J cd hD)]
      try dsimp only
      try dsimp only
      by_cases cr : R.1 < 6 ∧ ¬ (isG (kB (tx p)) = true ∧ 3 ≤ gcN R)
      · rw [b2i_t cr, if_neg n10, hB.2.1, nI_1]
        have hB1 : RDp tx L (p + 1) (wr B 17 2 (nI (p + 1))) := hB.st rfl rfl
        have s1 := s_sees N (d + 1) (lo := 1) (hi := 9) hL (show p + 1 ≤ 60 by omega) (by decide) (by decide) _ J cd hB1
        rw [show nI 1 = (1 : Int32) from rfl, show nI 9 = (9 : Int32) from rfl] at s1
        rw [bI s1]
        try dsimp only
        by_cases f1 : fgP tx L 1 9 (p + 1)
        · have l1 := f1.1
          have v1 := (fg_v (by decide) (by decide) f1).1
          rw [b2i_t f1, if_neg n10, bI (s_seen N (d + 2) hL (show p + 1 ≤ 60 by omega) _ J cd hB1)]
          try dsimp only
          try dsimp only
          rw [show seeN tx L (p + 1) = tx (p + 1) from if_pos l1, v1, wr_eq, nI_1]
          have hB2 : RDp tx L (p + 1 + 1) (wr (wr B 17 2 (nI (p + 1))) 17 2 (nI (p + 1 + 1))) := hB1.st rfl rfl
          have s2 := s_sees N (d + 1) (lo := 0) (hi := 9) hL (show p + 1 + 1 ≤ 60 by omega) (by decide) (by decide) _ J cd hB2
          rw [nI_0, show nI 9 = (9 : Int32) from rfl] at s2
          rw [bI s2]
          try dsimp only
          by_cases f2 : fgP tx L 0 9 (p + 1 + 1)
          · have l2 := f2.1
            have v2 := (fg_v (by decide) (by decide) f2).1
            have er : rcR tx L p R = (true, p + 3, (R.1 + 1, up1 R.2.1 R.1 (kB (tx p)), up1 R.2.2.1 R.1 (fvN tx (p + 1)), up1 R.2.2.2 R.1 (fvN tx (p + 2)))) := by
              unfold rcR
              rw [if_pos ⟨c, ck, cr⟩, if_pos f1, if_pos f2]
            have fB : fr [17] B (wr (wr B 17 2 (nI (p + 1))) 17 2 (nI (p + 1 + 1))) := (fr.rf.w (by simp)).w (by simp)
            obtain ⟨B3, r3, f3, d3⟩ := s_add N d hR (k := kB (tx p)) (m := fvN tx (p + 1)) (s := fvN tx (p + 1 + 1)) ck cr.1 cr.2 _ J cd (hD.eq (fun a h1 h2 => fB a (by simp; omega)))
            have h17 : B3 17 2 = nI (p + 1 + 1) := by rw [f3 17 (by decide)]; exact hB2.2.1
            refine ⟨wr B3 17 2 (nI (p + 1 + 1 + 1)), ?_, ((fB.mo (by simp)).tr (f3.mo (by simp))).w (by simp), ?_, ?_⟩
            · rw [b2i_t f2, if_neg n10, bI (s_seen N (d + 2) hL (show p + 1 + 1 ≤ 60 by omega) _ J cd hB2)]
              try dsimp only
              try dsimp only
              rw [show seeN tx L (p + 1 + 1) = tx (p + 1 + 1) from if_pos l2, v2, bV r3]
              try dsimp only
              rw [h17, nI_1, er]
              rfl
            · rw [er]
              exact hB2.st (f3 17 (by decide)) (f3 18 (by decide))
            · rw [er]
              exact d3.eq (fun a h1 h2 => wr_ne (by omega))
          · have er : rcR tx L p R = (false, p + 2, R) := by
              unfold rcR
              rw [if_pos ⟨c, ck, cr⟩, if_pos f1, if_neg f2]
            refine ⟨_, by rw [b2i_f f2, if_pos rfl, er]; rfl, (fr.rf.w (by simp)).w (by simp), by rw [er]; exact hB2, by rw [er]; exact hD.eq (fun a h1 h2 => by rw [wr_ne (by omega), wr_ne (by omega)])⟩
        · have er : rcR tx L p R = (false, p + 1, R) := by
            unfold rcR
            rw [if_pos ⟨c, ck, cr⟩, if_neg f1]
          refine ⟨_, by rw [b2i_f f1, if_pos rfl, er]; rfl, fr.rf.w (by simp), by rw [er]; exact hB1, by rw [er]; exact hD.eq (fun a h1 h2 => wr_ne (by omega))⟩
      · exact bad (if_neg (fun q => cr q.2.2)) (by rw [b2i_f cr, if_pos rfl])
    · exact bad (if_neg (fun q => ck q.2.1)) (by rw [if_neg ck, if_pos rfl])
  · have es : kB (seeN tx L p) = 9 := by
      rw [seeN, if_neg c]; decide
    exact bad (rcR_end (by omega)) (by rw [es, if_neg (show ¬ (9 : Nat) ≤ 5 by decide), if_pos rfl])
-- the sets that can be SHUT
theorem preS_app (g s : Nat) : ∀ k, ∃ r, preS g (s + k) = preS g s ++ r
  | 0 => ⟨[], by simp⟩
  | k + 1 => by
    obtain ⟨r, hr⟩ := preS_app g s k
    rw [← Nat.add_assoc, preS_s, hr]
    by_cases c : s + k &&& g = s + k
    · exact ⟨r ++ [s + k], by rw [if_pos c, List.append_assoc]⟩
    · exact ⟨r, by rw [if_neg c]⟩
theorem preS_64 {g s : Nat} (hs : s ≤ 64) (h : (preS g 64).length ≤ (preS g s).length) : preS g 64 = preS g s := by
  obtain ⟨r, hr⟩ := preS_app g s (64 - s)
  rw [show s + (64 - s) = 64 by omega] at hr
  rw [hr, List.length_append] at h
  have : r = [] := List.eq_nil_of_length_eq_zero (by omega)
  rw [hr, this, List.append_nil]
theorem l_lists (N d : Nat) {g : Nat} (hg : g < 64) (h8 : (preS g 64).length ≤ 8) (I : Nat → Nat → Int32) (J : Nat → Nat → Int64) (cd : Nat × Nat) (h1 : I 80 1 = nI g) : ∀ (m s f : Nat) (B : Nat → Nat → Int32), s + m = 64 → m < f → fr [80, 86] I B → (∀ k, k ≠ 3 → B 80 k = I 80 k) → B 80 3 = nI (preS g s).length → (∀ k (h : k < (preS g s).length), B 86 k = nI ((preS g s)[k])) → ∃ B', EX2_listSets (N + 1000000) (d + 1) f 7 [some (rv (some 80)), some (iv (nI s))] (B, J, cd) = some (rv none, (B', J, cd)) ∧ fr [80, 86] I B' ∧ (∀ k, k ≠ 3 → B' 80 k = I 80 k) ∧ B' 80 3 = nI (preS g 64).length ∧ (∀ k (h : k < (preS g 64).length), B' 86 k = nI ((preS g 64)[k])) := by
  intro m
  induction m with
  | zero =>
    intro s f B hs hf hB h80 h3 h86
    have : s = 64 := by omega
    subst this
    obtain ⟨n, rfl⟩ : ∃ n, f = n + 1 := ⟨f - 1, by omega⟩
    exact ⟨B, by rw [sgX2_listSets_7, if_pos (by decide)], hB, h80, h3, h86⟩
  | succ m ih =>
    intro s f B hs hf hB h80 h3 h86
    obtain ⟨n, rfl⟩ : ∃ n, f = n + 1 := ⟨f - 1, by omega⟩
    have c64 : ¬ (64 : Int32) ≤ nI s := nI_ge (b := 64) (by omega) (by decide)
    have hmo : (preS g s).length ≤ (preS g 64).length := by
      have := preS_mono g s (64 - s)
      rwa [show s + (64 - s) = 64 by omega] at this
    by_cases c8 : 8 ≤ (preS g s).length
    · have e := preS_64 (g := g) (s := s) (by omega) (by omega)
      refine ⟨B, ?_, hB, h80, by rw [e]; exact h3, by rw [e]; exact h86⟩
      rw [sgX2_listSets_7, if_neg c64, h3, if_pos (show (8 : Int32) ≤ nI (preS g s).length from nI_le (a := 8) c8 (by omega))]
    · have n8 : ¬ (8 : Int32) ≤ B 80 3 := by rw [h3]; exact nI_ge (b := 8) (by omega) (by decide)
      have can : ∀ {q : Option RES}, (if s &&& g = s then (if inb (B 80 3) 8 then (EX2_listSets (N + 1000000) (d + 1) n 7 [some (rv (some 80)), some (iv (nI s + 1))] (wr (wr B 86 ((B 80 3).toNatClampNeg) (nI s)) 80 3 ((B 80 3) + 1), J, cd)) else none) else EX2_listSets (N + 1000000) (d + 1) n 7 [some (rv (some 80)), some (iv (nI s + 1))] (B, J, cd)) = q → EX2_listSets (N + 1000000) (d + 1) (n + 1) 7 [some (rv (some 80)), some (iv (nI s))] (B, J, cd) = q := by
        intro q hq
        have hb1 : B 80 1 = nI g := by rw [h80 1 (by decide)]; exact h1
        have ci := can_iff hg (nI s)
        rw [sgX2_listSets_7, if_neg c64, if_neg n8]
        by_cases z : s &&& g = s
        · rw [if_pos z] at hq
          have r1 : arun (N + 1000000) (d + 1) 17 [rv (some 80), iv (nI s)] (B, J, cd) = some (iv 1, (B, J, cd)) := by
            rw [enX2_canShut, sgX2_canShut_80_0, hb1, if_pos (ci.mpr ⟨s, by omega, rfl, z⟩)]
          rw [bI r1]
          try dsimp only
          rw [if_neg n10]
          exact hq
        · rw [if_neg z] at hq
          have r1 : arun (N + 1000000) (d + 1) 17 [rv (some 80), iv (nI s)] (B, J, cd) = some (iv 0, (B, J, cd)) := by
            rw [enX2_canShut, sgX2_canShut_80_0, hb1, if_neg (fun w => by
              obtain ⟨s', h64, e, h'⟩ := ci.mp w
              have : s = s' := nI_inj (by omega) (by omega) e
              subst this
              exact z h')]
          rw [bI r1]
          try dsimp only
          rw [if_pos rfl]
          exact hq
      by_cases z : s &&& g = s
      · have eL : preS g (s + 1) = preS g s ++ [s] := by rw [preS_s, if_pos z]
        have i8 : inb (B 80 3) 8 = true := by rw [h3]; exact inb_t (by omega) (by omega)
        have ec : (B 80 3).toNatClampNeg = (preS g s).length := by rw [h3, nI_clamp (by omega)]
        obtain ⟨B', r, rest⟩ := ih (s + 1) n (wr (wr B 86 (preS g s).length (nI s)) 80 3 (nI ((preS g s).length + 1))) (by omega) (by omega) ((hB.w (by simp)).w (by simp)) (fun k hk => by rw [wr_nj hk, wr_ne (by decide)]; exact h80 k hk) (by rw [wr_eq, eL, List.length_append]; rfl) (by
          intro k hk
          rw [wr_ne (by decide)]
          rw [List.getElem_of_eq eL hk, get_app (by rw [eL] at hk; exact hk)]
          by_cases w : k < (preS g s).length
          · rw [dif_pos w, wr_nj (by omega)]; exact h86 k w
          · rw [dif_neg w]
            have : k = (preS g s).length := by
              rw [eL, List.length_append] at hk
              simp at hk
              omega
            rw [this, wr_eq])
        refine ⟨B', can ?_, rest⟩
        rw [if_pos z, i8, if_pos rfl, ec, h3, nI_1, nI_1]
        exact r
      · have eL : preS g (s + 1) = preS g s := by rw [preS_s, if_neg z]
        obtain ⟨B', r, rest⟩ := ih (s + 1) n B (by omega) (by omega) hB h80 (by rw [eL]; exact h3) (by
          intro k hk
          rw [List.getElem_of_eq eL hk]
          exact h86 k (by rw [eL] at hk; exact hk))
        refine ⟨B', can ?_, rest⟩
        rw [if_neg z, nI_1]
        exact r
theorem s_lists (N d : Nat) {g : Nat} (hg : g < 64) (h8 : (preS g 64).length ≤ 8) (I : Nat → Nat → Int32) (J : Nat → Nat → Int64) (cd : Nat × Nat) (h1 : I 80 1 = nI g) : ∃ B', arun (N + 1000000) (d + 2) 20 [rv (some 80)] (I, J, cd) = some (rv none, (B', J, cd)) ∧ fr [80, 86] I B' ∧ (∀ k, k ≠ 3 → B' 80 k = I 80 k) ∧ B' 80 3 = nI (preS g 64).length ∧ (∀ k (h : k < (preS g 64).length), B' 86 k = nI ((preS g 64)[k])) := by
  obtain ⟨B', r, f, a, b, c⟩ := l_lists N d hg h8 (wr I 80 3 0) J cd (by rw [wr_nj (by decide)]; exact h1) 64 0 (N + 999999) (wr I 80 3 0) (by omega) (by omega) fr.rf (fun _ _ => rfl) (by rw [wr_eq]; rfl) (fun k hk => absurd hk (by show ¬ k < 0; omega))
  rw [nI_0] at r
  refine ⟨B', by rw [enX2_listSets, sgX2_listSets_0]; exact r, (fr.rf.w (by simp)).tr f, fun k hk => by rw [a k hk, wr_nj hk], b, c⟩
-- the loop of REACHES
def drW (tx : Nat → Int32) (L : Nat) (B : Nat → Nat → Int32) : Prop := ∀ e, e < 7 → B 84 e = nI (rnR tx L e) ∧ B 85 e = nI (owR tx L e)
theorem x_loopR (N d : Nat) {tx : Nat → Int32} {L : Nat} (hL : L ≤ 60) (J : Nat → Nat → Int64) (cd : Nat × Nat) : ∀ (m f p : Nat) (R : RR) (B : Nat → Nat → Int32), 7 ≤ R.1 + m → 3 * m < f → p ≤ L → okR R → RDp tx L p B → DR R B → ∃ B' f', EX7_read (N + 1000000) (d + 4) f 72 [some (rv (some 17)), none, none, some (rv (some 80)), some (iv 1), some (iv (nI R.1))] (B, J, cd) = EX7_read (N + 1000000) (d + 4) (f' + 1) 113 [some (rv (some 17)), none, none, some (rv (some 80)), some (iv (if (lpR tx L m (SK tx L p) R).1 then 1 else 0)), none] (B', J, cd) ∧ fr [17, 80, 81, 82, 83] B B' ∧ RDp tx L (lpR tx L m (SK tx L p) R).2.1 B' ∧ DR (lpR tx L m (SK tx L p) R).2.2 B' := by
  intro m
  induction m with
  | zero =>
    intro f p R B h7 hf hp hR hB hD
    exact absurd hR.1 (by omega)
  | succ m ih =>
    intro f p R B h7 hf hp hR hB hD
    obtain ⟨g, rfl⟩ : ∃ g, f = g + 1 + 1 + 1 + 1 := ⟨f - 4, by omega⟩
    have h6 := hR.1
    have hs := SK_le (tx := tx) hp
    have c60 : ¬ (60 : Int32) ≤ nI R.1 := nI_ge (b := 60) (by omega) (by decide)
    -- one REACH from behind the BLANKS, and on
    have one : ∀ (B0 : Nat → Nat → Int32) (p0 : Nat), p0 ≤ L → SK tx L p0 = SK tx L p → fr [17] B B0 → RDp tx L p0 B0 → (R.1 = 0 ∨ SK tx L p < L) → ∃ B' f', EX7_read (N + 1000000) (d + 4) (g + 1 + 1 + 1) 96 [some (rv (some 17)), none, none, some (rv (some 80)), none, some (iv (nI R.1))] (B0, J, cd) = EX7_read (N + 1000000) (d + 4) (f' + 1) 113 [some (rv (some 17)), none, none, some (rv (some 80)), some (iv (if (lpR tx L (m + 1) (SK tx L p) R).1 then 1 else 0)), none] (B', J, cd) ∧ fr [17, 80, 81, 82, 83] B B' ∧ RDp tx L (lpR tx L (m + 1) (SK tx L p) R).2.1 B' ∧ DR (lpR tx L (m + 1) (SK tx L p) R).2.2 B' := by
      intro B0 p0 hp0 e0 f0 hB0 hor
      obtain ⟨B1, r1, f1, h1⟩ := s_skipX N (d + 2) hL (show p0 ≤ 60 by omega) B0 J cd hB0
      rw [e0] at h1
      have fB1 : fr [17] B B1 := f0.tr f1
      obtain ⟨B2, r2, f2, h2, d2⟩ := s_takeR N d hL hs hR B1 J cd h1 (hD.eq (fun a a1 a2 => fB1 a (by simp; omega)))
      have fB2 : fr [17, 80, 81, 82, 83] B B2 := (fB1.mo (by simp)).tr f2
      have hcc : (rcR tx L (SK tx L p) R).1 = true ∨ (rcR tx L (SK tx L p) R).1 = false := by cases (rcR tx L (SK tx L p) R).1 <;> simp
      rcases hcc with q | q
      · have hlt : ¬ L ≤ SK tx L p := fun z => by
          rw [rcR_end z] at q
          exact absurd q (by exact Bool.false_ne_true)
        have el : lpR tx L (m + 1) (SK tx L p) R = lpR tx L m (SK tx L (rcR tx L (SK tx L p) R).2.1) (rcR tx L (SK tx L p) R).2.2 := by
          show (if L ≤ SK tx L p then _ else if (rcR tx L (SK tx L p) R).1 = true then _ else _) = _
          rw [if_neg hlt, if_pos q]
        have en := rcR_n q
        obtain ⟨B3, f', r3, f3, h3, d3⟩ := ih (g + 1 + 1) (rcR tx L (SK tx L p) R).2.1 (rcR tx L (SK tx L p) R).2.2 B2 (by omega) (by omega) (rcR_le hs) (rcR_ok hR) h2 d2
        refine ⟨B3, f', ?_, fB2.tr f3, by rw [el]; exact h3, by rw [el]; exact d3⟩
        rw [sgX7_read_96, bV r1]
        try dsimp only
        rw [bI r2]
        try dsimp only
        rw [if_pos q, nI_1, el, ← en.1]
        exact r3
      · have el : (lpR tx L (m + 1) (SK tx L p) R).1 = false ∧ (lpR tx L (m + 1) (SK tx L p) R).2 = (rcR tx L (SK tx L p) R).2 := by
          show (if L ≤ SK tx L p then _ else if (rcR tx L (SK tx L p) R).1 = true then _ else _ : Bool × Nat × RR).1 = false ∧ (if L ≤ SK tx L p then _ else if (rcR tx L (SK tx L p) R).1 = true then _ else _ : Bool × Nat × RR).2 = _
          by_cases z : L ≤ SK tx L p
          · rw [if_pos z, rcR_end z]
            have hz : R.1 = 0 := hor.resolve_right (by omega)
            refine ⟨?_, rfl⟩
            show decide (0 < R.1) = false
            rw [hz]; decide
          · rw [if_neg z, if_neg (by rw [q]; exact Bool.false_ne_true)]
            exact ⟨q, rfl⟩
        refine ⟨B2, g, ?_, fB2, by rw [el.2]; exact h2, by rw [el.2]; exact d2⟩
        rw [sgX7_read_96, bV r1]
        try dsimp only
        rw [bI r2]
        try dsimp only
        rw [q, el.1, if_neg Bool.false_ne_true, sgX7_read_72, if_pos rfl]
    by_cases z : R.1 = 0
    · obtain ⟨B', f', r, rest⟩ := one B p hp rfl fr.rf hB (Or.inl z)
      refine ⟨B', f', ?_, rest⟩
      rw [sgX7_read_72, if_neg n10, if_neg c60, if_pos (by rw [z]; rfl)]
      exact r
    · obtain ⟨B1, r1, f1, h1⟩ := s_skipX N (d + 1) hL (show p ≤ 60 by omega) B J cd hB
      by_cases q : SK tx L p < L
      · have ro : arun (N + 1000000) (d + 4) 48 [rv (some 17)] (B, J, cd) = some (iv 0, (B1, J, cd)) := by
          rw [enX7_onlyBlanksLeft, sgX7_onlyBlanksLeft_0, bV r1]
          try dsimp only
          rw [if_pos (show B1 17 2 < B1 17 1 by rw [h1.1, h1.2.1]; exact nI_lt q (by omega))]
        obtain ⟨B', f', r, rest⟩ := one B1 (SK tx L p) hs (SK_id hL) f1 h1 (Or.inr q)
        refine ⟨B', f', ?_, rest⟩
        rw [sgX7_read_72, if_neg n10, if_neg c60, if_neg (nI_ne0 (by omega) (by omega)), bI ro]
        try dsimp only
        rw [if_pos rfl]
        exact r
      · have ro : arun (N + 1000000) (d + 4) 48 [rv (some 17)] (B, J, cd) = some (iv 1, (B1, J, cd)) := by
          rw [enX7_onlyBlanksLeft, sgX7_onlyBlanksLeft_0, bV r1]
          try dsimp only
          rw [if_neg (show ¬ B1 17 2 < B1 17 1 by rw [h1.1, h1.2.1]; exact nI_nlt (by omega) (by omega))]
        have el : lpR tx L (m + 1) (SK tx L p) R = (true, SK tx L p, R) := by
          show (if L ≤ SK tx L p then _ else if (rcR tx L (SK tx L p) R).1 = true then _ else _) = _
          rw [if_pos (by omega)]
          congr 1
          exact decide_eq_true (by omega)
        refine ⟨B1, g + 1 + 1, ?_, f1.mo (by simp), by rw [el]; exact h1, by rw [el]; exact hD.eq (fun a a1 a2 => f1 a (by simp; omega))⟩
        rw [sgX7_read_72, if_neg n10, if_neg c60, if_neg (nI_ne0 (by omega) (by omega)), bI ro]
        try dsimp only
        rw [if_neg n10, el]
        rfl
theorem x_read (N d : Nat) {tx : Nat → Int32} {t L : Nat} (ht : t < 4) (hL : L ≤ 60) (I : Nat → Nat → Int32) (J : Nat → Nat → Int64) (cd : Nat × Nat) (h16 : I 16 t = nI L) (htx : ∀ i, i < L → I (12 + t) i = tx i) :
    ∃ B, arun (N + 1000000) (d + 5) 45 [rv (some 17), rv (some 10), iv (nI t), rv (some 80)] (I, J, cd) = some (iv (if (rdR tx L).1 then -9 else nI (rdR tx L).2.1), (B, J, cd)) ∧ fr [17, 18, 80, 81, 82, 83, 84, 85, 86] I B ∧ ((rdR tx L).1 = true → courN (PR tx L) (owR tx L) B 80) := by
  obtain ⟨B1, r1, f1, x1⟩ := s_give_18 N (d + 1) ht hL I J cd h16
  have r2 := s_sizeOfN_10 N (d + 2) ht B1 J cd (n := L) (by rw [f1 16 (by decide)]; exact h16) hL
  -- cleared
  have fC : fr [17, 18, 80] I (wr (wr (wr (wr (wr B1 17 1 (nI L)) 17 2 (nI 0)) 80 0 0) 80 1 0) 80 2 0) := (((((f1.mo (by simp)).w (by simp)).w (by simp)).w (by simp)).w (by simp)).w (by simp)
  have hB0 : RDp tx L 0 (wr (wr (wr (wr (wr B1 17 1 (nI L)) 17 2 (nI 0)) 80 0 0) 80 1 0) 80 2 0) := by
    refine ⟨?_, ?_, fun i hi => ?_⟩
    · rw [wr_ne (by decide), wr_ne (by decide), wr_ne (by decide), wr_nj (by decide), wr_eq]
    · rw [wr_ne (by decide), wr_ne (by decide), wr_ne (by decide), wr_eq]
    · rw [wr_ne (by decide), wr_ne (by decide), wr_ne (by decide), wr_ne (by decide), wr_ne (by decide), x1 i hi]; exact htx i hi
  have hD0 : DR R0 (wr (wr (wr (wr (wr B1 17 1 (nI L)) 17 2 (nI 0)) 80 0 0) 80 1 0) 80 2 0) := by
    refine ⟨?_, ?_, ?_, fun i hi => absurd hi (by show ¬ i < 0; omega)⟩
    · rw [wr_nj (by decide), wr_nj (by decide), wr_eq]; rfl
    · rw [wr_nj (by decide), wr_eq]; rfl
    · rw [wr_eq]; rfl
  -- the end, from any state
  have fin : ∀ (ok : Bool) (p f : Nat) (R : RR) (B : Nat → Nat → Int32), okR R → fr [17, 18, 80, 81, 82, 83, 84, 85] I B → RDp tx L p B → DR R B → ∃ B', EX7_read (N + 1000000) (d + 4) (f + 1) 113 [some (rv (some 17)), none, none, some (rv (some 80)), some (iv (if ok then 1 else 0)), none] (B, J, cd) = some (iv (if ok then -9 else nI p), (B', J, cd)) ∧ fr [17, 18, 80, 81, 82, 83, 84, 85, 86] I B' ∧ fr [80, 86] B B' ∧ (∀ k, k ≠ 3 → B' 80 k = B 80 k) ∧ B' 80 3 = nI (preS (bitsN (fun i => isG (R.2.1 i)) R.1) 64).length ∧ (∀ k (h : k < (preS (bitsN (fun i => isG (R.2.1 i)) R.1) 64).length), B' 86 k = nI ((preS (bitsN (fun i => isG (R.2.1 i)) R.1) 64)[k])) := by
    intro ok p f R B hR fB hB hD
    obtain ⟨B', r, f', a, b, c⟩ := s_lists N (d + 2) (bitsN_64 _ hR.1) (sets8 _ (bitsN_64 _ hR.1) hR.2.1) B J cd hD.2.1
    refine ⟨B', ?_, (fB.mo (by intro a; simp <;> omega)).tr (f'.mo (by intro a; simp <;> omega)), f', a, b, c⟩
    rw [sgX7_read_113, bV r]
    try dsimp only
    cases ok with
    | true => rw [if_neg (by decide)]; rfl
    | false =>
      rw [if_pos (show (if false = true then (1 : Int32) else 0) = 0 from rfl), f' 17 (by decide), hB.2.1]; rfl
  -- the entry
  have ent : ∀ {q : Option RES}, ((cI (arun (N + 1000000) (d + 4)) 46 [rv (some 17), iv 121, rv (some 84), iv 9] (wr (wr (wr (wr (wr B1 17 1 (nI L)) 17 2 (nI 0)) 80 0 0) 80 1 0) 80 2 0, J, cd)).bind fun r5 => if r5.1 = 0 then EX7_read (N + 1000000) (d + 4) (N + 999999) 66 [some (rv (some 17)), none, none, some (rv (some 80)), none, none] r5.2 else (cI (arun (N + 1000000) (d + 4)) 46 [rv (some 17), iv 111, rv (some 85), iv 6] r5.2).bind fun r6 => if r6.1 = 0 then EX7_read (N + 1000000) (d + 4) (N + 999999) 66 [some (rv (some 17)), none, none, some (rv (some 80)), none, none] r6.2 else EX7_read (N + 1000000) (d + 4) (N + 999999) 72 [some (rv (some 17)), none, none, some (rv (some 80)), some (iv 1), some (iv 0)] r6.2) = q → arun (N + 1000000) (d + 5) 45 [rv (some 17), rv (some 10), iv (nI t), rv (some 80)] (I, J, cd) = q := by
    intro q hq
    have rc : ∀ (X : Nat → Nat → Int32), arun (N + 1000000) (d + 4) 15 [rv (some 80)] (X, J, cd) = some (rv none, (wr (wr (wr X 80 0 0) 80 1 0) 80 2 0, J, cd)) := fun X => by rw [enX2_clear, sgX2_clear_0]
    rw [enX7_read, sgX7_read_0, bV r1]
    try dsimp only
    rw [bI r2]
    try dsimp only
    rw [show (60 : Int32) = nI 60 from rfl, bI (s_min N (d + 3) _ _ _)]
    try dsimp only
    try dsimp only
    rw [mn_N (by omega) (by omega), Nat.min_eq_left hL, show (wr (wr B1 17 1 (nI L)) 17 2 0) = wr (wr B1 17 1 (nI L)) 17 2 (nI 0) from rfl, bV (rc _)]
    try dsimp only
    exact hq
  have f66 : ∀ (n : Nat) (X : AH), EX7_read (N + 1000000) (d + 4) (n + 1 + 1) 66 [some (rv (some 17)), none, none, some (rv (some 80)), none, none] X = EX7_read (N + 1000000) (d + 4) n 113 [some (rv (some 17)), none, none, some (rv (some 80)), some (iv 0), none] X := by
    rintro n ⟨I', J', cd'⟩
    rw [sgX7_read_66, sgX7_read_72, if_pos rfl]
  obtain ⟨B2, s1, f2, h2, w2⟩ := s_week_84 N (d + 1) (hi := 9) hL (by decide) (Nat.zero_le _) (c := 121) (by decide) _ J cd hB0
  rw [show nI 9 = (9 : Int32) from rfl] at s1
  have hc1 : (wkR tx L 121 9 0).1 = true ∨ (wkR tx L 121 9 0).1 = false := by cases (wkR tx L 121 9 0).1 <;> simp
  have fI2 : fr [17, 18, 80, 84] I B2 := (fC.mo (by intro a; simp <;> omega)).tr (f2.mo (by intro a; simp <;> omega))
  rcases hc1 with q1 | q1
  · obtain ⟨B3, s2, f3, h3, w3⟩ := s_week_85 N (d + 1) (hi := 6) hL (by decide) (wkR_le (Nat.zero_le _)) (c := 111) (by decide) B2 J cd h2
    rw [show nI 6 = (6 : Int32) from rfl] at s2
    have fI3 : fr [17, 18, 80, 84, 85] I B3 := (fI2.mo (by intro a; simp <;> omega)).tr (f3.mo (by intro a; simp <;> omega))
    have hD3 : DR R0 B3 := hD0.eq (fun a a1 a2 => by rw [f3 a (by simp; omega), f2 a (by simp; omega)])
    have hc2 : (wkR tx L 111 6 (wkR tx L 121 9 0).2).1 = true ∨ (wkR tx L 111 6 (wkR tx L 121 9 0).2).1 = false := by cases (wkR tx L 111 6 (wkR tx L 121 9 0).2).1 <;> simp
    rcases hc2 with q2 | q2
    · have er : rdR tx L = lpR tx L 7 (SK tx L (wkR tx L 111 6 (wkR tx L 121 9 0).2).2) R0 := by unfold rdR; rw [if_pos q1, if_pos q2]
      obtain ⟨B4, f', r4, f4, h4, d4⟩ := x_loopR N d hL J cd 7 (N + 999999) (wkR tx L 111 6 (wkR tx L 121 9 0).2).2 R0 B3 (by decide) (by omega) (wkR_le (wkR_le (Nat.zero_le _))) okR0 h3 hD3
      rw [← er] at r4 h4 d4
      have fI4 : fr [17, 18, 80, 81, 82, 83, 84, 85] I B4 := (fI3.mo (by intro a; simp <;> omega)).tr (f4.mo (by intro a; simp <;> omega))
      obtain ⟨B5, r5, f5, g5, a5, b5, c5⟩ := fin (rdR tx L).1 (rdR tx L).2.1 f' (rdR tx L).2.2 B4 (rdR_okR tx L) fI4 h4 d4
      refine ⟨B5, ent ?_, f5, fun hok => ⟨?_, ?_, ?_, fun i hi => ?_, fun e he => ?_, fun _ => ⟨b5, c5⟩⟩⟩
      · rw [bI s1]
        try dsimp only
        rw [q1, if_pos rfl, if_neg n10, bI s2]
        try dsimp only
        rw [q2, if_pos rfl, if_neg n10, show (0 : Int32) = nI R0.1 from rfl, r4, r5]
      · rw [a5 0 (by decide)]; exact d4.1
      · rw [a5 1 (by decide)]; exact d4.2.1
      · rw [a5 2 (by decide)]; exact d4.2.2.1
      · show B5 81 i = _ ∧ B5 82 i = _ ∧ B5 83 i = _
        rw [g5 81 (by decide), g5 82 (by decide), g5 83 (by decide)]
        exact d4.2.2.2 i hi
      · show B5 84 e = _ ∧ B5 85 e = _
        rw [g5 84 (by decide), g5 85 (by decide), f4 84 (by decide), f4 85 (by decide), f3 84 (by decide)]
        exact ⟨w2 q1 e he, w3 q2 e he⟩
    · have er : rdR tx L = (false, (wkR tx L 111 6 (wkR tx L 121 9 0).2).2, R0) := by unfold rdR; rw [if_pos q1, if_neg (by rw [q2]; exact Bool.false_ne_true)]
      obtain ⟨B5, r5, f5, -⟩ := fin false (wkR tx L 111 6 (wkR tx L 121 9 0).2).2 (N + 999996) R0 B3 okR0 (fI3.mo (by intro a; simp <;> omega)) h3 hD3
      rw [if_neg Bool.false_ne_true] at r5
      refine ⟨B5, ent ?_, f5, fun hok => absurd hok (by rw [er]; exact Bool.false_ne_true)⟩
      rw [bI s1]
      try dsimp only
      rw [q1, if_pos rfl, if_neg n10, bI s2]
      try dsimp only
      rw [q2, if_neg Bool.false_ne_true, if_pos rfl, show N + 999999 = N + 999997 + 1 + 1 from rfl, f66, show N + 999997 = N + 999996 + 1 from rfl, r5, er]
  · have er : rdR tx L = (false, (wkR tx L 121 9 0).2, R0) := by unfold rdR; rw [if_neg (by rw [q1]; exact Bool.false_ne_true)]
    have hD2 : DR R0 B2 := hD0.eq (fun a a1 a2 => f2 a (by simp; omega))
    obtain ⟨B5, r5, f5, -⟩ := fin false (wkR tx L 121 9 0).2 (N + 999996) R0 B2 okR0 (fI2.mo (by intro a; simp <;> omega)) h2 hD2
    rw [if_neg Bool.false_ne_true] at r5
    refine ⟨B5, ent ?_, f5, fun hok => absurd hok (by rw [er]; exact Bool.false_ne_true)⟩
    rw [bI s1]
    try dsimp only
    rw [q1, if_neg Bool.false_ne_true, if_pos rfl, show N + 999999 = N + 999997 + 1 + 1 from rfl, f66, show N + 999997 = N + 999996 + 1 from rfl, r5, er]
