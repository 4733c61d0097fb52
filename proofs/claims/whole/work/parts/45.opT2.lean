/-! the reference's walks by PLANS; what comes to the sea, WATER, shares -/
/-- B: k DAYS behind I -/
def mAt (P : RP) (R ow : Nat → Nat) (t : Nat) (ss : Nat → Nat) (F : FS) (I : Nat → Nat → Int32) (k : Nat) (B : Nat → Nat → Int32) : Prop := fr [87, 98, 99, 100, 101, 108] I B ∧ f87 [18, 25, 31] I B ∧ refAt P ow B (wkN P R ow t ss F k) (t + k)
theorem m_step (N d : Nat) {P : RP} (hP : okP P) (h0 : 0 < P.1) {F : FS} (hw : ∀ i, F.1 i ≤ 99) {R ow : Nat → Nat} (how : ∀ d, d < 7 → ow d ≤ 6) {t : Nat} (ht : t ≤ 40) {ss : Nat → Nat} {I : Nat → Nat → Int32} (hR : ∀ w, w < 7 → R w = if I 87 32 = nI w then 0 else P.2.2.2.2 w) {k : Nat} (hk : k < 100) (hs : ss k &&& gatN P = ss k) (B : Nat → Nat → Int32) (J : Nat → Nat → Int64) (cd : Nat × Nat) (hA : mAt P R ow t ss F I k B) :
    ∃ B1, arun (N + 1000000) (d + 3) 179 [rv (some 87), iv (nI (ss k))] (B, J, cd) = some (iv (nI (seaN P (wkN P R ow t ss F k).1 (ss k))), (B1, J, cd)) ∧ mAt P R ow t ss F I (k + 1) B1 ∧ B1 87 31 = nI (gsN P (wkN P R ow t ss F k).1 (ss k)) := by
  obtain ⟨f1, g1, hR1⟩ := hA
  obtain ⟨B1, r, f, g, hR2, e31⟩ := s_pass N d hP h0 hs (wkN_le P R ow t ss F hw k) how (t := t + k) (by omega) B J cd hR1 (show R ((t + k) % 7) = _ by rw [g1 32 (by decide)]; exact hR _ (Nat.mod_lt _ (by decide)))
  exact ⟨B1, r, ⟨f1.tr f, g1.tr g, hR2⟩, e31⟩
theorem m_start {P : RP} {R ow : Nat → Nat} {t : Nat} {ss : Nat → Nat} {F : FS} {I B : Nat → Nat → Int32} (f : fr [107] I B) (hA : refAt P ow I F t) : mAt P R ow t ss F B 0 B := ⟨fr.rf, f87.rf, hA.eq (fun a h1 h2 => f a (by simp; omega)) (by rw [f 87 (by decide)]) (by rw [f 87 (by decide)]) (by rw [f 87 (by decide)])⟩
theorem m_back (N d : Nat) {P : RP} (hn : P.1 ≤ 6) {R ow : Nat → Nat} {t : Nat} {ss : Nat → Nat} {F : FS} {k : Nat} {I I1 B : Nat → Nat → Int32} (J : Nat → Nat → Int64) (cd : Nat × Nat) (hb : fr [107] I I1) (hN : noteN P (I1 107) 0 F t) (hA : mAt P R ow t ss F I1 k B) :
    ∃ B5, arun (N + 1000000) (d + 2) 176 [rv (some 87)] (B, J, cd) = some (rv none, (B5, J, cd)) ∧ fr [87, 98, 99, 100, 101, 107, 108] I B5 ∧ f87 [18, 25, 31] I B5 ∧ refAt P ow B5 F t ∧ B5 87 31 = B 87 31 := by
  obtain ⟨f1, g1, hR1⟩ := hA
  obtain ⟨B5, r, f, g, hR⟩ := s_back N d hn B J cd hR1 (by rw [f1 107 (by decide)]; exact hN)
  refine ⟨B5, r, ?_, ?_, hR, g 31 (by decide)⟩
  · exact ((hb.mo (by intro a; simp <;> omega)).tr (f1.mo (by intro a; simp <;> omega))).tr (f.mo (by intro a; simp <;> omega))
  · exact ((f87.fr hb (by decide)).tr g1).tr (g.mo (by intro a; simp <;> omega))
theorem Rel.trial2 {I I1 B : Nat → Nat → Int32} {J J' : Nat → Nat → Int64} (h : Rel I J) {P : RP} {ow : Nat → Nat} {F : FS} {t : Nat} (hn : P.1 ≤ 6) (hI : refAt P ow I F t) {v : Int32} (fX : fr TC I I1) (e87X : I1 87 = I 87) (e0X : ∀ i, i ≠ 14 → I1 0 i = I 0 i) (fM : fr [87, 98, 99, 100, 101, 107, 108, 109] I1 B) (gM : f87 [2, 18, 25, 31, 38] I1 B) (hB : refAt P ow B F t) (hA : I1 0 14 = B 87 2) (hJ : J' 0 15 = J' 87 3 ∧ J' 0 16 = J' 87 4) : Rel B J' := by
  refine h.trial hn hI hB (fX.tr (fM.mo (by decide))) (fun i hi => by rw [fM 0 (by decide)]; exact e0X i hi) ?_ ?_ (by rw [fM 0 (by decide)]; exact hA) hJ
  · rw [gM 0 (by decide), e87X]
  · rw [gM 32 (by decide), e87X]
theorem sumN_sub {f g h : Nat → Nat} {n : Nat} (e : ∀ i, f i = g i + h i) : sumN f n = sumN g n + sumN h n := by
  rw [← sumN_add]
  exact sumN_ext n (fun i _ => e i)
theorem R9 {P : RP} {v : Int32} (h : v = -9) : ∀ w, w < 7 → P.2.2.2.2 w = if v = nI w then 0 else P.2.2.2.2 w := fun w hw => by
  rw [if_neg (by rw [h]; exact n9w w hw)]

theorem l_msea (N d : Nat) {P : RP} (hP : okP P) (h0 : 0 < P.1) {F : FS} (hw : ∀ i, F.1 i ≤ 99) {ow : Nat → Nat} (how : ∀ d, d < 7 → ow d ≤ 6) {t : Nat} (ht : t ≤ 40) {j n : Nat} (hj : j < 6) (hn : n ≤ 12) {ss : Nat → Nat} {I I0 : Nat → Nat → Int32} (J : Nat → Nat → Int64) (cd : Nat × Nat) (hb : fr [107] I0 I) (hN : noteN P (I 107) 0 F t) (hR : I 87 32 = -9) (h89 : I 89 j = nI n) (hs : ∀ k, k < n → I 90 (40 * j + k) = nI (ss k) ∧ ss k &&& gatN P = ss k) :
    ∀ (m k f : Nat) (B : Nat → Nat → Int32), k + m = n → mAt P P.2.2.2.2 ow t ss F I k B → ∃ B', EX10_sea (N + 1000000) (d + 3) (f + 1 + m) 29 [some (rv (some 87)), some (iv (nI j)), none, some (iv (nI (sumN F.2.1 P.1))), some (iv (nI (sumN (wkN P P.2.2.2.2 ow t ss (zF F) k).2.2.2 7))), some (iv (nI k))] (B, J, cd) = some (iv (nI (sumN (wkN P P.2.2.2.2 ow t ss (zF F) n).2.2.2 7)), (wr B' 87 2 (nI (sumN (wkN P P.2.2.2.2 ow t ss (zF F) n).2.1 P.1)), J, cd)) ∧ fr [87, 98, 99, 100, 101, 107, 108] I0 B' ∧ f87 [18, 25, 31] I0 B' ∧ refAt P ow B' F t := by
  have hn6 := hP.1
  intro m
  induction m with
  | zero =>
    intro k f B hk hA
    have : k = n := by omega
    subst this
    have z := wkN_z P P.2.2.2.2 ow t ss F k
    have h89B : B 89 j = nI k := by rw [hA.1 89 (by decide)]; exact h89
    obtain ⟨B5, r, f5, g5, hR5, -⟩ := m_back N (d + 1) hn6 J cd hb hN hA
    refine ⟨B5, ?_, f5, g5, hR5⟩
    rw [Nat.add_zero, sgX10_sea_29, inb_t hj (by omega), if_pos rfl, nI_clamp (by omega), if_pos (by rw [h89B]; exact Int32.le_refl _), bI (s_groundMany _ _ hn6 _ _ _ hA.2.2)]
    try dsimp only
    try dsimp only
    rw [bV r]
    try dsimp only
    rw [bI (s_ask _ _ _ _ _ _ _)]
    try dsimp only
    try dsimp only
    rw [sumN_sub z.2.1, pk_sub (by omega), Nat.add_sub_cancel_left]
  | succ m ih =>
    intro k f B hk hA
    have h89B : B 89 j = nI n := by rw [hA.1 89 (by decide)]; exact h89
    have z := wkN_z P P.2.2.2.2 ow t ss F k
    obtain ⟨B1, r1, hA1, -⟩ := m_step N d hP h0 hw how ht (R9 hR) (by omega) (hs k (by omega)).2 B J cd hA
    obtain ⟨B', r2, f2, g2, hR2⟩ := ih (k + 1) f B1 (by omega) hA1
    refine ⟨B', ?_, f2, g2, hR2⟩
    have ho : ow ((t + k) % 7) < 7 := by have := how _ (Nat.mod_lt (t + k) (show 0 < 7 by decide)); omega
    rw [show f + 1 + (m + 1) = f + 1 + m + 1 by omega, sgX10_sea_29, inb_t hj (by omega), if_pos rfl, nI_clamp (by omega), if_neg (by rw [h89B]; exact nI_ge (by omega) (by omega)), bI (s_rowAt _ _ hj (by omega) _ _ _)]
    try dsimp only
    try dsimp only
    rw [hA.1 90 (by decide), (hs k (by omega)).1, bI r1]
    try dsimp only
    rw [nI_add, nI_1, z.1, ← sea_sum P (wkN P P.2.2.2.2 ow t ss (zF F) k) (ss k) (P.2.2.2.2 ((t + k) % 7)) ho]
    exact r2
theorem op_sea (r : Int32) : OK2 89 196 [iv r] := by
  intro N d I J h
  obtain ⟨P, ow, F, D, hP, how, hC, hD, h25, hFl, hRf, h32, hw⟩ := h.un
  have hn := hP.1
  have pc := plan_cases N (d + 13) h hP hC hRf r (mo := 12) (by omega)
  rw [show nI 12 = (12 : Int32) from rfl] at pc
  rcases pc with ⟨v, I1, I2, hv, hv2, -, kX, kM, -, hR⟩ | ⟨h0, j, n, ss, hj, rfl, hnm, h9, h89, hs, kX⟩
  · refine ⟨iv v, I1, J, I2, J, ?_, ?_, hR⟩
    · rw [enX9_sea, sgX9_sea_0, bI kX]
      try dsimp only
      rw [if_neg hv]
    · rw [enX10_sea, sgX10_sea_0, bI kM]
      try dsimp only
      rw [if_neg hv2]
  · obtain ⟨B1, r1, f1, a6, aw, a3, a4, av⟩ := s_follow N (d + 14) hP h0 hw hD how hj (by omega) I J hC h9 (fun k hk => ⟨(hs k hk).1, (hs k hk).2.2⟩) h25 hFl
    have fX : fr [0, 39, 40, 42, 47] I (wr B1 0 14 (B1 39 4)) := (f1.mo (by intro a; simp <;> omega)).w (by simp)
    have hR1 : refAt P ow (wr B1 0 14 (B1 39 4)) F D := hRf.eq (fun a h1 h2 => fX a (by simp; omega)) (by rw [fX 87 (by decide)]) (by rw [fX 87 (by decide)]) (by rw [fX 87 (by decide)])
    have kM := m_planO N (d + 15) hP h0 (j := j) (mo := 12) hj (by omega) hnm (wr B1 0 14 (B1 39 4)) J (73, 80) hR1.1 (fun i hi => (hR1.2.2.2.1 i hi).1) (by rw [fX 89 (by decide)]; exact h89) (fun k hk => by rw [fX 90 (by decide), (hs k hk).2.1]; exact CS.in hn (hs k hk).2.2)
    rw [show nI 12 = (12 : Int32) from rfl] at kM
    obtain ⟨B3, r3, f3, n3⟩ := s_begin N (d + 17) hn (wr B1 0 14 (B1 39 4)) J (73, 80) hR1
    obtain ⟨B5, r5, f5, g5, hR5⟩ := l_msea N (d + 16) hP h0 hw how hD hj hnm (ss := ss) J (73, 80) f3 n3 (by rw [f3 87 (by decide), fX 87 (by decide)]; exact h32) (by rw [f3 89 (by decide), fX 89 (by decide)]; exact h89) (fun k hk => by rw [f3 90 (by decide), fX 90 (by decide)]; exact (hs k hk).2) n 0 (N + 999998 - n) B3 (by omega) (m_start f3 hR1)
    rw [show sumN (wkN P P.2.2.2.2 ow D ss (zF F) 0).2.2.2 7 = 0 from rfl, nI_0] at r5
    refine ⟨iv (nI (sumN (wkN P P.2.2.2.2 ow D ss (zF F) n).2.2.2 7)), wr B1 0 14 (B1 39 4), J, wr B5 87 2 (nI (sumN (wkN P P.2.2.2.2 ow D ss (zF F) n).2.1 P.1)), J, ?_, ?_, h.trial2 hn hRf (v := 0) (fX.mo (by decide)) (by rw [fX 87 (by decide)]) (fun i hi => by rw [wr_nj hi, f1 0 (by decide)]) ((f5.mo (by intro a; simp <;> omega)).w (by simp)) ((g5.mo (by intro a; simp <;> omega)).w (by simp)) (hR5.eq (fun a h1 h2 => wr_ne (by omega)) (wr_nj (by decide)) (wr_nj (by decide)) (wr_nj (by decide))) (by rw [wr_eq, wr_eq, a4]) h.2.2.2.1.2⟩
    · rw [enX9_sea, sgX9_sea_0, bI kX]
      try dsimp only
      rw [if_pos rfl, bV r1]
      try dsimp only
      rw [bI (s_tell _ _ _ _ _)]
      try dsimp only
      try dsimp only
      rw [wr_ne (by decide), a3]
    · rw [enX10_sea, sgX10_sea_0, bI kM]
      try dsimp only
      rw [if_pos (by decide), bI (s_groundMany _ _ hn _ _ _ hR1)]
      try dsimp only
      try dsimp only
      rw [bV r3]
      try dsimp only
      rw [show N + 999999 = N + 999998 - n + 1 + n by omega]
      exact r5
theorem l_mwater (N d : Nat) {P : RP} (hP : okP P) (h0 : 0 < P.1) {F : FS} (hw : ∀ i, F.1 i ≤ 99) {ow : Nat → Nat} (how : ∀ d, d < 7 → ow d ≤ 6) {t : Nat} (ht : t ≤ 40) {j n : Nat} (hj : j < 6) (hn : n ≤ 12) {ss : Nat → Nat} {I I0 : Nat → Nat → Int32} (J : Nat → Nat → Int64) (cd : Nat × Nat) (hb : fr [107] I0 I) (hN : noteN P (I 107) 0 F t) (hR : I 87 32 = -9) (h89 : I 89 j = nI n) (hs : ∀ k, k < n → I 90 (40 * j + k) = nI (ss k) ∧ ss k &&& gatN P = ss k) {i : Nat} (hi : i < P.1) :
    ∀ (m k f : Nat) (B : Nat → Nat → Int32), k + m = n → mAt P P.2.2.2.2 ow t ss F I k B → ∃ B', EX10_water (N + 1000000) (d + 3) (f + 1 + m) 38 [some (rv (some 87)), some (iv (nI i)), some (iv (nI j)), none, some (iv (nI k))] (B, J, cd) = some (iv (nI ((wkN P P.2.2.2.2 ow t ss (zF F) n).1 i)), (B', J, cd)) ∧ fr [87, 98, 99, 100, 101, 107, 108] I0 B' ∧ f87 [18, 25, 31] I0 B' ∧ refAt P ow B' F t := by
  have hn6 := hP.1
  intro m
  induction m with
  | zero =>
    intro k f B hk hA
    have : k = n := by omega
    subst this
    have z := wkN_z P P.2.2.2.2 ow t ss F k
    have h89B : B 89 j = nI k := by rw [hA.1 89 (by decide)]; exact h89
    obtain ⟨B5, r, f5, g5, hR5, -⟩ := m_back N (d + 1) hn6 J cd hb hN hA
    refine ⟨B5, ?_, f5, g5, hR5⟩
    rw [Nat.add_zero, sgX10_water_38, inb_t hj (by omega), if_pos rfl, nI_clamp (show j < 2 ^ 31 by omega), if_pos (by rw [h89B]; exact Int32.le_refl _), inb_t (show i < 6 by omega) (by omega), if_pos rfl, bV r]
    try dsimp only
    rw [nI_clamp (show i < 2 ^ 31 by omega), (hA.2.2.2.2.2.1 i hi).2.2.1, z.1]
  | succ m ih =>
    intro k f B hk hA
    have h89B : B 89 j = nI n := by rw [hA.1 89 (by decide)]; exact h89
    obtain ⟨B1, r1, hA1, -⟩ := m_step N d hP h0 hw how ht (R9 hR) (by omega) (hs k (by omega)).2 B J cd hA
    obtain ⟨B', r2, f2, g2, hR2⟩ := ih (k + 1) f B1 (by omega) hA1
    refine ⟨B', ?_, f2, g2, hR2⟩
    rw [show f + 1 + (m + 1) = f + 1 + m + 1 by omega, sgX10_water_38, inb_t hj (by omega), if_pos rfl, nI_clamp (show j < 2 ^ 31 by omega), if_neg (by rw [h89B]; exact nI_ge (by omega) (by omega)), bI (s_rowAt _ _ hj (by omega) _ _ _)]
    try dsimp only
    try dsimp only
    rw [hA.1 90 (by decide), (hs k (by omega)).1, bI r1]
    try dsimp only
    rw [nI_1]
    exact r2
theorem x_planB (N d : Nat) (r mo : Int32) (I : Nat → Nat → Int32) (J : Nat → Nat → Int64) : arun (N + 1000000) (d + 6) 121 [rv (some 0), iv 0, iv r, iv mo] (I, J, 73, 80) = some (iv (-1), (I, J, 73, 80)) := by
  rw [enX9_refusePlan, sgX9_refusePlan_0, bI (x_riverB _ _ (Or.inl rfl) _ _)]
  try dsimp only
  try dsimp only
  rw [if_neg (by decide)]
theorem op_water (x r : Int32) : OK2 90 197 [iv x, iv r] := by
  intro N d I J h
  obtain ⟨P, ow, F, D, hP, how, hC, hD, h25, hFl, hRf, h32, hw⟩ := h.un
  have hn := hP.1
  rcases ixc x P.1 (by omega) with hx | ⟨i, hi, rfl⟩
  · have kX := s_hasReach N (d + 18) x I J (73, 80)
    rw [b2i_f (hr_b hC.1 hx)] at kX
    have kM := s_isReach N (d + 17) x I J (73, 80)
    rw [b2i_f (ir_b hRf.1 (by omega) hx)] at kM
    refine ⟨iv (-1), I, J, I, J, ?_, ?_, h⟩
    · rw [enX9_water, sgX9_water_0, bI kX]
      try dsimp only
      rw [bI (x_planB _ _ _ _ _ _)]
      try dsimp only
      try dsimp only
      rw [if_neg (by decide)]
    · rw [enX10_water, sgX10_water_0, bI (s_isRow _ _ _ _)]
      try dsimp only
      try dsimp only
      by_cases hrr : ¬ r < 0 ∧ ¬ 5 < r
      · rw [b2i_t hrr, if_neg n10, bI kM]
        try dsimp only
        rw [if_pos rfl]
      · rw [b2i_f hrr, if_pos rfl]
  · have kX0 := s_hasReach N (d + 18) (nI i) I J (73, 80)
    rw [b2i_t (hr_o hC.1 (by omega) hi)] at kX0
    have pc := plan_cases N (d + 13) h hP hC hRf r (mo := 12) (by omega)
    rw [show nI 12 = (12 : Int32) from rfl] at pc
    rcases pc with ⟨v, I1, I2, hv, hv2, hvb, kX, kM, e10, hR⟩ | ⟨h0, j, n, ss, hj, rfl, hnm, h9, h89, hs, kX⟩
    · refine ⟨iv v, I1, J, I2, J, ?_, ?_, hR⟩
      · rw [enX9_water, sgX9_water_0, bI kX0]
        try dsimp only
        rw [bI kX]
        try dsimp only
        rw [if_neg hv]
      · rw [enX10_water, sgX10_water_0, bI (s_isRow _ _ _ _)]
        try dsimp only
        try dsimp only
        by_cases hrr : ¬ r < 0 ∧ ¬ 5 < r
        · have kM0 := s_isReach N (d + 17) (nI i) I1 J (73, 80)
          rw [b2i_t (ir_o (e10.trans hRf.1) (by omega) hi)] at kM0
          rw [b2i_t hrr, if_neg n10, bI kM0]
          try dsimp only
          rw [if_neg n10, bI kM]
          try dsimp only
          rw [if_neg hv2]
        · have hrb : r < 0 ∨ nI 6 ≤ r := by
            rcases ixc r 6 (by decide) with q | ⟨j, hj, rfl⟩
            · exact q
            · exact absurd (b2_row hj) hrr
          obtain ⟨rfl, rfl, rfl⟩ := hvb hrb
          rw [b2i_f hrr, if_pos rfl]
    · obtain ⟨B1, r1, fX, a6, aw, a3, a4, av⟩ := s_follow N (d + 14) hP h0 hw hD how hj (by omega) I J hC h9 (fun k hk => ⟨(hs k hk).1, (hs k hk).2.2⟩) h25 hFl
      have hR1 : refAt P ow B1 F D := hRf.eq (fun a h1 h2 => fX a (by simp; omega)) (by rw [fX 87 (by decide)]) (by rw [fX 87 (by decide)]) (by rw [fX 87 (by decide)])
      have kM := m_planO N (d + 15) hP h0 (j := j) (mo := 12) hj (by omega) hnm B1 J (73, 80) hR1.1 (fun i hi => (hR1.2.2.2.1 i hi).1) (by rw [fX 89 (by decide)]; exact h89) (fun k hk => by rw [fX 90 (by decide), (hs k hk).2.1]; exact CS.in hn (hs k hk).2.2)
      rw [show nI 12 = (12 : Int32) from rfl] at kM
      obtain ⟨B3, r3, f3, n3⟩ := s_begin N (d + 17) hn B1 J (73, 80) hR1
      obtain ⟨B5, r5, f5, g5, hR5⟩ := l_mwater N (d + 16) hP h0 hw how hD hj hnm (ss := ss) J (73, 80) f3 n3 (by rw [f3 87 (by decide), fX 87 (by decide)]; exact h32) (by rw [f3 89 (by decide), fX 89 (by decide)]; exact h89) (fun k hk => by rw [f3 90 (by decide), fX 90 (by decide)]; exact (hs k hk).2) hi n 0 (N + 999998 - n) B3 (by omega) (m_start f3 hR1)
      rw [nI_0] at r5
      have kM0 := s_isReach N (d + 17) (nI i) B1 J (73, 80)
      rw [b2i_t (ir_o hR1.1 (by omega) hi)] at kM0
      refine ⟨iv (nI ((wkN P P.2.2.2.2 ow D ss (zF F) n).1 i)), B1, J, B5, J, ?_, ?_, h.trial2 hn hRf (v := 0) (fX.mo (by decide)) (by rw [fX 87 (by decide)]) (fun i hi => by rw [fX 0 (by decide)]) (f5.mo (by intro a; simp <;> omega)) (g5.mo (by intro a; simp <;> omega)) hR5 (by rw [g5 2 (by decide), fX 0 (by decide), fX 87 (by decide)]; exact h.2.2.2.1.1) h.2.2.2.1.2⟩
      · rw [enX9_water, sgX9_water_0, bI kX0]
        try dsimp only
        rw [bI kX]
        try dsimp only
        rw [if_pos rfl, bV r1]
        try dsimp only
        rw [bI (show arun (N + 1000000) (d + 19) 8 [rv (some 39), iv (nI i)] (B1, J, 73, 80) = some (iv (nI ((wkN P P.2.2.2.2 ow D ss (zF F) n).1 i)), (B1, J, 73, 80)) by rw [enX0_waterNow, sgX0_waterNow_0, if_neg (nI_pos (by omega)), if_neg (show ¬ (6 : Int32) ≤ nI i from nI_ge (b := 6) (by omega) (by decide)), inb_t (show i < 6 by omega) (by omega), if_pos rfl, nI_clamp (by omega), aw i (by omega)])]
        try dsimp only
      · rw [enX10_water, sgX10_water_0, bI (s_isRow _ _ _ _)]
        try dsimp only
        try dsimp only
        rw [b2i_t (b2_row hj), if_neg n10, bI kM0]
        try dsimp only
        rw [if_neg n10, bI kM]
        try dsimp only
        rw [if_pos (by decide), bV r3]
        try dsimp only
        rw [show N + 999999 = N + 999998 - n + 1 + n by omega]
        exact r5
theorem l_mshare (N d : Nat) {P : RP} (hP : okP P) (h0 : 0 < P.1) {F : FS} (hw : ∀ i, F.1 i ≤ 99) {ow : Nat → Nat} (how : ∀ d, d < 7 → ow d ≤ 6) {t : Nat} (ht : t ≤ 40) {j n : Nat} (hj : j < 6) (hn : n ≤ 12) {ss : Nat → Nat} {I I0 : Nat → Nat → Int32} (J : Nat → Nat → Int64) (cd : Nat × Nat) (hb : fr [107] I0 I) (hN : noteN P (I 107) 0 F t) (hR : I 87 32 = -9) (h89 : I 89 j = nI n) (hs : ∀ k, k < n → I 90 (40 * j + k) = nI (ss k) ∧ ss k &&& gatN P = ss k) {i : Nat} (hi : i < 7) :
    ∀ (m k f : Nat) (B : Nat → Nat → Int32), k + m = n → mAt P P.2.2.2.2 ow t ss F I k B → ∃ B', EX10_share (N + 1000000) (d + 3) (f + 1 + m) 38 [some (rv (some 87)), some (iv (nI i)), some (iv (nI j)), none, some (iv (nI (F.2.2.2 i))), some (iv (nI k))] (B, J, cd) = some (iv (nI ((wkN P P.2.2.2.2 ow t ss (zF F) n).2.2.2 i)), (B', J, cd)) ∧ fr [87, 98, 99, 100, 101, 107, 108] I0 B' ∧ f87 [18, 25, 31] I0 B' ∧ refAt P ow B' F t := by
  have hn6 := hP.1
  intro m
  induction m with
  | zero =>
    intro k f B hk hA
    have : k = n := by omega
    subst this
    have z := wkN_z P P.2.2.2.2 ow t ss F k
    have h89B : B 89 j = nI k := by rw [hA.1 89 (by decide)]; exact h89
    obtain ⟨B5, r, f5, g5, hR5, -⟩ := m_back N (d + 1) hn6 J cd hb hN hA
    refine ⟨B5, ?_, f5, g5, hR5⟩
    rw [Nat.add_zero, sgX10_share_38, inb_t hj (by omega), if_pos rfl, nI_clamp (show j < 2 ^ 31 by omega), if_pos (by rw [h89B]; exact Int32.le_refl _), inb_t hi (by omega), if_pos rfl, bV r]
    try dsimp only
    rw [nI_clamp (show i < 2 ^ 31 by omega), (hA.2.2.2.2.2.2 i hi).2.2, z.2.2 i, pk_sub (by omega), Nat.add_sub_cancel_left]
  | succ m ih =>
    intro k f B hk hA
    have h89B : B 89 j = nI n := by rw [hA.1 89 (by decide)]; exact h89
    obtain ⟨B1, r1, hA1, -⟩ := m_step N d hP h0 hw how ht (R9 hR) (by omega) (hs k (by omega)).2 B J cd hA
    obtain ⟨B', r2, f2, g2, hR2⟩ := ih (k + 1) f B1 (by omega) hA1
    refine ⟨B', ?_, f2, g2, hR2⟩
    rw [show f + 1 + (m + 1) = f + 1 + m + 1 by omega, sgX10_share_38, inb_t hj (by omega), if_pos rfl, nI_clamp (show j < 2 ^ 31 by omega), if_neg (by rw [h89B]; exact nI_ge (by omega) (by omega)), bI (s_rowAt _ _ hj (by omega) _ _ _)]
    try dsimp only
    try dsimp only
    rw [hA.1 90 (by decide), (hs k (by omega)).1, bI r1]
    try dsimp only
    rw [nI_1]
    exact r2
theorem op_share (x r : Int32) : OK2 91 198 [iv x, iv r] := by
  intro N d I J h
  obtain ⟨P, ow, F, D, hP, how, hC, hD, h25, hFl, hRf, h32, hw⟩ := h.un
  have hn := hP.1
  rcases ixc x 7 (by omega) with hx | ⟨i, hi, rfl⟩
  · refine ⟨iv (-1), I, J, I, J, ?_, ?_, h⟩
    · rw [enX9_share, sgX9_share_0, bI (s_isVillageB _ _ hx _)]
      try dsimp only
      try dsimp only
      rw [bI (x_planB _ _ _ _ _ _)]
      try dsimp only
      try dsimp only
      rw [if_neg (by decide)]
    · rw [enX10_share, sgX10_share_0, bI (s_isDay _ _ _ _)]
      try dsimp only
      try dsimp only
      rw [b2i_f (b2_dayN hx), if_pos rfl]
  · have pc := plan_cases N (d + 13) h hP hC hRf r (mo := 12) (by omega)
    rw [show nI 12 = (12 : Int32) from rfl] at pc
    rcases pc with ⟨v, I1, I2, hv, hv2, hvb, kX, kM, e10, hR⟩ | ⟨h0, j, n, ss, hj, rfl, hnm, h9, h89, hs, kX⟩
    · refine ⟨iv v, I1, J, I2, J, ?_, ?_, hR⟩
      · rw [enX9_share, sgX9_share_0, bI (s_isVillageO _ _ hi _)]
        try dsimp only
        try dsimp only
        rw [bI kX]
        try dsimp only
        rw [if_neg hv]
      · rw [enX10_share, sgX10_share_0, bI (s_isDay _ _ _ _)]
        try dsimp only
        try dsimp only
        rw [b2i_t (b2_day hi), if_neg n10, bI kM]
        try dsimp only
        rw [if_neg hv2]
    · obtain ⟨B1, r1, fX, a6, aw, a3, a4, av⟩ := s_follow N (d + 14) hP h0 hw hD how hj (by omega) I J hC h9 (fun k hk => ⟨(hs k hk).1, (hs k hk).2.2⟩) h25 hFl
      have hR1 : refAt P ow B1 F D := hRf.eq (fun a h1 h2 => fX a (by simp; omega)) (by rw [fX 87 (by decide)]) (by rw [fX 87 (by decide)]) (by rw [fX 87 (by decide)])
      have kM := m_planO N (d + 15) hP h0 (j := j) (mo := 12) hj (by omega) hnm B1 J (73, 80) hR1.1 (fun i hi => (hR1.2.2.2.1 i hi).1) (by rw [fX 89 (by decide)]; exact h89) (fun k hk => by rw [fX 90 (by decide), (hs k hk).2.1]; exact CS.in hn (hs k hk).2.2)
      rw [show nI 12 = (12 : Int32) from rfl] at kM
      obtain ⟨B3, r3, f3, n3⟩ := s_begin N (d + 17) hn B1 J (73, 80) hR1
      obtain ⟨B5, r5, f5, g5, hR5⟩ := l_mshare N (d + 16) hP h0 hw how hD hj hnm (ss := ss) J (73, 80) f3 n3 (by rw [f3 87 (by decide), fX 87 (by decide)]; exact h32) (by rw [f3 89 (by decide), fX 89 (by decide)]; exact h89) (fun k hk => by rw [f3 90 (by decide), fX 90 (by decide)]; exact (hs k hk).2) hi n 0 (N + 999998 - n) B3 (by omega) (m_start f3 hR1)
      rw [nI_0] at r5
      refine ⟨iv (nI ((wkN P P.2.2.2.2 ow D ss (zF F) n).2.2.2 i)), B1, J, B5, J, ?_, ?_, h.trial2 hn hRf (v := 0) (fX.mo (by decide)) (by rw [fX 87 (by decide)]) (fun i hi => by rw [fX 0 (by decide)]) (f5.mo (by intro a; simp <;> omega)) (g5.mo (by intro a; simp <;> omega)) hR5 (by rw [g5 2 (by decide), fX 0 (by decide), fX 87 (by decide)]; exact h.2.2.2.1.1) h.2.2.2.1.2⟩
      · rw [enX9_share, sgX9_share_0, bI (s_isVillageO _ _ hi _)]
        try dsimp only
        try dsimp only
        rw [bI kX]
        try dsimp only
        rw [if_pos rfl, bV r1]
        try dsimp only
        rw [inb_t hi (by omega), if_pos rfl, nI_clamp (by omega), av i hi]
      · rw [enX10_share, sgX10_share_0, bI (s_isDay _ _ _ _)]
        try dsimp only
        try dsimp only
        rw [b2i_t (b2_day hi), if_neg n10, bI kM]
        try dsimp only
        rw [if_pos (by decide), inb_t hi (by omega), if_pos rfl, bV r3]
        try dsimp only
        rw [nI_clamp (show i < 2 ^ 31 by omega), (hR1.2.2.2.2 i hi).2.2, show N + 999999 = N + 999998 - n + 1 + n by omega]
        exact r5
