/-! fault, river -/
theorem Rel.mk1 {I B : Nat → Nat → Int32} {J : Nat → Nat → Int64} (h : Rel I J) (e : ∀ a, a ∈ [0, 1, 3, 4, 5, 6, 7, 8, 9, 10, 12, 13, 14, 15, 16, 72, 88, 89, 90, 92, 93] → B a = I a) (e0 : B 87 0 = I 87 0) (e2 : B 87 2 = I 87 2) (hV : RelV B) : Rel B J := by
  obtain ⟨hR, hT, hF, hA, -⟩ := h
  refine ⟨⟨?_, fun j hj => ?_⟩, ⟨?_, fun j hj => ?_⟩, ⟨?_, fun f hf => ?_⟩, ⟨?_, hA.2⟩, hV⟩
  · rw [e 1 (by decide)]; exact hR.1
  · have := hR.2 j hj
    have c : j = 0 ∨ j = 1 ∨ j = 2 ∨ j = 3 ∨ j = 4 ∨ j = 5 := by omega
    unfold RRow at this ⊢
    rw [e 9 (by decide), e 89 (by decide), e 90 (by decide), e (3 + j) (by rcases c with rfl | rfl | rfl | rfl | rfl | rfl <;> decide)]
    exact this
  · rw [e 10 (by decide)]; exact hT.1
  · have := hT.2 j hj
    have c : j = 0 ∨ j = 1 ∨ j = 2 ∨ j = 3 := by omega
    unfold RRow at this ⊢
    rw [e 16 (by decide), e 92 (by decide), e 93 (by decide), e (12 + j) (by rcases c with rfl | rfl | rfl | rfl <;> decide)]
    exact this
  · rw [e 0 (by decide), e0]; exact hF.1
  · rw [e 72 (by decide), e 88 (by decide)]; exact hF.2 f hf
  · rw [e 0 (by decide), e2]; exact hA.1
theorem Rel.read {I B : Nat → Nat → Int32} {J : Nat → Nat → Int64} (h : Rel I J) (e : fr [17, 18, 80, 81, 82, 83, 84, 85, 86, 87, 102, 103] I B) (g : f87 [20, 21, 22] I B) : Rel B J :=
  h.mk1 (fun a ha => e a ((by decide : ∀ b ∈ [0, 1, 3, 4, 5, 6, 7, 8, 9, 10, 12, 13, 14, 15, 16, 72, 88, 89, 90, 92, 93], b ∉ [17, 18, 80, 81, 82, 83, 84, 85, 86, 87, 102, 103]) a ha)) (g 0 (by decide)) (g 2 (by decide)) (h.2.2.2.2.ag ⟨fun a ha => e a ((by decide : ∀ b ∈ VC, b ∉ [17, 18, 80, 81, 82, 83, 84, 85, 86, 87, 102, 103]) a ha), g 10 (by decide), g 18 (by decide), g 25 (by decide), g 32 (by decide)⟩)
theorem op_fault (r : Int32) : OK2 76 167 [iv r] := by
  intro N d I J h
  rcases ixc r 4 (by decide) with hr | ⟨t, ht, rfl⟩
  · refine ⟨iv (-1), I, J, I, J, ?_, ?_, h⟩
    · rw [enX9_fault, sgX9_fault_0, bI (x_missB_10 _ _ hr _ _)]
      try dsimp only
      try dsimp only
      rw [if_neg (by decide)]
    · rw [enX10_fault, sgX10_fault_0, bI (m_askB_10 _ _ hr _ _ _)]
      try dsimp only
      try dsimp only
      rw [if_neg (by decide)]
  · rcases h.2.1.2 t ht with ⟨a, b⟩ | ⟨L, hL, a, b, c⟩
    · refine ⟨iv (-3), xF I 1, J, mF (xF I 1) 1, J, ?_, ?_, h.find (by decide)⟩
      · rw [enX9_fault, sgX9_fault_0, bI (x_missN_10 _ _ ht _ _ a)]
        try dsimp only
        try dsimp only
        rw [if_neg (by decide)]
      · rw [enX10_fault, sgX10_fault_0, bI (m_askN_10 _ _ ht _ _ _ (by rw [xF_at (by decide) (by decide)]; exact b))]
        try dsimp only
        try dsimp only
        rw [if_neg (by decide)]
    · obtain ⟨B1, r1, f1, -⟩ := x_read N (d + 13) (tx := I (12 + t)) ht hL I J (73, 80) a (fun i _ => rfl)
      obtain ⟨B2, r2, f2, g2, -⟩ := m_read N (d + 14) (tx := I (12 + t)) ht hL B1 J (73, 80) (by rw [f1 92 (by decide)]; exact b) (fun i hi => by rw [f1 93 (by decide)]; exact (c i hi).symm)
      refine ⟨iv (if (rdR (I (12 + t)) L).1 then -9 else nI (rdR (I (12 + t)) L).2.1), B1, J, B2, J, ?_, ?_, h.read ((f1.mo (by intro a; simp <;> omega)).tr (f2.mo (by intro a; simp <;> omega))) (fun k hk => by rw [g2 k hk, f1 87 (by decide)])⟩
      rotate_left
      · rw [enX10_fault, sgX10_fault_0, bI (m_askO_10 _ _ ht _ _ _ (by rw [f1 92 (by decide)]; exact b) hL)]
        try dsimp only
        try dsimp only
        rw [if_pos (by decide), bI r2]
      · rw [enX9_fault, sgX9_fault_0, bI (x_missO_10 _ _ ht _ _ a hL)]
        try dsimp only
        try dsimp only
        rw [if_pos rfl]
        have rd : arun (N + 1000000) (d + 19) 129 [rv (some 0), iv (nI t)] (I, J, 73, 80) = some (iv (if (rdR (I (12 + t)) L).1 then -9 else nI (rdR (I (12 + t)) L).2.1), (B1, J, 73, 80)) := by
          rw [enX9_readDraft, sgX9_readDraft_0, bI r1]
        rw [bI rd]
-- the course and the draft change places
theorem sgX9_replay_0s (N d n : Nat) (I : Nat → Nat → Int32) (J : Nat → Nat → Int64) : EX9_replay N d (n + 1) 0 [some (rv (some 0)), none] (I, J, 80, 73) =
  (cV (arun N d) 29 [rv (some 19), rv (some 80)] (I, J, 80, 73)).bind fun r1 => EX9_replay N d n 13 [some (rv (some 0)), some (iv 0)] r1 := rfl
theorem sgX9_replay_13s (N d n : Nat) (x1 : Int32) (I : Nat → Nat → Int32) (J : Nat → Nat → Int64) : EX9_replay N d (n + 1) 13 [some (rv (some 0)), some (iv x1)] (I, J, 80, 73) =
  if (I 25 0) ≤ x1 then
    some (rv none, (I, J, 80, 73))
  else
    if inb x1 40 then (if inb (x1 - x1 / 7 * 7) 7 then (if inb x1 40 then ((cI (arun N d) 30 [rv (some 19), rv (some 80), iv (I 26 x1.toNatClampNeg), iv (I 84 ((x1 - x1 / 7 * 7).toNatClampNeg)), iv (I 27 x1.toNatClampNeg)] (I, J, 80, 73)).bind fun r1 => EX9_replay N d n 13 [some (rv (some 0)), some (iv (x1 + 1))] r1.2) else none) else none) else none := rfl
def swp (a : Nat) : Nat := if 73 ≤ a ∧ a ≤ 79 then a + 7 else if 80 ≤ a ∧ a ≤ 86 then a - 7 else a
theorem swp_o {a : Nat} (h : a < 73 ∨ 86 < a) : swp a = a := by
  unfold swp
  rw [if_neg (by omega), if_neg (by omega)]
theorem courN.sw {P : RP} {ow : Nat → Nat} {I : Nat → Nat → Int32} (h : courN P ow I 80) : courN P ow (fun a => I (swp a)) 73 := by
  have e0 : (fun a => I (swp a)) 73 = I 80 := congrArg I (by decide)
  have e1 : (fun a => I (swp a)) (73 + 1) = I (80 + 1) := congrArg I (by decide)
  have e2 : (fun a => I (swp a)) (73 + 2) = I (80 + 2) := congrArg I (by decide)
  have e3 : (fun a => I (swp a)) (73 + 3) = I (80 + 3) := congrArg I (by decide)
  have e4 : (fun a => I (swp a)) (73 + 4) = I (80 + 4) := congrArg I (by decide)
  have e5 : (fun a => I (swp a)) (73 + 5) = I (80 + 5) := congrArg I (by decide)
  have e6 : (fun a => I (swp a)) (73 + 6) = I (80 + 6) := congrArg I (by decide)
  unfold courN at h ⊢
  rw [e0, e1, e2, e3, e4, e5, e6]
  exact h
/-- both answer alike; the relation stays, or stays when the course and the draft change places -/
def OKR (yx ym : Nat) (as : List AV) : Prop := ∀ (N d : Nat) (I : Nat → Nat → Int32) (J : Nat → Nat → Int64), Rel I J → ∃ (v : AV) (I1 : Nat → Nat → Int32) (J1 : Nat → Nat → Int64) (I2 : Nat → Nat → Int32) (J2 : Nat → Nat → Int64) (c : Nat × Nat),
  arun (N + 1000000) (d + 20) yx (rv (some 0) :: as) (I, J, 73, 80) = some (v, (I1, J1, c)) ∧ arun (N + 1000000) (d + 20) ym (rv (some 87) :: as) (I1, J1, c) = some (v, (I2, J2, c)) ∧ ((c = (73, 80) ∧ Rel I2 J2) ∨ (c = (80, 73) ∧ Rel (fun a => I2 (swp a)) J2))
theorem OK2.R {yx ym : Nat} {as : List AV} (h : OK2 yx ym as) : OKR yx ym as := fun N d I J hR => by
  obtain ⟨v, I1, J1, I2, J2, a, b, c⟩ := h N d I J hR
  exact ⟨v, I1, J1, I2, J2, (73, 80), a, b, Or.inl ⟨rfl, c⟩⟩
theorem l_riv58 (N d : Nat) (J : Nat → Nat → Int64) {n : Nat} (I : Nat → Nat → Int32) (G : (Nat → Nat → Int32) → Prop) (r : ∀ C, fr [38] I C → (∀ k, k < 3 → C 38 k = 0) → ∃ B, arun (N + 1000000) d 128 [rv (some 0)] (C, J, 80, 73) = some (rv none, (B, J, 80, 73)) ∧ B 80 0 = nI n ∧ G B) : ∀ (m k f : Nat) (C : Nat → Nat → Int32), k + m = 3 → m < f → fr [38] I C → (∀ i, i < k → C 38 i = 0) → ∃ B, EX9_river (N + 1000000) d f 58 [some (rv (some 0)), none, none, none, some (iv (nI k))] (C, J, 80, 73) = some (iv (nI n), (B, J, 80, 73)) ∧ G B := by
  intro m
  induction m with
  | zero =>
    intro k f C hk hf hC h0
    have : k = 3 := by omega
    subst this
    obtain ⟨g, rfl⟩ : ∃ g, f = g + 1 := ⟨f - 1, by omega⟩
    obtain ⟨B, rr, e, hg⟩ := r C hC h0
    refine ⟨B, ?_, hg⟩
    rw [sgX9_river_58, if_pos (by decide), bV rr]
    try dsimp only
    rw [if_pos (by decide), e]
  | succ m ih =>
    intro k f C hk hf hC h0
    obtain ⟨g, rfl⟩ : ∃ g, f = g + 1 := ⟨f - 1, by omega⟩
    obtain ⟨B, rr, hg⟩ := ih (k + 1) g (wr C 38 k 0) (by omega) (by omega) (hC.w (by simp)) (fun i hi => by
      by_cases e : i = k
      · subst e; rw [wr_eq]
      · rw [wr_nj e]; exact h0 i (by omega))
    refine ⟨B, ?_, hg⟩
    rw [sgX9_river_58, if_neg (show ¬ (3 : Int32) ≤ nI k from nI_ge (b := 3) (by omega) (by decide)), inb_t (show k < 3 by omega) (by omega), if_pos rfl, nI_clamp (by omega), nI_1, show vp_nar .boolean 0 = (0 : Int32) by decide]
    exact rr
theorem l_riv169 (N d : Nat) (I : Nat → Nat → Int32) (J : Nat → Nat → Int64) (cd : Nat × Nat) : ∀ (m k f : Nat) (C : Nat → Nat → Int32), k + m = 3 → m < f → fr [105] I C → (∀ i, i < k → C 105 i = 0) → ∃ B, EX10_river (N + 1000000) d f 169 [some (rv (some 87)), none, none, some (iv (nI k))] (C, J, cd) = some (iv (I 87 10), (B, J, cd)) ∧ fr [105] I B ∧ (∀ i, i < 3 → B 105 i = 0) := by
  intro m
  induction m with
  | zero =>
    intro k f C hk hf hC h0
    have : k = 3 := by omega
    subst this
    obtain ⟨g, rfl⟩ : ∃ g, f = g + 1 := ⟨f - 1, by omega⟩
    exact ⟨C, by rw [sgX10_river_169, if_pos (by decide), hC 87 (by decide)], hC, h0⟩
  | succ m ih =>
    intro k f C hk hf hC h0
    obtain ⟨g, rfl⟩ : ∃ g, f = g + 1 := ⟨f - 1, by omega⟩
    obtain ⟨B, rr, hg⟩ := ih (k + 1) g (wr C 105 k 0) (by omega) (by omega) (hC.w (by simp)) (fun i hi => by
      by_cases e : i = k
      · subst e; rw [wr_eq]
      · rw [wr_nj e]; exact h0 i (by omega))
    refine ⟨B, ?_, hg⟩
    rw [sgX10_river_169, if_neg (show ¬ (3 : Int32) ≤ nI k from nI_ge (b := 3) (by omega) (by decide)), inb_t (show k < 3 by omega) (by omega), if_pos rfl, nI_clamp (by omega), nI_1]
    exact rr
theorem l_riv83 (N d : Nat) {R : RR} (hR : R.1 ≤ 6) (I : Nat → Nat → Int32) (J : Nat → Nat → Int64) (cd : Nat × Nat) (h10 : I 87 10 = nI R.1) (h103 : ∀ i, i < R.1 → I 103 (3 * i) = nI (R.2.1 i) ∧ I 103 (3 * i + 1) = nI (R.2.2.1 i) ∧ I 103 (3 * i + 2) = nI (R.2.2.2 i)) : ∀ (m k f : Nat) (C : Nat → Nat → Int32), k + m = R.1 → m < f → fr [96, 97, 98, 99, 100] I C → (∀ i, i < k → C 96 i = nI (R.2.1 i) ∧ C 97 i = nI (R.2.2.1 i) ∧ C 98 i = nI (R.2.2.2 i) ∧ C 99 i = 0 ∧ C 100 i = 0) → ∃ B f', f ≤ f' + 1 + m ∧ EX10_river (N + 1000000) d f 83 [some (rv (some 87)), none, none, some (iv (nI k))] (C, J, cd) = EX10_river (N + 1000000) d f' 169 [some (rv (some 87)), none, none, some (iv 0)] (B, J, cd) ∧ fr [87, 96, 97, 98, 99, 100] I B ∧ f87 [18, 25] I B ∧ B 87 18 = 0 ∧ B 87 25 = 0 ∧ (∀ i, i < R.1 → B 96 i = nI (R.2.1 i) ∧ B 97 i = nI (R.2.2.1 i) ∧ B 98 i = nI (R.2.2.2 i) ∧ B 99 i = 0 ∧ B 100 i = 0) := by
  intro m
  induction m with
  | zero =>
    intro k f C hk hf hC h0
    have : k = R.1 := by omega
    subst this
    obtain ⟨g, rfl⟩ : ∃ g, f = g + 1 := ⟨f - 1, by omega⟩
    refine ⟨wr (wr C 87 18 0) 87 25 0, g, by omega, ?_, ((hC.mo (by simp)).w (by simp)).w (by simp), ?_, ?_, wr_eq, fun i hi => ?_⟩
    · rw [sgX10_river_83, hC 87 (by decide), h10, if_pos (Int32.le_refl _)]
    · intro k hk
      simp at hk
      rw [wr_nj (by omega), wr_nj (by omega), hC 87 (by decide)]
    · rw [wr_nj (by decide), wr_eq]
    · rw [wr_ne (by decide), wr_ne (by decide), wr_ne (show 97 ≠ 87 by decide), wr_ne (show 97 ≠ 87 by decide), wr_ne (show 98 ≠ 87 by decide), wr_ne (show 98 ≠ 87 by decide), wr_ne (show 99 ≠ 87 by decide), wr_ne (show 99 ≠ 87 by decide), wr_ne (show 100 ≠ 87 by decide), wr_ne (show 100 ≠ 87 by decide)]
      exact h0 i hi
  | succ m ih =>
    intro k f C hk hf hC h0
    obtain ⟨g, rfl⟩ : ∃ g, f = g + 1 := ⟨f - 1, by omega⟩
    obtain ⟨a1, a2, a3⟩ := h103 k (by omega)
    have hk6 : k < 6 := by omega
    obtain ⟨B, f', hf', rr, rest⟩ := ih (k + 1) g (wr (wr (wr (wr (wr C 96 k (nI (R.2.1 k))) 97 k (nI (R.2.2.1 k))) 98 k (nI (R.2.2.2 k))) 99 k 0) 100 k 0) (by omega) (by omega) (((((hC.w (by simp)).w (by simp)).w (by simp)).w (by simp)).w (by simp)) (fun i hi => by
      rw [wr_ne (by decide), wr_ne (by decide), wr_ne (by decide), wr_ne (by decide), wr_ne (show 97 ≠ 100 by decide), wr_ne (show 97 ≠ 99 by decide), wr_ne (show 97 ≠ 98 by decide), wr_ne (show 98 ≠ 100 by decide), wr_ne (show 98 ≠ 99 by decide), wr_ne (show 99 ≠ 100 by decide)]
      by_cases e : i = k
      · subst e
        rw [wr_eq, wr_eq, wr_eq, wr_eq, wr_eq]
        exact ⟨rfl, rfl, rfl, rfl, rfl⟩
      · rw [wr_nj e, wr_nj e, wr_nj e, wr_nj e, wr_nj e, wr_ne (show 97 ≠ 96 by decide), wr_ne (show 98 ≠ 97 by decide), wr_ne (show 98 ≠ 96 by decide), wr_ne (show 99 ≠ 98 by decide), wr_ne (show 99 ≠ 97 by decide), wr_ne (show 99 ≠ 96 by decide), wr_ne (show 100 ≠ 99 by decide), wr_ne (show 100 ≠ 98 by decide), wr_ne (show 100 ≠ 97 by decide), wr_ne (show 100 ≠ 96 by decide)]
        exact h0 i (by omega))
    refine ⟨B, f', by omega, ?_, rest⟩
    have ib : inb (nI k) 6 = true := inb_t hk6 (by omega)
    rw [sgX10_river_83, if_neg (by rw [hC 87 (by decide), h10]; exact nI_ge (by omega) (by omega)), ix3, show nI (3 * k) + 1 = nI (3 * k + 1) from nI_1 _, show nI (3 * k) + 2 = nI (3 * k + 2) from nI_add _ 2, inb_t (show 3 * k < 18 by omega) (by omega), inb_t (show 3 * k + 1 < 18 by omega) (by omega), inb_t (show 3 * k + 2 < 18 by omega) (by omega), ib, if_pos rfl, if_pos rfl, if_pos rfl, if_pos rfl, if_pos rfl, if_pos rfl, if_pos rfl, if_pos rfl, nI_clamp (show k < 2 ^ 31 by omega), nI_clamp (show 3 * k < 2 ^ 31 by omega), nI_clamp (show 3 * k + 1 < 2 ^ 31 by omega), nI_clamp (show 3 * k + 2 < 2 ^ 31 by omega), hC 103 (by decide), a1, a2, a3, nI_1]
    exact rr
theorem l_riv35 (N d : Nat) {rn ow : Nat → Nat} (I : Nat → Nat → Int32) (J : Nat → Nat → Int64) (cd : Nat × Nat) (h102 : ∀ e, e < 7 → I 102 e = nI (rn e) ∧ I 102 (7 + e) = nI (ow e)) : ∀ (m k f : Nat) (C : Nat → Nat → Int32), k + m = 7 → fr [94, 95, 101] I C → (∀ e, e < k → C 94 e = nI (rn e) ∧ C 95 e = nI (ow e) ∧ C 101 e = 0) → ∃ B, EX10_river (N + 1000000) d (f + 1 + m) 35 [some (rv (some 87)), none, none, some (iv (nI k))] (C, J, cd) = EX10_river (N + 1000000) d f 83 [some (rv (some 87)), none, none, some (iv 0)] (B, J, cd) ∧ fr [94, 95, 101] I B ∧ (∀ e, e < 7 → B 94 e = nI (rn e) ∧ B 95 e = nI (ow e) ∧ B 101 e = 0) := by
  intro m
  induction m with
  | zero =>
    intro k f C hk hC h0
    have : k = 7 := by omega
    subst this
    exact ⟨C, by rw [Nat.add_zero, sgX10_river_35, if_pos (by decide)], hC, h0⟩
  | succ m ih =>
    intro k f C hk hC h0
    obtain ⟨a1, a2⟩ := h102 k (by omega)
    have hk7 : k < 7 := by omega
    obtain ⟨B, rr, rest⟩ := ih (k + 1) f (wr (wr (wr C 94 k (nI (rn k))) 95 k (nI (ow k))) 101 k 0) (by omega) (((hC.w (by simp)).w (by simp)).w (by simp)) (fun i hi => by
      rw [wr_ne (by decide), wr_ne (by decide), wr_ne (show 95 ≠ 101 by decide)]
      by_cases e : i = k
      · subst e
        rw [wr_eq, wr_eq, wr_eq]
        exact ⟨rfl, rfl, rfl⟩
      · rw [wr_nj e, wr_nj e, wr_nj e, wr_ne (show 95 ≠ 94 by decide), wr_ne (show 101 ≠ 95 by decide), wr_ne (show 101 ≠ 94 by decide)]
        exact h0 i (by omega))
    refine ⟨B, ?_, rest⟩
    rw [show f + 1 + (m + 1) = f + 1 + m + 1 by omega, sgX10_river_35, if_neg (show ¬ (7 : Int32) ≤ nI k from nI_ge (b := 7) (by omega) (by decide)), show (7 : Int32) + nI k = nI (7 + k) from nI_add 7 k, inb_t (show k < 14 by omega) (by omega), inb_t hk7 (by omega), inb_t (show 7 + k < 14 by omega) (by omega), if_pos rfl, if_pos rfl, if_pos rfl, if_pos rfl, if_pos rfl, nI_clamp (show k < 2 ^ 31 by omega), nI_clamp (show 7 + k < 2 ^ 31 by omega), hC 102 (by decide), a1, a2, nI_1]
    exact rr
theorem op_river (r : Int32) : OKR 77 168 [iv r] := by
  intro N d I J h
  rcases ixc r 4 (by decide) with hr | ⟨t, ht, rfl⟩
  · refine ⟨iv (-1), I, J, I, J, (73, 80), ?_, ?_, Or.inl ⟨rfl, h⟩⟩
    · rw [enX9_river, sgX9_river_0, bI (x_missB_10 _ _ hr _ _)]
      try dsimp only
      try dsimp only
      rw [if_neg (by decide)]
    · rw [enX10_river, sgX10_river_0, bI (m_askB_10 _ _ hr _ _ _)]
      try dsimp only
      try dsimp only
      rw [if_neg (by decide)]
  · rcases h.2.1.2 t ht with ⟨a, b⟩ | ⟨L, hL, a, b, c⟩
    · refine ⟨iv (-3), xF I 1, J, mF (xF I 1) 1, J, (73, 80), ?_, ?_, Or.inl ⟨rfl, h.find (by decide)⟩⟩
      · rw [enX9_river, sgX9_river_0, bI (x_missN_10 _ _ ht _ _ a)]
        try dsimp only
        try dsimp only
        rw [if_neg (by decide)]
      · rw [enX10_river, sgX10_river_0, bI (m_askN_10 _ _ ht _ _ _ (by rw [xF_at (by decide) (by decide)]; exact b))]
        try dsimp only
        try dsimp only
        rw [if_neg (by decide)]
    · obtain ⟨B1, r1, f1, hco⟩ := x_read N (d + 13) (tx := I (12 + t)) ht hL I J (73, 80) a (fun i _ => rfl)
      have rd : arun (N + 1000000) (d + 19) 129 [rv (some 0), iv (nI t)] (I, J, 73, 80) = some (iv (if (rdR (I (12 + t)) L).1 then -9 else nI (rdR (I (12 + t)) L).2.1), (B1, J, 73, 80)) := by
        rw [enX9_readDraft, sgX9_readDraft_0, bI r1]
      have hle := rdR_le (I (12 + t)) L
      have hcc : (rdR (I (12 + t)) L).1 = true ∨ (rdR (I (12 + t)) L).1 = false := by cases (rdR (I (12 + t)) L).1 <;> simp
      rcases hcc with ok | ok
      · rw [ok, if_pos rfl] at rd
        obtain ⟨hP, h0, how⟩ := PR_ok ok
        have hC := hco ok
        generalize hPe : PR (I (12 + t)) L = P at hP h0 hC
        have hn := hP.1
        -- the class: DEEDS cut, none kept, the RIVER anew
        have f25 : fr [17, 18, 25, 80, 81, 82, 83, 84, 85, 86] I (wr B1 25 0 (mxI 0 (mnI 0 (B1 25 0)))) := (f1.mo (by intro a; simp <;> omega)).w (by simp)
        have hD40 : ∃ D, D ≤ 40 ∧ B1 25 0 = nI D := by
          obtain ⟨P', ow', F', D, -, -, -, hD, h25, -⟩ := h.un
          exact ⟨D, hD, by rw [f1 25 (by decide)]; exact h25⟩
        have z25 : mxI 0 (mnI 0 (B1 25 0)) = nI 0 := by
          obtain ⟨D, hD, e⟩ := hD40
          rw [e, show (0 : Int32) = nI 0 from rfl, mn_N (by decide) (by omega), mx_N (by decide) (by omega)]
          rfl
        have cut : arun (N + 1000000) (d + 19) 27 [rv (some 25), iv 0] (B1, J, 80, 73) = some (rv none, (wr B1 25 0 (mxI 0 (mnI 0 (B1 25 0))), J, 80, 73)) := by
          rw [enX3_cutTo, sgX3_cutTo_0, bI (s_min _ _ _ _ _)]
          try dsimp only
          try dsimp only
          rw [bI (s_max _ _ _ _ _)]
          try dsimp only
        rw [z25] at cut f25
        obtain ⟨B2, r2, hB2⟩ := l_riv58 N (d + 19) J (n := P.1) (wr B1 25 0 (nI 0)) (fun B => fr [20, 21, 22, 23, 38] (wr B1 25 0 (nI 0)) B ∧ (∀ k, k < 3 → B 38 k = 0) ∧ flowAt B (fs0 P)) (fun C hCf h38 => by
          obtain ⟨B, rs, fs, hfl⟩ := s_start_80 N (d + 17) hn C J (80, 73) (by rw [hCf 80 (by decide), wr_ne (by decide)]; exact hC.1) (fun i hi => by rw [hCf 83 (by decide), wr_ne (by decide)]; exact (hC.2.2.2.1 i hi).2.2)
          refine ⟨B, ?_, by rw [fs 80 (by decide), hCf 80 (by decide), wr_ne (by decide)]; exact hC.1, (hCf.mo (by simp)).tr (fs.mo (by intro a; simp <;> omega)), fun k hk => by rw [fs 38 (by decide)]; exact h38 k hk, hfl⟩
          rw [enX9_replay, sgX9_replay_0s, bV rs]
          try dsimp only
          rw [sgX9_replay_13s, if_pos (by rw [fs 25 (by decide), hCf 25 (by decide), wr_eq]; decide)]) 3 0 (N + 999999) (wr B1 25 0 (nI 0)) (by omega) (by omega) fr.rf (fun i hi => absurd hi (by omega))
        rw [nI_0] at r2
        obtain ⟨f2, k38, hfl⟩ := hB2
        have fI2 : fr [17, 18, 20, 21, 22, 23, 25, 38, 80, 81, 82, 83, 84, 85, 86] I B2 := (f25.mo (by intro a; simp <;> omega)).tr (f2.mo (by intro a; simp <;> omega))
        -- the reference
        obtain ⟨B3, r3, f3, g3, hM⟩ := m_read N (d + 14) (tx := I (12 + t)) ht hL B2 J (80, 73) (by rw [fI2 92 (by decide)]; exact b) (fun i hi => by rw [fI2 93 (by decide)]; exact (c i hi).symm)
        rw [ok, if_pos rfl] at r3
        obtain ⟨hMR, h102⟩ := hM ok
        have eP1 : (rdR (I (12 + t)) L).2.2.1 = P.1 := by rw [← hPe]; rfl
        have f4 : fr [87, 102, 103] B2 (wr B3 87 10 (nI P.1)) := f3.w (by simp)
        have e4 : ∀ a, a ≠ 87 → wr B3 87 10 (nI P.1) a = B3 a := fun a ha => wr_ne ha
        obtain ⟨B5, r5, f5, v5⟩ := l_riv35 N (d + 19) (wr B3 87 10 (nI P.1)) J (80, 73) (by rw [e4 102 (by decide)]; exact h102) 7 0 (N + 999991) (wr B3 87 10 (nI P.1)) (by omega) fr.rf (fun e he => absurd he (by omega))
        rw [nI_0, show N + 999991 + 1 + 7 = N + 999999 from rfl] at r5
        obtain ⟨B6, f', hf', r6, f6, g6, z18, z25', v6⟩ := l_riv83 N (d + 19) (R := (rdR (I (12 + t)) L).2.2) (by rw [eP1]; exact hn) B5 J (80, 73) (by rw [f5 87 (by decide), wr_eq, eP1]) (by rw [f5 103 (by decide), e4 103 (by decide)]; exact hMR.2.2) (rdR (I (12 + t)) L).2.2.1 0 (N + 999991) B5 (by omega) (by rw [eP1]; omega) fr.rf (fun i hi => absurd hi (by omega))
        rw [nI_0] at r6
        obtain ⟨B7, r7, f7, k105⟩ := l_riv169 N (d + 19) B6 J (80, 73) 3 0 f' B6 (by omega) (by rw [eP1] at hf'; omega) fr.rf (fun i hi => absurd hi (by omega))
        rw [nI_0] at r7
        have e610 : B6 87 10 = nI P.1 := by rw [g6 10 (by decide), f5 87 (by decide), wr_eq]
        rw [e610] at r7
        refine ⟨iv (nI P.1), B2, J, B7, J, (80, 73), ?_, ?_, Or.inr ⟨rfl, ?_⟩⟩
        · rw [enX9_river, sgX9_river_0, bI (x_missO_10 _ _ ht _ _ a hL)]
          try dsimp only
          try dsimp only
          rw [if_pos rfl, bI rd]
          try dsimp only
          rw [if_pos rfl, bV cut]
          try dsimp only
          exact r2
        · rw [enX10_river, sgX10_river_0, bI (m_askO_10 _ _ ht _ _ _ (by rw [fI2 92 (by decide)]; exact b) hL)]
          try dsimp only
          try dsimp only
          rw [if_pos (by decide), bI r3]
          try dsimp only
          rw [if_pos rfl, hMR.1, eP1, r5, r6, r7]
        · -- the relation, the course and the draft having changed places
          have ag : ∀ a, a ∉ [17, 18, 20, 21, 22, 23, 25, 38, 80, 81, 82, 83, 84, 85, 86, 87, 94, 95, 96, 97, 98, 99, 100, 101, 102, 103, 105] → B7 a = I a := fun a ha => by
            simp at ha
            rw [f7 a (by simp; omega), f6 a (by simp; omega), f5 a (by simp; omega), f4 a (by simp; omega), fI2 a (by simp; omega)]
          have e7 : ∀ k, k ∉ [10, 18, 20, 21, 22, 25] → B7 87 k = I 87 k := fun k hk => by
            simp at hk
            rw [f7 87 (by decide), g6 k (by simp; omega), f5 87 (by decide), wr_nj (by omega), g3 k (by simp; omega), fI2 87 (by decide)]
          have x2 : ∀ a, a ∉ [87, 94, 95, 96, 97, 98, 99, 100, 101, 102, 103, 105] → B7 a = B2 a := fun a ha => by
            simp at ha
            rw [f7 a (by simp; omega), f6 a (by simp; omega), f5 a (by simp; omega), f4 a (by simp; omega)]
          have x1 : ∀ a, a ∉ [20, 21, 22, 23, 25, 38] → B2 a = B1 a := fun a ha => by
            simp at ha
            rw [f2 a (by simp; omega), wr_ne (by omega)]
          have hC7 : courN P (owR (I (12 + t)) L) B7 80 := by
            unfold courN at hC ⊢
            rw [x2 80 (by decide), x2 (80 + 1) (by decide), x2 (80 + 2) (by decide), x2 (80 + 3) (by decide), x2 (80 + 4) (by decide), x2 (80 + 5) (by decide), x2 (80 + 6) (by decide), x1 80 (by decide), x1 (80 + 1) (by decide), x1 (80 + 2) (by decide), x1 (80 + 3) (by decide), x1 (80 + 4) (by decide), x1 (80 + 5) (by decide), x1 (80 + 6) (by decide)]
            exact hC
          have hCs : courN P (owR (I (12 + t)) L) (fun a => B7 (swp a)) 73 := hC7.sw
          obtain ⟨X, hX⟩ : ∃ X : Nat → Nat → Int32, X = fun a => B7 (swp a) := ⟨_, rfl⟩
          rw [← hX] at hCs ⊢
          have so : ∀ a, (a < 73 ∨ 86 < a) → X a = B7 a := fun a ha => by
            rw [hX]
            exact congrArg B7 (swp_o ha)
          have s87 : X 87 = B7 87 := so 87 (by omega)
          refine h.mk1 (fun a ha => ?_) (by rw [s87]; exact e7 0 (by decide)) (by rw [s87]; exact e7 2 (by decide)) ?_
          · have ha' : (a < 73 ∨ 86 < a) ∧ a ∉ [17, 18, 20, 21, 22, 23, 25, 38, 80, 81, 82, 83, 84, 85, 86, 87, 94, 95, 96, 97, 98, 99, 100, 101, 102, 103, 105] := (by decide : ∀ b ∈ [0, 1, 3, 4, 5, 6, 7, 8, 9, 10, 12, 13, 14, 15, 16, 72, 88, 89, 90, 92, 93], (b < 73 ∨ 86 < b) ∧ b ∉ [17, 18, 20, 21, 22, 23, 25, 38, 80, 81, 82, 83, 84, 85, 86, 87, 94, 95, 96, 97, 98, 99, 100, 101, 102, 103, 105]) a ha
            rw [so a ha'.1]
            exact ag a ha'.2
          · refine ⟨P, owR (I (12 + t)) L, 0, fun _ => 0, fun _ => 0, fun _ => false, fun _ => 0, fun _ _ => 0, fun _ _ => 0, hP, how, hCs, ⟨by omega, ?_, fun t ht => absurd ht (by omega)⟩, fun _ => rfl, fun i hi => ?_, fun v hv => ?_, fun k hk => ⟨?_, ?_, fun q => absurd q Bool.false_ne_true⟩, ?_, ?_, ?_, ?_, fun i hi => ?_, fun e he => ?_, fun t ht => absurd ht (by omega)⟩
            · rw [so 25 (by omega), x2 25 (by decide), f2 25 (by decide), wr_eq]
            · rw [so 20 (by omega), so 21 (by omega), so 22 (by omega), x2 20 (by decide), x2 21 (by decide), x2 22 (by decide)]
              exact hfl.1 i hi
            · rw [so 23 (by omega), x2 23 (by decide)]
              exact hfl.2 v hv
            · rw [so 38 (by omega), x2 38 (by decide)]
              exact k38 k hk
            · rw [so 105 (by omega)]
              exact k105 k hk
            · rw [s87, f7 87 (by decide)]; exact e610
            · rw [s87, f7 87 (by decide)]; exact z18
            · rw [s87, f7 87 (by decide)]; exact z25'
            · rw [s87, e7 32 (by decide)]
              obtain ⟨P', ow', F', D, -, -, -, -, -, -, -, h32, -⟩ := h.un
              exact h32
            · rw [so 96 (by omega), so 97 (by omega), so 98 (by omega), so 99 (by omega), so 100 (by omega), f7 96 (by decide), f7 97 (by decide), f7 98 (by decide), f7 99 (by decide), f7 100 (by decide)]
              obtain ⟨y1, y2, y3, y4, y5⟩ := v6 i (by rw [eP1]; exact hi)
              have w1 : (fs0 P).1 i = (rdR (I (12 + t)) L).2.2.2.2.2 i := by
                show (if i < P.1 then P.2.2.2.1 i else 0) = _
                rw [if_pos hi, ← hPe]; rfl
              refine ⟨by rw [y1, ← hPe]; rfl, by rw [y2, ← hPe]; rfl, by rw [y3]; exact congrArg nI w1.symm, y4, y5⟩
            · rw [so 94 (by omega), so 95 (by omega), so 101 (by omega), f7 94 (by decide), f7 95 (by decide), f7 101 (by decide), f6 94 (by decide), f6 95 (by decide), f6 101 (by decide)]
              obtain ⟨y1, y2, y3⟩ := v5 e he
              exact ⟨by rw [y1, ← hPe]; rfl, y2, y3⟩
      · rw [ok, if_neg Bool.false_ne_true] at rd
        have n9 : ¬ nI (rdR (I (12 + t)) L).2.1 = -9 := nn9 (by omega)
        obtain ⟨B2, r2, f2, g2, -⟩ := m_read N (d + 14) (tx := I (12 + t)) ht hL B1 J (73, 80) (by rw [f1 92 (by decide)]; exact b) (fun i hi => by rw [f1 93 (by decide)]; exact (c i hi).symm)
        rw [ok, if_neg Bool.false_ne_true] at r2
        refine ⟨iv (-4), B1, J, B2, J, (73, 80), ?_, ?_, Or.inl ⟨rfl, h.read ((f1.mo (by intro a; simp <;> omega)).tr (f2.mo (by intro a; simp <;> omega))) (fun k hk => by rw [g2 k hk, f1 87 (by decide)])⟩⟩
        · rw [enX9_river, sgX9_river_0, bI (x_missO_10 _ _ ht _ _ a hL)]
          try dsimp only
          try dsimp only
          rw [if_pos rfl, bI rd]
          try dsimp only
          rw [if_neg n9]
        · rw [enX10_river, sgX10_river_0, bI (m_askO_10 _ _ ht _ _ _ (by rw [f1 92 (by decide)]; exact b) hL)]
          try dsimp only
          try dsimp only
          rw [if_pos (by decide), bI r2]
          try dsimp only
          rw [if_neg n9]
