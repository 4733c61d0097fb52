/-! the calls on rows and texts -/
theorem RelV.ag {I B : Nat → Nat → Int32} (h : RelV I) (a : agV I B) : RelV B := by
  obtain ⟨P, ow, D, sh, vl, kp, KD, ksh, kvl, h1, h2, h3, h4, h5, h6, h7, h8, h9, h10, h11, h12, h13, h14, h15⟩ := h
  obtain ⟨e, e10, e18, e25, e32⟩ := a
  refine ⟨P, ow, D, sh, vl, kp, KD, ksh, kvl, h1, h2, ?_, ?_, h5, ?_, ?_, ?_, ?_, ?_, ?_, ?_, ?_, ?_, ?_⟩
  · unfold courN at h3 ⊢
    simp only [e 73 (by decide), e (73 + 1) (by decide), e (73 + 2) (by decide), e (73 + 3) (by decide), e (73 + 4) (by decide), e (73 + 5) (by decide), e (73 + 6) (by decide)]
    exact h3
  · unfold deedN at h4 ⊢
    simp only [e 25 (by decide), e (25 + 1) (by decide), e (25 + 2) (by decide)]
    exact h4
  · simp only [e 20 (by decide), e 21 (by decide), e 22 (by decide)]
    exact h6
  · simp only [e 23 (by decide)]
    exact h7
  · intro k hk
    have := h8 k hk
    simp only [e 38 (by decide), e 105 (by decide), e 106 (by decide)]
    refine ⟨this.1, this.2.1, fun q => ?_⟩
    obtain ⟨a1, a2⟩ := this.2.2 q
    refine ⟨?_, a2⟩
    have c : k = 0 ∨ k = 1 ∨ k = 2 := by omega
    unfold deedN at a1 ⊢
    rcases c with rfl | rfl | rfl
    · simp only [e (29 + 3 * 0) (by decide), e (29 + 3 * 0 + 1) (by decide), e (29 + 3 * 0 + 2) (by decide)]
      exact a1
    · simp only [e (29 + 3 * 1) (by decide), e (29 + 3 * 1 + 1) (by decide), e (29 + 3 * 1 + 2) (by decide)]
      exact a1
    · simp only [e (29 + 3 * 2) (by decide), e (29 + 3 * 2 + 1) (by decide), e (29 + 3 * 2 + 2) (by decide)]
      exact a1
  · rw [e10]; exact h9
  · rw [e18]; exact h10
  · rw [e25]; exact h11
  · rw [e32]; exact h12
  · simp only [e 96 (by decide), e 97 (by decide), e 98 (by decide), e 99 (by decide), e 100 (by decide)]
    exact h13
  · simp only [e 94 (by decide), e 95 (by decide), e 101 (by decide)]
    exact h14
  · simp only [e 104 (by decide)]
    exact h15
/-- both sides answer alike, and the relation stays -/
def OK2 (yx ym : Nat) (as : List AV) : Prop := ∀ (N d : Nat) (I : Nat → Nat → Int32) (J : Nat → Nat → Int64), Rel I J → ∃ (v : AV) (I1 : Nat → Nat → Int32) (J1 : Nat → Nat → Int64) (I2 : Nat → Nat → Int32) (J2 : Nat → Nat → Int64),
  arun (N + 1000000) (d + 20) yx (rv (some 0) :: as) (I, J, 73, 80) = some (v, (I1, J1, 73, 80)) ∧ arun (N + 1000000) (d + 20) ym (rv (some 87) :: as) (I1, J1, 73, 80) = some (v, (I2, J2, 73, 80)) ∧ Rel I2 J2
-- what a FINDING does to both
def xF (I : Nat → Nat → Int32) (f : Nat) : Nat → Nat → Int32 := wr (wr I 0 13 (nI f)) 72 f (I 72 f + 1)
def mF (I : Nat → Nat → Int32) (f : Nat) : Nat → Nat → Int32 := wr (wr I 87 0 (nI f)) 88 f (I 88 f + 1)
theorem s_find (N d : Nat) {f : Nat} (hf : f < 6) (I : Nat → Nat → Int32) (J : Nat → Nat → Int64) : arun (N + 1000000) (d + 1) 115 [rv (some 0), iv (nI f)] (I, J, 73, 80) = some (iv (-3), (xF I f, J, 73, 80)) := by
  rw [enX9_find, sgX9_find_0, inb_t hf (by omega), nI_clamp (by omega)]
  rfl
theorem s_meetF (N d : Nat) {f : Nat} (hf : f < 6) (I : Nat → Nat → Int32) (J : Nat → Nat → Int64) (cd : Nat × Nat) : arun (N + 1000000) (d + 1) 138 [rv (some 87), iv (nI f)] (I, J, cd) = some (iv (-3), (mF I f, J, cd)) := s_meet N d hf I J cd
theorem Rel.find {I : Nat → Nat → Int32} {J : Nat → Nat → Int64} (h : Rel I J) {f : Nat} (hf : f < 6) : Rel (mF (xF I f) f) J := by
  obtain ⟨hR, hT, hF, hA, hV⟩ := h
  have low : ∀ a, a ≠ 0 → a ≠ 72 → a ≠ 87 → a ≠ 88 → mF (xF I f) f a = I a := by
    intro a h1 h2 h3 h4
    simp only [mF, xF, wr_at, if_neg h1, if_neg h2, if_neg h3, if_neg h4]
  refine ⟨⟨?_, ?_⟩, ⟨?_, ?_⟩, ⟨?_, ?_⟩, ⟨?_, hA.2⟩, ?_⟩
  · rw [low 1 (by omega) (by omega) (by omega) (by omega)]; exact hR.1
  · intro j hj
    have := hR.2 j hj
    unfold RRow at this ⊢
    rw [low 9 (by omega) (by omega) (by omega) (by omega), low 89 (by omega) (by omega) (by omega) (by omega), low (3 + j) (by omega) (by omega) (by omega) (by omega), low 90 (by omega) (by omega) (by omega) (by omega)]
    exact this
  · rw [low 10 (by omega) (by omega) (by omega) (by omega)]; exact hT.1
  · intro j hj
    have := hT.2 j hj
    unfold RRow at this ⊢
    rw [low 16 (by omega) (by omega) (by omega) (by omega), low 92 (by omega) (by omega) (by omega) (by omega), low (12 + j) (by omega) (by omega) (by omega) (by omega), low 93 (by omega) (by omega) (by omega) (by omega)]
    exact this
  · simp [mF, xF, wr_at, up1_at]
  · intro g hg
    have := hF.2 g hg
    have hff := hF.2 f hf
    simp only [mF, xF, wr_at, up1_at]
    by_cases e : g = f
    · subst e; simp [this, up1_at]
    · simp [e, this, up1_at]
  · simp only [mF, xF, wr_at]
    simpa [up1_at] using hA.1
  · refine hV.ag ?_
    unfold mF xF
    exact agV.wr1 (agV.wr87 (agV.wr1 (agV.wr1 agV.rf (by decide) (by decide)) (by decide) (by decide)) (by decide) (by decide) (by decide) (by decide)) (by decide) (by decide)
theorem s_tell (N d : Nat) (v : Int32) (I : Nat → Nat → Int32) (J : Nat → Nat → Int64) : arun (N + 1000000) (d + 1) 112 [rv (some 0), iv v] (I, J, 73, 80) = some (iv 1, (wr I 0 14 v, J, 73, 80)) := by
  rw [enX9_tell, sgX9_tell_0]
