/-! best, most -/
def σ0 : HS := (0, 0, fun _ => 0, 0)
theorem s_seek (N d : Nat) {P : RP} (hP : okP P) (h0 : 0 < P.1) {ow : Nat → Nat} (how : ∀ d, d < 7 → ow d ≤ 6) {n go vil : Nat} {due : Nat → Nat} {t : Nat} (ht : t ≤ 40) {F : FS} (hw : ∀ i, F.1 i ≤ 99) (hn : n ≤ 4) (hg : go < 4) (hv : vil < 7) (hdu : ∀ i, due i ≤ 999) (I : Nat → Nat → Int32) (J : Nat → Nat → Int64) (cd : Nat × Nat) (hC : courN P ow I 73) (hF : flowAt I F) (h2 : go = 2 → I 48 2 = nI vil) (h3 : go = 3 → ∀ i, i < n → I 49 i = nI (due i)) :
    ∃ B, arun (N + 1000000) (d + 12) 31 [rv (some 48), rv (some 73), rv (some 20), iv (nI t), iv (nI go), iv (nI n)] (I, J, cd) = some (rv none, (B, J, cd)) ∧ fr [48, 50, 51, 52, 53, 55, 56, 57, 58, 59, 60] I B ∧ B 48 3 = nI n ∧ HQ n (fldS (stpS P ow t F go vil due n) 0 (mS P ^ n) σ0) B := by
  have hn6 := hP.1
  have hpw := pw8 (mS_le hP) hn
  obtain ⟨B1, r1, f1, b6, b0, -, -, -, bw⟩ := s_abegin_52 N (d + 9) (t := t) (by omega) I J cd
  have f2 : fr [48, 52, 53, 55] I (wr (wr (wr (wr (wr B1 48 7 (nI go)) 48 3 (nI n)) 48 4 0) 48 5 0) 48 6 0) := (((((f1.mo (by intro a; simp <;> omega)).w (by simp)).w (by simp)).w (by simp)).w (by simp)).w (by simp)
  have e52 : wr (wr (wr (wr (wr B1 48 7 (nI go)) 48 3 (nI n)) 48 4 0) 48 5 0) 48 6 0 52 = B1 52 := by simp only [wr_ne (show 52 ≠ 48 by decide)]
  have hK : HK P ow n go vil due t (wr (wr (wr (wr (wr B1 48 7 (nI go)) 48 3 (nI n)) 48 4 0) 48 5 0) 48 6 0) := by
    refine ⟨hC.eq (fun a p q => f2 a (by simp; omega)), ?_, ?_, fun q => ?_, fun q => ?_, by rw [e52]; exact b6, by rw [e52]; exact b0⟩
    · rw [wr_nj (by decide), wr_nj (by decide), wr_nj (by decide), wr_eq]
    · rw [wr_nj (by decide), wr_nj (by decide), wr_nj (by decide), wr_nj (by decide), wr_eq]
    · rw [wr_nj (by decide), wr_nj (by decide), wr_nj (by decide), wr_nj (by decide), wr_nj (by decide), f1 48 (by decide)]; exact h2 q
    · rw [f2 49 (by decide)]; exact h3 q
  have hV : VW P ow t F (plN P 0 0) 0 (wr (wr (wr (wr (wr B1 48 7 (nI go)) 48 3 (nI n)) 48 4 0) 48 5 0) 48 6 0) := by
    refine ⟨fun i hi x hx => ?_, fun i hi => absurd hi (by omega)⟩
    have : i = 0 := by omega
    subst this
    simp only [wr_ne (show 55 + 0 ≠ 48 by decide)]
    rw [bw x hx]
    exact (hF.1 x hx).1
  have hQ : HQ n σ0 (wr (wr (wr (wr (wr B1 48 7 (nI go)) 48 3 (nI n)) 48 4 0) 48 5 0) 48 6 0) := by
    refine ⟨?_, ?_, fun q => absurd q (by decide), fun _ => ?_⟩
    · rw [wr_nj (by decide), wr_nj (by decide), wr_eq]; rfl
    · rw [wr_nj (by decide), wr_eq]; rfl
    · rw [wr_eq]; rfl
  obtain ⟨B, r, hf, -, hq⟩ := x_deep N (d + 5 - n) hP h0 how ht hw hn hg hv hdu J cd n 0 0 σ0 _ (by omega) rfl (by show 0 + mS P ^ n ≤ 5000; omega) hK hV hQ
  rw [Nat.zero_mul] at hq
  rw [show d + 5 - n + n + 6 = d + 11 by omega, nI_0, show gaiA P ow t F go vil (plN P 0 0) 0 = 0 from rfl] at r
  refine ⟨B, ?_, (f2.mo (by intro a; simp <;> omega)).tr (hf.1.mo (by intro a; simp <;> omega)), ?_, hq⟩
  · rw [enX5_seek, sgX5_seek_0, bV r1]
    try dsimp only
    rw [show (4 : Int32) = nI 4 from rfl, bI (s_min _ _ _ _ _)]
    try dsimp only
    try dsimp only
    rw [mn_N (by omega) (by omega), Nat.min_eq_left hn, show (0 : Int32) = nI 0 from rfl, bI (s_max _ _ _ _ _)]
    try dsimp only
    try dsimp only
    rw [mx_N (by omega) (by omega), Nat.max_eq_right (by omega), show nI 0 = (0 : Int32) from rfl, bV r]
  · rw [hf.2.1 3 (by decide) (by decide) (by decide)]; exact hK.2.1
/-- how often any GROUND by a PLAN; what came on a village's days -/
def gtN (P : RP) (ow : Nat → Nat) (t : Nat) (F : FS) (ss : Nat → Nat) (n : Nat) : Nat := sumN (fun i => pc6 (gsD P ow t F ss i)) n
def otN (P : RP) (ow : Nat → Nat) (t : Nat) (F : FS) (v : Nat) (ss : Nat → Nat) (n : Nat) : Nat := sumN (fun i => if ow ((t + i) % 7) = v then seaD P ow t F ss i else 0) n
theorem gt_eq {P : RP} (hn : P.1 ≤ 6) (ow : Nat → Nat) (t : Nat) (F : FS) (ss : Nat → Nat) : ∀ k, sumN (wkN P P.2.2.2.2 ow t ss (zF F) k).2.1 P.1 = gtN P ow t F ss k
  | 0 => by
    have : ∀ n, sumN (fun _ => 0) n = 0 := by
      intro n
      induction n with
      | zero => rfl
      | succ n ih => simp only [sumN, ih]
    show sumN (fun _ => 0) P.1 = 0
    rw [this]
  | k + 1 => by
    show sumN (stepN P _ _ _ _).2.1 P.1 = sumN _ k + pc6 (gsD P ow t F ss k)
    rw [ground_sum hn, gt_eq hn ow t F ss k, gsD, (wkN_z P P.2.2.2.2 ow t ss F k).1]; rfl
theorem ot_eq (P : RP) (ow : Nat → Nat) (t : Nat) (F : FS) (v : Nat) (ss : Nat → Nat) : ∀ k, (wkN P P.2.2.2.2 ow t ss (zF F) k).2.2.2 v = otN P ow t F v ss k
  | 0 => rfl
  | k + 1 => by
    show (wkN P P.2.2.2.2 ow t ss (zF F) k).2.2.2 v + (if v = ow ((t + k) % 7) then seaN P (wkN P P.2.2.2.2 ow t ss (zF F) k).1 (ss k) else 0) = sumN _ k + (if ow ((t + k) % 7) = v then seaD P ow t F ss k else 0)
    rw [ot_eq P ow t F v ss k, seaD, (wkN_z P P.2.2.2.2 ow t ss F k).1]
    by_cases h : v = ow ((t + k) % 7)
    · rw [if_pos h, if_pos h.symm]; rfl
    · rw [if_neg h, if_neg (fun q => h q.symm)]; rfl
theorem gai0 (P : RP) (ow : Nat → Nat) (t : Nat) (F : FS) (vil : Nat) (ss : Nat → Nat) : ∀ k, gaiA P ow t F 0 vil ss k = nI (gtN P ow t F ss k)
  | 0 => rfl
  | k + 1 => by
    show gaiA P ow t F 0 vil ss k + gainD P ow t F 0 vil ss k = nI (sumN _ k + pc6 (gsD P ow t F ss k))
    rw [gai0 P ow t F vil ss k, gainD, if_pos rfl, nI_add]; rfl
theorem gai2 (P : RP) (ow : Nat → Nat) (t : Nat) (F : FS) (vil : Nat) (ss : Nat → Nat) : ∀ k, gaiA P ow t F 2 vil ss k = nI (otN P ow t F vil ss k)
  | 0 => rfl
  | k + 1 => by
    show gaiA P ow t F 2 vil ss k + gainD P ow t F 2 vil ss k = nI (sumN _ k + (if ow ((t + k) % 7) = vil then seaD P ow t F ss k else 0))
    rw [gai2 P ow t F vil ss k, gainD, if_neg (by decide), if_neg (by decide), if_pos rfl, ← nI_add]
    split <;> rfl
theorem fit02 (P : RP) (ow : Nat → Nat) (t : Nat) (F : FS) (go : Nat) (due ss : Nat → Nat) (hg : go ≠ 1 ∧ go ≠ 3) : ∀ k, fitA P ow t F go due ss k = true
  | 0 => rfl
  | k + 1 => by
    simp only [fitA]
    rw [fit02 P ow t F go due ss hg k, fitD, if_neg hg.1, if_neg hg.2]; rfl
theorem pc6_le (x : Nat) : pc6 x ≤ 6 := by unfold pc6; omega
theorem gt_le (P : RP) (ow : Nat → Nat) (t : Nat) (F : FS) (ss : Nat → Nat) : ∀ k, gtN P ow t F ss k ≤ 6 * k
  | 0 => Nat.le_refl _
  | k + 1 => by
    have := gt_le P ow t F ss k
    have h6 := pc6_le (gsD P ow t F ss k)
    show sumN _ k + pc6 _ ≤ _
    unfold gtN at this
    omega
theorem ot_le (P : RP) (ow : Nat → Nat) (t : Nat) (F : FS) (hw : ∀ i, F.1 i ≤ 99) (v : Nat) (ss : Nat → Nat) : ∀ k, otN P ow t F v ss k ≤ 99 * k
  | 0 => Nat.le_refl _
  | k + 1 => by
    have := ot_le P ow t F hw v ss k
    have hse : seaD P ow t F ss k ≤ 99 := Nat.le_trans (ranN_le _ _ _ _) (wkN_le _ _ _ _ _ _ hw k _)
    unfold otN at this ⊢
    simp only [sumN]
    split <;> omega
/-- the reference's best: the PLAN's number, how often -/
def bsN (g : Nat → Nat) : Nat → Nat × Int32
  | 0 => (0, -1)
  | j + 1 => (if nI (g j) ≤ (bsN g j).2 then (bsN g j).1 else j, mxI (bsN g j).2 (nI (g j)))
theorem arrS_t (σ : HS) (ss : Nat → Nat) (g : Int32) : (arrS σ ss g).2.1 = if σ.1 = 0 ∨ ¬ g ≤ σ.2.1 then g else σ.2.1 := rfl
theorem arrS_p (σ : HS) (ss : Nat → Nat) (g : Int32) : (arrS σ ss g).2.2.1 = if σ.1 = 0 ∨ ¬ g ≤ σ.2.1 then ss else σ.2.2.1 := rfl
theorem bsN_1 (g : Nat → Nat) (j : Nat) : (bsN g (j + 1)).1 = if nI (g j) ≤ (bsN g j).2 then (bsN g j).1 else j := rfl
theorem bsN_2 (g : Nat → Nat) (j : Nat) : (bsN g (j + 1)).2 = mxI (bsN g j).2 (nI (g j)) := rfl
theorem best_rel {P : RP} {ow : Nat → Nat} {t : Nat} {F : FS} {vil : Nat} {due : Nat → Nat} {n : Nat} (hn : n ≤ 4) : ∀ j, (fldS (stpS P ow t F 0 vil due n) 0 j σ0).1 = j ∧ (0 < j → (fldS (stpS P ow t F 0 vil due n) 0 j σ0).2.1 = (bsN (fun j => gtN P ow t F (plN P n j) n) j).2 ∧ (fldS (stpS P ow t F 0 vil due n) 0 j σ0).2.2.1 = plN P n (bsN (fun j => gtN P ow t F (plN P n j) n) j).1) ∧ (bsN (fun j => gtN P ow t F (plN P n j) n) j).1 ≤ j
  | 0 => ⟨rfl, fun q => absurd q (by omega), Nat.le_refl _⟩
  | j + 1 => by
    obtain ⟨h1, h2, h3⟩ := best_rel (P := P) (ow := ow) (t := t) (F := F) (vil := vil) (due := due) hn j
    have hg := gt_le P ow t F (plN P n j) n
    have es : fldS (stpS P ow t F 0 vil due n) 0 (j + 1) σ0 = arrS (fldS (stpS P ow t F 0 vil due n) 0 j σ0) (plN P n j) (nI (gtN P ow t F (plN P n j) n)) := by
      show stpS P ow t F 0 vil due n (0 + j) _ = _
      rw [Nat.zero_add, stpS, if_pos (fit02 P ow t F 0 due (plN P n j) (by decide) n), gai0]
    rw [es]
    refine ⟨by rw [arrS_1, h1], fun _ => ?_, ?_⟩
    · by_cases hj : j = 0
      · subst hj
        have c : ¬ nI (gtN P ow t F (plN P n 0) n) ≤ -1 := by
          rw [Int32.not_le]
          exact Int32.lt_of_lt_of_le (by decide) (nI_pos' (n := gtN P ow t F (plN P n 0) n) (by omega))
        refine ⟨?_, ?_⟩
        · rw [arrS_t, bsN_2, if_pos (Or.inl h1), mxI, if_pos (show (bsN (fun j => gtN P ow t F (plN P n j) n) 0).2 < nI (gtN P ow t F (plN P n 0) n) from Int32.not_le.mp c)]
        · rw [arrS_p, bsN_1, if_pos (Or.inl h1), if_neg (show ¬ nI (gtN P ow t F (plN P n 0) n) ≤ (bsN (fun j => gtN P ow t F (plN P n j) n) 0).2 from c)]
      · obtain ⟨e1, e2⟩ := h2 (by omega)
        refine ⟨?_, ?_⟩
        · rw [arrS_t, bsN_2, e1, mxI]
          by_cases c : nI (gtN P ow t F (plN P n j) n) ≤ (bsN (fun j => gtN P ow t F (plN P n j) n) j).2
          · rw [if_neg (fun q => q.elim (fun z => hj (h1.symm.trans z)) (fun z => z c)), if_neg (Int32.not_lt.mpr c)]
          · rw [if_pos (Or.inr c), if_pos (Int32.not_le.mp c)]
        · rw [arrS_p, bsN_1, e1, e2]
          by_cases c : nI (gtN P ow t F (plN P n j) n) ≤ (bsN (fun j => gtN P ow t F (plN P n j) n) j).2
          · rw [if_neg (fun q => q.elim (fun z => hj (h1.symm.trans z)) (fun z => z c)), if_pos c]
          · rw [if_pos (Or.inr c), if_neg c]
    · rw [bsN_1]
      split <;> omega
def selR (r : Nat) (I B : Nat → Nat → Int32) : Nat → Nat → Int32 := fun a => if a = 9 ∨ a = 3 + r ∨ a = 89 ∨ a = 90 then I a else B a
theorem Rel.trialR {I B : Nat → Nat → Int32} {J J' : Nat → Nat → Int64} (h : Rel I J) {P : RP} {ow : Nat → Nat} {F : FS} {t : Nat} (hn : P.1 ≤ 6) (hI : refAt P ow I F t) (hB : refAt P ow B F t) {r n : Nat} (hr : r < 6) (hn40 : n ≤ 40) (e : ∀ a, a ∉ TC → a ≠ 9 → a ≠ 3 + r → a ≠ 89 → a ≠ 90 → B a = I a) (e0 : ∀ i, i ≠ 14 → B 0 i = I 0 i) (e87 : B 87 0 = I 87 0) (e32 : B 87 32 = I 87 32) (hA : B 0 14 = B 87 2) (hJ : J' 0 15 = J' 87 3 ∧ J' 0 16 = J' 87 4) (s9 : B 9 r = nI n) (s9' : ∀ i, i ≠ r → B 9 i = I 9 i) (s89 : B 89 r = nI n) (s89' : ∀ i, i ≠ r → B 89 i = I 89 i) (sp : ∀ i, i < n → B (3 + r) i = B 90 (40 * r + i)) (so : ∀ i, i < 40 * r ∨ 40 * r + 40 ≤ i → B 90 i = I 90 i) : Rel B J' := by
  have key : ∀ a, (¬ (a = 9 ∨ a = 3 + r ∨ a = 89 ∨ a = 90)) → selR r I B a = B a := fun a ha => if_neg ha
  have ky2 : ∀ a, (a = 9 ∨ a = 3 + r ∨ a = 89 ∨ a = 90) → selR r I B a = I a := fun a ha => if_pos ha
  have h1 : Rel (selR r I B) J' := by
    refine h.trial hn hI (hB.eq (fun a p q => key a (by omega)) ?_ ?_ ?_) ?_ (fun i hi => ?_) ?_ ?_ ?_ hJ
    · rw [key 87 (by omega)]
    · rw [key 87 (by omega)]
    · rw [key 87 (by omega)]
    · intro a ha
      by_cases c : a = 9 ∨ a = 3 + r ∨ a = 89 ∨ a = 90
      · exact ky2 a c
      · rw [key a c]
        exact e a ha (fun q => c (Or.inl q)) (fun q => c (Or.inr (Or.inl q))) (fun q => c (Or.inr (Or.inr (Or.inl q)))) (fun q => c (Or.inr (Or.inr (Or.inr q))))
    · rw [key 0 (by omega)]; exact e0 i hi
    · rw [key 87 (by omega)]; exact e87
    · rw [key 87 (by omega)]; exact e32
    · rw [key 87 (by omega), key 0 (by omega)]; exact hA
  refine h1.ofRows ⟨?_, ?_⟩ ?_ ?_ ?_ hA
  · rw [e 1 (by decide) (by omega) (by omega) (by omega) (by omega)]; exact h.1.1
  · refine RRow_upd h1.1.2 (j := r) ?_ ?_ ?_ (Or.inr ⟨n, hn40, s9, s89, sp⟩)
    · intro k hk
      rw [ky2 9 (by omega), ky2 89 (by omega)]
      exact ⟨s9' k hk, s89' k hk⟩
    · intro k hk hkr
      by_cases c : 3 + k = 9
      · omega
      · rw [key (3 + k) (by omega)]
    · intro k hk hkr i hi
      rw [ky2 90 (by omega)]
      exact so _ (by omega)
  · intro a c1 c2 c3 c4 c5 c6
    rw [key a (by omega)]
  · intro i hi
    rw [key 0 (by omega)]
  · intro i hi
    rw [key 87 (by omega)]
/-- where the reference's searches stand between PLANS -/
def rAt (P : RP) (ow : Nat → Nat) (F : FS) (t : Nat) (I B : Nat → Nat → Int32) : Prop := fr [87, 98, 99, 100, 101, 108] I B ∧ f87 [18, 25, 31] I B ∧ refAt P ow B F t
theorem rAt.ms {P : RP} {ow : Nat → Nat} {F : FS} {t : Nat} {I B : Nat → Nat → Int32} (h : rAt P ow F t I B) (hm : msAt P I) : msAt P B := hm.eq (h.1 109 (by decide)) (h.2.1 34 (by decide))
theorem mAt.ms {P : RP} {R ow : Nat → Nat} {t : Nat} {ss : Nat → Nat} {F : FS} {I : Nat → Nat → Int32} {k : Nat} {B : Nat → Nat → Int32} (h : mAt P R ow t ss F I k B) (hm : msAt P I) : msAt P B := hm.eq (h.1 109 (by decide)) (h.2.1 34 (by decide))
theorem m_bk (N d : Nat) {P : RP} (hn : P.1 ≤ 6) {ow : Nat → Nat} {t : Nat} {ss : Nat → Nat} {F : FS} {k : Nat} {I C B : Nat → Nat → Int32} (J : Nat → Nat → Int64) (cd : Nat × Nat) (hN : noteN P (I 107) 0 F t) (hr : rAt P ow F t I C) (hA : mAt P P.2.2.2.2 ow t ss F C k B) :
    ∃ B5, arun (N + 1000000) (d + 2) 176 [rv (some 87)] (B, J, cd) = some (rv none, (B5, J, cd)) ∧ rAt P ow F t I B5 ∧ B5 87 31 = B 87 31 := by
  obtain ⟨B5, r, f, g, hR, e⟩ := m_back2 N d hn J cd (by rw [hr.1 107 (by decide)]; exact hN) hA
  exact ⟨B5, r, ⟨hr.1.tr f, hr.2.1.tr g, hR⟩, e⟩
theorem rAt.m0 {P : RP} {R ow : Nat → Nat} {F : FS} {t : Nat} {ss : Nat → Nat} {I B : Nat → Nat → Int32} (h : rAt P ow F t I B) : mAt P R ow t ss F B 0 B := ⟨fr.rf, f87.rf, h.2.2⟩
theorem l_mbest1 (N d : Nat) {P : RP} (hP : okP P) (h0 : 0 < P.1) {F : FS} (hw : ∀ i, F.1 i ≤ 99) {ow : Nat → Nat} (how : ∀ d, d < 7 → ow d ≤ 6) {t : Nat} (ht : t ≤ 40) {n j : Nat} (hn : n ≤ 4) (hj : j < 2 ^ 20) {I : Nat → Nat → Int32} (J : Nat → Nat → Int64) (cd : Nat × Nat) (hR : I 87 32 = -9) (hm : msAt P I) (x2 x4 x5 : Int32) :
    ∀ (m k f : Nat) (B : Nat → Nat → Int32), k + m = n → mAt P P.2.2.2.2 ow t (plN P n j) F I k B → ∃ B', EX10_best (N + 1000000) (d + 3) (f + 1 + m) 63 [some (rv (some 87)), some (iv (nI n)), some (iv x2), some (iv (nI (sumN F.2.1 P.1))), some (iv x4), some (iv x5), some (iv (nI j)), some (iv (nI k))] (B, J, cd) = EX10_best (N + 1000000) (d + 3) f 113 [some (rv (some 87)), some (iv (nI n)), some (iv x2), some (iv (nI (sumN F.2.1 P.1))), some (iv (if nI (gtN P ow t F (plN P n j) n) ≤ x5 then x4 else nI j)), some (iv x5), some (iv (nI j)), some (iv (nI (gtN P ow t F (plN P n j) n)))] (B', J, cd) ∧ mAt P P.2.2.2.2 ow t (plN P n j) F I n B' := by
  have hn6 := hP.1
  intro m
  induction m with
  | zero =>
    intro k f B hk hA
    have : k = n := by omega
    subst this
    have z := wkN_z P P.2.2.2.2 ow t (plN P k j) F k
    refine ⟨B, ?_, hA⟩
    have eg : nI (sumN (wkN P P.2.2.2.2 ow t (plN P k j) F k).2.1 P.1) - nI (sumN F.2.1 P.1) = nI (gtN P ow t F (plN P k j) k) := by
      rw [sumN_sub z.2.1, pk_sub (by omega), Nat.add_sub_cancel_left, gt_eq hn6]
    rw [Nat.add_zero, sgX10_best_63, if_pos (Int32.le_refl _), bI (s_groundMany _ _ hn6 _ _ _ hA.2.2)]
    try dsimp only
    try dsimp only
    rw [eg]
    by_cases c : nI (gtN P ow t F (plN P k j) k) ≤ x5
    · rw [if_pos c, if_pos c]
    · rw [if_neg c, if_neg c]
  | succ m ih =>
    intro k f B hk hA
    obtain ⟨B1, r1, hA1, -⟩ := m_step N d hP h0 hw how ht (R9 hR) (k := k) (by omega) (plN_ok n j k) B J cd hA
    obtain ⟨B', r2, hA2⟩ := ih (k + 1) f B1 (by omega) hA1
    refine ⟨B', ?_, hA2⟩
    rw [show f + 1 + (m + 1) = f + 1 + m + 1 by omega, sgX10_best_63, if_neg (nI_ge (by omega) (by omega)), bI (s_setOf _ _ hP (show k < n by omega) hn hj _ _ _ (hA.ms hm))]
    try dsimp only
    try dsimp only
    rw [bI r1]
    try dsimp only
    rw [nI_1]
    exact r2
theorem l_mbest (N d : Nat) {P : RP} (hP : okP P) (h0 : 0 < P.1) {F : FS} (hw : ∀ i, F.1 i ≤ 99) {ow : Nat → Nat} (how : ∀ d, d < 7 → ow d ≤ 6) {t : Nat} (ht : t ≤ 40) {n r : Nat} (hn : n ≤ 4) (hr : r < 6) {I : Nat → Nat → Int32} (J : Nat → Nat → Int64) (cd : Nat × Nat) (hN : noteN P (I 107) 0 F t) (hR : I 87 32 = -9) (hm : msAt P I) :
    ∀ (m j f : Nat) (B : Nat → Nat → Int32), j + m = mS P ^ n → 10 * m < f → rAt P ow F t I B → ∃ B' C, EX10_best (N + 1000000) (d + 3) f 50 [some (rv (some 87)), some (iv (nI n)), some (iv (nI r)), some (iv (nI (sumN F.2.1 P.1))), some (iv (nI (bsN (fun j => gtN P ow t F (plN P n j) n) j).1)), some (iv (bsN (fun j => gtN P ow t F (plN P n j) n) j).2), some (iv (nI j)), none] (B, J, cd) = some (iv (bsN (fun j => gtN P ow t F (plN P n j) n) (mS P ^ n)).2, (B', J, cd)) ∧ rAt P ow F t I C ∧ fr [89, 90] C B' ∧ B' 89 r = nI n ∧ (∀ i, i ≠ r → B' 89 i = C 89 i) ∧ (∀ i, i < 40 → B' 90 (40 * r + i) = if i < n then nI (plN P n (bsN (fun j => gtN P ow t F (plN P n j) n) (mS P ^ n)).1 i) else 0) ∧ (∀ i, i < 40 * r ∨ 40 * r + 40 ≤ i → B' 90 i = C 90 i) := by
  have hn6 := hP.1
  have hpw := pw8 (mS_le hP) hn
  intro m
  induction m with
  | zero =>
    intro j f B hj hf hB
    have : j = mS P ^ n := by omega
    subst this
    obtain ⟨g, rfl⟩ : ∃ g, f = g + 1 := ⟨f - 1, by omega⟩
    have hb := (best_rel (P := P) (ow := ow) (t := t) (F := F) (vil := 0) (due := fun _ => 0) hn (mS P ^ n)).2.2
    obtain ⟨B', r1, f1, s1, s2, s3, s4⟩ := s_layPlan N (d + 1) hP hn (j := (bsN (fun j => gtN P ow t F (plN P n j) n) (mS P ^ n)).1) (by omega) hr B J cd (hB.ms hm)
    refine ⟨B', B, ?_, hB, f1, s1, s2, s3, s4⟩
    rw [sgX10_best_50, bI (s_plans _ _ hP hn _ _ _ (hB.ms hm))]
    try dsimp only
    try dsimp only
    rw [if_pos (Int32.le_refl _), bV r1]
  | succ m ih =>
    intro j f B hj hf hB
    obtain ⟨g, rfl⟩ : ∃ g, f = g + 1 + 1 + n + 1 := ⟨f - n - 3, by omega⟩
    obtain ⟨B1, r1, hM⟩ := l_mbest1 N d hP h0 hw how ht hn (j := j) (by omega) J cd (by rw [hB.2.1 32 (by decide)]; exact hR) (hB.ms hm) (nI r) (nI (bsN (fun j => gtN P ow t F (plN P n j) n) j).1) (bsN (fun j => gtN P ow t F (plN P n j) n) j).2 n 0 (g + 1) B (by omega) hB.m0
    obtain ⟨B2, r2, hB2, -⟩ := m_bk N (d + 1) hn6 J cd hN hB hM
    obtain ⟨B', C, r3, rest⟩ := ih (j + 1) g B2 (by omega) (by omega) hB2
    refine ⟨B', C, ?_, rest⟩
    rw [nI_0] at r1
    rw [sgX10_best_50, bI (s_plans _ _ hP hn _ _ _ (hB.ms hm))]
    try dsimp only
    try dsimp only
    rw [if_neg (nI_ge (by omega) (by omega)), r1, sgX10_best_113, bI (s_greater _ _ _ _ _)]
    try dsimp only
    try dsimp only
    rw [bV r2]
    try dsimp only
    have e1 : (if nI (gtN P ow t F (plN P n j) n) ≤ (bsN (fun j => gtN P ow t F (plN P n j) n) j).2 then nI (bsN (fun j => gtN P ow t F (plN P n j) n) j).1 else nI j) = nI (bsN (fun j => gtN P ow t F (plN P n j) n) (j + 1)).1 := by
      simp only [bsN]; split <;> rfl
    rw [e1, nI_1]
    exact r3
/-- a search's first refusals -/
theorem x_searchB (N d : Nat) {x1 x2 : Int32} {mo : Nat} (hm : mo < 100) (h : x1 = 0 ∨ (x2 < 0 ∨ nI (mo + 1) ≤ x2)) (I : Nat → Nat → Int32) (J : Nat → Nat → Int64) : arun (N + 1000000) (d + 1) 119 [rv (some 0), iv x1, iv x2, iv (nI mo)] (I, J, 73, 80) = some (iv (-1), (I, J, 73, 80)) := by
  rw [enX9_refuseSearch, sgX9_refuseSearch_0]
  by_cases h1 : x1 = 0
  · rw [if_pos h1]
  · rw [if_neg h1]
    rcases h.resolve_left h1 with q | q
    · rw [if_pos q]
    · rw [if_neg (i_nlt (by omega) q)]
      split <;> rfl
theorem x_search0 (N d : Nat) {n mo : Nat} (hm : mo < 100) (hn : n ≤ mo) (I : Nat → Nat → Int32) (J : Nat → Nat → Int64) (h : I 73 0 = 0) : arun (N + 1000000) (d + 1) 119 [rv (some 0), iv 1, iv (nI n), iv (nI mo)] (I, J, 73, 80) = some (iv (-4), (I, J, 73, 80)) := by
  rw [enX9_refuseSearch, sgX9_refuseSearch_0, if_neg n10, if_neg (nI_pos (by omega)), if_pos (nI_le hn (by omega)), if_pos h]
theorem x_searchO (N d : Nat) {n mo : Nat} (hm : mo < 100) (hn : n ≤ mo) (I : Nat → Nat → Int32) (J : Nat → Nat → Int64) (h : ¬ I 73 0 = 0) : arun (N + 1000000) (d + 1) 119 [rv (some 0), iv 1, iv (nI n), iv (nI mo)] (I, J, 73, 80) = some (iv 0, (I, J, 73, 80)) := by
  rw [enX9_refuseSearch, sgX9_refuseSearch_0, if_neg n10, if_neg (nI_pos (by omega)), if_pos (nI_le hn (by omega)), if_neg h]
theorem b2_4 {n : Nat} (h : n ≤ 4) : ¬ nI n < 0 ∧ ¬ (4 : Int32) < nI n := ⟨nI_pos (by omega), nI_nlt (a := 4) h (by omega)⟩
theorem b2_4N {x : Int32} (h : x < 0 ∨ nI 5 ≤ x) : ¬ (¬ x < 0 ∧ ¬ (4 : Int32) < x) := fun q => h.elim q.1 (fun z => q.2 (i_le_lt (k := 4) (by decide) z))
theorem op_best (x r : Int32) : OK2 93 205 [iv x, iv r] := by
  intro N d I J h
  obtain ⟨P, ow, F, D, hP, how, hC, hD, h25, hFl, hRf, h32, hw⟩ := h.un
  have hn := hP.1
  have c4 : (4 : Int32) = nI 4 := rfl
  rcases ixc r 6 (by decide) with hr | ⟨j, hj, rfl⟩
  · refine ⟨iv (-1), I, J, I, J, ?_, ?_, h⟩
    · rw [enX9_best, sgX9_best_0, bI (s_isOneN_1 _ _ hr _)]
      try dsimp only
      try dsimp only
      rw [c4, bI (x_searchB _ _ (by decide) (Or.inl rfl) _ _)]
      try dsimp only
      try dsimp only
      rw [if_neg (by decide)]
    · rw [enX10_best, sgX10_best_0, bI (s_in _ _ _ _ _ _)]
      try dsimp only
      try dsimp only
      by_cases q : ¬ x < 0 ∧ ¬ (4 : Int32) < x
      · rw [b2i_t q, if_neg n10, bI (s_isRow _ _ _ _)]
        try dsimp only
        try dsimp only
        rw [b2i_f (b2_rowN hr), if_pos rfl]
      · rw [b2i_f q, if_pos rfl]
  · rcases ixc x 5 (by decide) with hx | ⟨n, hn5, rfl⟩
    · refine ⟨iv (-1), I, J, I, J, ?_, ?_, h⟩
      · rw [enX9_best, sgX9_best_0, bI (s_isOne_1 _ _ hj _)]
        try dsimp only
        try dsimp only
        rw [c4, bI (x_searchB _ _ (by decide) (Or.inr hx) _ _)]
        try dsimp only
        try dsimp only
        rw [if_neg (by decide)]
      · rw [enX10_best, sgX10_best_0, bI (s_in _ _ _ _ _ _)]
        try dsimp only
        try dsimp only
        rw [b2i_f (b2_4N hx), if_pos rfl]
    · by_cases hz : P.1 = 0
      · refine ⟨iv (-4), I, J, I, J, ?_, ?_, h⟩
        · rw [enX9_best, sgX9_best_0, bI (s_isOne_1 _ _ hj _)]
          try dsimp only
          try dsimp only
          rw [c4, bI (x_search0 _ _ (by decide) (by omega) _ _ (by rw [hC.1, hz]; rfl))]
          try dsimp only
          try dsimp only
          rw [if_neg (by decide), ← c4]
        · rw [enX10_best, sgX10_best_0, bI (s_in _ _ _ _ _ _)]
          try dsimp only
          try dsimp only
          rw [b2i_t (b2_4 (by omega)), if_neg n10, bI (s_isRow _ _ _ _)]
          try dsimp only
          try dsimp only
          rw [b2i_t (b2_row hj), if_neg n10, if_pos (by rw [hRf.1, hz]; rfl)]
      · have h0 : 0 < P.1 := by omega
        have hpw := pw8 (n := n) (mS_le hP) (by omega)
        have hpos : 0 < mS P ^ n := Nat.pow_pos (mS_pos hn)
        obtain ⟨B1, r1, f1, -, q1, q2, q3, -⟩ := s_seek N (d + 7) hP h0 how (go := 0) (vil := 0) (due := fun _ => 0) hD hw (n := n) (by omega) (by decide) (by decide) (fun _ => by omega) I J (73, 80) hC hFl (fun q => absurd q (by decide)) (fun q => absurd q (by decide))
        have br := best_rel (P := P) (ow := ow) (t := D) (F := F) (vil := 0) (due := fun _ => 0) (n := n) (by omega) (mS P ^ n)
        obtain ⟨e1, e2⟩ := br.2.1 hpos
        obtain ⟨B2, r2, f2, t1, t2, t3⟩ := s_take N (d + 15) hj (n := n) (by omega) B1 J (73, 80) (by rw [f1 1 (by decide)]; exact h.1.1)
        have fX : ∀ a, a ∉ [48, 50, 51, 52, 53, 55, 56, 57, 58, 59, 60] → a ≠ 9 → a ≠ 3 + j → B2 a = I a := fun a h1 h2 h3 => by rw [f2 a (by simp; exact ⟨h2, h3⟩), f1 a h1]
        have hR1 : refAt P ow B2 F D := hRf.eq (fun a h1 h2 => fX a (by simp; omega) (by omega) (by omega)) (by rw [fX 87 (by decide) (by omega) (by omega)]) (by rw [fX 87 (by decide) (by omega) (by omega)]) (by rw [fX 87 (by decide) (by omega) (by omega)])
        obtain ⟨B3, r3, f3, g3, m3, m3'⟩ := s_setSets N (d + 16) hP B2 J (73, 80) hR1
        have hR3 : refAt P ow B3 F D := hR1.eq (fun a h1 h2 => f3 a (by simp; omega)) (g3 10 (by decide)) (g3 18 (by decide)) (g3 25 (by decide))
        obtain ⟨B4, r4, f4, n4⟩ := s_begin N (d + 17) hn B3 J (73, 80) hR3
        have hR4 : refAt P ow B4 F D := hR3.eq (fun a h1 h2 => f4 a (by simp; omega)) (by rw [f4 87 (by decide)]) (by rw [f4 87 (by decide)]) (by rw [f4 87 (by decide)])
        obtain ⟨B6, C, r6, hrC, f6, s1, s2, s3, s4⟩ := l_mbest N (d + 16) hP h0 hw how hD (n := n) (r := j) (by omega) hj J (73, 80) n4 (by rw [f4 87 (by decide), g3 32 (by decide), fX 87 (by decide) (by omega) (by omega)]; exact h32) ⟨by rw [f4 87 (by decide)]; exact m3, fun k hk => by rw [f4 109 (by decide)]; exact m3' k hk⟩ (mS P ^ n) 0 (N + 999999) B4 (by omega) (by omega) ⟨fr.rf, f87.rf, hR4⟩
        rw [show (bsN (fun j => gtN P ow D F (plN P n j) n) 0).1 = 0 from rfl, show (bsN (fun j => gtN P ow D F (plN P n j) n) 0).2 = -1 from rfl, nI_0] at r6
        have eC : ∀ a, a ∉ [87, 98, 99, 100, 101, 107, 108, 109] → C a = B2 a := fun a ha => by
          simp at ha
          rw [hrC.1 a (by simp; omega), f4 a (by simp; omega), f3 a (by simp; omega)]
        have e6 : ∀ a, a ≠ 89 → a ≠ 90 → B6 a = C a := fun a h1 h2 => f6 a (by simp; omega)
        have e87 : ∀ k, k ∉ [18, 25, 31, 34] → B6 87 k = I 87 k := fun k hk => by
          simp at hk
          rw [e6 87 (by decide) (by decide), hrC.2.1 k (by simp; omega), f4 87 (by decide), g3 k (by simp; omega), fX 87 (by decide) (by omega) (by omega)]
        refine ⟨iv (bsN (fun j => gtN P ow D F (plN P n j) n) (mS P ^ n)).2, B2, J, B6, J, ?_, ?_, ?_⟩
        · rw [enX9_best, sgX9_best_0, bI (s_isOne_1 _ _ hj _)]
          try dsimp only
          try dsimp only
          rw [c4, bI (x_searchO _ _ (by decide) (by omega) _ _ (by rw [hC.1]; exact nI_ne0 h0 (by omega)))]
          try dsimp only
          try dsimp only
          rw [if_pos rfl, h25, show (0 : Int32) = nI 0 from rfl, bV r1]
          try dsimp only
          rw [bV r2]
          try dsimp only
          rw [f2 48 (by simp; omega), q2, e1]
        · rw [enX10_best, sgX10_best_0, bI (s_in _ _ _ _ _ _)]
          try dsimp only
          try dsimp only
          rw [b2i_t (b2_4 (by omega)), if_neg n10, bI (s_isRow _ _ _ _)]
          try dsimp only
          try dsimp only
          rw [b2i_t (b2_row hj), if_neg n10, if_neg (by rw [hR1.1]; exact nI_ne0 h0 (by omega)), bV r3]
          try dsimp only
          rw [bI (s_groundMany _ _ hn _ _ _ hR3)]
          try dsimp only
          try dsimp only
          rw [bV r4]
          exact r6
        · refine h.trialR hn hRf (hrC.2.2.eq (fun a h1 h2 => e6 a (by omega) (by omega)) (by rw [e6 87 (by decide) (by decide)]) (by rw [e6 87 (by decide) (by decide)]) (by rw [e6 87 (by decide) (by decide)])) hj (n := n) (by omega) ?_ ?_ (e87 0 (by decide)) (e87 32 (by decide)) ?_ h.2.2.2.1.2 ?_ ?_ s1 ?_ ?_ ?_
          · intro a ha h9 h3 h89 h90
            have k1 : a ∉ [87, 98, 99, 100, 101, 107, 108, 109] := fun q => ha ((by decide : ∀ b ∈ [87, 98, 99, 100, 101, 107, 108, 109], b ∈ TC) a q)
            have k2 : a ∉ [48, 50, 51, 52, 53, 55, 56, 57, 58, 59, 60] := fun q => ha ((by decide : ∀ b ∈ [48, 50, 51, 52, 53, 55, 56, 57, 58, 59, 60], b ∈ TC) a q)
            rw [e6 a h89 h90, eC a k1, fX a k2 h9 h3]
          · intro i hi
            rw [e6 0 (by decide) (by decide), eC 0 (by decide), fX 0 (by decide) (by omega) (by omega)]
          · rw [e6 0 (by decide) (by decide), eC 0 (by decide), fX 0 (by decide) (by omega) (by omega), e87 2 (by decide)]
            exact h.2.2.2.1.1
          · rw [e6 9 (by decide) (by decide), eC 9 (by decide)]; exact t1
          · intro i hi
            rw [e6 9 (by decide) (by decide), eC 9 (by decide), t2 i hi, f1 9 (by decide)]
          · intro i hi
            rw [s2 i hi, eC 89 (by decide), fX 89 (by decide) (by omega) (by omega)]
          · intro i hi
            rw [e6 (3 + j) (by omega) (by omega), eC (3 + j) (by simp; omega), t3 i hi, q3 (by rw [br.1]; exact hpos) i hi, e2, s3 i (by omega), if_pos hi]
          · intro i hi
            rw [s4 i hi, eC 90 (by decide), fX 90 (by decide) (by omega) (by omega)]
