/-! the class's search through all PLANS (Hunt) -/

theorem rfB_52 (cd : Nat × Nat) {k : Nat} (hk : k ≤ 4) : RF cd 54 k = some (55 + k) := by
  have c : k = 0 ∨ k = 1 ∨ k = 2 ∨ k = 3 ∨ k = 4 := by omega
  rcases c with rfl | rfl | rfl | rfl | rfl <;> rfl
theorem okB_52 {k : Nat} (hk : k ≤ 3) : okcp (55 + k) (55 + (k + 1)) 0 0 6 = true := by
  have c : k = 0 ∨ k = 1 ∨ k = 2 ∨ k = 3 := by omega
  rcases c with rfl | rfl | rfl | rfl <;> decide
theorem s_branch_52 (N d : Nat) {P : RP} (hP : okP P) (h0 : 0 < P.1) {w : Nat → Nat} {s : Nat} (hs : s < 64) (hw : ∀ i, w i ≤ 99) {k t : Nat} (hk : k ≤ 3) (ht : t ≤ 40) {ow : Nat → Nat} (I : Nat → Nat → Int32) (J : Nat → Nat → Int64) (cd : Nat × Nat) (hC : courN P ow I 73) (h6 : I 52 6 = nI t) (hdr : I 52 0 = -1) (hq : ∀ i, i < 6 → I (55 + k) i = nI (w i)) :
    ∃ B, arun (N + 1000000) (d + 4) 6 [rv (some 52), rv (some 73), iv (nI k), iv (nI s)] (I, J, cd) = some (rv none, (B, J, cd)) ∧ fr [52, 55 + (k + 1), 60] I B ∧ (∀ f, f ≠ 1 → f ≠ 2 → B 52 f = I 52 f) ∧ B 52 1 = nI (seaN P w s) ∧ B 52 2 = nI (gsN P w s) ∧ (∀ i, i < 6 → B (55 + (k + 1)) i = nI (watN P w s (P.2.2.2.2 ((t + k) % 7)) i)) := by
  have f0 : fr [55 + (k + 1)] I (wrC I (55 + (k + 1)) (va_cpy (I (55 + k)) (I (55 + (k + 1))) 0 0 6)) := fr.rf.wC (by simp)
  have hC0 : courN P ow (wrC I (55 + (k + 1)) (va_cpy (I (55 + k)) (I (55 + (k + 1))) 0 0 6)) 73 := hC.eq (fun a h1 h2 => f0 a (by simp; omega))
  obtain ⟨B, r, f, g, e1, e2, x⟩ := s_apass_52 N d hP h0 hs hw (q := 55 + (k + 1)) (by omega) (t := t) (k := k) (by omega) _ J cd hC0 (by rw [f0 52 (by simp; omega)]; exact h6) (fun i hi => by rw [wrC_at, if_pos rfl, pk_cpy_in (by omega) (by omega), Nat.zero_add, Nat.sub_zero]; exact hq i hi) (dry1 (by rw [f0 52 (by simp; omega)]; exact hdr) _)
  refine ⟨B, ?_, (f0.mo (by intro a; simp <;> omega)).tr f, fun z h1 h2 => by rw [g z h1 h2, f0 52 (by simp; omega)], e1, e2, x⟩
  rw [enX0_branch, sgX0_branch_52_0, if_neg (nI_pos (by omega)), if_neg (show ¬ (4 : Int32) ≤ nI k from nI_ge (b := 4) (by omega) (by decide)), nI_1, inb_t (show k < 5 by omega) (by omega), inb_t (show k + 1 < 5 by omega) (by omega), if_pos rfl, if_pos rfl, nI_clamp (show k < 2 ^ 31 by omega), nI_clamp (show k + 1 < 2 ^ 31 by omega), rfB_52 cd (by omega), rfB_52 cd (by omega), Option.bind_some, Option.bind_some, okB_52 hk, if_pos rfl, if_pos rfl, bV r]

theorem rfB_63 (cd : Nat × Nat) {k : Nat} (hk : k ≤ 4) : RF cd 65 k = some (66 + k) := by
  have c : k = 0 ∨ k = 1 ∨ k = 2 ∨ k = 3 ∨ k = 4 := by omega
  rcases c with rfl | rfl | rfl | rfl | rfl <;> rfl
theorem okB_63 {k : Nat} (hk : k ≤ 3) : okcp (66 + k) (66 + (k + 1)) 0 0 6 = true := by
  have c : k = 0 ∨ k = 1 ∨ k = 2 ∨ k = 3 := by omega
  rcases c with rfl | rfl | rfl | rfl <;> decide
theorem s_branch_63 (N d : Nat) {P : RP} (hP : okP P) (h0 : 0 < P.1) {w : Nat → Nat} {s : Nat} (hs : s < 64) (hw : ∀ i, w i ≤ 99) {k t : Nat} (hk : k ≤ 3) (ht : t ≤ 40) {ow : Nat → Nat} (I : Nat → Nat → Int32) (J : Nat → Nat → Int64) (cd : Nat × Nat) (hC : courN P ow I 73) (h6 : I 63 6 = nI t) (hdr : I 63 0 = -1) (hq : ∀ i, i < 6 → I (66 + k) i = nI (w i)) :
    ∃ B, arun (N + 1000000) (d + 4) 6 [rv (some 63), rv (some 73), iv (nI k), iv (nI s)] (I, J, cd) = some (rv none, (B, J, cd)) ∧ fr [63, 66 + (k + 1), 71] I B ∧ (∀ f, f ≠ 1 → f ≠ 2 → B 63 f = I 63 f) ∧ B 63 1 = nI (seaN P w s) ∧ B 63 2 = nI (gsN P w s) ∧ (∀ i, i < 6 → B (66 + (k + 1)) i = nI (watN P w s (P.2.2.2.2 ((t + k) % 7)) i)) := by
  have f0 : fr [66 + (k + 1)] I (wrC I (66 + (k + 1)) (va_cpy (I (66 + k)) (I (66 + (k + 1))) 0 0 6)) := fr.rf.wC (by simp)
  have hC0 : courN P ow (wrC I (66 + (k + 1)) (va_cpy (I (66 + k)) (I (66 + (k + 1))) 0 0 6)) 73 := hC.eq (fun a h1 h2 => f0 a (by simp; omega))
  obtain ⟨B, r, f, g, e1, e2, x⟩ := s_apass_63 N d hP h0 hs hw (q := 66 + (k + 1)) (by omega) (t := t) (k := k) (by omega) _ J cd hC0 (by rw [f0 63 (by simp; omega)]; exact h6) (fun i hi => by rw [wrC_at, if_pos rfl, pk_cpy_in (by omega) (by omega), Nat.zero_add, Nat.sub_zero]; exact hq i hi) (dry1 (by rw [f0 63 (by simp; omega)]; exact hdr) _)
  refine ⟨B, ?_, (f0.mo (by intro a; simp <;> omega)).tr f, fun z h1 h2 => by rw [g z h1 h2, f0 63 (by simp; omega)], e1, e2, x⟩
  rw [enX0_branch, sgX0_branch_63_0, if_neg (nI_pos (by omega)), if_neg (show ¬ (4 : Int32) ≤ nI k from nI_ge (b := 4) (by omega) (by decide)), nI_1, inb_t (show k < 5 by omega) (by omega), inb_t (show k + 1 < 5 by omega) (by omega), if_pos rfl, if_pos rfl, nI_clamp (show k < 2 ^ 31 by omega), nI_clamp (show k + 1 < 2 ^ 31 by omega), rfB_63 cd (by omega), rfB_63 cd (by omega), Option.bind_some, Option.bind_some, okB_63 hk, if_pos rfl, if_pos rfl, bV r]

/-- what comes to the sea, what GRINDS, on a PLAN's day i -/
def seaD (P : RP) (ow : Nat → Nat) (t : Nat) (F : FS) (ss : Nat → Nat) (i : Nat) : Nat := seaN P (wkN P P.2.2.2.2 ow t ss F i).1 (ss i)
def gsD (P : RP) (ow : Nat → Nat) (t : Nat) (F : FS) (ss : Nat → Nat) (i : Nat) : Nat := gsN P (wkN P P.2.2.2.2 ow t ss F i).1 (ss i)
/-- the search's aims: 0 most ground, 1 fewest SHUT, 2 most owned, 3 as it came -/
def fitD (P : RP) (ow : Nat → Nat) (t : Nat) (F : FS) (go : Nat) (due : Nat → Nat) (ss : Nat → Nat) (i : Nat) : Bool := if go = 1 then decide (gsD P ow t F ss i = milN P) else if go = 3 then decide (seaD P ow t F ss i = due i) else true
def gainD (P : RP) (ow : Nat → Nat) (t : Nat) (F : FS) (go vil : Nat) (ss : Nat → Nat) (i : Nat) : Int32 := if go = 0 then nI (pc6 (gsD P ow t F ss i)) else if go = 1 then -nI (pc6 (ss i)) else if go = 2 then (if ow ((t + i) % 7) = vil then nI (seaD P ow t F ss i) else 0) else 0
def fitA (P : RP) (ow : Nat → Nat) (t : Nat) (F : FS) (go : Nat) (due : Nat → Nat) (ss : Nat → Nat) : Nat → Bool
  | 0 => true
  | i + 1 => fitA P ow t F go due ss i && fitD P ow t F go due ss i
def gaiA (P : RP) (ow : Nat → Nat) (t : Nat) (F : FS) (go vil : Nat) (ss : Nat → Nat) : Nat → Int32
  | 0 => 0
  | i + 1 => gaiA P ow t F go vil ss i + gainD P ow t F go vil ss i
theorem wk_ext (P : RP) (R ow : Nat → Nat) (t : Nat) (F : FS) {ss ss' : Nat → Nat} : ∀ k, (∀ i, i < k → ss' i = ss i) → wkN P R ow t ss' F k = wkN P R ow t ss F k
  | 0, _ => rfl
  | k + 1, h => by simp only [wkN]; rw [wk_ext P R ow t F k (fun i hi => h i (by omega)), h k (by omega)]
theorem seaD_ext (P : RP) (ow : Nat → Nat) (t : Nat) (F : FS) {ss ss' : Nat → Nat} {k : Nat} (h : ∀ i, i < k + 1 → ss' i = ss i) : seaD P ow t F ss' k = seaD P ow t F ss k := by
  unfold seaD; rw [wk_ext P _ ow t F k (fun i hi => h i (by omega)), h k (by omega)]
theorem gsD_ext (P : RP) (ow : Nat → Nat) (t : Nat) (F : FS) {ss ss' : Nat → Nat} {k : Nat} (h : ∀ i, i < k + 1 → ss' i = ss i) : gsD P ow t F ss' k = gsD P ow t F ss k := by
  unfold gsD; rw [wk_ext P _ ow t F k (fun i hi => h i (by omega)), h k (by omega)]
theorem fitA_ext (P : RP) (ow : Nat → Nat) (t : Nat) (F : FS) (go : Nat) (due : Nat → Nat) {ss ss' : Nat → Nat} : ∀ k, (∀ i, i < k → ss' i = ss i) → fitA P ow t F go due ss' k = fitA P ow t F go due ss k
  | 0, _ => rfl
  | k + 1, h => by
    simp only [fitA]
    rw [fitA_ext P ow t F go due k (fun i hi => h i (by omega))]
    unfold fitD
    rw [seaD_ext P ow t F h, gsD_ext P ow t F h]
theorem gaiA_ext (P : RP) (ow : Nat → Nat) (t : Nat) (F : FS) (go vil : Nat) {ss ss' : Nat → Nat} : ∀ k, (∀ i, i < k → ss' i = ss i) → gaiA P ow t F go vil ss' k = gaiA P ow t F go vil ss k
  | 0, _ => rfl
  | k + 1, h => by
    simp only [gaiA]
    rw [gaiA_ext P ow t F go vil k (fun i hi => h i (by omega))]
    unfold gainD
    rw [seaD_ext P ow t F h, gsD_ext P ow t F h, h k (by omega)]
theorem fitA_mono (P : RP) (ow : Nat → Nat) (t : Nat) (F : FS) (go : Nat) (due : Nat → Nat) (ss : Nat → Nat) {k : Nat} (h : fitA P ow t F go due ss k = false) : ∀ m, fitA P ow t F go due ss (k + m) = false
  | 0 => h
  | m + 1 => by rw [← Nat.add_assoc]; simp only [fitA]; rw [fitA_mono P ow t F go due ss h m]; rfl
/-- what the search holds: found, top, plan, common -/
abbrev HS : Type := Nat × Int32 × (Nat → Nat) × Int32
def arrS (σ : HS) (ss : Nat → Nat) (g : Int32) : HS := (σ.1 + 1, (if σ.1 = 0 ∨ ¬ g ≤ σ.2.1 then g else σ.2.1), (if σ.1 = 0 ∨ ¬ g ≤ σ.2.1 then ss else σ.2.2.1), (if σ.1 = 0 then nI (ss 0) else σ.2.2.2 &&& nI (ss 0)))
def stpS (P : RP) (ow : Nat → Nat) (t : Nat) (F : FS) (go vil : Nat) (due : Nat → Nat) (n j : Nat) (σ : HS) : HS := if fitA P ow t F go due (plN P n j) n then arrS σ (plN P n j) (gaiA P ow t F go vil (plN P n j) n) else σ
def fldS {α : Type} (st : Nat → α → α) (a : Nat) : Nat → α → α
  | 0, σ => σ
  | c + 1, σ => st (a + c) (fldS st a c σ)
theorem fldS_add {α : Type} (st : Nat → α → α) (a b : Nat) : ∀ c σ, fldS st a (b + c) σ = fldS st (a + b) c (fldS st a b σ)
  | 0, σ => rfl
  | c + 1, σ => by
    show st (a + (b + c)) (fldS st a (b + c) σ) = _
    rw [fldS_add st a b c σ, ← Nat.add_assoc]; rfl
theorem fldS_id {α : Type} (st : Nat → α → α) (a : Nat) : ∀ c σ, (∀ j σ, a ≤ j → j < a + c → st j σ = σ) → fldS st a c σ = σ
  | 0, σ, _ => rfl
  | c + 1, σ, h => by
    show st (a + c) (fldS st a c σ) = σ
    rw [fldS_id st a c σ (fun j σ h1 h2 => h j σ h1 (by omega)), h _ _ (by omega) (by omega)]
theorem arrS_1 (σ : HS) (ss : Nat → Nat) (g : Int32) : (arrS σ ss g).1 = σ.1 + 1 := rfl
theorem stpS_1 (P : RP) (ow : Nat → Nat) (t : Nat) (F : FS) (go vil : Nat) (due : Nat → Nat) (n j : Nat) (σ : HS) : (stpS P ow t F go vil due n j σ).1 ≤ σ.1 + 1 := by
  unfold stpS
  split
  · exact Nat.le_refl _
  · omega
theorem fld_1 (P : RP) (ow : Nat → Nat) (t : Nat) (F : FS) (go vil : Nat) (due : Nat → Nat) (n a : Nat) : ∀ c σ, (fldS (stpS P ow t F go vil due n) a c σ).1 ≤ σ.1 + c
  | 0, σ => Nat.le_refl _
  | c + 1, σ => by
    have h1 := stpS_1 P ow t F go vil due n (a + c) (fldS (stpS P ow t F go vil due n) a c σ)
    have h2 := fld_1 P ow t F go vil due n a c σ
    show (stpS P ow t F go vil due n (a + c) (fldS (stpS P ow t F go vil due n) a c σ)).1 ≤ _
    omega
/-- what stays through a search -/
def HK (P : RP) (ow : Nat → Nat) (n go vil : Nat) (due : Nat → Nat) (t : Nat) (B : Nat → Nat → Int32) : Prop := courN P ow B 73 ∧ B 48 3 = nI n ∧ B 48 7 = nI go ∧ (go = 2 → B 48 2 = nI vil) ∧ (go = 3 → ∀ i, i < n → B 49 i = nI (due i)) ∧ B 52 6 = nI t ∧ B 52 0 = -1
def HF (I B : Nat → Nat → Int32) : Prop := fr [48, 50, 51, 52, 56, 57, 58, 59, 60] I B ∧ (∀ f, f ≠ 4 → f ≠ 5 → f ≠ 6 → B 48 f = I 48 f) ∧ (∀ f, f ≠ 1 → f ≠ 2 → B 52 f = I 52 f)
theorem HF.rf {I : Nat → Nat → Int32} : HF I I := ⟨fr.rf, fun _ _ _ _ => rfl, fun _ _ _ => rfl⟩
theorem HF.tr {I B C : Nat → Nat → Int32} (h : HF I B) (k : HF B C) : HF I C := ⟨h.1.tr k.1, fun f h1 h2 h3 => (k.2.1 f h1 h2 h3).trans (h.2.1 f h1 h2 h3), fun f h1 h2 => (k.2.2 f h1 h2).trans (h.2.2 f h1 h2)⟩
theorem HK.eq {P : RP} {ow : Nat → Nat} {n go vil : Nat} {due : Nat → Nat} {t : Nat} {I B : Nat → Nat → Int32} (h : HK P ow n go vil due t I) (e : HF I B) : HK P ow n go vil due t B := by
  obtain ⟨h1, h2, h3, h4, h5, h6, h7⟩ := h
  refine ⟨h1.eq (fun a p q => e.1 a (by simp; omega)), ?_, ?_, fun q => ?_, fun q => ?_, ?_, ?_⟩
  · rw [e.2.1 3 (by decide) (by decide) (by decide)]; exact h2
  · rw [e.2.1 7 (by decide) (by decide) (by decide)]; exact h3
  · rw [e.2.1 2 (by decide) (by decide) (by decide)]; exact h4 q
  · rw [e.1 49 (by decide)]; exact h5 q
  · rw [e.2.2 6 (by decide) (by decide)]; exact h6
  · rw [e.2.2 0 (by decide) (by decide)]; exact h7
def VW (P : RP) (ow : Nat → Nat) (t : Nat) (F : FS) (ss : Nat → Nat) (k : Nat) (B : Nat → Nat → Int32) : Prop := (∀ i, i ≤ k → ∀ x, x < 6 → B (55 + i) x = nI ((wkN P P.2.2.2.2 ow t ss F i).1 x)) ∧ ∀ i, i < k → B 51 i = nI (ss i)
theorem VW.ext {P : RP} {ow : Nat → Nat} {t : Nat} {F : FS} {ss ss' : Nat → Nat} {k k' : Nat} {B : Nat → Nat → Int32} (h : VW P ow t F ss k B) (hk : k' ≤ k) (e : ∀ i, i < k' → ss' i = ss i) : VW P ow t F ss' k' B := ⟨fun i hi x hx => by rw [wk_ext P _ ow t F i (fun j hj => e j (by omega))]; exact h.1 i (by omega) x hx, fun i hi => by rw [e i hi]; exact h.2 i (by omega)⟩
def HQ (n : Nat) (σ : HS) (B : Nat → Nat → Int32) : Prop := B 48 4 = nI σ.1 ∧ B 48 5 = σ.2.1 ∧ (0 < σ.1 → ∀ i, i < n → B 50 i = nI (σ.2.2.1 i)) ∧ (0 < n → B 48 6 = σ.2.2.2)
theorem s_arrive (N d : Nat) {P : RP} {ow : Nat → Nat} {t : Nat} {F : FS} {ss : Nat → Nat} {n : Nat} (hn : n ≤ 4) (g : Int32) {σ : HS} (hσ : σ.1 < 2 ^ 20) (B : Nat → Nat → Int32) (J : Nat → Nat → Int64) (cd : Nat × Nat) (hV : VW P ow t F ss n B) (hQ : HQ n σ B) :
    ∃ B', arun (N + 1000000) (d + 1) 35 [rv (some 48), iv g] (B, J, cd) = some (rv none, (B', J, cd)) ∧ HF B B' ∧ fr [48, 50] B B' ∧ HQ n (arrS σ ss g) B' := by
  obtain ⟨q1, q2, q3, q4⟩ := hQ
  have z : (B 48 4 = 0) = (σ.1 = 0) := by
    rw [q1]; exact neq (b := 0) (by omega) (by decide)
  have fin : ∀ (n' : Nat) (C : Nat → Nat → Int32), C 48 4 = B 48 4 → C 48 6 = B 48 6 → C 51 = B 51 → EX5_arrive (N + 1000000) d (n' + 1 + 1) 34 [some (rv (some 48)), none] (C, J, cd) = some (rv none, (wr (wr C 48 6 (if σ.1 = 0 then B 51 0 else B 48 6 &&& B 51 0)) 48 4 (nI (σ.1 + 1)), J, cd)) := by
    intro n' C c4 c6 c51
    rw [sgX5_arrive_34]
    by_cases h : σ.1 = 0
    · rw [if_pos (by rw [c4, z]; exact h), sgX5_arrive_65, wr_nj (by decide), c4, q1, nI_1, if_pos h, c51]
    · rw [if_neg (by rw [c4, z]; exact h), sgX5_arrive_65, wr_nj (by decide), c4, q1, nI_1, if_neg h, c6, c51]
  have fin2 : ∀ (C : Nat → Nat → Int32), fr [48, 50] B C → (∀ f, f ≠ 4 → f ≠ 5 → f ≠ 6 → C 48 f = B 48 f) → HF B (wr (wr C 48 6 (if σ.1 = 0 then B 51 0 else B 48 6 &&& B 51 0)) 48 4 (nI (σ.1 + 1))) ∧ fr [48, 50] B (wr (wr C 48 6 (if σ.1 = 0 then B 51 0 else B 48 6 &&& B 51 0)) 48 4 (nI (σ.1 + 1))) := by
    intro C f1 g1
    have f2 : fr [48, 50] B (wr (wr C 48 6 (if σ.1 = 0 then B 51 0 else B 48 6 &&& B 51 0)) 48 4 (nI (σ.1 + 1))) := (f1.w (by simp)).w (by simp)
    exact ⟨⟨f2.mo (by intro a; simp <;> omega), fun f h1 h2 h3 => by rw [wr_nj h1, wr_nj h3]; exact g1 f h1 h2 h3, fun f _ _ => by rw [f2 52 (by decide)]⟩, f2⟩
  have e6 : 0 < n → (if σ.1 = 0 then B 51 0 else B 48 6 &&& B 51 0) = (if σ.1 = 0 then nI (ss 0) else σ.2.2.2 &&& nI (ss 0)) := by
    intro h; rw [hV.2 0 h, q4 h]
  by_cases h : σ.1 = 0 ∨ ¬ g ≤ σ.2.1
  · have r15 : ∀ n', EX5_arrive (N + 1000000) d (n' + 1 + 1 + 1) 15 [some (rv (some 48)), some (iv g)] (B, J, cd) = some (rv none, (wr (wr (wrC (wr B 48 5 g) 50 (va_cpy (B 51) (B 50) 0 0 4)) 48 6 (if σ.1 = 0 then B 51 0 else B 48 6 &&& B 51 0)) 48 4 (nI (σ.1 + 1)), J, cd)) := by
      intro n'
      rw [sgX5_arrive_15, if_pos (by decide), fin n' _ (by rw [wrC_at, if_neg (by decide), wr_nj (by decide)]) (by rw [wrC_at, if_neg (by decide), wr_nj (by decide)]) (by rw [wrC_at, if_neg (by decide), wr_ne (by decide)])]
    have r0 : arun (N + 1000000) (d + 1) 35 [rv (some 48), iv g] (B, J, cd) = some (rv none, (wr (wr (wrC (wr B 48 5 g) 50 (va_cpy (B 51) (B 50) 0 0 4)) 48 6 (if σ.1 = 0 then B 51 0 else B 48 6 &&& B 51 0)) 48 4 (nI (σ.1 + 1)), J, cd)) := by
      rw [enX5_arrive, sgX5_arrive_0]
      by_cases h1 : σ.1 = 0
      · rw [if_pos (by rw [z]; exact h1), r15]
      · rw [if_neg (by rw [z]; exact h1), if_neg (by rw [q2]; exact h.resolve_left h1), r15]
    obtain ⟨a, b⟩ := fin2 (wrC (wr B 48 5 g) 50 (va_cpy (B 51) (B 50) 0 0 4)) ((fr.rf.w (by simp)).wC (by simp)) (fun f h1 h2 h3 => by rw [wrC_at, if_neg (by decide), wr_nj h2])
    refine ⟨_, r0, a, b, ?_, ?_, fun _ i hi => ?_, fun h' => ?_⟩
    · rw [wr_eq]; rfl
    · rw [wr_nj (by decide), wr_nj (by decide), wrC_at, if_neg (by decide), wr_eq, arrS, if_pos h]
    · rw [wr_ne (by decide), wr_ne (by decide), wrC_at, if_pos rfl, pk_cpy_in (by omega) (by omega), Nat.zero_add, Nat.sub_zero, hV.2 i hi]
      show _ = nI ((if σ.1 = 0 ∨ ¬ g ≤ σ.2.1 then ss else σ.2.2.1) i)
      rw [if_pos h]
    · rw [wr_nj (by decide), wr_eq, e6 h']; rfl
  · have h1 : ¬ σ.1 = 0 := fun q => h (Or.inl q)
    have h2 : g ≤ σ.2.1 := Classical.byContradiction fun q => h (Or.inr q)
    obtain ⟨a, b⟩ := fin2 B fr.rf (fun f _ _ _ => rfl)
    refine ⟨_, by rw [enX5_arrive, sgX5_arrive_0, if_neg (by rw [z]; exact h1), if_pos (by rw [q2]; exact h2), fin _ B rfl rfl rfl], a, b, ?_, ?_, fun _ i hi => ?_, fun h' => ?_⟩
    · rw [wr_eq]; rfl
    · rw [wr_nj (by decide), wr_nj (by decide), q2, arrS, if_neg h]
    · rw [wr_ne (by decide), wr_ne (by decide), q3 (by omega) i hi]
      show _ = nI ((if σ.1 = 0 ∨ ¬ g ≤ σ.2.1 then ss else σ.2.2.1) i)
      rw [if_neg h]
    · rw [wr_nj (by decide), wr_eq, e6 h']; rfl
theorem s_fits (N d : Nat) {P : RP} (hP : okP P) {ow : Nat → Nat} {n go vil : Nat} {due : Nat → Nat} {t : Nat} {F : FS} {ss : Nat → Nat} {k : Nat} (hk : k < n) (hn : n ≤ 4) (hg : go < 4) (hdu : ∀ i, due i ≤ 999) (hw : ∀ i, F.1 i ≤ 99) (B : Nat → Nat → Int32) (J : Nat → Nat → Int64) (cd : Nat × Nat) (hK : HK P ow n go vil due t B) (e1 : B 52 1 = nI (seaD P ow t F ss k)) (e2 : B 52 2 = nI (gsD P ow t F ss k)) :
    arun (N + 1000000) (d + 1) 33 [rv (some 48), rv (some 73), iv (nI k)] (B, J, cd) = some (iv (if fitD P ow t F go due ss k then 1 else 0), (B, J, cd)) := by
  have hn6 := hP.1
  obtain ⟨h1, h2, h3, h4, h5, h6, h7⟩ := hK
  have hgs : gsD P ow t F ss k < 64 := bitsN_64 _ hn6
  have hmi : milN P < 64 := bitsN_64 _ hn6
  have hse : seaD P ow t F ss k ≤ 99 := Nat.le_trans (ranN_le _ _ _ _) (wkN_le _ _ _ _ _ _ hw k _)
  have g1 : (nI go = 1) = (go = 1) := neq (b := 1) (by omega) (by decide)
  have g3 : (nI go = 3) = (go = 3) := neq (b := 3) (by omega) (by decide)
  have c1 : (nI (gsD P ow t F ss k) = nI (milN P)) = (gsD P ow t F ss k = milN P) := neq (by omega) (by omega)
  have hdk := hdu k
  have c3 : (nI (seaD P ow t F ss k) = nI (due k)) = (seaD P ow t F ss k = due k) := neq (by omega) (by omega)
  have e73 : B 73 2 = nI (milN P) := h1.2.2.1
  rw [enX5_fits, sgX5_fits_0]
  simp only [h3, g1, g3, e1, e2, e73, c1, inb_t (show k < 4 by omega) (show k < 2 ^ 31 by omega), nI_clamp (show k < 2 ^ 31 by omega), if_true]
  unfold fitD
  by_cases a : go = 1
  · rw [if_pos a, if_pos a]
    by_cases b : gsD P ow t F ss k = milN P
    · rw [if_pos b]; simp [b]
    · rw [if_neg b]; simp [b]
  · rw [if_neg a, if_neg a]
    by_cases a3 : go = 3
    · rw [if_pos a3, if_pos a3, h5 a3 k hk]
      simp only [c3]
      by_cases b : seaD P ow t F ss k = due k
      · rw [if_pos b]; simp [b]
      · rw [if_neg b]; simp [b]
    · rw [if_neg a3, if_neg a3]; rfl
theorem s_gain (N d : Nat) {P : RP} (hP : okP P) {ow : Nat → Nat} (how : ∀ d, d < 7 → ow d ≤ 6) {n go vil : Nat} {due : Nat → Nat} {t : Nat} (ht : t ≤ 40) {F : FS} {ss : Nat → Nat} {k : Nat} (hk : k < n) (hn : n ≤ 4) (hg : go < 4) (hv : vil < 7) (hs : ss k < 64) (B : Nat → Nat → Int32) (J : Nat → Nat → Int64) (cd : Nat × Nat) (hK : HK P ow n go vil due t B) (e1 : B 52 1 = nI (seaD P ow t F ss k)) (e2 : B 52 2 = nI (gsD P ow t F ss k)) (e51 : B 51 k = nI (ss k)) :
    arun (N + 1000000) (d + 4) 34 [rv (some 48), rv (some 73), iv (nI k)] (B, J, cd) = some (iv (gainD P ow t F go vil ss k), (B, J, cd)) := by
  have hn6 := hP.1
  obtain ⟨h1, h2, h3, h4, h5, h6, h7⟩ := hK
  have hgs : gsD P ow t F ss k < 64 := bitsN_64 _ hn6
  have g0 : (nI go = 0) = (go = 0) := neq (b := 0) (by omega) (by decide)
  have g1 : (nI go = 1) = (go = 1) := neq (b := 1) (by omega) (by decide)
  have g2 : (nI go = 2) = (go = 2) := neq (b := 2) (by omega) (by decide)
  have h7' : (t + k) % 7 < 7 := Nat.mod_lt _ (by decide)
  have ho := how _ h7'
  rw [enX5_gain, sgX5_gain_0]
  simp only [h3, g0, g1, g2, e2, inb_t (show k < 4 by omega) (show k < 2 ^ 31 by omega), nI_clamp (show k < 2 ^ 31 by omega), if_true, e51]
  unfold gainD
  by_cases a : go = 0
  · rw [if_pos a, if_pos a, bI (s_bits _ _ hgs _)]
    try dsimp only
  · rw [if_neg a, if_neg a]
    by_cases a1 : go = 1
    · rw [if_pos a1, if_pos a1, bI (s_bits _ _ hs _)]
      try dsimp only
    · rw [if_neg a1, if_neg a1]
      by_cases a2 : go = 2
      · rw [if_pos a2, if_pos a2, bI (s_ownerOf_52 _ _ (t := t) (by omega) _ _ _ h1 h6)]
        try dsimp only
        try dsimp only
        have c : (nI (ow ((t + k) % 7)) = nI vil) = (ow ((t + k) % 7) = vil) := neq (by omega) (by omega)
        by_cases b : ow ((t + k) % 7) = vil
        · rw [if_pos (by rw [h4 a2, c]; exact b), if_pos b, e1]
        · rw [if_neg (by rw [h4 a2, c]; exact b), if_neg b]
      · rw [if_neg a2, if_neg a2]
theorem pl_lo {P : RP} (h1 : 0 < mS P) {k q e i : Nat} (he : e < mS P) (hi : i < k) : plN P (k + 1) (q * mS P + e) i = plN P k q i := by
  rw [plN_pre hi (by omega), show k + 1 - k = 1 by omega, Nat.pow_one]
  congr 1
  rw [Nat.mul_comm, Nat.mul_add_div h1, Nat.div_eq_of_lt he, Nat.add_zero]
theorem pl_hi {P : RP} {k q e : Nat} (he : e < mS P) : plN P (k + 1) (q * mS P + e) k = stN P e := by
  unfold plN
  rw [show k + 1 - 1 - k = 0 by omega, Nat.pow_zero, Nat.div_one, Nat.mul_comm, Nat.mul_add_mod, Nat.mod_eq_of_lt he]
theorem x_deep (N d : Nat) {P : RP} (hP : okP P) (h0 : 0 < P.1) {ow : Nat → Nat} (how : ∀ d, d < 7 → ow d ≤ 6) {n go vil : Nat} {due : Nat → Nat} {t : Nat} (ht : t ≤ 40) {F : FS} (hw : ∀ i, F.1 i ≤ 99) (hn : n ≤ 4) (hg : go < 4) (hv : vil < 7) (hdu : ∀ i, due i ≤ 999) (J : Nat → Nat → Int64) (cd : Nat × Nat) :
    ∀ (r k q : Nat) (σ : HS) (B : Nat → Nat → Int32), k + r = n → fitA P ow t F go due (plN P k q) k = true → σ.1 + mS P ^ r ≤ 5000 → HK P ow n go vil due t B → VW P ow t F (plN P k q) k B → HQ n σ B →
    ∃ B', arun (N + 1000000) (d + r + 6) 32 [rv (some 48), rv (some 73), iv (nI k), iv (gaiA P ow t F go vil (plN P k q) k)] (B, J, cd) = some (rv none, (B', J, cd)) ∧ HF B B' ∧ VW P ow t F (plN P k q) k B' ∧ HQ n (fldS (stpS P ow t F go vil due n) (q * mS P ^ r) (mS P ^ r) σ) B' := by
  have hn6 := hP.1
  have h1 := mS_pos hn6
  have h8 := mS_le hP
  intro r
  induction r with
  | zero =>
    intro k q σ B hk hfit hσ hK hV hQ
    have : k = n := by omega
    subst this
    obtain ⟨B', e, hf, hf2, hq⟩ := s_arrive N (d + 4) hn (gaiA P ow t F go vil (plN P k q) k) (σ := σ) (by omega) B J cd hV hQ
    refine ⟨B', ?_, hf, ⟨fun i hi x hx => ?_, fun i hi => ?_⟩, ?_⟩
    · rw [enX5_goDeeper, sgX5_goDeeper_0, if_neg (by rw [hK.2.1]; exact nI_nlt (Nat.le_refl _) (by omega)), bV e]
    · rw [hf2 _ (by simp; omega)]; exact hV.1 i hi x hx
    · rw [hf2 51 (by decide)]; exact hV.2 i hi
    · rw [Nat.pow_zero, Nat.mul_one]
      show HQ k (stpS P ow t F go vil due k (q + 0) σ) B'
      rw [Nat.add_zero, stpS, if_pos hfit]
      exact hq
  | succ r ih =>
    intro k q σ B hk hfit hσ hK hV hQ
    have hm : mS P ^ (r + 1) = mS P ^ r * mS P := Nat.pow_succ ..
    have hpos : 0 < mS P ^ r := Nat.pow_pos h1
    have loop : ∀ (mm e f : Nat) (C : Nat → Nat → Int32), e + mm = mS P → HF B C → VW P ow t F (plN P k q) k C → HQ n (fldS (stpS P ow t F go vil due n) (q * mS P ^ (r + 1)) (e * mS P ^ r) σ) C → ∃ B', EX5_goDeeper (N + 1000000) (d + r + 6) (f + 1 + mm) 17 [some (rv (some 48)), some (rv (some 73)), some (iv (nI k)), some (iv (gaiA P ow t F go vil (plN P k q) k)), some (iv (nI e)), none] (C, J, cd) = some (rv none, (B', J, cd)) ∧ HF B B' ∧ VW P ow t F (plN P k q) k B' ∧ HQ n (fldS (stpS P ow t F go vil due n) (q * mS P ^ (r + 1)) (mS P ^ (r + 1)) σ) B' := by
      intro mm
      induction mm with
      | zero =>
        intro e f C he hFC hVC hQC
        have : e = mS P := by omega
        subst this
        have hKC := hK.eq hFC
        refine ⟨C, ?_, hFC, hVC, ?_⟩
        · rw [Nat.add_zero, sgX5_goDeeper_17, if_pos (by rw [(hKC.1.2.2.2.2.2 h0).1]; exact Int32.le_refl _)]
        · rw [show mS P * mS P ^ r = mS P ^ (r + 1) by rw [hm, Nat.mul_comm]] at hQC
          exact hQC
      | succ mm ihm =>
        intro e f C he hFC hVC hQC
        have hKC := hK.eq hFC
        have heL : e < mS P := by omega
        have e79 : C 79 e = nI (stN P e) := by
          have := (hKC.1.2.2.2.2.2 h0).2 e heL
          rw [stN_at heL] at this
          exact this
        have hso := stN_okk P e
        have hs6 := sub64 hn6 hso
        have lo : ∀ i, i < k → plN P (k + 1) (q * mS P + e) i = plN P k q i := fun i hi => pl_lo h1 heL hi
        have hi' : plN P (k + 1) (q * mS P + e) k = stN P e := pl_hi heL
        have ewk : wkN P P.2.2.2.2 ow t (plN P (k + 1) (q * mS P + e)) F k = wkN P P.2.2.2.2 ow t (plN P k q) F k := wk_ext P _ ow t F k lo
        obtain ⟨C1, r1, f1, g1, b1, b2, x1⟩ := s_branch_52 N (d + r + 2) hP h0 hs6 (wkN_le P P.2.2.2.2 ow t (plN P k q) F hw k) (k := k) (t := t) (by omega) ht C J cd hKC.1 hKC.2.2.2.2.2.1 hKC.2.2.2.2.2.2 (hVC.1 k (Nat.le_refl _))
        have hF1 : HF C C1 := ⟨f1.mo (by intro a; simp; omega), fun f _ _ _ => by rw [f1 48 (by simp; omega)], g1⟩
        have hK1 := hKC.eq hF1
        have c1 : C1 52 1 = nI (seaD P ow t F (plN P (k + 1) (q * mS P + e)) k) := by
          rw [b1, seaD, ewk, hi']
        have c2 : C1 52 2 = nI (gsD P ow t F (plN P (k + 1) (q * mS P + e)) k) := by
          rw [b2, gsD, ewk, hi']
        have rfits := s_fits N (d + r + 5) hP (vil := vil) (show k < n by omega) hn hg hdu hw C1 J cd hK1 c1 c2
        have efit : fitA P ow t F go due (plN P (k + 1) (q * mS P + e)) (k + 1) = fitD P ow t F go due (plN P (k + 1) (q * mS P + e)) k := by
          show (fitA P ow t F go due (plN P (k + 1) (q * mS P + e)) k && _) = _
          rw [fitA_ext P ow t F go due k lo, hfit, Bool.true_and]
        have hblk : q * mS P ^ (r + 1) + e * mS P ^ r = (q * mS P + e) * mS P ^ r := by
          rw [hm, Nat.add_mul, Nat.mul_assoc q, Nat.mul_comm (mS P) (mS P ^ r)]
        have hadd : fldS (stpS P ow t F go vil due n) (q * mS P ^ (r + 1)) ((e + 1) * mS P ^ r) σ = fldS (stpS P ow t F go vil due n) ((q * mS P + e) * mS P ^ r) (mS P ^ r) (fldS (stpS P ow t F go vil due n) (q * mS P ^ (r + 1)) (e * mS P ^ r) σ) := by
          rw [Nat.add_mul, Nat.one_mul, fldS_add, hblk]
        have hVC1 : VW P ow t F (plN P k q) k C1 := ⟨fun i hi x hx => by rw [f1 _ (by simp; omega)]; exact hVC.1 i hi x hx, fun i hi => by rw [f1 51 (by simp; omega)]; exact hVC.2 i hi⟩
        have hcc : fitD P ow t F go due (plN P (k + 1) (q * mS P + e)) k = true ∨ fitD P ow t F go due (plN P (k + 1) (q * mS P + e)) k = false := by cases fitD P ow t F go due (plN P (k + 1) (q * mS P + e)) k <;> simp
        rcases hcc with hc | hc
        · -- it fits: deeper
          have hF2 : HF C (wr C1 51 k (nI (stN P e))) := hF1.tr ⟨fr.rf.w (by simp), fun f _ _ _ => by rw [wr_ne (by decide)], fun f _ _ => by rw [wr_ne (by decide)]⟩
          have hK2 := hKC.eq hF2
          have rgain := s_gain N (d + r + 2) hP how (vil := vil) ht (F := F) (ss := plN P (k + 1) (q * mS P + e)) (show k < n by omega) hn hg hv (by rw [hi']; exact hs6) (wr C1 51 k (nI (stN P e))) J cd hK2 (by rw [wr_ne (by decide)]; exact c1) (by rw [wr_ne (by decide)]; exact c2) (by rw [wr_eq, hi'])
          have hV2 : VW P ow t F (plN P (k + 1) (q * mS P + e)) (k + 1) (wr C1 51 k (nI (stN P e))) := by
            refine ⟨fun i hi x hx => ?_, fun i hi => ?_⟩
            · rw [wr_ne (by omega)]
              by_cases c : i = k + 1
              · subst c
                rw [x1 x hx]
                show nI (watN P (wkN P P.2.2.2.2 ow t (plN P k q) F k).1 (stN P e) _ x) = nI (watN P (wkN P P.2.2.2.2 ow t (plN P (k + 1) (q * mS P + e)) F k).1 (plN P (k + 1) (q * mS P + e) k) _ x)
                rw [ewk, hi']
              · rw [wk_ext P _ ow t F i (fun j hj => lo j (by omega))]
                exact hVC1.1 i (by omega) x hx
            · by_cases c : i = k
              · subst c; rw [wr_eq, hi']
              · rw [wr_nj c, lo i (by omega)]; exact hVC1.2 i (by omega)
          have hQ2 : HQ n (fldS (stpS P ow t F go vil due n) (q * mS P ^ (r + 1)) (e * mS P ^ r) σ) (wr C1 51 k (nI (stN P e))) := by
            obtain ⟨a1, a2, a3, a4⟩ := hQC
            have e48 : wr C1 51 k (nI (stN P e)) 48 = C 48 := by rw [wr_ne (by decide), f1 48 (by simp; omega)]
            have e50 : wr C1 51 k (nI (stN P e)) 50 = C 50 := by rw [wr_ne (by decide), f1 50 (by simp; omega)]
            exact ⟨by rw [e48]; exact a1, by rw [e48]; exact a2, by rw [e50]; exact a3, by rw [e48]; exact a4⟩
          have hσ2 : (fldS (stpS P ow t F go vil due n) (q * mS P ^ (r + 1)) (e * mS P ^ r) σ).1 + mS P ^ r ≤ 5000 := by
            have := fld_1 P ow t F go vil due n (q * mS P ^ (r + 1)) (e * mS P ^ r) σ
            have h2 : e * mS P ^ r + mS P ^ r ≤ mS P ^ (r + 1) := by
              rw [hm, ← Nat.succ_mul, Nat.mul_comm]
              exact Nat.mul_le_mul_left _ (by omega)
            omega
          obtain ⟨C3, r3, hF3, hV3, hQ3⟩ := ih (k + 1) (q * mS P + e) _ (wr C1 51 k (nI (stN P e))) (by omega) (by rw [efit]; exact hc) hσ2 hK2 hV2 hQ2
          obtain ⟨B', r4, hF4, hV4, hQ4⟩ := ihm (e + 1) f C3 (by omega) (hFC.tr (hF2.tr hF3)) (hV3.ext (by omega) (fun i hi => (lo i hi).symm)) (by rw [hadd]; exact hQ3)
          refine ⟨B', ?_, hF4, hV4, hQ4⟩
          have eg : gaiA P ow t F go vil (plN P k q) k + gainD P ow t F go vil (plN P (k + 1) (q * mS P + e)) k = gaiA P ow t F go vil (plN P (k + 1) (q * mS P + e)) (k + 1) := by
            show _ = gaiA P ow t F go vil (plN P (k + 1) (q * mS P + e)) k + _
            rw [gaiA_ext P ow t F go vil k lo]
          rw [show f + 1 + (mm + 1) = f + 1 + mm + 1 by omega, sgX5_goDeeper_17, if_neg (by rw [(hKC.1.2.2.2.2.2 h0).1]; exact nI_ge heL (by show mS P < _; omega)), inb_t (show e < 8 by omega) (by omega), if_pos rfl, nI_clamp (show e < 2 ^ 31 by omega), e79, bV r1]
          try dsimp only
          rw [bI rfits]
          try dsimp only
          rw [if_neg (by rw [hc]; decide), inb_t (show k < 4 by omega) (by omega), if_pos rfl, nI_clamp (show k < 2 ^ 31 by omega), bI rgain]
          try dsimp only
          rw [nI_1, eg, bV r3]
          try dsimp only
          rw [nI_1]
          exact r4
        · -- it doesn't
          have hidb : fldS (stpS P ow t F go vil due n) (q * mS P ^ (r + 1)) ((e + 1) * mS P ^ r) σ = fldS (stpS P ow t F go vil due n) (q * mS P ^ (r + 1)) (e * mS P ^ r) σ := by
            rw [hadd]
            apply fldS_id
            intro j σ' hj1 hj2
            have hdj : j / mS P ^ r = q * mS P + e := by
              apply Nat.div_eq_of_lt_le
              · exact hj1
              · rw [Nat.succ_mul]; exact hj2
            have hpre : ∀ i, i < k + 1 → plN P n j i = plN P (k + 1) (q * mS P + e) i := fun i hi => by
              rw [plN_pre (k := k + 1) hi (by omega), show n - (k + 1) = r by omega, hdj]
            have hf : fitA P ow t F go due (plN P n j) (k + 1) = false := by
              rw [fitA_ext P ow t F go due (k + 1) hpre, efit]; exact hc
            have := fitA_mono P ow t F go due (plN P n j) hf r
            rw [show k + 1 + r = n by omega] at this
            rw [stpS, if_neg (by rw [this]; decide)]
          have hQ1 : HQ n (fldS (stpS P ow t F go vil due n) (q * mS P ^ (r + 1)) ((e + 1) * mS P ^ r) σ) C1 := by
            rw [hidb]
            obtain ⟨a1, a2, a3, a4⟩ := hQC
            have e48 : C1 48 = C 48 := f1 48 (by simp; omega)
            have e50 : C1 50 = C 50 := f1 50 (by simp; omega)
            exact ⟨by rw [e48]; exact a1, by rw [e48]; exact a2, by rw [e50]; exact a3, by rw [e48]; exact a4⟩
          obtain ⟨B', r4, hF4, hV4, hQ4⟩ := ihm (e + 1) f C1 (by omega) (hFC.tr hF1) hVC1 hQ1
          refine ⟨B', ?_, hF4, hV4, hQ4⟩
          rw [show f + 1 + (mm + 1) = f + 1 + mm + 1 by omega, sgX5_goDeeper_17, if_neg (by rw [(hKC.1.2.2.2.2.2 h0).1]; exact nI_ge heL (by show mS P < _; omega)), inb_t (show e < 8 by omega) (by omega), if_pos rfl, nI_clamp (show e < 2 ^ 31 by omega), e79, bV r1]
          try dsimp only
          rw [bI rfits]
          try dsimp only
          rw [if_pos (by rw [hc]; decide), nI_1]
          exact r4
    obtain ⟨B', e1, e2, e3, e4⟩ := loop (mS P) 0 (N + 999998 - mS P) B (by omega) HF.rf hV (by rw [Nat.zero_mul]; exact hQ)
    rw [nI_0] at e1
    refine ⟨B', ?_, e2, e3, e4⟩
    rw [show d + (r + 1) + 6 = d + r + 6 + 1 by omega, enX5_goDeeper, sgX5_goDeeper_0, if_pos (by rw [hK.2.1]; exact nI_lt (by omega) (by omega)), show N + 999999 = N + 999998 - mS P + 1 + mS P by omega]
    exact e1
