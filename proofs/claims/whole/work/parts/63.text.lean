/-! a TEXT read as a RIVER: in plain numbers -/
def skN (tx : Nat → Int32) (L : Nat) : Nat → Nat → Nat
  | 0, p => p
  | m + 1, p => if p < L ∧ tx p = 32 then skN tx L m (p + 1) else p
theorem skN_t {tx : Nat → Int32} {L m p : Nat} (h : p < L ∧ tx p = 32) : skN tx L (m + 1) p = skN tx L m (p + 1) := if_pos h
theorem skN_f {tx : Nat → Int32} {L p : Nat} (h : ¬ (p < L ∧ tx p = 32)) : ∀ m, skN tx L m p = p
  | 0 => rfl
  | _ + 1 => if_neg h
theorem skN_eq (tx : Nat → Int32) (L : Nat) : ∀ m m' p, L ≤ p + m → L ≤ p + m' → skN tx L m p = skN tx L m' p
  | 0, m', p, h, _ => by
    show p = _
    exact (skN_f (fun q => absurd q.1 (by omega)) m').symm
  | m + 1, 0, p, _, h' => skN_f (fun q => absurd q.1 (by omega)) (m + 1)
  | m + 1, m' + 1, p, h, h' => by
    by_cases c : p < L ∧ tx p = 32
    · rw [skN_t c, skN_t c]
      exact skN_eq tx L m m' (p + 1) (by omega) (by omega)
    · rw [skN_f c, skN_f c]
theorem skN_no (tx : Nat → Int32) (L : Nat) : ∀ m p, L ≤ p + m → ¬ (skN tx L m p < L ∧ tx (skN tx L m p) = 32)
  | 0, p, h => fun q => absurd q.1 (by show ¬ p < L; omega)
  | m + 1, p, h => by
    by_cases c : p < L ∧ tx p = 32
    · rw [skN_t c]
      exact skN_no tx L m (p + 1) (by omega)
    · rw [skN_f c]; exact c
theorem skN_le (tx : Nat → Int32) (L : Nat) : ∀ m p, p ≤ L → skN tx L m p ≤ L
  | 0, _, h => h
  | m + 1, p, h => by
    by_cases c : p < L ∧ tx p = 32
    · rw [skN_t c]
      exact skN_le tx L m (p + 1) (by omega)
    · rw [skN_f c]; exact h
/-- behind the BLANKS -/
def SK (tx : Nat → Int32) (L p : Nat) : Nat := skN tx L 60 p
theorem SK_le {tx : Nat → Int32} {L p : Nat} (h : p ≤ L) : SK tx L p ≤ L := skN_le tx L 60 p h
theorem SK_id {tx : Nat → Int32} {L p : Nat} (hL : L ≤ 60) : SK tx L (SK tx L p) = SK tx L p := skN_f (skN_no tx L 60 p (by omega)) 60
theorem SK_m {tx : Nat → Int32} {L p m : Nat} (hL : L ≤ 60) (h : L ≤ p + m) : skN tx L m p = SK tx L p := skN_eq tx L m 60 p h (by omega)
/-- a figure from lo to hi stands there -/
abbrev fgP (tx : Nat → Int32) (L lo hi p : Nat) : Prop := p < L ∧ ¬ tx p < nI (48 + lo) ∧ ¬ nI (48 + hi) < tx p
def fvN (tx : Nat → Int32) (p : Nat) : Nat := (tx p - 48).toNatClampNeg
theorem fg_v {tx : Nat → Int32} {L lo hi p : Nat} (hl : lo ≤ 9) (hh : hi ≤ 9) (h : fgP tx L lo hi p) : tx p - 48 = nI (fvN tx p) ∧ lo ≤ fvN tx p ∧ fvN tx p ≤ hi := by
  obtain ⟨-, h1, h2⟩ := h
  have hnn : ¬ tx p < 0 := fun q => h1 (Int32.lt_of_lt_of_le q (nI_pos' (by omega)))
  obtain ⟨k, hk, e⟩ := nI_of2 (M := nI (48 + hi)) (n := 48 + hi) (nI_toInt (by omega)) hnn (Int32.not_lt.mp h2)
  have h3 : 48 + lo ≤ k := by
    rw [e] at h1
    exact (nI_leI (by omega) (by omega)).mp (Int32.not_lt.mp h1)
  have e2 : tx p - 48 = nI (k - 48) := by
    rw [e, show (48 : Int32) = nI 48 from rfl, pk_sub (by omega)]
  have e3 : fvN tx p = k - 48 := by rw [fvN, e2, nI_clamp (by omega)]
  rw [e3]
  exact ⟨e2, by omega, by omega⟩
/-- the reference asks it the other way round -/
theorem fg_in {x : Int32} {lo hi : Nat} (hl : lo ≤ 9) (hh : hi ≤ 9) : (¬ x - 48 < nI lo ∧ ¬ nI hi < x - 48) ↔ (¬ x < nI (48 + lo) ∧ ¬ nI (48 + hi) < x) := by
  constructor
  · rintro ⟨h1, h2⟩
    have hnn : ¬ x - 48 < 0 := fun q => h1 (Int32.lt_of_lt_of_le q (nI_pos' (by omega)))
    obtain ⟨k, hk, e⟩ := nI_of2 (M := nI hi) (n := hi) (nI_toInt (by omega)) hnn (Int32.not_lt.mp h2)
    have h3 : lo ≤ k := by
      rw [e] at h1
      exact (nI_leI (by omega) (by omega)).mp (Int32.not_lt.mp h1)
    have ex : x = nI (48 + k) := by
      have : x - 48 + 48 = nI k + nI 48 := by rw [e]; rfl
      rw [Int32.sub_add_cancel, nI_add, Nat.add_comm] at this
      exact this
    rw [ex]
    exact ⟨nI_nlt (by omega) (by omega), nI_nlt (by omega) (by omega)⟩
  · rintro ⟨h1, h2⟩
    obtain ⟨e, a, b⟩ := fg_v (tx := fun _ => x) (L := 1) (p := 0) hl hh ⟨by omega, h1, h2⟩
    rw [show x - 48 = nI (fvN (fun _ => x) 0) from e]
    exact ⟨nI_nlt a (by omega), nI_nlt b (by omega)⟩
/-- how many figures stand there, of m -/
def ldN (tx : Nat → Int32) (L hi : Nat) : Nat → Nat → Nat
  | 0, _ => 0
  | m + 1, q => if fgP tx L 0 hi q then ldN tx L hi m (q + 1) + 1 else 0
theorem ldN_t {tx : Nat → Int32} {L hi m q : Nat} (h : fgP tx L 0 hi q) : ldN tx L hi (m + 1) q = ldN tx L hi m (q + 1) + 1 := if_pos h
theorem ldN_f {tx : Nat → Int32} {L hi m q : Nat} (h : ¬ fgP tx L 0 hi q) : ldN tx L hi (m + 1) q = 0 := if_neg h
theorem ldN_le (tx : Nat → Int32) (L hi : Nat) : ∀ m q, q ≤ L → q + ldN tx L hi m q ≤ L
  | 0, _, h => h
  | m + 1, q, h => by
    by_cases c : fgP tx L 0 hi q
    · rw [ldN_t c]
      have := ldN_le tx L hi m (q + 1) (by have := c.1; omega)
      omega
    · rw [ldN_f c]; exact h
theorem ldN_all (tx : Nat → Int32) (L hi : Nat) : ∀ m q, ldN tx L hi m q = m → ∀ i, i < m → fgP tx L 0 hi (q + i)
  | 0, _, _, i, hi => absurd hi (by omega)
  | m + 1, q, h, i, hi' => by
    by_cases c : fgP tx L 0 hi q
    · rw [ldN_t c] at h
      cases i with
      | zero => exact c
      | succ i =>
        have := ldN_all tx L hi m (q + 1) (by omega) i (by omega)
        rw [show q + (i + 1) = q + 1 + i by omega]
        exact this
    · rw [ldN_f c] at h; omega
/-- a week's letter and figures: whether all stand there, and where it ends -/
def wkR (tx : Nat → Int32) (L : Nat) (c : Int32) (hi p : Nat) : Bool × Nat := if SK tx L p < L ∧ tx (SK tx L p) = c then (decide (ldN tx L hi 7 (SK tx L p + 1) = 7), SK tx L p + 1 + ldN tx L hi 7 (SK tx L p + 1)) else (false, SK tx L p)
theorem wkR_le {tx : Nat → Int32} {L : Nat} {c : Int32} {hi p : Nat} (h : p ≤ L) : (wkR tx L c hi p).2 ≤ L := by
  have := SK_le (tx := tx) h
  unfold wkR
  split
  · rename_i q
    exact ldN_le tx L hi 7 _ (by have := q.1; omega)
  · exact this
theorem wkR_fg {tx : Nat → Int32} {L : Nat} {c : Int32} {hi p : Nat} (h : (wkR tx L c hi p).1 = true) : ∀ i, i < 7 → fgP tx L 0 hi (SK tx L p + 1 + i) := by
  unfold wkR at h
  split at h
  · exact ldN_all tx L hi 7 _ (of_decide_eq_true h)
  · exact absurd (show false = true from h) (by decide)
/-- KINDS by letters; 9: none -/
def kB (x : Int32) : Nat := if x = 97 then 0 else if x = 119 then 1 else if x = 109 then 2 else if x = 112 then 3 else if x = 115 then 4 else if x = 102 then 5 else 9
/-- what was read till now: how many, KINDS, MEASURES, springs -/
abbrev RR : Type := Nat × (Nat → Nat) × (Nat → Nat) × (Nat → Nat)
def gcN (R : RR) : Nat := pc6 (bitsN (fun i => isG (R.2.1 i)) R.1)
def rcR (tx : Nat → Int32) (L p : Nat) (R : RR) : Bool × Nat × RR :=
  if p < L ∧ kB (tx p) ≤ 5 ∧ R.1 < 6 ∧ ¬ (isG (kB (tx p)) = true ∧ 3 ≤ gcN R) then
    (if fgP tx L 1 9 (p + 1) then (if fgP tx L 0 9 (p + 2) then (true, p + 3, (R.1 + 1, up1 R.2.1 R.1 (kB (tx p)), up1 R.2.2.1 R.1 (fvN tx (p + 1)), up1 R.2.2.2 R.1 (fvN tx (p + 2)))) else (false, p + 2, R)) else (false, p + 1, R))
  else (false, p, R)
def lpR (tx : Nat → Int32) (L : Nat) : Nat → Nat → RR → Bool × Nat × RR
  | 0, p, R => (false, p, R)
  | m + 1, p, R => if L ≤ p then (decide (0 < R.1), p, R) else if (rcR tx L p R).1 then lpR tx L m (SK tx L (rcR tx L p R).2.1) (rcR tx L p R).2.2 else rcR tx L p R
def okR (R : RR) : Prop := R.1 ≤ 6 ∧ gcN R ≤ 3 ∧ ∀ i, i < R.1 → R.2.1 i ≤ 5 ∧ 1 ≤ R.2.2.1 i ∧ R.2.2.1 i ≤ 9 ∧ R.2.2.2 i ≤ 9
def R0 : RR := (0, fun _ => 0, fun _ => 0, fun _ => 0)
theorem okR0 : okR R0 := ⟨by decide, by decide, fun i hi => absurd hi (by show ¬ i < 0; omega)⟩
theorem bitsN_ext {p q : Nat → Bool} : ∀ n, (∀ i, i < n → p i = q i) → bitsN p n = bitsN q n
  | 0, _ => rfl
  | n + 1, h => by
    show bitsN p n + (if p n then 2 ^ n else 0) = bitsN q n + (if q n then 2 ^ n else 0)
    rw [bitsN_ext n (fun i hi => h i (by omega)), h n (by omega)]
theorem bits_up (g : Nat → Bool) (kd : Nat → Nat) (n k : Nat) : bitsN (fun i => g (up1 kd n k i)) (n + 1) = bitsN (fun i => g (kd i)) n + (if g k then 2 ^ n else 0) := by
  show bitsN (fun i => g (up1 kd n k i)) n + (if g (up1 kd n k n) then 2 ^ n else 0) = _
  rw [bitsN_ext (q := fun i => g (kd i)) n (fun i hi => by show g (up1 kd n k i) = g (kd i); rw [up1_at, if_neg (by omega)]), up1_at, if_pos rfl]
theorem gc_up {n : Nat} (hn : n < 6) (kd ms sp : Nat → Nat) (k : Nat) (ms' sp' : Nat → Nat) : gcN (n + 1, up1 kd n k, ms', sp') = gcN (n, kd, ms, sp) + (if isG k then 1 else 0) := by
  show pc6 (bitsN (fun i => isG (up1 kd n k i)) (n + 1)) = pc6 (bitsN (fun i => isG (kd i)) n) + _
  rw [pc6_sum _ (by omega), pc6_sum _ (by omega)]
  show sumN (fun i => if isG (up1 kd n k i) then 1 else 0) n + (if isG (up1 kd n k n) then 1 else 0) = _
  rw [up1_at, if_pos rfl]
  congr 1
  apply sumN_ext
  intro i hi
  show (if isG (up1 kd n k i) = true then 1 else 0) = _
  rw [show up1 kd n k i = kd i from if_neg (by omega)]
theorem rcR_ok {tx : Nat → Int32} {L p : Nat} {R : RR} (h : okR R) : okR (rcR tx L p R).2.2 := by
  unfold rcR
  split
  · rename_i c
    split
    · rename_i f1
      split
      · rename_i f2
        obtain ⟨h1, h2, h3⟩ := h
        have v1 := fg_v (by decide) (by decide) f1
        have v2 := fg_v (by decide) (by decide) f2
        refine ⟨by show R.1 + 1 ≤ 6; omega, ?_, fun i hi => ?_⟩
        · show gcN (R.1 + 1, up1 R.2.1 R.1 _, _, _) ≤ 3
          rw [gc_up c.2.2.1 R.2.1 R.2.2.1 R.2.2.2]
          by_cases q : isG (kB (tx p)) = true
          · rw [if_pos q]
            have : ¬ 3 ≤ gcN R := fun z => c.2.2.2 ⟨q, z⟩
            show gcN R + 1 ≤ 3
            omega
          · rw [if_neg q]; exact h2
        · show up1 R.2.1 R.1 (kB (tx p)) i ≤ 5 ∧ 1 ≤ up1 R.2.2.1 R.1 (fvN tx (p + 1)) i ∧ up1 R.2.2.1 R.1 (fvN tx (p + 1)) i ≤ 9 ∧ up1 R.2.2.2 R.1 (fvN tx (p + 2)) i ≤ 9
          have hi : i < R.1 + 1 := hi
          simp only [up1_at]
          by_cases e : i = R.1
          · simp only [if_pos e]
            exact ⟨c.2.1, v1.2.1, v1.2.2, v2.2.2⟩
          · simp only [if_neg e]
            exact h3 i (by omega)
      · exact h
    · exact h
  · exact h
theorem rcR_le {tx : Nat → Int32} {L p : Nat} {R : RR} (h : p ≤ L) : (rcR tx L p R).2.1 ≤ L := by
  unfold rcR
  split
  · rename_i c
    split
    · rename_i f1
      split
      · rename_i f2
        have := f2.1
        show p + 3 ≤ L
        omega
      · have := f1.1
        show p + 2 ≤ L
        omega
    · have := c.1
      show p + 1 ≤ L
      omega
  · exact h
theorem rcR_n {tx : Nat → Int32} {L p : Nat} {R : RR} (h : (rcR tx L p R).1 = true) : (rcR tx L p R).2.2.1 = R.1 + 1 ∧ R.1 < 6 := by
  unfold rcR at h ⊢
  split at h
  · rename_i c
    rw [if_pos c]
    split at h
    · rename_i f1
      rw [if_pos f1]
      split at h
      · rename_i f2
        rw [if_pos f2]
        exact ⟨rfl, c.2.2.1⟩
      · exact absurd (show false = true from h) (by decide)
    · exact absurd (show false = true from h) (by decide)
  · exact absurd (show false = true from h) (by decide)
theorem rcR_end {tx : Nat → Int32} {L p : Nat} {R : RR} (h : L ≤ p) : rcR tx L p R = (false, p, R) := if_neg (fun q => absurd q.1 (by omega))
theorem lpR_ok (tx : Nat → Int32) (L : Nat) : ∀ m p R, okR R → okR (lpR tx L m p R).2.2
  | 0, _, _, h => h
  | m + 1, p, R, h => by
    simp only [lpR]
    split
    · exact h
    · split
      · exact lpR_ok tx L m _ _ (rcR_ok h)
      · exact rcR_ok h
theorem lpR_pos (tx : Nat → Int32) (L : Nat) : ∀ m p R, (lpR tx L m p R).1 = true → 0 < (lpR tx L m p R).2.2.1
  | 0, _, _, h => absurd (show false = true from h) (by decide)
  | m + 1, p, R, h => by
    simp only [lpR] at h ⊢
    split at h
    · rename_i c
      rw [if_pos c]
      exact of_decide_eq_true h
    · rename_i c
      rw [if_neg c]
      split at h
      · rename_i c2
        rw [if_pos c2]
        exact lpR_pos tx L m _ _ h
      · rename_i c2
        exact absurd h c2
theorem lpR_le (tx : Nat → Int32) (L : Nat) : ∀ m p R, p ≤ L → (lpR tx L m p R).2.1 ≤ L
  | 0, _, _, h => h
  | m + 1, p, R, h => by
    simp only [lpR]
    split
    · exact h
    · split
      · exact lpR_le tx L m _ _ (SK_le (rcR_le h))
      · exact rcR_le h
/-- the whole TEXT -/
def rdR (tx : Nat → Int32) (L : Nat) : Bool × Nat × RR := if (wkR tx L 121 9 0).1 then (if (wkR tx L 111 6 (wkR tx L 121 9 0).2).1 then lpR tx L 7 (SK tx L (wkR tx L 111 6 (wkR tx L 121 9 0).2).2) R0 else (false, (wkR tx L 111 6 (wkR tx L 121 9 0).2).2, R0)) else (false, (wkR tx L 121 9 0).2, R0)
def rnR (tx : Nat → Int32) (L e : Nat) : Nat := fvN tx (SK tx L 0 + 1 + e)
def owR (tx : Nat → Int32) (L e : Nat) : Nat := fvN tx (SK tx L (wkR tx L 121 9 0).2 + 1 + e)
def PR (tx : Nat → Int32) (L : Nat) : RP := ((rdR tx L).2.2.1, (rdR tx L).2.2.2.1, (rdR tx L).2.2.2.2.1, (rdR tx L).2.2.2.2.2, rnR tx L)
theorem sets8 : ∀ g, g < 64 → pc6 g ≤ 3 → ((List.range 64).filter (fun s => s &&& g = s)).length ≤ 8 := by decide +kernel
theorem rdR_w {tx : Nat → Int32} {L : Nat} (h : (rdR tx L).1 = true) : (wkR tx L 121 9 0).1 = true ∧ (wkR tx L 111 6 (wkR tx L 121 9 0).2).1 = true ∧ rdR tx L = lpR tx L 7 (SK tx L (wkR tx L 111 6 (wkR tx L 121 9 0).2).2) R0 := by
  unfold rdR at h ⊢
  split at h
  · rename_i c1
    split at h
    · rename_i c2
      exact ⟨c1, c2, by rw [if_pos c1, if_pos c2]⟩
    · exact absurd (show false = true from h) (by decide)
  · exact absurd (show false = true from h) (by decide)
theorem rdR_okR (tx : Nat → Int32) (L : Nat) : okR (rdR tx L).2.2 := by
  unfold rdR
  split
  · split
    · exact lpR_ok tx L 7 _ _ okR0
    · exact okR0
  · exact okR0
theorem rdR_le (tx : Nat → Int32) (L : Nat) : (rdR tx L).2.1 ≤ L := by
  unfold rdR
  split
  · split
    · exact lpR_le tx L 7 _ _ (SK_le (wkR_le (wkR_le (Nat.zero_le _))))
    · exact wkR_le (wkR_le (Nat.zero_le _))
  · exact wkR_le (Nat.zero_le _)
theorem PR_ok {tx : Nat → Int32} {L : Nat} (h : (rdR tx L).1 = true) : okP (PR tx L) ∧ 0 < (PR tx L).1 ∧ ∀ e, e < 7 → owR tx L e ≤ 6 := by
  obtain ⟨w1, w2, e⟩ := rdR_w h
  obtain ⟨h1, h2, h3⟩ := rdR_okR tx L
  refine ⟨⟨h1, h3, fun d hd => ?_, ?_⟩, ?_, fun d hd => ?_⟩
  · exact (fg_v (by decide) (by decide) (wkR_fg w1 d hd)).2.2
  · exact sets8 _ (bitsN_64 _ h1) h2
  · show 0 < (rdR tx L).2.2.1
    rw [e] at h ⊢
    exact lpR_pos tx L 7 _ _ h
  · exact (fg_v (by decide) (by decide) (wkR_fg w2 d hd)).2.2
