/-! BREAKING, in plain numbers -/
def lsm (f : Nat → Nat) : List Nat → Nat
  | [] => 0
  | a :: l => f a + lsm f l
theorem lsm_app (f : Nat → Nat) : ∀ l r, lsm f (l ++ r) = lsm f l + lsm f r
  | [], r => by show lsm f r = 0 + lsm f r; omega
  | a :: l, r => by
    show f a + lsm f (l ++ r) = f a + lsm f l + lsm f r
    rw [lsm_app f l r]; omega
theorem lsm_rev (f : Nat → Nat) : ∀ l, lsm f l.reverse = lsm f l
  | [] => rfl
  | a :: l => by
    rw [List.reverse_cons, lsm_app, lsm_rev f l]
    show lsm f l + (f a + 0) = f a + lsm f l
    omega
theorem lsm_map (f h : Nat → Nat) : ∀ l, lsm f (l.map h) = lsm (fun x => f (h x)) l
  | [] => rfl
  | a :: l => by
    show f (h a) + lsm f (l.map h) = f (h a) + lsm (fun x => f (h x)) l
    rw [lsm_map f h l]
theorem lsm_fil (f : Nat → Nat) (q : Nat → Bool) (hz : ∀ x, q x = false → f x = 0) : ∀ l, lsm f (l.filter q) = lsm f l
  | [] => rfl
  | a :: l => by
    have hcc : q a = true ∨ q a = false := by cases q a <;> simp
    rcases hcc with c | c
    · rw [List.filter_cons_of_pos c]
      show f a + lsm f (l.filter q) = f a + lsm f l
      rw [lsm_fil f q hz l]
    · rw [List.filter_cons_of_neg (by rw [c]; exact Bool.false_ne_true)]
      show lsm f (l.filter q) = f a + lsm f l
      rw [lsm_fil f q hz l, hz a c]; omega
theorem sumN_range (f : Nat → Nat) : ∀ n, sumN f n = lsm f (List.range n)
  | 0 => rfl
  | n + 1 => by
    rw [List.range_succ, lsm_app, ← sumN_range f n]
    show sumN f n + f n = sumN f n + (f n + 0)
    omega
theorem sumN_sh (g : Nat → Nat) : ∀ n, sumN g (n + 1) = g 0 + sumN (fun e => g (e + 1)) n
  | 0 => by show 0 + g 0 = g 0 + 0; omega
  | n + 1 => by
    show sumN g (n + 1) + g (n + 1) = g 0 + (sumN (fun e => g (e + 1)) n + g (n + 1))
    rw [sumN_sh g n]; omega
theorem sumN_get (f : Nat → Nat) : ∀ l : List Nat, sumN (fun e => f (l.getD e 0)) l.length = lsm f l
  | [] => rfl
  | a :: l => by
    show sumN (fun e => f ((a :: l).getD e 0)) (l.length + 1) = f a + lsm f l
    rw [sumN_sh, ← sumN_get f l]
    rfl
theorem sumN_mul (a : Nat) (f : Nat → Nat) : ∀ n, sumN (fun i => a * f i) n = a * sumN f n
  | 0 => rfl
  | n + 1 => by
    show sumN (fun i => a * f i) n + a * f n = a * (sumN f n + f n)
    rw [sumN_mul a f n, Nat.mul_add]
theorem sumN_0 : ∀ n, sumN (fun _ => 0) n = 0
  | 0 => rfl
  | n + 1 => by show sumN (fun _ => 0) n + 0 = 0; rw [sumN_0 n]
theorem sumN_swap (f : Nat → Nat → Nat) (m : Nat) : ∀ n, sumN (fun i => sumN (fun j => f i j) m) n = sumN (fun j => sumN (fun i => f i j) n) m
  | 0 => by
    show 0 = sumN (fun _ => 0) m
    rw [sumN_0]
  | n + 1 => by
    show sumN (fun i => sumN (fun j => f i j) m) n + sumN (fun j => f n j) m = sumN (fun j => sumN (fun i => f i j) n + f n j) m
    rw [sumN_swap f m n, sumN_add]
theorem sumN_spl (f : Nat → Nat) (n : Nat) : ∀ k, sumN f (n + k) = sumN f n + sumN (fun i => f (i + n)) k
  | 0 => rfl
  | k + 1 => by
    show sumN f (n + k) + f (n + k) = sumN f n + (sumN (fun i => f (i + n)) k + f (k + n))
    rw [sumN_spl f n k, Nat.add_comm n k]; omega
theorem sumN_blk (f : Nat → Nat) (a : Nat) : ∀ b, sumN f (a * b) = sumN (fun j => sumN (fun i => f (i + a * j)) a) b
  | 0 => rfl
  | b + 1 => by
    rw [Nat.mul_succ, sumN_spl, sumN_blk f a b]
    rfl
theorem sumN_le {f g : Nat → Nat} (h : ∀ i, f i ≤ g i) : ∀ n, sumN f n ≤ sumN g n
  | 0 => Nat.le_refl _
  | n + 1 => by
    have := sumN_le h n
    have := h n
    show sumN f n + f n ≤ sumN g n + g n
    omega
/-- ones among the first c bits -/
def pcN (b c : Nat) : Nat := sumN (fun k => if b.testBit k then 1 else 0) c
theorem pcN_le (b : Nat) : ∀ c, pcN b c ≤ c
  | 0 => Nat.le_refl _
  | c + 1 => by
    have := pcN_le b c
    show pcN b c + (if b.testBit c then 1 else 0) ≤ c + 1
    split <;> omega
theorem pcN_app {b0 b c : Nat} (h : b0 < 2 ^ c) : ∀ D, pcN (b0 + 2 ^ c * b) (c + D) = pcN b0 c + pcN b D := by
  intro D
  unfold pcN
  rw [sumN_spl]
  congr 1
  · apply sumN_ext
    intro i hi
    rw [Nat.add_comm b0, Nat.testBit_two_pow_mul_add _ h, show (if i < c then b0.testBit i else b.testBit (i - c)) = b0.testBit i from if_pos hi]
  · apply sumN_ext
    intro i hi
    rw [Nat.add_comm b0, Nat.testBit_two_pow_mul_add _ h, show (if i + c < c then b0.testBit (i + c) else b.testBit (i + c - c)) = b.testBit i by rw [if_neg (show ¬ i + c < c by omega), Nat.add_sub_cancel]]
/-- what of a set still holds, by which of its weirs broke -/
def hbA (s b : Nat) : Nat → Nat × Nat
  | 0 => (0, 0)
  | i + 1 => if s.testBit i then ((hbA s b i).1 + (if b.testBit (hbA s b i).2 then 0 else 2 ^ i), (hbA s b i).2 + 1) else hbA s b i
def hb (s b : Nat) : Nat := (hbA s b 6).1
theorem hbA_t {s b i : Nat} (h : s.testBit i = true) : hbA s b (i + 1) = ((hbA s b i).1 + (if b.testBit (hbA s b i).2 then 0 else 2 ^ i), (hbA s b i).2 + 1) := if_pos h
theorem hbA_f {s b i : Nat} (h : ¬ s.testBit i = true) : hbA s b (i + 1) = hbA s b i := if_neg h
theorem hbA_2 (s b : Nat) : ∀ i, (hbA s b i).2 = pcN s i
  | 0 => rfl
  | i + 1 => by
    have e : pcN s (i + 1) = pcN s i + (if s.testBit i then 1 else 0) := rfl
    by_cases c : s.testBit i = true
    · rw [hbA_t c, e, if_pos c, ← hbA_2 s b i]
    · rw [hbA_f c, e, if_neg c, hbA_2 s b i]; rfl
theorem hbA_1 (s b : Nat) : ∀ i, (hbA s b i).1 < 2 ^ i
  | 0 => by show 0 < 1; omega
  | i + 1 => by
    have := hbA_1 s b i
    have e : 2 ^ (i + 1) = 2 ^ i + 2 ^ i := by rw [Nat.pow_succ]; omega
    by_cases c : s.testBit i = true
    · rw [hbA_t c]
      show (hbA s b i).1 + (if b.testBit (hbA s b i).2 then 0 else 2 ^ i) < _
      split <;> omega
    · rw [hbA_f c]; omega
theorem pcN_mono (s : Nat) {i j : Nat} (h : i ≤ j) : pcN s i ≤ pcN s j := by
  obtain ⟨k, rfl⟩ : ∃ k, j = i + k := ⟨j - i, by omega⟩
  unfold pcN
  rw [sumN_spl]
  omega
theorem hbA_ext {s b b' : Nat} : ∀ i, (∀ j, j < pcN s i → b.testBit j = b'.testBit j) → hbA s b i = hbA s b' i
  | 0, _ => rfl
  | i + 1, h => by
    have e : pcN s (i + 1) = pcN s i + (if s.testBit i then 1 else 0) := rfl
    have ih := hbA_ext (s := s) (b := b) (b' := b') i (fun j hj => h j (by rw [e]; omega))
    by_cases c : s.testBit i = true
    · rw [hbA_t c, hbA_t c, ih, h (hbA s b' i).2 (by rw [e, if_pos c, hbA_2]; omega)]
    · rw [hbA_f c, hbA_f c, ih]
theorem hb_ext {s b b' : Nat} (hs : s < 64) (h : ∀ j, j < pc6 s → b.testBit j = b'.testBit j) : hb s b = hb s b' := by
  unfold hb
  rw [hbA_ext 6 (fun j hj => h j (by rw [← pc6_t s hs]; exact hj))]
theorem hb_low {s b : Nat} (hs : s < 64) : hb s b = hb s (b % 2 ^ pc6 s) := hb_ext hs (fun j hj => by rw [Nat.testBit_mod_two_pow]; simp [hj])
/-- what of a set isn't in another -/
def dnN (s h : Nat) : Nat := s &&& (63 ^^^ h)
theorem hb_all : ∀ s, s < 64 → ((List.range (2 ^ pc6 s)).map (hb s)).reverse = (List.range 64).filter (fun x => x &&& s = x) := by decide +kernel
theorem hb_one : ∀ s, s < 64 → ∀ b, b < 2 ^ pc6 s → hb s b &&& s = hb s b ∧ pc6 (hb s b) = pc6 s - pcN b (pc6 s) ∧ pc6 (dnN s (hb s b)) = pcN b (pc6 s) := by decide +kernel
theorem hb_sub {s b : Nat} (hs : s < 64) : hb s b &&& s = hb s b := by
  rw [hb_low hs]
  exact (hb_one s hs _ (Nat.mod_lt _ (Nat.pow_pos (by decide)))).1
def wtN (p s h : Nat) : Nat := if h &&& s = h then (12 - p) ^ pc6 h * p ^ pc6 (dnN s h) else 0
theorem wt_hb {p s b : Nat} (hs : s < 64) (hb' : b < 2 ^ pc6 s) : wtN p s (hb s b) = p ^ pcN b (pc6 s) * (12 - p) ^ (pc6 s - pcN b (pc6 s)) := by
  obtain ⟨h1, h2, h3⟩ := hb_one s hs b hb'
  rw [wtN, if_pos h1, h2, h3, Nat.mul_comm]
theorem and_sub {x s g : Nat} (h1 : x &&& s = x) (h2 : s &&& g = s) : x &&& g = x := by
  rw [← h1, Nat.and_assoc, h2]
/-- a DAY: by what broke, or by what still holds -/
theorem day_eq {P : RP} (hn : P.1 ≤ 6) {s p : Nat} (hs : s &&& gatN P = s) (F : Nat → Nat) : sumN (fun b => F (hb s b) * (p ^ pcN b (pc6 s) * (12 - p) ^ (pc6 s - pcN b (pc6 s)))) (2 ^ pc6 s) = sumN (fun e => F (stN P e) * wtN p s (stN P e)) (mS P) := by
  have h64 := sub64 hn hs
  have e1 : sumN (fun b => F (hb s b) * (p ^ pcN b (pc6 s) * (12 - p) ^ (pc6 s - pcN b (pc6 s)))) (2 ^ pc6 s) = sumN (fun b => (fun x => F x * wtN p s x) (hb s b)) (2 ^ pc6 s) := sumN_ext _ (fun b hb' => by
    show _ = F (hb s b) * wtN p s (hb s b)
    rw [wt_hb h64 hb'])
  have e2 := sumN_get (fun x => F x * wtN p s x) (setsN P)
  rw [e1, sumN_range, ← lsm_map (fun x => F x * wtN p s x) (hb s), ← lsm_rev, hb_all s h64]
  show _ = sumN (fun e => (fun x => F x * wtN p s x) ((setsN P).getD e 0)) (setsN P).length
  rw [e2, ← lsm_fil (fun x => F x * wtN p s x) (fun x => decide (x &&& s = x)) (fun x hx => by
    show F x * wtN p s x = 0
    rw [wtN, if_neg (of_decide_eq_false hx), Nat.mul_zero]) (setsN P)]
  congr 1
  unfold setsN
  rw [List.filter_filter]
  apply List.filter_congr
  intro x _
  by_cases c : x &&& s = x
  · have := and_sub c hs
    simp [c, this]
  · simp [c]
theorem day_12 : ∀ p, p ≤ 12 → ∀ s, s < 64 → sumN (fun b => 1 * (p ^ pcN b (pc6 s) * (12 - p) ^ (pc6 s - pcN b (pc6 s)))) (2 ^ pc6 s) = 12 ^ pc6 s := by decide +kernel
theorem wt_all {P : RP} (hn : P.1 ≤ 6) {s p : Nat} (hp : p ≤ 12) (hs : s &&& gatN P = s) : sumN (fun e => wtN p s (stN P e)) (mS P) = 12 ^ pc6 s := by
  have h := day_eq hn (p := p) hs (fun _ => 1)
  rw [day_12 p hp s (sub64 hn hs)] at h
  rw [h]
  apply sumN_ext
  intro i _
  rw [Nat.one_mul]
theorem sumN_mem {f : Nat → Nat} {i : Nat} : ∀ {n}, i < n → f i ≤ sumN f n
  | 0, h => absurd h (by omega)
  | n + 1, h => by
    show f i ≤ sumN f n + f n
    by_cases c : i = n
    · subst c; omega
    · have := sumN_mem (f := f) (i := i) (n := n) (by omega)
      omega
theorem wt_le {P : RP} (hn : P.1 ≤ 6) {s p e : Nat} (hp : p ≤ 12) (hs : s &&& gatN P = s) (he : e < mS P) : wtN p s (stN P e) ≤ 12 ^ pc6 s := by
  rw [← wt_all hn hp hs]
  exact sumN_mem (f := fun e => wtN p s (stN P e)) he
/-- the class's sum, a DAY within another -/
def clT (P : RP) (p : Nat) (ss : Nat → Nat) (V : (Nat → Nat) → Nat) : Nat → Nat → (Nat → Nat) → Nat → Nat
  | 0, _, hh, w => w * V hh
  | r + 1, k, hh, w => sumN (fun e => clT P p ss V r (k + 1) (up1 hh k (stN P e)) (w * wtN p (ss k) (stN P e))) (mS P)
theorem clT_lin (P : RP) (p : Nat) (ss : Nat → Nat) (V : (Nat → Nat) → Nat) : ∀ r k hh w y, clT P p ss V r k hh (w * y) = clT P p ss V r k hh w * y
  | 0, _, hh, w, y => by
    show w * y * V hh = w * V hh * y
    rw [Nat.mul_right_comm]
  | r + 1, k, hh, w, y => by
    show sumN (fun e => clT P p ss V r (k + 1) (up1 hh k (stN P e)) (w * y * wtN p (ss k) (stN P e))) (mS P) = sumN (fun e => clT P p ss V r (k + 1) (up1 hh k (stN P e)) (w * wtN p (ss k) (stN P e))) (mS P) * y
    rw [Nat.mul_comm (sumN _ _) y, ← sumN_mul]
    apply sumN_ext
    intro e _
    rw [Nat.mul_right_comm, clT_lin P p ss V r, Nat.mul_comm]
theorem clT_0 (P : RP) (p : Nat) (ss : Nat → Nat) (V : (Nat → Nat) → Nat) (r k : Nat) (hh : Nat → Nat) : clT P p ss V r k hh 0 = 0 := by
  have := clT_lin P p ss V r k hh 0 0
  rwa [Nat.mul_zero, Nat.mul_zero] at this
def DkN (ss : Nat → Nat) (r k : Nat) : Nat := sumN (fun i => pc6 (ss (k + i))) r
theorem DkN_s (ss : Nat → Nat) (r k : Nat) : DkN ss (r + 1) k = pc6 (ss k) + DkN ss r (k + 1) := by
  unfold DkN
  rw [sumN_sh]
  congr 1
  apply sumN_ext
  intro i _
  show pc6 (ss (k + (i + 1))) = _
  rw [show k + (i + 1) = k + 1 + i by omega]
theorem clT_le {P : RP} (hn : P.1 ≤ 6) {p : Nat} (hp : p ≤ 12) {ss : Nat → Nat} (hs : ∀ k, ss k &&& gatN P = ss k) {V : (Nat → Nat) → Nat} {M : Nat} (hV : ∀ h, V h ≤ M) : ∀ r k hh w, clT P p ss V r k hh w ≤ w * M * 12 ^ DkN ss r k
  | 0, k, hh, w => by
    show w * V hh ≤ w * M * 12 ^ 0
    rw [Nat.pow_zero, Nat.mul_one]
    exact Nat.mul_le_mul_left _ (hV hh)
  | r + 1, k, hh, w => by
    have h1 : ∀ e, clT P p ss V r (k + 1) (up1 hh k (stN P e)) (w * wtN p (ss k) (stN P e)) ≤ (w * M * 12 ^ DkN ss r (k + 1)) * wtN p (ss k) (stN P e) := fun e => by
      rw [clT_lin]
      exact Nat.mul_le_mul_right _ (clT_le hn hp hs hV r (k + 1) _ w)
    refine Nat.le_trans (sumN_le h1 (mS P)) ?_
    rw [sumN_mul, wt_all hn hp (hs k), DkN_s, Nat.pow_add, Nat.mul_assoc _ (12 ^ DkN ss r (k + 1)), Nat.mul_comm (12 ^ DkN ss r (k + 1))]
    exact Nat.le_refl _
/-- the sets by what broke -/
def exB (ss hh : Nat → Nat) (k b j : Nat) : Nat := if j < k then hh j else hb (ss j) (b / 2 ^ DkN ss (j - k) k)
theorem br_eq {P : RP} (hn : P.1 ≤ 6) {p : Nat} {ss : Nat → Nat} (hs : ∀ k, ss k &&& gatN P = ss k) {V : (Nat → Nat) → Nat} {n : Nat} (hV : ∀ h h', (∀ j, j < n → h j = h' j) → V h = V h') : ∀ r k hh w, k + r = n → sumN (fun b => w * V (exB ss hh k b) * (p ^ pcN b (DkN ss r k) * (12 - p) ^ (DkN ss r k - pcN b (DkN ss r k)))) (2 ^ DkN ss r k) = clT P p ss V r k hh w
  | 0, k, hh, w, hk => by
    show 0 + w * V (exB ss hh k 0) * (1 * 1) = w * V hh
    rw [Nat.zero_add, Nat.mul_one, hV (exB ss hh k 0) hh (fun j hj => if_pos (by omega))]
  | r + 1, k, hh, w, hk => by
    have h64 := sub64 hn (hs k)
    have ih := br_eq hn (p := p) hs hV r (k + 1)
    rw [DkN_s, Nat.pow_add, sumN_blk, sumN_swap]
    have key : ∀ b0, b0 < 2 ^ pc6 (ss k) → sumN (fun b' => w * V (exB ss hh k (b0 + 2 ^ pc6 (ss k) * b')) * (p ^ pcN (b0 + 2 ^ pc6 (ss k) * b') (pc6 (ss k) + DkN ss r (k + 1)) * (12 - p) ^ (pc6 (ss k) + DkN ss r (k + 1) - pcN (b0 + 2 ^ pc6 (ss k) * b') (pc6 (ss k) + DkN ss r (k + 1))))) (2 ^ DkN ss r (k + 1)) = clT P p ss V r (k + 1) (up1 hh k (hb (ss k) b0)) w * (p ^ pcN b0 (pc6 (ss k)) * (12 - p) ^ (pc6 (ss k) - pcN b0 (pc6 (ss k)))) := by
      intro b0 hb0
      rw [← clT_lin, ← ih (up1 hh k (hb (ss k) b0)) _ (by omega)]
      apply sumN_ext
      intro b' _
      have l1 := pcN_le b0 (pc6 (ss k))
      have l2 := pcN_le b' (DkN ss r (k + 1))
      have eV : V (exB ss hh k (b0 + 2 ^ pc6 (ss k) * b')) = V (exB ss (up1 hh k (hb (ss k) b0)) (k + 1) b') := hV _ _ (fun j hj => by
        unfold exB
        by_cases c1 : j < k
        · rw [if_pos c1, if_pos (by omega), up1_at, if_neg (by omega)]
        · by_cases c2 : j = k
          · subst c2
            rw [if_neg c1, if_pos (by omega), up1_at, if_pos rfl, Nat.sub_self]
            show hb (ss j) ((b0 + 2 ^ pc6 (ss j) * b') / 2 ^ 0) = hb (ss j) b0
            rw [Nat.pow_zero, Nat.div_one, hb_low h64, Nat.add_mul_mod_self_left, ← hb_low h64]
          · rw [if_neg c1, if_neg (by omega), show j - k = j - (k + 1) + 1 by omega, DkN_s, Nat.pow_add, ← Nat.div_div_eq_div_mul, Nat.add_mul_div_left _ _ (Nat.pow_pos (by decide)), Nat.div_eq_of_lt hb0, Nat.zero_add])
      rw [eV, pcN_app hb0, show pc6 (ss k) + DkN ss r (k + 1) - (pcN b0 (pc6 (ss k)) + pcN b' (DkN ss r (k + 1))) = (pc6 (ss k) - pcN b0 (pc6 (ss k))) + (DkN ss r (k + 1) - pcN b' (DkN ss r (k + 1))) by omega, Nat.pow_add, Nat.pow_add]
      ac_rfl
    rw [sumN_ext _ key, day_eq hn (hs k) (fun x => clT P p ss V r (k + 1) (up1 hh k x) w)]
    show _ = sumN (fun e => clT P p ss V r (k + 1) (up1 hh k (stN P e)) (w * wtN p (ss k) (stN P e))) (mS P)
    apply sumN_ext
    intro e _
    rw [clT_lin]
theorem gat3 : ∀ g, g < 64 → ((List.range 64).filter (fun s => s &&& g = s)).length ≤ 8 → pc6 g ≤ 3 := by decide +kernel
theorem pc6_sub : ∀ g, g < 64 → ∀ s, s < 64 → s &&& g = s → pc6 s ≤ pc6 g := by decide +kernel
theorem pc3 {P : RP} (hP : okP P) {s : Nat} (h : s &&& gatN P = s) : pc6 s ≤ 3 := Nat.le_trans (pc6_sub _ (bitsN_64 _ hP.1) _ (sub64 hP.1 h) h) (gat3 _ (bitsN_64 _ hP.1) hP.2.2.2)
theorem DkN_le {P : RP} (hP : okP P) {ss : Nat → Nat} (hs : ∀ k, ss k &&& gatN P = ss k) : ∀ r k, DkN ss r k ≤ 3 * r
  | 0, _ => Nat.le_refl _
  | r + 1, k => by
    have := DkN_le hP hs r (k + 1)
    have := pc3 hP (hs k)
    rw [DkN_s]; omega
theorem Dk0 (ss : Nat → Nat) (r : Nat) : DkN ss r 0 = shN ss r := by
  unfold DkN shN
  apply sumN_ext
  intro i _
  rw [Nat.zero_add]
