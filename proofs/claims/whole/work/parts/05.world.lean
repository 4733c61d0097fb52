/-! The abstract machine's soundness: each instruction, by the kit's rows. -/
def TYS : Nat → FieldType
  | 0 => .int
  | 1 => .boolean
  | 2 => .array .int
  | _ => .object "RiverDays$Deeds"
def CLS : List vw_C := [(RX0, TX0, 9), (RX1, TX1, 8), (RX2, TX2, 10), (RX3, TX3, 3), (RX4, TX4, 5), (RX5, TX5, 10), (RX7, TX7, 3), (RX7, TX7, 3), (RX8, TX8, 3), (RX9, TX9, 17), (RX10, TX10, 36)]
/-- a class's fields: 0 int, 1 long, 2 reference -/
def FK : List (List Nat) := [[0, 0, 0, 0, 0, 2, 0, 2, 2], [2, 1, 1, 1, 0, 0, 0, 2], [0, 0, 0, 0, 2, 2, 2, 2, 2, 2], [0, 2, 2], [2, 2, 2, 2, 2], [2, 2, 0, 0, 0, 0, 0, 0, 2, 2], [], [2, 0, 0], [0, 2, 2], [2, 2, 2, 2, 2, 2, 2, 2, 2, 2, 2, 2, 2, 0, 0, 1, 1], [0, 2, 0, 1, 1, 2, 2, 2, 2, 2, 0, 2, 2, 2, 2, 2, 2, 2, 0, 2, 0, 0, 0, 2, 2, 0, 2, 2, 2, 2, 2, 0, 0, 2, 0, 1]]
abbrev LAM : Type := Nat → Nat × ClassId
def adr (Λ : LAM) (o : Option Nat) : Option Nat := o.map (fun a => (Λ a).1)
def cv (Λ : LAM) : AV → Value
  | .inl x => .int x
  | .inr (.inl x) => .long x
  | .inr (.inr o) => va_rf (adr Λ o)
def fldv (Λ : LAM) (A : AH) (k j : Nat) : Nat → Value
  | 0 => .int (A.1 k j)
  | 1 => .long (A.2.1 k j)
  | _ => va_rf (adr Λ (RF A.2.2 k j))
def flds (Λ : LAM) (A : AH) (k ci : Nat) : List Value := ((lgt FK ci).getD []).mapIdx (fun j t => fldv Λ A k j t)
def cellOf (Λ : LAM) (A : AH) (k : Nat) : SHP → va_E
  | .inl x => .inl ((Λ k).2, x.2, bif Nat.ble x.1 1 then .inl (A.1 k) else .inr (.inr (.inr (.inr (fun i => adr Λ (RF A.2.2 k i))))))
  | .inr ci => .inr (ci, flds Λ A k ci)
def WD (Λ : LAM) (A : AH) : va_W := SH.mapIdx (fun k s => ((Λ k).1, cellOf Λ A k s))
theorem lgt_eq {α : Type} : ∀ (l : List α) (n : Nat), lgt l n = l[n]?
  | [], n => by simp [lgt]
  | a :: t, 0 => by simp [lgt]
  | a :: t, n + 1 => by simp [lgt, lgt_eq t n]
theorem WD_at {Λ : LAM} {A : AH} {k : Nat} {s : SHP} (h : lgt SH k = some s) : (WD Λ A)[k]? = some ((Λ k).1, cellOf Λ A k s) := by
  rw [lgt_eq] at h
  simp [WD, List.getElem?_mapIdx, h]
theorem WD_set {Λ : LAM} {A B : AH} {a : Nat} {s : SHP} (h : lgt SH a = some s) (hk : ∀ k s', k ≠ a → cellOf Λ B k s' = cellOf Λ A k s') : (WD Λ A).set a ((Λ a).1, cellOf Λ B a s) = WD Λ B := by
  rw [lgt_eq] at h
  apply List.ext_getElem?
  intro k
  by_cases e : k = a
  · subst e
    have hl := (List.getElem?_eq_some_iff.mp h).1
    rw [List.getElem?_set_self (by simpa [WD] using hl)]
    simp [WD, List.getElem?_mapIdx, h]
  · rw [List.getElem?_set_ne (Ne.symm e)]
    simp only [WD, List.getElem?_mapIdx]
    cases hs : SH[k]? with
    | none => rfl
    | some s' => simp [hk k s' e]
theorem WD_D {Λ : LAM} {A B : AH} {F G : Nat → Prop} (h : va_D F (WD Λ A)) (hg : ∀ q, F q → G q) : va_D G (WD Λ B) := by
  have key : ∀ (k : Nat) (q : Nat × va_E), (WD Λ B)[k]? = some q → ∃ q', (WD Λ A)[k]? = some q' ∧ q'.1 = q.1 := by
    intro k q hq
    simp only [WD, List.getElem?_mapIdx] at hq ⊢
    cases hs : SH[k]? with
    | none => rw [hs] at hq; cases hq
    | some s' => rw [hs] at hq; cases hq; exact ⟨_, rfl, rfl⟩
  refine ⟨fun i j x y hi hj hxy => ?_, fun k q hk => ?_⟩
  · obtain ⟨x', h1, h2⟩ := key i x hi
    obtain ⟨y', h3, h4⟩ := key j y hj
    exact h.1 i j x' y' h1 h3 (h2.trans (hxy.trans h4.symm))
  · obtain ⟨q', h1, h2⟩ := key k q hk
    rw [← h2]
    exact hg _ (h.2 k q' h1)
theorem wrC_s {α : Type} {I : Nat → Nat → α} {a : Nat} {f : Nat → α} : wrC I a f a = f := if_pos rfl
theorem wrC_n {α : Type} {I : Nat → Nat → α} {a b : Nat} {f : Nat → α} (h : b ≠ a) : wrC I a f b = I b := if_neg h
-- facts of the tables that stay
def NW (U : State) : Prop := va_Nw (.methodLinkNest "RiverDays$Flow" 50 yX9_isVillage "RiverDays") U ∧ va_Nw (.methodLinkNest "RiverDays$Aside" 62 yX9_isVillage "RiverDays") U
def KD (D : va_G) (Λ : LAM) (U : State) : Prop := va_K D CLS [] U ∧ (∀ k t n, lgt SH k = some (.inl (t, n)) → va_K D CLS [((Λ k).2, TYS t)] U) ∧ NW U
theorem KD.warm {D : va_G} {Λ : LAM} {s U : State} (hW : s.WarmedH U.vm) (h : KD D Λ s) : KD D Λ U := ⟨va_K.moved hW.alike h.1, fun k t n e => va_K.moved hW.alike (h.2.1 k t n e), va_Nw.warmM hW h.2.2.1, va_Nw.warmM hW h.2.2.2⟩
theorem KD.call {D : va_G} {Λ : LAM} {U : State} {g : JFrame} {mk : MethodId} {a : Array Value} (h : KD D Λ U) : KD D Λ (U.calling g mk a) := ⟨va_K.moved (u := U) (U := U.calling g mk a) (Vm.Alike.refl U.vm) h.1, fun k t n e => va_K.moved (u := U) (U := U.calling g mk a) (Vm.Alike.refl U.vm) (h.2.1 k t n e), va_Nw.same rfl rfl h.2.2.1, va_Nw.same rfl rfl h.2.2.2⟩
-- locals
def LH (Λ : LAM) (ls : Array Slot) (nL : Nat) (L : LO) : Prop := ls.size = nL ∧ lv_wf ls ∧ ∀ (i : Nat) (v : AV), lg L i = some v → ls[i]? = some (.val (cv Λ v))
def tl (Λ : LAM) : Nat → LO → List (Nat × Value)
  | _, [] => []
  | n, none :: t => tl Λ (n + 1) t
  | n, some v :: t => (n, cv Λ v) :: tl Λ (n + 1) t
theorem tl_mem {Λ : LAM} : ∀ (L : LO) (n i : Nat) (v : AV), lg L i = some v → (n + i, cv Λ v) ∈ tl Λ n L
  | [], _, _, _, h => by simp [lg] at h
  | none :: t, n, 0, v, h => by simp [lg] at h
  | some w :: t, n, 0, v, h => by
    have e : w = v := by simpa [lg] using h
    subst e
    exact List.mem_cons_self
  | none :: t, n, i + 1, v, h => by
    have := tl_mem (Λ := Λ) t (n + 1) i v h
    rw [show n + (i + 1) = n + 1 + i by omega]
    exact this
  | some w :: t, n, i + 1, v, h => by
    have := tl_mem (Λ := Λ) t (n + 1) i v h
    rw [show n + (i + 1) = n + 1 + i by omega]
    exact List.mem_cons_of_mem _ this
theorem tl_of {Λ : LAM} : ∀ (L : LO) (n : Nat) (q : Nat × Value), q ∈ tl Λ n L → ∃ (i : Nat) (v : AV), q = (n + i, cv Λ v) ∧ lg L i = some v
  | [], _, _, h => by cases h
  | none :: t, n, q, h => by
    obtain ⟨i, v, e, hl⟩ := tl_of t (n + 1) q h
    exact ⟨i + 1, v, by rw [e, show n + 1 + i = n + (i + 1) by omega], hl⟩
  | some w :: t, n, q, h => by
    rcases List.mem_cons.mp h with h | h
    · exact ⟨0, w, h, rfl⟩
    · obtain ⟨i, v, e, hl⟩ := tl_of t (n + 1) q h
      exact ⟨i + 1, v, by rw [e, show n + 1 + i = n + (i + 1) by omega], hl⟩
theorem LH.to {Λ : LAM} {ls : Array Slot} {nL : Nat} {L : LO} (h : LH Λ ls nL L) : lv_has ls nL (tl Λ 0 L) := ⟨h.1, h.2.1, fun q hq => by
  obtain ⟨i, v, e, hl⟩ := tl_of L 0 q hq
  rw [e, Nat.zero_add]
  exact h.2.2 i v hl⟩
theorem lg_lst : ∀ (L : LO) (i j : Nat) (x : Option AV), lg (lst L i x) j = if j = i ∧ i < L.length then x else lg L j
  | [], i, j, x => by simp [lst, lg]
  | a :: t, 0, 0, x => by simp [lst, lg]
  | a :: t, 0, j + 1, x => by simp [lst, lg]
  | a :: t, i + 1, 0, x => by simp [lst, lg]
  | a :: t, i + 1, j + 1, x => by simp [lst, lg, lg_lst t i j x]
theorem lg_kill {L : LO} {i j : Nat} {v : AV} (h : lg (lkill L i) j = some v) : lg L j = some v ∧ ¬ (j + 1 = i ∧ cat v = 2) := by
  cases i with
  | zero => exact ⟨h, by omega⟩
  | succ i =>
    by_cases e : j = i
    · subst e
      have h' := h
      simp only [lkill] at h'
      split at h'
      · next x hx =>
        rw [lg_lst] at h'
        split at h'
        · cases h'
        · next hn =>
          rw [h'] at hx
          exact absurd ⟨rfl, by
            rcases Nat.lt_or_ge j L.length with q | q
            · exact q
            · exfalso
              have : ∀ (L : LO) (j : Nat), L.length ≤ j → lg L j = none := by
                intro L
                induction L with
                | nil => intro j _; simp [lg]
                | cons a t ih => intro j hj; cases j with
                  | zero => simp at hj
                  | succ j => exact ih j (by simpa using hj)
              rw [this L j q] at h'
              cases h'⟩ hn
      · next hx =>
        refine ⟨h', fun q => ?_⟩
        match v, q.2, h' with
        | .inr (.inl x), _, h' => exact hx x h'
    · refine ⟨?_, fun q => e (by omega)⟩
      simp only [lkill] at h
      split at h
      · rw [lg_lst, if_neg (fun q => e q.1)] at h
        exact h
      · exact h
theorem cv_cat (Λ : LAM) (v : AV) : (cv Λ v).category = cat v := by
  rcases v with x | x | (_ | x) <;> rfl
theorem LH.st1 {Λ : LAM} {ls : Array Slot} {nL : Nat} {L : LO} {i : Nat} {v : AV} (h : lv_has ls nL ((i, cv Λ v) :: (tl Λ 0 L).filter (fun q => !(q.1 == i) && !(q.1 + 1 == i && q.2.category == 2)))) : LH Λ ls nL (ls1 L i v) := by
  refine ⟨h.1, h.2.1, fun j w hj => ?_⟩
  rw [ls1, lg_lst] at hj
  split at hj
  · next e =>
    cases hj
    rw [e.1]
    exact h.2.2 _ List.mem_cons_self
  · next e =>
    obtain ⟨h1, h2⟩ := lg_kill hj
    by_cases eji : j = i
    · exfalso
      subst eji
      have hlen : (lkill L j).length = L.length := by
        have hl : ∀ (L : LO) (i : Nat) (x : Option AV), (lst L i x).length = L.length := by
          intro L
          induction L with
          | nil => intro i x; rfl
          | cons a t ih => intro i x; cases i with
            | zero => rfl
            | succ i => simp [lst, ih]
        cases j with
        | zero => rfl
        | succ j =>
          simp only [lkill]
          split
          · exact hl _ _ _
          · rfl
      have hno : ∀ (L : LO) (j : Nat), L.length ≤ j → lg L j = none := by
        intro L
        induction L with
        | nil => intro j _; simp [lg]
        | cons a t ih => intro j hj; cases j with
          | zero => simp at hj
          | succ j => exact ih j (by simpa using hj)
      have : lg (lkill L j) j = none := hno _ _ (by
        rcases Nat.lt_or_ge j (lkill L j).length with q | q
        · exact absurd ⟨rfl, q⟩ e
        · exact q)
      rw [this] at hj
      cases hj
    · have hm := tl_mem (Λ := Λ) L 0 j w h1
      rw [Nat.zero_add] at hm
      refine h.2.2 (j, cv Λ w) (List.mem_cons_of_mem _ (List.mem_filter.mpr ⟨hm, ?_⟩))
      simp only [Bool.and_eq_true, Bool.not_eq_true', beq_eq_false_iff_ne, ne_eq, Bool.and_eq_false_iff]
      refine ⟨eji, ?_⟩
      by_cases e2 : j + 1 = i
      · right
        rw [cv_cat]
        exact fun q => h2 ⟨e2, q⟩
      · left
        exact e2
theorem LH.st2 {Λ : LAM} {ls : Array Slot} {nL : Nat} {L : LO} {i : Nat} {v : AV} (h : lv_has ls nL ((i, cv Λ v) :: (tl Λ 0 L).filter (fun q => !(q.1 == i) && (!(q.1 == i + 1) && !(q.1 + 1 == i && q.2.category == 2))))) : LH Λ ls nL (ls2 L i v) := by
  refine ⟨h.1, h.2.1, fun j w hj => ?_⟩
  rw [ls2, lg_lst] at hj
  have hl : ∀ (L : LO) (i : Nat) (x : Option AV), (lst L i x).length = L.length := by
    intro L
    induction L with
    | nil => intro i x; rfl
    | cons a t ih => intro i x; cases i with
      | zero => rfl
      | succ i => simp [lst, ih]
  have hno : ∀ (L : LO) (j : Nat), L.length ≤ j → lg L j = none := by
    intro L
    induction L with
    | nil => intro j _; simp [lg]
    | cons a t ih => intro j hj; cases j with
      | zero => simp at hj
      | succ j => exact ih j (by simpa using hj)
  split at hj
  · cases hj
  · next e1 =>
    have n1 : j ≠ i + 1 := by
      intro q
      subst q
      rw [hno _ _ (by
        rcases Nat.lt_or_ge (i + 1) (lst (lkill L i) i (some v)).length with z | z
        · exact absurd ⟨rfl, z⟩ e1
        · exact z)] at hj
      cases hj
    rw [lg_lst] at hj
    split at hj
    · next e =>
      cases hj
      rw [e.1]
      exact h.2.2 _ List.mem_cons_self
    · next e =>
      have n2 : j ≠ i := by
        intro q
        subst q
        rw [hno _ _ (by
          rcases Nat.lt_or_ge j (lkill L j).length with z | z
          · exact absurd ⟨rfl, z⟩ e
          · exact z)] at hj
        cases hj
      obtain ⟨h1, h2⟩ := lg_kill hj
      have hm := tl_mem (Λ := Λ) L 0 j w h1
      rw [Nat.zero_add] at hm
      refine h.2.2 (j, cv Λ w) (List.mem_cons_of_mem _ (List.mem_filter.mpr ⟨hm, ?_⟩))
      simp only [Bool.and_eq_true, Bool.not_eq_true', beq_eq_false_iff_ne, ne_eq, Bool.and_eq_false_iff]
      refine ⟨n2, n1, ?_⟩
      by_cases e2 : j + 1 = i
      · right
        rw [cv_cat]
        exact fun q => h2 ⟨e2, q⟩
      · left
        exact e2
theorem lg_keep {lv : List Nat} : ∀ (L : LO) (n i : Nat) (v : AV), lg (keepL lv n L) i = some v → lg L i = some v
  | [], _, _, _, h => by simp [keepL, lg] at h
  | a :: t, n, 0, v, h => by
    have h : (bif elem n lv then a else none) = some v := h
    cases hb : elem n lv with
    | true => rw [hb] at h; exact h
    | false => rw [hb] at h; cases h
  | a :: t, n, i + 1, v, h => lg_keep t (n + 1) i v h
theorem LH.keep {Λ : LAM} {ls : Array Slot} {nL : Nat} {L : LO} (lv : List Nat) (h : LH Λ ls nL L) : LH Λ ls nL (keepL lv 0 L) := ⟨h.1, h.2.1, fun i v hi => h.2.2 i v (lg_keep L 0 i v hi)⟩
theorem ent_args {Λ : LAM} : ∀ (as : List AV) (n i : Nat) (v : AV), lg (ent as) i = some v → (n + i, cv Λ v) ∈ lv_args n (as.map (cv Λ))
  | [], _, _, _, h => by simp [ent, lg] at h
  | .inl x :: t, n, 0, v, h => by
    have e : Sum.inl x = v := by simpa [ent, lg] using h
    subst e
    exact List.mem_cons_self
  | .inr (.inr x) :: t, n, 0, v, h => by
    have e : Sum.inr (Sum.inr x) = v := by simpa [ent, lg] using h
    subst e
    exact List.mem_cons_self
  | .inr (.inl x) :: t, n, 0, v, h => by
    have e : Sum.inr (Sum.inl x) = v := by simpa [ent, lg] using h
    subst e
    exact List.mem_cons_self
  | .inl x :: t, n, i + 1, v, h => by
    have := ent_args (Λ := Λ) t (n + 1) i v h
    rw [show n + (i + 1) = n + 1 + i by omega]
    exact List.mem_cons_of_mem _ this
  | .inr (.inr x) :: t, n, i + 1, v, h => by
    have := ent_args (Λ := Λ) t (n + 1) i v h
    rw [show n + (i + 1) = n + 1 + i by omega]
    refine List.mem_cons_of_mem _ ?_
    rw [if_neg (by rw [cv_cat]; simp [cat])]
    exact this
  | .inr (.inl x) :: t, n, 1, v, h => by simp [ent, lg] at h
  | .inr (.inl x) :: t, n, i + 2, v, h => by
    have := ent_args (Λ := Λ) t (n + 2) i v h
    rw [show n + (i + 2) = n + 2 + i by omega]
    exact List.mem_cons_of_mem _ this
theorem lg_pad (n : Nat) : ∀ (L : LO) (i : Nat) (v : AV), lg (padL n L) i = some v → lg L i = some v := by
  have hr : ∀ (k i : Nat) (v : AV), lg (List.replicate k (none : Option AV)) i ≠ some v := by
    intro k
    induction k with
    | zero => intro i v; simp [lg]
    | succ k ih => intro i v; cases i with
      | zero => simp [List.replicate_succ, lg]
      | succ i => simpa [List.replicate_succ, lg] using ih i v
  have key : ∀ (L : LO) (k i : Nat) (v : AV), lg (L ++ List.replicate k none) i = some v → lg L i = some v := by
    intro L
    induction L with
    | nil => intro k i v h; exact absurd h (hr k i v)
    | cons a t ih => intro k i v h; cases i with
      | zero => exact h
      | succ i => exact ih k i v h
  intro L i v h
  exact key L _ i v h
