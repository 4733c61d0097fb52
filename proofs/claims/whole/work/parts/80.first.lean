/-! THE FIRST HEAP, AND THE LAW FROM ITS ENTRY -/
def I0 : Nat → Nat → Int32 := fun k => bif Nat.beq k 1 then (fun j => bif Nat.beq j 0 then (40) else 0) else bif Nat.beq k 9 then (upd (upd (upd (upd (upd (upd (fun _ => 0) 0 (-1)) 1 (-1)) 2 (-1)) 3 (-1)) 4 (-1)) 5 (-1)) else bif Nat.beq k 10 then (fun j => bif Nat.beq j 0 then (60) else 0) else bif Nat.beq k 16 then (upd (upd (upd (upd (fun _ => 0) 0 (-1)) 1 (-1)) 2 (-1)) 3 (-1)) else bif Nat.beq k 39 then (fun j => bif Nat.beq j 0 then (-1) else 0) else bif Nat.beq k 52 then (fun j => bif Nat.beq j 0 then (-1) else 0) else bif Nat.beq k 63 then (fun j => bif Nat.beq j 0 then (-1) else 0) else bif Nat.beq k 87 then (fun j => bif Nat.beq j 32 then (-9) else 0) else bif Nat.beq k 89 then (upd (upd (upd (upd (upd (upd (fun _ => 0) 0 (-9)) 1 (-9)) 2 (-9)) 3 (-9)) 4 (-9)) 5 (-9)) else bif Nat.beq k 92 then (upd (upd (upd (upd (fun _ => 0) 0 (-9)) 1 (-9)) 2 (-9)) 3 (-9)) else fun _ => 0
def J0 : Nat → Nat → Int64 := fun k => bif Nat.beq k 0 then (fun j => bif Nat.beq j 16 then 1 else 0) else bif Nat.beq k 61 then (fun j => bif Nat.beq j 3 then 1 else 0) else bif Nat.beq k 87 then (fun j => bif Nat.beq j 4 then 1 else 0) else fun _ => 0
def P0 : RP := (0, fun _ => 0, fun _ => 0, fun _ => 0, fun _ => 0)
theorem flow0 (sh vl : Nat → Nat) : flowN P0 sh vl 0 = (fun _ => 0, fun _ => 0, fun _ => 0, fun _ => 0) := by
  show ((fun i => if i < 0 then 0 else 0, fun _ => 0, fun _ => 0, fun _ => 0) : FS) = _
  rw [show (fun i : Nat => if i < 0 then (0 : Nat) else 0) = fun _ => 0 from funext fun i => if_neg (Nat.not_lt_zero i)]
theorem rel0 : Rel I0 J0 := by
  refine ⟨⟨by decide, fun j hj => Or.inl ?_⟩, ⟨by decide, fun j hj => Or.inl ?_⟩, ⟨by decide, fun f _ => rfl⟩, ⟨by decide, by decide, by decide⟩, P0, fun _ => 0, 0, fun _ => 0, fun _ => 0, fun _ => false, fun _ => 0, fun _ _ => 0, fun _ _ => 0, ?_⟩
  · rcases (show j = 0 ∨ j = 1 ∨ j = 2 ∨ j = 3 ∨ j = 4 ∨ j = 5 by omega) with rfl | rfl | rfl | rfl | rfl | rfl <;> exact ⟨by decide, by decide⟩
  · rcases (show j = 0 ∨ j = 1 ∨ j = 2 ∨ j = 3 by omega) with rfl | rfl | rfl | rfl <;> exact ⟨by decide, by decide⟩
  · rw [flow0]
    refine ⟨⟨Nat.zero_le _, fun i hi => absurd hi (Nat.not_lt_zero i), fun _ _ => Nat.zero_le _, by decide +kernel⟩, fun _ _ => Nat.zero_le _, ?_, ?_, fun _ => rfl, fun i _ => ⟨rfl, rfl, rfl⟩, fun v _ => rfl, fun k _ => ⟨rfl, rfl, fun h => by cases h⟩, rfl, by decide, rfl, by decide, fun i hi => absurd hi (Nat.not_lt_zero i), fun d _ => ⟨rfl, rfl, rfl⟩, fun t ht => absurd ht (Nat.not_lt_zero t)⟩
    · exact ⟨rfl, by decide, by decide, fun i hi => absurd hi (Nat.not_lt_zero i), fun d _ => ⟨rfl, rfl⟩, fun h => absurd h (Nat.lt_irrefl 0)⟩
    · exact ⟨Nat.zero_le _, rfl, fun t ht => absurd ht (Nat.not_lt_zero t)⟩
/-- the cells of a list are those of the first heap -/
def AllC (ws : va_W) (Λ : LAM) (A : AH) : Nat → List SHP → Prop
  | _, [] => True
  | k, s :: t => ws[k]? = some ((Λ k).1, cellOf Λ A k s) ∧ AllC ws Λ A (k + 1) t
theorem AllC.at {ws : va_W} {Λ : LAM} {A : AH} : ∀ (l : List SHP) (k i : Nat) (s : SHP), AllC ws Λ A k l → l[i]? = some s → ws[k + i]? = some ((Λ (k + i)).1, cellOf Λ A (k + i) s)
  | [], _, _, _, _, h => by simp at h
  | a :: t, k, 0, s, hA, h => by
    cases h
    exact hA.1
  | a :: t, k, i + 1, s, hA, h => by
    have := AllC.at t (k + 1) i s hA.2 h
    rw [show k + (i + 1) = k + 1 + i by omega]
    exact this
theorem wd_sub {ws : va_W} {Λ : LAM} {A : AH} (h : AllC ws Λ A 0 SH) (k : Nat) (q : Nat × va_E) (hk : (WD Λ A)[k]? = some q) : ws[k]? = some q := by
  simp only [WD, List.getElem?_mapIdx] at hk
  cases hs : SH[k]? with
  | none => rw [hs] at hk; cases hk
  | some s =>
    rw [hs] at hk
    cases hk
    have := AllC.at SH 0 k s h hs
    rw [Nat.zero_add] at this
    exact this
def tyL (Λ : LAM) : Nat → List SHP → List (ClassId × FieldType)
  | _, [] => []
  | k, .inl x :: r => ((Λ k).2, TYS x.1) :: tyL Λ (k + 1) r
  | k, .inr _ :: r => tyL Λ (k + 1) r
theorem tyL_mem {Λ : LAM} {t n : Nat} : ∀ (l : List SHP) (k i : Nat), lgt l i = some (.inl (t, n)) → ((Λ (k + i)).2, TYS t) ∈ tyL Λ k l
  | [], _, _, h => by simp [lgt] at h
  | .inl x :: r, k, 0, h => by
    have e : x = (t, n) := by simpa [lgt] using h
    subst e
    exact List.mem_cons_self
  | .inr x :: r, k, 0, h => by simp [lgt] at h
  | .inl x :: r, k, i + 1, h => by
    have := tyL_mem (Λ := Λ) r (k + 1) i (by simpa [lgt] using h)
    rw [show k + (i + 1) = k + 1 + i by omega]
    exact List.mem_cons_of_mem _ this
  | .inr x :: r, k, i + 1, h => by
    have := tyL_mem (Λ := Λ) r (k + 1) i (by simpa [lgt] using h)
    rw [show k + (i + 1) = k + 1 + i by omega]
    exact this
theorem kd_of {D : va_G} {Λ : LAM} {s : State} (hK : va_K D CLS (tyL Λ 0 SH) s) (hN : NW s) : KD D Λ s := by
  refine ⟨⟨hK.1, fun k q h => by simp at h⟩, fun k t n h => ⟨hK.1, fun i q hq => ?_⟩, hN⟩
  have hz : i < 1 := (List.getElem?_eq_some_iff.mp hq).1
  rw [show i = 0 by omega] at hq
  cases hq
  have hm := tyL_mem (Λ := Λ) SH 0 k h
  rw [Nat.zero_add] at hm
  obtain ⟨j, hj⟩ := List.getElem?_of_mem hm
  exact hK.2 j _ hj
def LJ (L9 L10 : LAM) : LAM := fun k => bif Nat.ble k 86 then L9 k else L10 (k - 87)
theorem ref2 (L9 L10 : LAM) : lgt [(L9 3).1, (L9 4).1, (L9 5).1, (L9 6).1, (L9 7).1, (L9 8).1] = fun i => adr (LJ L9 L10) (RF (73, 80) 2 i) := funext fun i => match i with
  | 0 => rfl
  | 1 => rfl
  | 2 => rfl
  | 3 => rfl
  | 4 => rfl
  | 5 => rfl
  | n + 6 => rfl
theorem ref11 (L9 L10 : LAM) : lgt [(L9 12).1, (L9 13).1, (L9 14).1, (L9 15).1] = fun i => adr (LJ L9 L10) (RF (73, 80) 11 i) := funext fun i => match i with
  | 0 => rfl
  | 1 => rfl
  | 2 => rfl
  | 3 => rfl
  | n + 4 => rfl
theorem ref28 (L9 L10 : LAM) : lgt [(L9 29).1, (L9 32).1, (L9 35).1] = fun i => adr (LJ L9 L10) (RF (73, 80) 28 i) := funext fun i => match i with
  | 0 => rfl
  | 1 => rfl
  | 2 => rfl
  | n + 3 => rfl
theorem ref41 (L9 L10 : LAM) : lgt [(L9 42).1, (L9 43).1, (L9 44).1, (L9 45).1, (L9 46).1] = fun i => adr (LJ L9 L10) (RF (73, 80) 41 i) := funext fun i => match i with
  | 0 => rfl
  | 1 => rfl
  | 2 => rfl
  | 3 => rfl
  | 4 => rfl
  | n + 5 => rfl
theorem ref54 (L9 L10 : LAM) : lgt [(L9 55).1, (L9 56).1, (L9 57).1, (L9 58).1, (L9 59).1] = fun i => adr (LJ L9 L10) (RF (73, 80) 54 i) := funext fun i => match i with
  | 0 => rfl
  | 1 => rfl
  | 2 => rfl
  | 3 => rfl
  | 4 => rfl
  | n + 5 => rfl
theorem ref65 (L9 L10 : LAM) : lgt [(L9 66).1, (L9 67).1, (L9 68).1, (L9 69).1, (L9 70).1] = fun i => adr (LJ L9 L10) (RF (73, 80) 65 i) := funext fun i => match i with
  | 0 => rfl
  | 1 => rfl
  | 2 => rfl
  | 3 => rfl
  | 4 => rfl
  | n + 5 => rfl
