/-! THE LAW FROM ITS ENTRY: the first heap's cells are the two constructors' -/
def fldL (Λ : LAM) (A : AH) (k : Nat) : Nat → List Nat → List Value
  | _, [] => []
  | j, t :: ts => fldv Λ A k j t :: fldL Λ A k (j + 1) ts
theorem fldL_eq {Λ : LAM} {A : AH} {k : Nat} : ∀ (ts : List Nat) (j : Nat), ts.mapIdx (fun i t => fldv Λ A k (j + i) t) = fldL Λ A k j ts
  | [], _ => rfl
  | t :: ts, j => by
    have e : (fun i t => fldv Λ A k (j + (i + 1)) t) = (fun i t => fldv Λ A k (j + 1 + i) t) := by
      funext i t
      rw [show j + (i + 1) = j + 1 + i by omega]
    rw [List.mapIdx_cons, e, fldL_eq ts (j + 1)]
    rfl
def cell2 (Λ : LAM) (A : AH) (k : Nat) : SHP → va_E
  | .inl x => .inl ((Λ k).2, x.2, bif Nat.ble x.1 1 then .inl (A.1 k) else .inr (.inr (.inr (.inr (fun i => adr Λ (RF A.2.2 k i))))))
  | .inr ci => .inr (ci, fldL Λ A k 0 ((lgt FK ci).getD []))
theorem cell2_eq (Λ : LAM) (A : AH) (k : Nat) : ∀ s : SHP, cellOf Λ A k s = cell2 Λ A k s
  | .inl _ => rfl
  | .inr ci => by
    have e : flds Λ A k ci = fldL Λ A k 0 ((lgt FK ci).getD []) := by
      rw [← fldL_eq]
      simp only [flds, Nat.zero_add]
    show (Sum.inr (ci, flds Λ A k ci) : va_E) = Sum.inr (ci, fldL Λ A k 0 ((lgt FK ci).getD []))
    rw [e]
def AllQ (Λ : LAM) (A : AH) : va_W → Nat → List SHP → Prop
  | _, _, [] => True
  | [], _, _ :: _ => False
  | w :: ws, k, s :: t => w = ((Λ k).1, cell2 Λ A k s) ∧ AllQ Λ A ws (k + 1) t
theorem AllQ.c {Λ : LAM} {A : AH} : ∀ (l : List SHP) (pre ws : va_W), AllQ Λ A ws pre.length l → AllC (pre ++ ws) Λ A pre.length l
  | [], _, _, _ => trivial
  | _ :: _, _, [], h => False.elim (show False from h)
  | s :: t, pre, w :: ws, h => by
    have h1 : w = ((Λ pre.length).1, cell2 Λ A pre.length s) := h.1
    rw [← cell2_eq] at h1
    have h2 : AllQ Λ A ws (pre.length + 1) t := h.2
    have e : (pre ++ [w]).length = pre.length + 1 := by rw [List.length_append]; rfl
    have h3 := AllQ.c t (pre ++ [w]) ws (by rw [e]; exact h2)
    rw [e, List.append_assoc] at h3
    refine ⟨?_, h3⟩
    rw [← h1, List.getElem?_append_right (Nat.le_refl _), Nat.sub_self]
    rfl
theorem AllQ.c0 {Λ : LAM} {A : AH} {ws : va_W} (h : AllQ Λ A ws 0 SH) : AllC ws Λ A 0 SH := AllQ.c SH [] ws h
set_option maxHeartbeats 16000000 in
set_option maxRecDepth 100000 in
theorem allq (L9 L10 : LAM) : AllQ (LJ L9 L10) (I0, J0, 73, 80) (w9 L9 (fun i => adr (LJ L9 L10) (RF (73, 80) 2 i)) (fun i => adr (LJ L9 L10) (RF (73, 80) 11 i)) (fun i => adr (LJ L9 L10) (RF (73, 80) 28 i)) (fun i => adr (LJ L9 L10) (RF (73, 80) 41 i)) (fun i => adr (LJ L9 L10) (RF (73, 80) 54 i)) (fun i => adr (LJ L9 L10) (RF (73, 80) 65 i)) ++ w10 L10) 0 SH := by
  simp only [w9, w8a, w8b, w7, w4, w3, w0, w5, w1, w2, w10, List.cons_append, List.nil_append, List.append_assoc]
  repeat' first | exact trivial | refine And.intro rfl ?_
theorem allc (L9 L10 : LAM) : AllC (w9 L9 (fun i => adr (LJ L9 L10) (RF (73, 80) 2 i)) (fun i => adr (LJ L9 L10) (RF (73, 80) 11 i)) (fun i => adr (LJ L9 L10) (RF (73, 80) 28 i)) (fun i => adr (LJ L9 L10) (RF (73, 80) 41 i)) (fun i => adr (LJ L9 L10) (RF (73, 80) 54 i)) (fun i => adr (LJ L9 L10) (RF (73, 80) 65 i)) ++ w10 L10) (LJ L9 L10) (I0, J0, 73, 80) 0 SH := AllQ.c0 (allq L9 L10)
set_option maxHeartbeats 16000000 in
set_option maxRecDepth 100000 in
theorem alltys (L9 L10 : LAM) : kC9 L9 ++ kC10 L10 = tyL (LJ L9 L10) 0 SH := by
  simp only [kC9, kC8a, kC8b, kC7, kC4, kC3, kC0, kC5, kC1, kC2, kC10, List.cons_append, List.nil_append, List.append_assoc]
  rfl
theorem u189 : Cond.instantiable RX0 9 ∈ GW := gwp 189 (by decide +kernel) (by decide +kernel)
theorem u281 : Cond.instantiable RX1 8 ∈ GW := gwp 281 (by decide +kernel) (by decide +kernel)
theorem u318 : Cond.instantiable RX2 10 ∈ GW := gwp 318 (by decide +kernel) (by decide +kernel)
theorem u169 : Cond.instantiable RX3 3 ∈ GW := gwp 169 (by decide +kernel) (by decide +kernel)
theorem u143 : Cond.instantiable RX4 5 ∈ GW := gwp 143 (by decide +kernel) (by decide +kernel)
theorem u235 : Cond.instantiable RX5 10 ∈ GW := gwp 235 (by decide +kernel) (by decide +kernel)
theorem u127 : Cond.instantiable RX7 3 ∈ GW := gwp 127 (by decide +kernel) (by decide +kernel)
theorem u104 : Cond.instantiable RX8 3 ∈ GW := gwp 104 (by decide +kernel) (by decide +kernel)
theorem u96 : Cond.instantiable RX9 17 ∈ GW := gwp 96 (by decide +kernel) (by decide +kernel)
theorem u1005 : Cond.instantiable RX10 36 ∈ GW := gwp 1005 (by decide +kernel) (by decide +kernel)
theorem u99 : Cond.code yX9_init cX9_init 1 none ∈ GW := gwp 99 (by decide +kernel) (by decide +kernel)
theorem u97 : Cond.methodLink R_law 9 yX9_init ∈ GW := gwp 97 (by decide +kernel) (by decide +kernel)
theorem u98 : Cond.instanceMethod yX9_init ∈ GW := gwp 98 (by decide +kernel) (by decide +kernel)
theorem u1008 : Cond.code yX10_init cX10_init 2 none ∈ GW := gwp 1008 (by decide +kernel) (by decide +kernel)
theorem u1006 : Cond.methodLink R_law 12 yX10_init ∈ GW := gwp 1006 (by decide +kernel) (by decide +kernel)
theorem u1007 : Cond.instanceMethod yX10_init ∈ GW := gwp 1007 (by decide +kernel) (by decide +kernel)
theorem u95 : Cond.classLink R_law 7 RX9 ∈ GW := gwp 95 (by decide +kernel) (by decide +kernel)
theorem u1004 : Cond.classLink R_law 10 RX10 ∈ GW := gwp 1004 (by decide +kernel) (by decide +kernel)
