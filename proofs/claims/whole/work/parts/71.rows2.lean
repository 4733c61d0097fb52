/-! a row for rows of rows of ints (multianewarray of two counts) -/
/-- the places of an outer row, of which the first i stand -/
def orF (a i : Nat) : Nat → Option Nat := fun j => if j < i then some (a + 1 + j) else none
def orC (cA : ClassId) (N a i : Nat) : Cell := arrV cA N (fun j => va_rf (orF a i j))
def irC (cI : ClassId) (K : Nat) : Cell := arrV cI K (fun _ => .int 0)
/-- the state when i inner rows stand -/
def orS (S : State) (cA cI : ClassId) (N K : Nat) : Nat → State
  | 0 => S.pushCell (orC cA N S.heap.size 0)
  | i + 1 => ((orS S cA cI N K i).pushCell (irC cI K)).setCell S.heap.size (orC cA N S.heap.size (i + 1))
theorem orC_s (cA : ClassId) (N a i : Nat) : (orC cA N a i).setSlot i (.ref (a + 1 + i)) = orC cA N a (i + 1) := by
  unfold orC
  rw [arrV_store]
  congr 1
  funext j
  unfold updV orF
  by_cases e : j = i
  · subst e; rw [if_pos rfl, if_pos (by omega)]; rfl
  · rw [if_neg e]
    show va_rf (if j < i then some (a + 1 + j) else none) = va_rf (if j < i + 1 then some (a + 1 + j) else none)
    by_cases c : j < i
    · rw [if_pos c, if_pos (by omega)]
    · rw [if_neg c, if_neg (by omega)]
theorem orS_f (S : State) (cA cI : ClassId) (N K : Nat) : ∀ i, (orS S cA cI N K i).heap.size = S.heap.size + 1 + i ∧ (orS S cA cI N K i).heap[S.heap.size]? = some (orC cA N S.heap.size i) ∧ (orS S cA cI N K i).vm = S.vm ∧ (orS S cA cI N K i).slotsUsed = S.slotsUsed + N + i * K ∧ (∀ q, q < S.heap.size → (orS S cA cI N K i).heap[q]? = S.heap[q]?) ∧ ∀ j, j < i → (orS S cA cI N K i).heap[S.heap.size + 1 + j]? = some (irC cI K)
  | 0 => ⟨by simp [orS], by simp [orS], rfl, by simp [orS, orC, arrV_size], fun q hq => State.heap_pushCell_of_lt _ _ hq, fun j hj => absurd hj (by omega)⟩
  | i + 1 => by
    obtain ⟨h1, h2, h3, h4, h5, h6⟩ := orS_f S cA cI N K i
    have lt0 : S.heap.size < (orS S cA cI N K i).heap.size := by omega
    have hc : ((orS S cA cI N K i).pushCell (irC cI K)).heap[S.heap.size]? = some (orC cA N S.heap.size i) := by rw [State.heap_pushCell_of_lt (h := lt0)]; exact h2
    refine ⟨?_, State.heap_setCell_self hc, by simp [orS, h3], ?_, fun q hq => ?_, fun j hj => ?_⟩
    · simp [orS, State.setCell, h1]; omega
    · simp [orS, h4, irC, arrV_size, Nat.succ_mul]; omega
    · show (((orS S cA cI N K i).pushCell (irC cI K)).setCell S.heap.size _).heap[q]? = _
      have hq' : q < (orS S cA cI N K i).heap.size := by omega
      rw [State.heap_setCell_other (Nat.ne_of_gt hq), State.heap_pushCell_of_lt (h := hq')]
      exact h5 q hq
    · show (((orS S cA cI N K i).pushCell (irC cI K)).setCell S.heap.size _).heap[S.heap.size + 1 + j]? = _
      rw [State.heap_setCell_other (show S.heap.size ≠ S.heap.size + 1 + j by omega)]
      by_cases e : j = i
      · subst e
        rw [← h1]
        exact State.heap_pushCell_size _ _
      · have hj' : S.heap.size + 1 + j < (orS S cA cI N K i).heap.size := by omega
        rw [State.heap_pushCell_of_lt (h := hj')]
        exact h6 j (by omega)
theorem orS_top (S : State) (f : JFrame) (cA cI : ClassId) (N K : Nat) : ∀ i, orS (S.setTop f) cA cI N K i = (orS S cA cI N K i).setTop f
  | 0 => rfl
  | i + 1 => by simp only [orS, orS_top S f cA cI N K i, State.heap_setTop, State.pushCell_setTop, State.setCell_setTop]
section MNA
variable {E : CtlPost} {e : Env} {d : Bool} {acts : List Action} {S : State}
theorem or_new {cA comp : ClassId} {k : Class} {ty : FieldType} {len : Nat} {v : Value} (hk : S.vm.classes[cA]? = some k) (hkind : k.kind = .array comp ty) (hl : ¬ len > e.platform.arrayLengthLimit) (hh : ¬ len * componentBytes ty > e.platform.maxHeapBytes) (hf : fits ty v = true) (hd : v.isDefault = true) {Q : Addr → Pre} (h1 : S.heap.size < e.platform.maxCells) (h2 : S.slotsUsed + len ≤ e.platform.maxSlots) (hq : Q S.heap.size d acts (S.pushCell (arrV cA len (fun _ => v)))) : wp (Jvm.newArray cA len v) Q E e d acts S := by
  have f1 : ∀ i x, (Array.replicate len v)[i]? = some x → S.fitsSlot cA .none i x = true := by
    intro i x hx
    rw [Array.getElem?_replicate] at hx
    split at hx
    · cases hx
      simp [State.fitsSlot, State.slotType?, hk, hkind, hf]
    · cases hx
  have f2 : allocActs (Array.replicate len v) S.heap.size acts = acts := by
    have : ((Array.replicate len v).all (·.isDefault)) = true := by
      rw [Array.all_replicate]; split <;> simp [hd]
    unfold allocActs
    rw [if_pos this]
  rw [← arrV_new] at hq
  simp only [Jvm.newArray, Jvm.arrayFits, wp_bind', W.ask, W.ite, hl, if_false, wp_pure', W.theClass, hk, hkind, hh, W.alloc, W.stop, Option.some.injEq, exists_eq_left', Array.size_replicate, f2]
  rw [if_neg (by omega)]
  exact ⟨h1, h2, f1, hq⟩
theorem or_in {cI comp : ClassId} {kI : Class} {k : Int32} (hkI : S.vm.classes[cI]? = some kI) (hkindI : kI.kind = .array comp .int) (hk : ¬ k < 0) (hl : ¬ k.toNatClampNeg > e.platform.arrayLengthLimit) (hh : ¬ k.toNatClampNeg * componentBytes .int > e.platform.maxHeapBytes) {Q : Addr → Pre} (h1 : S.heap.size < e.platform.maxCells) (h2 : S.slotsUsed + k.toNatClampNeg ≤ e.platform.maxSlots) (hq : Q S.heap.size d acts (S.pushCell (irC cI k.toNatClampNeg))) : wp (multianewarray.make cI [k]) Q E e d acts S := by
  rw [multianewarray.make]
  simp only [wp_bind', W.ite, hk, if_false, wp_pure', W.theClass, hkI, hkindI, Option.some.injEq, exists_eq_left']
  exact or_new hkI hkindI hl hh rfl rfl h1 h2 hq
theorem or_make {cA cI comp : ClassId} {kA kI : Class} {n k : Int32} (hkA : S.vm.classes[cA]? = some kA) (hkindA : kA.kind = .array cI (.array .int)) (hkI : S.vm.classes[cI]? = some kI) (hkindI : kI.kind = .array comp .int) (hn : ¬ n < 0) (hk : ¬ k < 0) (hl1 : ¬ n.toNatClampNeg > e.platform.arrayLengthLimit) (hh1 : ¬ n.toNatClampNeg * componentBytes (.array .int) > e.platform.maxHeapBytes) (hl2 : ¬ k.toNatClampNeg > e.platform.arrayLengthLimit) (hh2 : ¬ k.toNatClampNeg * componentBytes .int > e.platform.maxHeapBytes)
    (hc : S.heap.size + 1 + n.toNatClampNeg ≤ e.platform.maxCells) (hs : S.slotsUsed + n.toNatClampNeg + n.toNatClampNeg * k.toNatClampNeg ≤ e.platform.maxSlots) {Q : Addr → Pre} (hq : ∀ d' acts', Q S.heap.size d' acts' (orS S cA cI n.toNatClampNeg k.toNatClampNeg n.toNatClampNeg)) : wp (multianewarray.make cA [n, k]) Q E e d acts S := by
  have hz : ([k].find? (· < 0)) = none := by simp [hk]
  rw [multianewarray.make]
  simp only [wp_bind', W.ite, hn, if_false, wp_pure', W.theClass, hkA, hkindA, Option.some.injEq, exists_eq_left']
  have e0 : arrV cA n.toNatClampNeg (fun _ => Value.null) = orC cA n.toNatClampNeg S.heap.size 0 := by
    unfold orC orF
    congr 1
  refine or_new hkA hkindA hl1 hh1 rfl rfl (by omega) (by have := Nat.zero_le (n.toNatClampNeg * k.toNatClampNeg); omega) ?_
  rw [e0]
  simp only [hz]
  rw [ite_self, wp_bind', Std.Legacy.Range.forIn_eq_forIn_range']
  have hsz : ([:n.toNatClampNeg] : Std.Legacy.Range).size = n.toNatClampNeg := by simp [Std.Legacy.Range.size]
  rw [hsz]
  show wp (forIn (List.range' 0 n.toNatClampNeg 1) PUnit.unit _) _ E e d acts (orS S cA cI n.toNatClampNeg k.toNatClampNeg 0)
  refine wp_forIn_inv (fun rest U => ∃ i, i + rest.length = n.toNatClampNeg ∧ rest = List.range' i rest.length ∧ U = orS S cA cI n.toNatClampNeg k.toNatClampNeg i) _ _ ⟨0, by simp, by simp, rfl⟩ ?_ ?_
  · rintro x rest U d' acts' Q' ⟨i, hi, hl, rfl⟩ hnext
    rw [List.length_cons] at hi
    rw [List.length_cons, List.range'_succ] at hl
    obtain ⟨hx, hrest⟩ := List.cons.inj hl
    subst hx
    obtain ⟨f1, f2, f3, f4, -, -⟩ := orS_f S cA cI n.toNatClampNeg k.toNatClampNeg x
    have hmul : x * k.toNatClampNeg + k.toNatClampNeg ≤ n.toNatClampNeg * k.toNatClampNeg := by
      rw [← Nat.succ_mul]
      exact Nat.mul_le_mul_right _ (by omega)
    have lt0 : S.heap.size < (orS S cA cI n.toNatClampNeg k.toNatClampNeg x).heap.size := by omega
    simp only [wp_bind']
    refine or_in (by rw [f3]; exact hkI) hkindI hk hl2 hh2 (by rw [f1]; omega) (by rw [f4]; omega) ?_
    simp only [wp_bind', W.writeLoc, wp_pure']
    refine ⟨orC cA n.toNatClampNeg S.heap.size x, by rw [State.heap_pushCell_of_lt (h := lt0)]; exact f2, by simp [orC, arrV], by rw [orC, arrV_size]; omega, ?_, hnext _ _ _ ⟨x + 1, by omega, hrest, ?_⟩⟩
    · show State.fitsSlot _ cA .none x _ = true
      simp [State.fitsSlot, State.slotType?, f3, hkA, hkindA]
      rfl
    · rw [f1, orC_s]; rfl
  · rintro U d' acts' ⟨i, hi, -, rfl⟩
    have : i = n.toNatClampNeg := by simpa using hi
    rw [this]
    simp only [wp_pure']
    exact hq _ _
end MNA
/-- the class of rows of rows of ints stands over that of rows of ints -/
def AOI (U : State) : Prop := ∃ (cI cA : ClassId) (kA : Class), U.vm.findClass ("[" ++ FieldType.int.toString) = some cI ∧ U.vm.classes[cA]? = some kA ∧ kA.kind = .array cI (.array .int) ∧ U.vm.findClass ("[" ++ (FieldType.array .int).toString) = some cA
theorem AOI.of {args : Array Value} {s : State} (h : (Cond.arrayOver (.array .int)).before args s = true) : AOI s := by
  obtain ⟨cI, cA, kA, hcI, -, hkA, hkindA, hnameA⟩ := arrayOverA_spec h
  exact ⟨cI, cA, kA, hcI, hkA, hkindA, hnameA⟩
theorem AOI.moved {u U : State} (hvm : u.vm.Alike U.vm) (h : AOI u) : AOI U := by
  obtain ⟨cI, cA, kA, h1, h2, h3, h4⟩ := h
  obtain ⟨k', hk', he⟩ := hvm.2.2 _ _ h2
  exact ⟨cI, cA, k', by rw [hvm.findClass]; exact h1, hk', by rw [he]; exact h3, by rw [hvm.findClass]; exact h4⟩
section MNB
variable {p : Program} {l : Launch} {e : Env} {R : Room} {s : State} {m : MethodId} {args : Array Value} {below : List Frame} {meth : Method} {c : Code} {H : Heap} {locs : List Loc} {cells slots : Nat} {Q : State → Prop}
theorem or_stand {T : State} (X : Stand p l e R s m args below meth c T locs cells slots) (cA cI : ClassId) (N K : Nat) : ∀ i, Stand p l e R s m args below meth c (orS T cA cI N K i) (locs ++ (List.range i).map (fun j => (⟨T.heap.size, j⟩ : Loc))) (cells + 1 + i) (slots + N + i * K)
  | 0 => by
    have h := X.pushed (orC cA N T.heap.size 0)
    rw [show (orC cA N T.heap.size 0).slots.size = N from arrV_size _ _ _] at h
    simpa [orS] using h
  | i + 1 => by
    have Xi := or_stand X cA cI N K i
    obtain ⟨f1, f2, -⟩ := orS_f T cA cI N K i
    have lt0 : T.heap.size < (orS T cA cI N K i).heap.size := by omega
    have hc : ((orS T cA cI N K i).pushCell (irC cI K)).heap[T.heap.size]? = some (orC cA N T.heap.size i) := by rw [State.heap_pushCell_of_lt (h := lt0)]; exact f2
    have h := (Xi.pushed (irC cI K)).stored hc i (.ref (T.heap.size + 1 + i))
    rw [show (irC cI K).slots.size = K from arrV_size _ _ _, orC_s] at h
    have e2 : (locs ++ (List.range (i + 1)).map fun j => (⟨T.heap.size, j⟩ : Loc)) = (locs ++ (List.range i).map fun j => (⟨T.heap.size, j⟩ : Loc)) ++ [⟨T.heap.size, i⟩] := by simp [List.range_succ, List.append_assoc]
    rw [e2, show slots + N + (i + 1) * K = slots + N + i * K + K by rw [Nat.succ_mul]; omega]
    exact h
theorem or_row {cc : ByteArray} (hexec : p.tables.exec = Jvm.exec) (hb : c.code = cc) {own : String} {index : Nat} (hown : s.vm.findClass own = some m.cls) (hclink : (Cond.classLink own index "[[I").before args s = true) (hover : AOI s) (harr : (Cond.arrayClass .int).before args s = true)
    {g : JFrame} (hg : g.method = m) (hdg : decode cc g.pc = .ok (.multianewarray index 2, 4)) {n k : Int32} {rest : List Value} (hstack : g.stack = .int k :: .int n :: rest) (hn : ¬ n < 0) (hk : ¬ k < 0) (hb1 : n.toNatClampNeg ≤ 1000) (hb2 : k.toNatClampNeg ≤ 1000) (hcells : cells + (1 + n.toNatClampNeg) ≤ R.cells) (hslots : slots + (n.toNatClampNeg + n.toNatClampNeg * k.toNatClampNeg) ≤ R.slots)
    (kk : ∀ (cA cI : ClassId) (H1 : Heap), ArrOfT s cA (.array .int) → s.vm.findClass ("[" ++ (FieldType.array .int).toString) = some cA → ArrOfT s cI .int → s.vm.findClass ("[" ++ FieldType.int.toString) = some cI → H1.size = H.size + 1 + n.toNatClampNeg → H1[H.size]? = some (orC cA n.toNatClampNeg H.size n.toNatClampNeg) → (∀ q, q < H.size → H1[q]? = H[q]?) → (∀ j, j < n.toNatClampNeg → H1[H.size + 1 + j]? = some (irC cI k.toNatClampNeg)) →
      W p l e R s m args below meth c H1 (locs ++ (List.range n.toNatClampNeg).map (fun j => (⟨H.size, j⟩ : Loc))) (cells + 1 + n.toNatClampNeg) (slots + n.toNatClampNeg + n.toNatClampNeg * k.toNatClampNeg) Q { g with pc := g.pc + 4, stack := .ref H.size :: rest }) : W p l e R s m args below meth c H locs cells slots Q g := by
  intro T hT X
  subst hT; subst hb; subst hg
  have hpl : e.platform.magicAccessors = ({} : Platform).magicAccessors := by rw [X.admits.platform]
  obtain ⟨cI, cA, kA, hcI, hkA, hkindA, hnameA⟩ := hover
  obtain ⟨cI', kI, comp, hcI', hkI, hkindI⟩ := Cond.arrayClass_spec harr
  have eI : cI' = cI := Option.some.inj (hcI'.symm.trans hcI)
  subst eI
  obtain ⟨c0, hfc0, hcl⟩ := Cond.classLink_spec hown hclink e.platform hpl
  have ec : c0 = cA := Option.some.inj (hfc0.symm.trans hnameA)
  subst ec
  obtain ⟨hg₁, hwarm₁, hready₁⟩ := State.classEntry (e := e) X.warmed hcl
  generalize T.vm.noted g.method.cls index (.cls c0) = vm₁ at hg₁ hwarm₁ hready₁
  have hal : s.vm.Alike vm₁ := hwarm₁.alike
  obtain ⟨kA₁, hkA₁, heA⟩ := hal.2.2 _ _ hkA
  obtain ⟨kI₁, hkI₁, heI⟩ := hal.2.2 _ _ hkI
  have hkindA₁ : kA₁.kind = .array cI' (.array .int) := by rw [heA]; exact hkindA
  have hkindI₁ : kI₁.kind = .array comp .int := by rw [heI]; exact hkindI
  have X₁ := X.noted hwarm₁
  obtain ⟨hr1, hr2⟩ := X.roomAbove hcells hslots
  have XF := or_stand X₁ c0 cI' n.toNatClampNeg k.toNatClampNeg n.toNatClampNeg
  obtain ⟨f1, f2, f3, f4, f5, f6⟩ := orS_f (T.setVm vm₁) c0 cI' n.toNatClampNeg k.toNatClampNeg n.toNatClampNeg
  obtain ⟨t', a1, b1⟩ := kk c0 cI' (orS (T.setVm vm₁) c0 cI' n.toNatClampNeg k.toNatClampNeg n.toNatClampNeg).heap (fun N z => ⟨fun q h => (by cases h), kA, hkA, cI', hkindA⟩) hnameA (fun N z => ⟨fun q h => (by cases h), kI, hkI, comp, hkindI⟩) hcI f1 f2 f5 f6 (orS (T.setVm vm₁) c0 cI' n.toNatClampNeg k.toNatClampNeg n.toNatClampNeg) rfl XF
  refine ⟨t', ?_, b1⟩
  have hl1 : ¬ n.toNatClampNeg > e.platform.arrayLengthLimit := by rw [Launch.admits_arrayLengthLimit X.admits]; omega
  have hh1 : ¬ n.toNatClampNeg * componentBytes (.array .int) > e.platform.maxHeapBytes := by
    rw [Launch.admits_maxHeapBytes X.admits]; show ¬ n.toNatClampNeg * 4 > 536870912; omega
  have hl2 : ¬ k.toNatClampNeg > e.platform.arrayLengthLimit := by rw [Launch.admits_arrayLengthLimit X.admits]; omega
  have hh2 : ¬ k.toNatClampNeg * componentBytes .int > e.platform.maxHeapBytes := by
    rw [Launch.admits_maxHeapBytes X.admits]; show ¬ k.toNatClampNeg * 4 > 536870912; omega
  jvm_step X.here [hexec, hdg]
  simp only [multianewarray.sem, wp_bind', W.resolveClassAt_links (State.method?_setTop g X.here.top) hg₁]
  rw [W.popN, if_neg (by decide)]
  refine ⟨g, State.topJava?_setTop' (s := T.setVm vm₁) g X.here.top, [.int n, .int k], rest, rfl, hstack, ?_⟩
  simp only [List.mapM_cons, List.mapM_nil, wp_bind', wp_pure']
  refine or_make (kA := kA₁) (kI := kI₁) (cI := cI') (comp := comp) hkA₁ hkindA₁ hkI₁ hkindI₁ hn hk hl1 hh1 hl2 hh2 (by show T.heap.size + 1 + _ ≤ _; omega) (by show T.slotsUsed + _ + _ ≤ _; omega) (fun d' acts' => ?_)
  rw [show ((T.setTop g).setVm vm₁).setTop { g with stack := rest } = (T.setVm vm₁).setTop { g with stack := rest } by
    show ((T.setVm vm₁).setTop g).setTop _ = _
    rw [State.setTop_setTop], orS_top]
  simp only [wp_bind', W.mark, W.pushRef, State.topJava?_setTop' _ XF.here.top, Option.some.injEq, exists_eq_left', State.setTop_setTop, State.heap_setTop]
  intro acts
  simp [jvm, XF.here.top]
  exact a1
/-- the same over a world of cells -/
def mwC (q : Nat) (cA cI : ClassId) (N K : Nat) : va_W := (q, .inl (cA, N, .inr (.inr (.inr (.inr (orF q N)))))) :: (List.range N).map (fun j => (q + 1 + j, (.inl (cI, K, .inl (fun _ => 0)) : va_E)))
def mkC (cA cI : ClassId) (N : Nat) : List (ClassId × FieldType) := (cA, .array .int) :: (List.range N).map (fun _ => (cI, .int))
theorem mwC_at {q : Nat} {cA cI : ClassId} {N K i : Nat} {x : Nat × va_E} (h : (mwC q cA cI N K)[i]? = some x) : x.1 = q + i ∧ ((i = 0 ∧ x.2 = .inl (cA, N, .inr (.inr (.inr (.inr (orF q N)))))) ∨ ∃ j, i = j + 1 ∧ j < N ∧ x.2 = .inl (cI, K, .inl (fun _ => 0))) := by
  cases i with
  | zero => cases h; exact ⟨rfl, Or.inl ⟨rfl, rfl⟩⟩
  | succ j =>
    rw [mwC, List.getElem?_cons_succ, List.getElem?_map] at h
    by_cases hj : j < N
    · rw [List.getElem?_range hj] at h
      cases h
      exact ⟨by show q + 1 + j = q + (j + 1); omega, Or.inr ⟨j, rfl, hj, rfl⟩⟩
    · rw [List.getElem?_eq_none (by simp; omega)] at h
      cases h
theorem va_mna {cc : ByteArray} {D : va_G} {cl : List vw_C} {tys : List (ClassId × FieldType)} {ws : va_W} {A : Nat → Prop} {H0 : Heap} {pc : Nat} {ls : Array Slot} {rest : List Value} (hexec : p.tables.exec = Jvm.exec) (hb : c.code = cc) {own : String} {index : Nat} (hown : s.vm.findClass own = some m.cls) (hclink : (Cond.classLink own index "[[I").before args s = true) (hover : AOI s) (harr : (Cond.arrayClass .int).before args s = true)
    (hK : va_K D cl tys s) (hP : va_P D cl ws H) (hD : va_D A ws) (hS : va_S A H0 H locs) (hA : ∀ q, H0.size ≤ q → A q) {n k : Int32} {N K : Nat} (hn : ¬ n < 0) (hk : ¬ k < 0) (hN : n.toNatClampNeg = N) (hK' : k.toNatClampNeg = K) (hb1 : N ≤ 1000) (hb2 : K ≤ 1000) (hcells : cells + (1 + N) ≤ R.cells) (hslots : slots + (N + N * K) ≤ R.slots) (hdg : decode cc pc = .ok (.multianewarray index 2, 4))
    (kk : ∀ (q : Nat) (cA cI : ClassId) (H1 : Heap) (locs1 : List Loc), va_K D cl (tys ++ mkC cA cI N) s → va_P D cl (ws ++ mwC q cA cI N K) H1 → va_D A (ws ++ mwC q cA cI N K) → va_S A H0 H1 locs1 → W p l e R s m args below meth c H1 locs1 (cells + 1 + N) (slots + N + N * K) Q (F0 m (pc + 4) ls (.ref q :: rest))) : W p l e R s m args below meth c H locs cells slots Q (F0 m pc ls (.int k :: .int n :: rest)) := by
  subst hN; subst hK'
  refine or_row hexec hb hown hclink hover harr rfl hdg rfl hn hk hb1 hb2 hcells hslots (fun cA cI H1 a1 a2 a3 a4 z e0 eo ei => ?_)
  refine kk H.size cA cI H1 _ (hK.app ⟨hK.1, fun i x hx => ?_⟩) ((hP.kept fun i x hx => eo x.1 (hP i x hx).lt).app fun i x hx => ?_) (hD.app ⟨fun i j x y hx hy hxy => ?_, fun i x hx => ?_⟩ fun i j x y hx hy => ?_) ⟨Nat.le_trans hS.1 (by omega), fun x h1 h2 => (eo x (Nat.lt_of_lt_of_le h1 hS.1)).trans (hS.2.1 x h1 h2), fun x hx => ?_⟩
  · cases i with
    | zero => cases hx; exact ⟨a1, a2⟩
    | succ j =>
      rw [mkC, List.getElem?_cons_succ, List.getElem?_map] at hx
      by_cases hj : j < n.toNatClampNeg
      · rw [List.getElem?_range hj] at hx
        cases hx
        exact ⟨a3, a4⟩
      · rw [List.getElem?_eq_none (by simp; omega)] at hx
        cases hx
  · obtain ⟨h1, h2⟩ := mwC_at hx
    obtain ⟨x1, x2⟩ := x
    dsimp only at h1 h2
    rcases h2 with ⟨h3, h4⟩ | ⟨j, h3, h4, h5⟩
    · subst h1; subst h3; subst h4
      exact e0
    · subst h1; subst h3; subst h5
      show H1[H.size + (j + 1)]? = _
      rw [show H.size + (j + 1) = H.size + 1 + j by omega]
      exact ei j h4
  · have h1 := (mwC_at hx).1
    have h2 := (mwC_at hy).1
    omega
  · rw [(mwC_at hx).1]
    exact hA _ (Nat.le_trans hS.1 (Nat.le_add_right _ _))
  · have h1 := (hP i x hx).lt
    have h2 := (mwC_at hy).1
    omega
  · rcases List.mem_append.mp hx with h | h
    · exact hS.2.2 x h
    · obtain ⟨j, -, rfl⟩ := List.mem_map.mp h
      exact hA _ hS.1
end MNB
/-! joining worlds -/
theorem vP_r {D : va_G} {cl : List vw_C} {a b : va_W} {H : Heap} (h : va_P D cl (a ++ b) H) : va_P D cl b H := fun k q hk => by
  obtain ⟨i, hi⟩ := List.getElem?_of_mem (List.mem_append_right a (List.mem_of_getElem? hk))
  exact h i q hi
theorem vD_r {A : Nat → Prop} {a b : va_W} (h : va_D A (a ++ b)) : va_D A b := by
  have key : ∀ (k : Nat) (q : Nat × va_E), b[k]? = some q → (a ++ b)[a.length + k]? = some q := fun k q hk => by
    rw [List.getElem?_append_right (by omega), Nat.add_sub_cancel_left]; exact hk
  exact ⟨fun i j x y hi hj e => by have := h.1 _ _ x y (key i x hi) (key j y hj) e; omega, fun k q hk => h.2 _ q (key k q hk)⟩
theorem vfree {A0 : Nat → Prop} {a w : va_W} {H0 H : Heap} {locs : List Loc} (hD : va_D A0 (a ++ w)) (hS : va_S A0 H0 H locs) (hA : ∀ q, H0.size ≤ q → A0 q) : ∀ q, va_A w H.size q → A0 q := by
  intro q h
  rcases h with ⟨k, e, h⟩ | h
  · exact (vD_r hD).2 k (q, e) h
  · exact hA q (Nat.le_trans hS.1 h)
theorem vjoin {A0 : Nat → Prop} {D : va_G} {cl : List vw_C} {a w w1 : va_W} {H H1 : Heap} (hP : va_P D cl (a ++ w) H) (hD : va_D A0 (a ++ w)) (hk : ∀ q : Nat, q < H.size → ¬ va_A w H.size q → H1[q]? = H[q]?) (hF : ∀ q, va_A w H.size q → A0 q) (hP1 : va_P D cl w1 H1) (hD1 : va_D (va_A w H.size) w1) : va_P D cl (a ++ w1) H1 ∧ va_D A0 (a ++ w1) := by
  have keyA : ∀ (k : Nat) (q : Nat × va_E), a[k]? = some q → (a ++ w)[k]? = some q ∧ k < a.length := fun k q hk => by
    have hl := (List.getElem?_eq_some_iff.mp hk).1
    rw [List.getElem?_append_left hl]; exact ⟨hk, hl⟩
  have apart : ∀ (k : Nat) (q : Nat × va_E), a[k]? = some q → q.1 < H.size ∧ ¬ va_A w H.size q.1 := by
    intro k q hq
    obtain ⟨h1, hl1⟩ := keyA k q hq
    have hl := (hP k q h1).lt
    refine ⟨hl, fun h => ?_⟩
    rcases h with ⟨k2, e, h⟩ | h
    · have h2 : (a ++ w)[a.length + k2]? = some (q.1, e) := by rw [List.getElem?_append_right (by omega), Nat.add_sub_cancel_left]; exact h
      have := hD.1 _ _ q (q.1, e) h1 h2 rfl
      omega
    · omega
  refine ⟨va_P.app (fun k q hq => (hP k q (keyA k q hq).1).kept (hk q.1 (apart k q hq).1 (apart k q hq).2)) hP1, va_D.app ⟨fun i j x y hi hj e => hD.1 i j x y (keyA i x hi).1 (keyA j y hj).1 e, fun k q hq => hD.2 k q (keyA k q hq).1⟩ (hD1.weaken (fun k q _ h => hF q.1 h)) (fun i j x y hx hy hxy => (apart i x hx).2 (by rw [hxy]; exact hD1.2 j y hy))⟩
