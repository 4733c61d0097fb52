/-! the methods by number, and what a call of one gives -/
abbrev MIn : Type := MethodName × ByteArray × Nat × Option FieldType
def MT0 : List MIn := [(yJ6_bitCount_0f7a4, cJ6_bitCount_0f7a4, 1, (some .int)), (yJ9_floorMod_7cf53, cJ9_floorMod_7cf53, 3, (some .int)), (yJ9_max_7cf53, cJ9_max_7cf53, 2, (some .int)), (yJ9_min_7cf53, cJ9_min_7cf53, 2, (some .int)), (yX0_begin, cX0_begin, 4, none), (yX0_passOn, cX0_passOn, 5, none), (yX0_branch, cX0_branch, 4, none), (yX0_ownerOf, cX0_ownerOf, 3, (some .int)), (yX0_waterNow, cX0_waterNow, 2, (some .int)), (yX0_weekdayOf, cX0_weekdayOf, 2, (some .int)), (yX0_pass, cX0_pass, 6, none), (yX1_weigh, cX1_weigh, 8, none), (yX1_spread, cX1_spread, 12, none), (yX1_weightOf, cX1_weightOf, 3, (some .long)), (yX1_power, cX1_power, 5, (some .long)), (yX2_clear, cX2_clear, 1, none), (yX2_hasReach, cX2_hasReach, 2, (some .boolean)), (yX2_canShut, cX2_canShut, 2, (some .boolean)), (yX2_hasRoomFor, cX2_hasRoomFor, 3, (some .boolean)), (yX2_add, cX2_add, 4, none), (yX2_listSets, cX2_listSets, 2, none), (yX2_setByLot, cX2_setByLot, 5, (some .int)), (yX2_letRun, cX2_letRun, 5, none), (yX2_takeIn, cX2_takeIn, 6, none), (yX2_toSea, cX2_toSea, 2, (some .int)), (yX2_grindingBy, cX2_grindingBy, 4, (some .int)), (yX3_add, cX3_add, 3, none), (yX3_cutTo, cX3_cutTo, 2, none), (yX3_become, cX3_become, 2, none), (yX4_start, cX4_start, 3, none), (yX4_pass, cX4_pass, 7, (some .int)), (yX5_seek, cX5_seek, 6, none), (yX5_goDeeper, cX5_goDeeper, 6, none), (yX5_fits, cX5_fits, 3, (some .boolean)), (yX5_gain, cX5_gain, 3, (some .int)), (yX5_arrive, cX5_arrive, 2, none), (yX5_shutTogether, cX5_shutTogether, 3, (some .int)), (yX5_contest, cX5_contest, 5, (some .int)), (yX5_contend, cX5_contend, 7, (some .int)), (yX6_byLetter, cX6_byLetter, 1, (some .int))]
def MT1 : List MIn := [(yX6_isOf, cX6_isOf, 2, (some .boolean)), (yX6_runFrom, cX6_runFrom, 4, (some .int)), (yX6_settle, cX6_settle, 3, (some .int)), (yX6_grindsBy, cX6_grindsBy, 3, (some .boolean)), (yX6_signOf, cX6_signOf, 3, (some .int)), (yX7_read, cX7_read, 6, (some .int)), (yX7_takesWeek, cX7_takesWeek, 5, (some .boolean)), (yX7_takesReach, cX7_takesReach, 4, (some .boolean)), (yX7_onlyBlanksLeft, cX7_onlyBlanksLeft, 1, (some .boolean)), (yX7_seen, cX7_seen, 1, (some .int)), (yX7_seesFigure, cX7_seesFigure, 3, (some .boolean)), (yX7_skipBlanks, cX7_skipBlanks, 2, none), (yX8_isOne, cX8_isOne, 2, (some .boolean)), (yX8_isThere, cX8_isThere, 2, (some .boolean)), (yX8_sizeOf, cX8_sizeOf, 2, (some .int)), (yX8_holds, cX8_holds, 3, (some .boolean)), (yX8_holdsRun, cX8_holdsRun, 4, (some .boolean)), (yX8_valueAt, cX8_valueAt, 3, (some .int)), (yX8_change, cX8_change, 4, none), (yX8_make, cX8_make, 5, none), (yX8_take, cX8_take, 5, none), (yX8_giveTo, cX8_giveTo, 4, none), (yX8_drop, cX8_drop, 2, none), (yX8_transfer, cX8_transfer, 6, none), (yX8_sumOf, cX8_sumOf, 5, (some .long)), (yX8_allWithin, cX8_allWithin, 4, (some .boolean)), (yX8_howMany, cX8_howMany, 3, (some .int)), (yX8_mixInto, cX8_mixInto, 5, (some .long)), (yX9_row, cX9_row, 3, (some .int)), (yX9_lay, cX9_lay, 6, (some .int)), (yX9_at, cX9_at, 4, (some .int)), (yX9_tear, cX9_tear, 3, (some .int)), (yX9_copy, cX9_copy, 6, (some .int)), (yX9_mean, cX9_mean, 4, (some .int)), (yX9_text, cX9_text, 3, (some .int)), (yX9_put, cX9_put, 6, (some .int)), (yX9_fault, cX9_fault, 3, (some .int)), (yX9_river, cX9_river, 5, (some .int)), (yX9_reach, cX9_reach, 3, (some .int)), (yX9_mark, cX9_mark, 3, (some .int))]
def MT2 : List MIn := [(yX9_weekday, cX9_weekday, 3, (some .int)), (yX9_swap, cX9_swap, 4, (some .int)), (yX9_owns, cX9_owns, 2, (some .int)), (yX9_day, cX9_day, 2, (some .int)), (yX9_undo, cX9_undo, 3, (some .int)), (yX9_keep, cX9_keep, 2, (some .int)), (yX9_on, cX9_on, 2, (some .int)), (yX9_gates, cX9_gates, 1, (some .int)), (yX9_runs, cX9_runs, 2, (some .int)), (yX9_sea, cX9_sea, 3, (some .int)), (yX9_water, cX9_water, 4, (some .int)), (yX9_share, cX9_share, 4, (some .int)), (yX9_grinds, cX9_grinds, 3, (some .int)), (yX9_best, cX9_best, 4, (some .int)), (yX9_all, cX9_all, 4, (some .int)), (yX9_most, cX9_most, 4, (some .int)), (yX9_worth, cX9_worth, 7, (some .int)), (yX9_duel, cX9_duel, 3, (some .int)), (yX9_ways, cX9_ways, 3, (some .int)), (yX9_first, cX9_first, 4, (some .int)), (yX9_kinds, cX9_kinds, 6, (some .int)), (yX9_measures, cX9_measures, 6, (some .int)), (yX9_mid, cX9_mid, 4, (some .int)), (yX9_odds, cX9_odds, 5, (some .int)), (yX9_lots, cX9_lots, 7, (some .int)), (yX9_asked, cX9_asked, 1, (some .int)), (yX9_upper, cX9_upper, 1, (some .long)), (yX9_lower, cX9_lower, 1, (some .long)), (yX9_count, cX9_count, 2, (some .int)), (yX9_finding, cX9_finding, 1, (some .int)), (yX9_findings, cX9_findings, 2, (some .int)), (yX9_digest, cX9_digest, 5, (some .long)), (yX9_tell, cX9_tell, 2, (some .int)), (yX9_tellFraction, cX9_tellFraction, 7, none), (yX9_commonDivisor, cX9_commonDivisor, 7, (some .long)), (yX9_find, cX9_find, 2, (some .int)), (yX9_makeAnew, cX9_makeAnew, 5, (some .int)), (yX9_refuseMissing, cX9_refuseMissing, 3, (some .int)), (yX9_refusePlace, cX9_refusePlace, 5, (some .int)), (yX9_refuseSearch, cX9_refuseSearch, 4, (some .int))]
def MT3 : List MIn := [(yX9_refuseWithoutRiver, cX9_refuseWithoutRiver, 3, (some .int)), (yX9_refusePlan, cX9_refusePlan, 6, (some .int)), (yX9_refuseSeas, cX9_refuseSeas, 4, (some .int)), (yX9_refusePairs, cX9_refusePairs, 4, (some .int)), (yX9_isWeekday, cX9_isWeekday, 1, (some .boolean)), (yX9_isVillage, cX9_isVillage, 1, (some .boolean)), (yX9_isOfTwelve, cX9_isOfTwelve, 1, (some .boolean)), (yX9_passTruly, cX9_passTruly, 4, (some .int)), (yX9_replay, cX9_replay, 2, none), (yX9_readDraft, cX9_readDraft, 2, (some .int)), (yX9_followPlan, cX9_followPlan, 3, none), (yX9_groundWithout, cX9_groundWithout, 4, (some .int)), (yX9_agrees, cX9_agrees, 8, (some .boolean)), (yX9_ofReach, cX9_ofReach, 3, (some .int)), (yX9_counted, cX9_counted, 2, (some .int)), (yX9_keptRivers, cX9_keptRivers, 3, (some .int)), (yX9_sum, cX9_sum, 6, (some .int)), (yX10_in, cX10_in, 3, (some .boolean)), (yX10_meet, cX10_meet, 2, (some .int)), (yX10_ask, cX10_ask, 3, (some .int)), (yX10_has, cX10_has, 2, (some .boolean)), (yX10_greater, cX10_greater, 2, (some .int)), (yX10_part, cX10_part, 11, (some .int)), (yX10_isRow, cX10_isRow, 1, (some .boolean)), (yX10_isText, cX10_isText, 1, (some .boolean)), (yX10_askedRow, cX10_askedRow, 2, (some .int)), (yX10_askedText, cX10_askedText, 2, (some .int)), (yX10_rowAt, cX10_rowAt, 3, (some .int)), (yX10_setRow, cX10_setRow, 4, none), (yX10_row, cX10_row, 4, (some .int)), (yX10_at, cX10_at, 4, (some .int)), (yX10_lay, cX10_lay, 5, (some .int)), (yX10_tear, cX10_tear, 3, (some .int)), (yX10_copy, cX10_copy, 7, (some .int)), (yX10_mean, cX10_mean, 6, (some .int)), (yX10_text, cX10_text, 4, (some .int)), (yX10_put, cX10_put, 6, (some .int)), (yX10_here, cX10_here, 2, (some .int)), (yX10_skip, cX10_skip, 2, none), (yX10_figure, cX10_figure, 7, (some .boolean))]
def MT4 : List MIn := [(yX10_readsWeek, cX10_readsWeek, 6, (some .boolean)), (yX10_kindBy, cX10_kindBy, 1, (some .int)), (yX10_isGate, cX10_isGate, 1, (some .boolean)), (yX10_isMill, cX10_isMill, 1, (some .boolean)), (yX10_readsReach, cX10_readsReach, 4, (some .boolean)), (yX10_readsRiver, cX10_readsRiver, 2, (some .boolean)), (yX10_goesOn, cX10_goesOn, 2, (some .int)), (yX10_fault, cX10_fault, 3, (some .int)), (yX10_river, cX10_river, 4, (some .int)), (yX10_isReach, cX10_isReach, 2, (some .boolean)), (yX10_isDay, cX10_isDay, 1, (some .boolean)), (yX10_gateSet, cX10_gateSet, 3, (some .int)), (yX10_canShut, cX10_canShut, 2, (some .boolean)), (yX10_write, cX10_write, 4, none), (yX10_read, cX10_read, 4, none), (yX10_begin, cX10_begin, 1, none), (yX10_back, cX10_back, 1, none), (yX10_runsFrom, cX10_runsFrom, 4, (some .int)), (yX10_grindsBy, cX10_grindsBy, 3, (some .boolean)), (yX10_pass, cX10_pass, 5, (some .int)), (yX10_groundMany, cX10_groundMany, 3, (some .int)), (yX10_dayTruly, cX10_dayTruly, 2, (some .int)), (yX10_day, cX10_day, 2, (some .int)), (yX10_undo, cX10_undo, 3, (some .int)), (yX10_keep, cX10_keep, 4, (some .int)), (yX10_on, cX10_on, 4, (some .int)), (yX10_reachOf, cX10_reachOf, 3, (some .int)), (yX10_reach, cX10_reach, 3, (some .int)), (yX10_isA, cX10_isA, 3, (some .boolean)), (yX10_mark, cX10_mark, 5, (some .int)), (yX10_weekday, cX10_weekday, 3, (some .int)), (yX10_swap, cX10_swap, 4, (some .int)), (yX10_owns, cX10_owns, 2, (some .int)), (yX10_gates, cX10_gates, 1, (some .int)), (yX10_runs, cX10_runs, 3, (some .int)), (yX10_askedPlan, cX10_askedPlan, 4, (some .int)), (yX10_sea, cX10_sea, 6, (some .int)), (yX10_water, cX10_water, 5, (some .int)), (yX10_share, cX10_share, 6, (some .int)), (yX10_grinds, cX10_grinds, 4, (some .int))]
def MT5 : List MIn := [(yX10_setSets, cX10_setSets, 3, none), (yX10_plans, cX10_plans, 4, (some .int)), (yX10_setOf, cX10_setOf, 6, (some .int)), (yX10_layPlan, cX10_layPlan, 5, none), (yX10_bits, cX10_bits, 3, (some .int)), (yX10_best, cX10_best, 8, (some .int)), (yX10_millSet, cX10_millSet, 3, (some .int)), (yX10_all, cX10_all, 10, (some .int)), (yX10_most, cX10_most, 7, (some .int)), (yX10_worth, cX10_worth, 7, (some .int)), (yX10_groundBy, cX10_groundBy, 7, (some .int)), (yX10_duel, cX10_duel, 8, (some .int)), (yX10_askedSea, cX10_askedSea, 3, (some .int)), (yX10_comesSo, cX10_comesSo, 5, (some .boolean)), (yX10_ways, cX10_ways, 6, (some .int)), (yX10_first, cX10_first, 8, (some .int)), (yX10_askedBook, cX10_askedBook, 5, (some .int)), (yX10_isSo, cX10_isSo, 8, (some .boolean)), (yX10_kinds, cX10_kinds, 6, (some .int)), (yX10_measures, cX10_measures, 6, (some .int)), (yX10_shutMany, cX10_shutMany, 4, (some .int)), (yX10_holds, cX10_holds, 6, (some .int)), (yX10_power, cX10_power, 6, (some .long)), (yX10_sums, cX10_sums, 15, (some .int)), (yX10_mid, cX10_mid, 4, (some .int)), (yX10_odds, cX10_odds, 5, (some .int)), (yX10_lots, cX10_lots, 11, (some .int)), (yX10_asked, cX10_asked, 1, (some .int)), (yX10_upper, cX10_upper, 1, (some .long)), (yX10_lower, cX10_lower, 1, (some .long)), (yX10_there, cX10_there, 4, (some .int)), (yX10_tells, cX10_tells, 4, (some .int)), (yX10_count, cX10_count, 2, (some .int)), (yX10_finding, cX10_finding, 1, (some .int)), (yX10_findings, cX10_findings, 2, (some .int)), (yX10_mix, cX10_mix, 2, none), (yX10_mixRiver, cX10_mixRiver, 3, none), (yX10_digest, cX10_digest, 3, (some .long))]
def MT : List MIn := MT0 ++ (MT1 ++ (MT2 ++ (MT3 ++ (MT4 ++ (MT5)))))
def rmd (d : Nat) : Room := { frames := d, cells := 0, slots := 0, locals := 300 * d }
def cvr : AV → Option Value
  | .inl x => some (.int x)
  | .inr (.inl x) => some (.long x)
  | .inr (.inr _) => none
def QM (D : va_G) (Λ : LAM) (v : AV) (B : AH) (F : Nat → Prop) : Array Value → State → Outcome → State → Prop := fun _ st oc t => (oc = .returned (cvr v) ∧ va_P D CLS (WD Λ B) t.heap) ∧ va_F F st t
def PM (D : va_G) (Λ : LAM) (A : AH) (as : List AV) (sz : Nat) : Array Value → State → Prop := va_Pc (as.map (cv Λ)) (fun U => U.heap.size = sz ∧ va_P D CLS (WD Λ A) U.heap ∧ KD D Λ U ∧ va_D (fun _ => True) (WD Λ A))
def CON (l : Launch) (D : va_G) (Λ : LAM) (d y : Nat) (as : List AV) (A : AH) (v : AV) (B : AH) : Prop := ∀ i : MIn, lgt MT y = some i → ∀ sz : Nat, Met l i.1 (.code i.1 i.2.1 i.2.2.1 i.2.2.2 :: GW) (rmd d) (PM D Λ A as sz) (QM D Λ v B (va_A (WD Λ A) sz)) 0 0 (va_A (WD Λ A) sz)
def MF (i : MIn) (np : Nat) : Prop := Cond.code i.1 i.2.1 i.2.2.1 i.2.2.2 ∈ GW ∧ Cond.initialized i.1.cls ∈ GW ∧ (i.1.cls ≠ "java/lang/invoke/MethodHandle" ∧ i.1.cls ≠ "java/lang/invoke/VarHandle" ∧ (parseMethodDescriptor i.1.desc).map (fun d => d.parameters.length) = some np) ∧ i.2.2.1 ≤ 200
theorem gw_in {w : Cond} (h : w ∈ GW) : GoodIn GW (w :: GW) := by
  intro u hu
  have hm : u ∈ GW := by
    rcases List.mem_cons.mp hu with e | e
    · rw [e]; exact h
    · exact e
  exact ⟨hm, good_of_word (List.mem_filter.mp hm).2⟩
def CX (p : Program) (l : Launch) (R : Room) (s : State) (m : MethodId) (args : Array Value) (meth : Method) (c : Code) (own : String) (cc : ByteArray) (nL : Nat) (ret : Option FieldType) (D : va_G) (Λ : LAM) (d : Nat) (o : ORC) : Prop :=
  p.tables.exec = Jvm.exec ∧ c.code = cc ∧ c.maxLocals = nL ∧ s.vm.findClass own = some m.cls ∧ (∀ w ∈ GW, w.before args s = true) ∧ KD D Λ s ∧ (d + 1 ≤ R.frames ∧ 300 * (d + 1) ≤ R.locals) ∧ meth.sig.returnType = ret ∧ meth.locks = false ∧ ∀ y as A v B, o y as A = some (v, B) → CON l D Λ d y as A v B
theorem okc_spec {a ci : Nat} (h : okc a ci = true) : lgt SH a = some (.inr ci) := by
  unfold okc at h
  split at h
  · next c hc => rw [hc, Nat.eq_of_beq_eq_true h]
  · cases h
theorem alen_spec {t a : Nat} {i : Int32} (h : inb i (alen t a) = true) : lgt SH a = some (.inl (t, alen t a)) ∧ vp_in i (alen t a) := by
  unfold inb at h
  simp only [Bool.and_eq_true, Bool.not_eq_true', decide_eq_false_iff_not, decide_eq_true_eq] at h
  refine ⟨?_, fun q => q.elim h.1 (fun z => by omega)⟩
  have h2 := h.2
  unfold alen at h2 ⊢
  split at h2
  · next x hx =>
    cases hb : Nat.beq x.1 t with
    | true =>
      rw [hx]
      simp only [hb, cond_true]
      rw [← Nat.eq_of_beq_eq_true hb]
    | false =>
      rw [hb] at h2
      simp at h2
  · omega
def fkd (ci j : Nat) : Option Nat := (lgt FK ci).bind (fun ks => ks[j]?)
theorem flds_at {Λ : LAM} {A : AH} {k ci j t : Nat} (h : fkd ci j = some t) : (flds Λ A k ci)[j]? = some (fldv Λ A k j t) := by
  unfold fkd at h
  unfold flds
  cases hk : lgt FK ci with
  | none => rw [hk] at h; cases h
  | some ks =>
    rw [hk] at h
    have h : ks[j]? = some t := h
    simp [List.getElem?_mapIdx, h]
theorem cell_congr {Λ : LAM} {A B : AH} {k : Nat} {s : SHP} (h1 : B.1 k = A.1 k) (h2 : B.2.1 k = A.2.1 k) (h3 : ∀ j, RF B.2.2 k j = RF A.2.2 k j) : cellOf Λ B k s = cellOf Λ A k s := by
  have hf : ∀ j t, fldv Λ B k j t = fldv Λ A k j t := by
    intro j t
    match t with
    | 0 => simp only [fldv, h1]
    | 1 => simp only [fldv, h2]
    | _ + 2 => simp only [fldv, h3]
  cases s with
  | inl x => simp only [cellOf, h1, h3]
  | inr ci => simp only [cellOf, flds, hf]
theorem flds_set {Λ : LAM} {A B : AH} {a ci j t : Nat} (h : fkd ci j = some t) (ho : ∀ i u, i ≠ j → fkd ci i = some u → fldv Λ B a i u = fldv Λ A a i u) : (flds Λ A a ci).set j (fldv Λ B a j t) = flds Λ B a ci := by
  apply List.ext_getElem?
  intro i
  by_cases e : i = j
  · subst e
    have hl := (List.getElem?_eq_some_iff.mp (flds_at (Λ := Λ) (A := A) (k := a) h)).1
    rw [List.getElem?_set_self hl, flds_at h]
  · rw [List.getElem?_set_ne (Ne.symm e)]
    cases hf : fkd ci i with
    | some u => rw [flds_at hf, flds_at hf, ho i u e hf]
    | none =>
      unfold fkd at hf
      unfold flds
      cases hk : lgt FK ci with
      | none => rfl
      | some ks =>
        rw [hk] at hf
        have hf : ks[i]? = none := hf
        simp [List.getElem?_mapIdx, hf]
theorem cats_sum (Λ : LAM) : ∀ st : List AV, ((st.map (cv Λ)).map fun v => v.category).sum = cats st
  | [] => rfl
  | a :: t => by
    have := cats_sum Λ t
    simp only [List.map_cons, List.sum_cons, cats, cv_cat, this]
section SND
variable {p : Program} {l : Launch} {e : Env} {R : Room} {s : State} {m : MethodId} {args : Array Value} {below : List Frame} {meth : Method} {c : Code} {own : String} {cc : ByteArray} {nL d : Nat} {ret : Option FieldType} {D : va_G} {Λ : LAM} {FR : Nat → Prop} {Q : RES → State → Prop} {o : ORC} {pc : Nat}
def GD (p : Program) (l : Launch) (e : Env) (R : Room) (s : State) (m : MethodId) (args : Array Value) (below : List Frame) (meth : Method) (c : Code) (nL : Nat) (D : va_G) (Λ : LAM) (FR : Nat → Prop) (Q : RES → State → Prop) (pc : Nat) (L : LO) (st : List AV) (A : AH) (r : RES) : Prop :=
  ∀ (H : Heap) (locs : List Loc) (ls : Array Slot), va_P D CLS (WD Λ A) H → va_D FR (WD Λ A) → va_S FR s.heap H locs → LH Λ ls nL L → W p l e R s m args below meth c H locs 0 0 (Q r) (F0 m pc ls (st.map (cv Λ)))
def SN (p : Program) (l : Launch) (e : Env) (R : Room) (s : State) (m : MethodId) (args : Array Value) (below : List Frame) (meth : Method) (c : Code) (nL : Nat) (D : va_G) (Λ : LAM) (FR : Nat → Prop) (Q : RES → State → Prop) (pc : Nat) (i : INS) : Prop :=
  ∀ (k : KT) (L : LO) (st : List AV) (A : AH) (r : RES), (∀ pc' L' st' A' r', k pc' L' st' A' = some r' → GD p l e R s m args below meth c nL D Λ FR Q pc' L' st' A' r') → i k L st A = some r → GD p l e R s m args below meth c nL D Λ FR Q pc L st A r

theorem sn_iconst (X : CX p l R s m args meth c own cc nL ret D Λ d o) {n : Int} {v : Int32} (hdg : decode cc pc = .ok (.iconst n, 1)) (hv : Int32.ofInt n = v) : SN p l e R s m args below meth c nL D Λ FR Q pc (x_const (iv v) (pc + 1)) := by
  intro k L st A r hk h
  obtain ⟨hx, hb, hml, hown, hts, hKD, hR, hr, hlk, hO⟩ := X
  intro H locs ls hP hD hS hl
  exact lv_iconst hx hb hdg hv (hk _ _ _ _ _ h H locs ls hP hD hS hl)
theorem sn_bipush (X : CX p l R s m args meth c own cc nL ret D Λ d o) {n : Int} {v : Int32} (hdg : decode cc pc = .ok (.bipush n, 2)) (hv : (Int8.ofInt n).toInt32 = v) : SN p l e R s m args below meth c nL D Λ FR Q pc (x_const (iv v) (pc + 2)) := by
  intro k L st A r hk h
  obtain ⟨hx, hb, hml, hown, hts, hKD, hR, hr, hlk, hO⟩ := X
  intro H locs ls hP hD hS hl
  exact lv_bipush hx hb hdg hv (hk _ _ _ _ _ h H locs ls hP hD hS hl)
theorem sn_sipush (X : CX p l R s m args meth c own cc nL ret D Λ d o) {n : Int} {v : Int32} (hdg : decode cc pc = .ok (.sipush n, 3)) (hv : (Int16.ofInt n).toInt32 = v) : SN p l e R s m args below meth c nL D Λ FR Q pc (x_const (iv v) (pc + 3)) := by
  intro k L st A r hk h
  obtain ⟨hx, hb, hml, hown, hts, hKD, hR, hr, hlk, hO⟩ := X
  intro H locs ls hP hD hS hl
  exact lv_sipush hx hb hdg hv (hk _ _ _ _ _ h H locs ls hP hD hS hl)
theorem sn_lconst (X : CX p l R s m args meth c own cc nL ret D Λ d o) {n : Fin 2} {v : Int64} (hdg : decode cc pc = .ok (.lconst n, 1)) (hv : Int64.ofNat (n : Nat) = v) : SN p l e R s m args below meth c nL D Λ FR Q pc (x_const (jv v) (pc + 1)) := by
  intro k L st A r hk h
  obtain ⟨hx, hb, hml, hown, hts, hKD, hR, hr, hlk, hO⟩ := X
  intro H locs ls hP hD hS hl
  exact lv_lconst hx hb hdg hv (hk _ _ _ _ _ h H locs ls hP hD hS hl)
theorem sn_ldcw (X : CX p l R s m args meth c own cc nL ret D Λ d o) {idx : Nat} {v : Int32} (hw : Cond.constant own idx v ∈ GW) (hdg : decode cc pc = .ok (.ldc_w idx, 3)) : SN p l e R s m args below meth c nL D Λ FR Q pc (x_const (iv v) (pc + 3)) := by
  intro k L st A r hk h
  obtain ⟨hx, hb, hml, hown, hts, hKD, hR, hr, hlk, hO⟩ := X
  intro H locs ls hP hD hS hl
  exact lv_ldcw hx hb hown (hts _ hw) hdg (hk _ _ _ _ _ h H locs ls hP hD hS hl)
theorem sn_ldc2 (X : CX p l R s m args meth c own cc nL ret D Λ d o) {idx : Nat} {v : Int64} (hw : Cond.constantLong own idx v ∈ GW) (hdg : decode cc pc = .ok (.ldc2_w idx, 3)) : SN p l e R s m args below meth c nL D Λ FR Q pc (x_const (jv v) (pc + 3)) := by
  intro k L st A r hk h
  obtain ⟨hx, hb, hml, hown, hts, hKD, hR, hr, hlk, hO⟩ := X
  intro H locs ls hP hD hS hl
  exact lv_ldc2 hx hb hown (hts _ hw) hdg (hk _ _ _ _ _ h H locs ls hP hD hS hl)
theorem sn_iload_n (X : CX p l R s m args meth c own cc nL ret D Λ d o) {k4 : Fin 4} {i : Nat} (hdg : decode cc pc = .ok (.iload_n k4, 1)) (hi : (k4 : Nat) = i) : SN p l e R s m args below meth c nL D Λ FR Q pc (x_iload i (pc + 1)) := by
  intro k L st A r hk h
  obtain ⟨hx, hb, hml, hown, hts, hKD, hR, hr, hlk, hO⟩ := X
  unfold x_iload at h
  split at h
  · next x hx9 =>
    intro H locs ls hP hD hS hl
    exact lv_iload_n hx hb hdg hi (hl.2.2 i _ hx9) (hk _ _ _ _ _ h H locs ls hP hD hS hl)
  · cases h
theorem sn_iload (X : CX p l R s m args meth c own cc nL ret D Λ d o) {i : Nat} (hdg : decode cc pc = .ok (.iload i, 2)) : SN p l e R s m args below meth c nL D Λ FR Q pc (x_iload i (pc + 2)) := by
  intro k L st A r hk h
  obtain ⟨hx, hb, hml, hown, hts, hKD, hR, hr, hlk, hO⟩ := X
  unfold x_iload at h
  split at h
  · next x hx9 =>
    intro H locs ls hP hD hS hl
    exact lv_iload hx hb hdg (hl.2.2 i _ hx9) (hk _ _ _ _ _ h H locs ls hP hD hS hl)
  · cases h
theorem sn_lload_n (X : CX p l R s m args meth c own cc nL ret D Λ d o) {k4 : Fin 4} {i : Nat} (hdg : decode cc pc = .ok (.lload_n k4, 1)) (hi : (k4 : Nat) = i) : SN p l e R s m args below meth c nL D Λ FR Q pc (x_lload i (pc + 1)) := by
  intro k L st A r hk h
  obtain ⟨hx, hb, hml, hown, hts, hKD, hR, hr, hlk, hO⟩ := X
  unfold x_lload at h
  split at h
  · next x hx9 =>
    intro H locs ls hP hD hS hl
    exact lv_lload_n hx hb hdg hi (hl.2.2 i _ hx9) (hk _ _ _ _ _ h H locs ls hP hD hS hl)
  · cases h
theorem sn_lload (X : CX p l R s m args meth c own cc nL ret D Λ d o) {i : Nat} (hdg : decode cc pc = .ok (.lload i, 2)) : SN p l e R s m args below meth c nL D Λ FR Q pc (x_lload i (pc + 2)) := by
  intro k L st A r hk h
  obtain ⟨hx, hb, hml, hown, hts, hKD, hR, hr, hlk, hO⟩ := X
  unfold x_lload at h
  split at h
  · next x hx9 =>
    intro H locs ls hP hD hS hl
    exact lv_lload hx hb hdg (hl.2.2 i _ hx9) (hk _ _ _ _ _ h H locs ls hP hD hS hl)
  · cases h
theorem sn_aload_n (X : CX p l R s m args meth c own cc nL ret D Λ d o) {k4 : Fin 4} {i : Nat} (hdg : decode cc pc = .ok (.aload_n k4, 1)) (hi : (k4 : Nat) = i) : SN p l e R s m args below meth c nL D Λ FR Q pc (x_aload i (pc + 1)) := by
  intro k L st A r hk h
  obtain ⟨hx, hb, hml, hown, hts, hKD, hR, hr, hlk, hO⟩ := X
  unfold x_aload at h
  split at h
  · next x hx9 =>
    intro H locs ls hP hD hS hl
    have hv := hl.2.2 i _ hx9
    cases x with
    | none => exact lv_aload_nN hx hb hdg hi hv (hk _ _ _ _ _ h H locs ls hP hD hS hl)
    | some a => exact lv_aload_n hx hb hdg hi hv (hk _ _ _ _ _ h H locs ls hP hD hS hl)
  · cases h
theorem sn_aload (X : CX p l R s m args meth c own cc nL ret D Λ d o) {i : Nat} (hdg : decode cc pc = .ok (.aload i, 2)) : SN p l e R s m args below meth c nL D Λ FR Q pc (x_aload i (pc + 2)) := by
  intro k L st A r hk h
  obtain ⟨hx, hb, hml, hown, hts, hKD, hR, hr, hlk, hO⟩ := X
  unfold x_aload at h
  split at h
  · next x hx9 =>
    intro H locs ls hP hD hS hl
    have hv := hl.2.2 i _ hx9
    cases x with
    | none => exact lv_aloadN hx hb hdg hv (hk _ _ _ _ _ h H locs ls hP hD hS hl)
    | some a => exact lv_aload hx hb hdg hv (hk _ _ _ _ _ h H locs ls hP hD hS hl)
  · cases h
theorem sn_istore_n (X : CX p l R s m args meth c own cc nL ret D Λ d o) {k4 : Fin 4} {i : Nat} (hdg : decode cc pc = .ok (.istore_n k4, 1)) (hi : (k4 : Nat) = i) (hn : i < nL) : SN p l e R s m args below meth c nL D Λ FR Q pc (x_istore i (pc + 1)) := by
  intro k L st A r hk h
  obtain ⟨hx, hb, hml, hown, hts, hKD, hR, hr, hlk, hO⟩ := X
  unfold x_istore at h
  split at h
  · intro H locs ls hP hD hS hl
    exact lv_istore_n hx hb hdg hi hl.to hn rfl (fun ls hl => hk _ _ _ _ _ h H locs ls hP hD hS (LH.st1 hl))
  · cases h
theorem sn_lstore_n (X : CX p l R s m args meth c own cc nL ret D Λ d o) {k4 : Fin 4} {i : Nat} (hdg : decode cc pc = .ok (.lstore_n k4, 1)) (hi : (k4 : Nat) = i) (hn : i + 1 < nL) : SN p l e R s m args below meth c nL D Λ FR Q pc (x_lstore i (pc + 1)) := by
  intro k L st A r hk h
  obtain ⟨hx, hb, hml, hown, hts, hKD, hR, hr, hlk, hO⟩ := X
  unfold x_lstore at h
  split at h
  · intro H locs ls hP hD hS hl
    exact lv_lstore_n hx hb hdg hi hl.to hn rfl (fun ls hl => hk _ _ _ _ _ h H locs ls hP hD hS (LH.st2 hl))
  · cases h
theorem sn_istore (X : CX p l R s m args meth c own cc nL ret D Λ d o) {i : Nat} (hdg : decode cc pc = .ok (.istore i, 2)) (hn : i < nL) : SN p l e R s m args below meth c nL D Λ FR Q pc (x_istore i (pc + 2)) := by
  intro k L st A r hk h
  obtain ⟨hx, hb, hml, hown, hts, hKD, hR, hr, hlk, hO⟩ := X
  unfold x_istore at h
  split at h
  · intro H locs ls hP hD hS hl
    exact lv_istore hx hb hdg hl.to hn rfl (fun ls hl => hk _ _ _ _ _ h H locs ls hP hD hS (LH.st1 hl))
  · cases h
theorem sn_lstore (X : CX p l R s m args meth c own cc nL ret D Λ d o) {i : Nat} (hdg : decode cc pc = .ok (.lstore i, 2)) (hn : i + 1 < nL) : SN p l e R s m args below meth c nL D Λ FR Q pc (x_lstore i (pc + 2)) := by
  intro k L st A r hk h
  obtain ⟨hx, hb, hml, hown, hts, hKD, hR, hr, hlk, hO⟩ := X
  unfold x_lstore at h
  split at h
  · intro H locs ls hP hD hS hl
    exact lv_lstore hx hb hdg hl.to hn rfl (fun ls hl => hk _ _ _ _ _ h H locs ls hP hD hS (LH.st2 hl))
  · cases h
theorem sn_astore_n (X : CX p l R s m args meth c own cc nL ret D Λ d o) {k4 : Fin 4} {i : Nat} (hdg : decode cc pc = .ok (.astore_n k4, 1)) (hi : (k4 : Nat) = i) (hn : i < nL) : SN p l e R s m args below meth c nL D Λ FR Q pc (x_astore i (pc + 1)) := by
  intro k L st A r hk h
  obtain ⟨hx, hb, hml, hown, hts, hKD, hR, hr, hlk, hO⟩ := X
  unfold x_astore at h
  split at h
  · next x r9 =>
    intro H locs ls hP hD hS hl
    cases x with
    | none => exact lv_astore_nN hx hb hdg hi hl.to hn rfl (fun ls hl => hk _ _ _ _ _ h H locs ls hP hD hS (LH.st1 hl))
    | some a => exact lv_astore_n hx hb hdg hi hl.to hn rfl (fun ls hl => hk _ _ _ _ _ h H locs ls hP hD hS (LH.st1 hl))
  · cases h
theorem sn_iinc (X : CX p l R s m args meth c own cc nL ret D Λ d o) {i : Nat} {n : Int} {v : Int32} (hdg : decode cc pc = .ok (.iinc i n, 3)) (hv : Int32.ofInt n = v) (hn : i < nL) : SN p l e R s m args below meth c nL D Λ FR Q pc (x_iinc i v (pc + 3)) := by
  intro k L st A r hk h
  obtain ⟨hx, hb, hml, hown, hts, hKD, hR, hr, hlk, hO⟩ := X
  unfold x_iinc at h
  split at h
  · next x hx9 =>
    intro H locs ls hP hD hS hl
    obtain ⟨k9, hk9⟩ := List.getElem?_of_mem (tl_mem (Λ := Λ) L 0 i _ hx9)
    rw [Nat.zero_add] at hk9
    exact lv_iinc hx hb hdg hl.to hk9 (by rw [hv]) hn rfl (fun ls hl => hk _ _ _ _ _ h H locs ls hP hD hS (LH.st1 hl))
  · cases h
theorem sn_iadd (X : CX p l R s m args meth c own cc nL ret D Λ d o) (hdg : decode cc pc = .ok (.iadd, 1)) : SN p l e R s m args below meth c nL D Λ FR Q pc (x_bin (fun x y => x + y) (pc + 1)) := by
  intro k L st A r hk h
  obtain ⟨hx, hb, hml, hown, hts, hKD, hR, hr, hlk, hO⟩ := X
  unfold x_bin at h
  split at h
  · intro H locs ls hP hD hS hl
    exact lv_iadd hx hb hdg (hk _ _ _ _ _ h H locs ls hP hD hS hl)
  · cases h
theorem sn_isub (X : CX p l R s m args meth c own cc nL ret D Λ d o) (hdg : decode cc pc = .ok (.isub, 1)) : SN p l e R s m args below meth c nL D Λ FR Q pc (x_bin (fun x y => x - y) (pc + 1)) := by
  intro k L st A r hk h
  obtain ⟨hx, hb, hml, hown, hts, hKD, hR, hr, hlk, hO⟩ := X
  unfold x_bin at h
  split at h
  · intro H locs ls hP hD hS hl
    exact lv_isub hx hb hdg (hk _ _ _ _ _ h H locs ls hP hD hS hl)
  · cases h
theorem sn_imul (X : CX p l R s m args meth c own cc nL ret D Λ d o) (hdg : decode cc pc = .ok (.imul, 1)) : SN p l e R s m args below meth c nL D Λ FR Q pc (x_bin (fun x y => x * y) (pc + 1)) := by
  intro k L st A r hk h
  obtain ⟨hx, hb, hml, hown, hts, hKD, hR, hr, hlk, hO⟩ := X
  unfold x_bin at h
  split at h
  · intro H locs ls hP hD hS hl
    exact lv_imul hx hb hdg (hk _ _ _ _ _ h H locs ls hP hD hS hl)
  · cases h
theorem sn_iand (X : CX p l R s m args meth c own cc nL ret D Λ d o) (hdg : decode cc pc = .ok (.iand, 1)) : SN p l e R s m args below meth c nL D Λ FR Q pc (x_bin (fun x y => x &&& y) (pc + 1)) := by
  intro k L st A r hk h
  obtain ⟨hx, hb, hml, hown, hts, hKD, hR, hr, hlk, hO⟩ := X
  unfold x_bin at h
  split at h
  · intro H locs ls hP hD hS hl
    exact lv_iand hx hb hdg (hk _ _ _ _ _ h H locs ls hP hD hS hl)
  · cases h
theorem sn_ior (X : CX p l R s m args meth c own cc nL ret D Λ d o) (hdg : decode cc pc = .ok (.ior, 1)) : SN p l e R s m args below meth c nL D Λ FR Q pc (x_bin (fun x y => x ||| y) (pc + 1)) := by
  intro k L st A r hk h
  obtain ⟨hx, hb, hml, hown, hts, hKD, hR, hr, hlk, hO⟩ := X
  unfold x_bin at h
  split at h
  · intro H locs ls hP hD hS hl
    exact lv_ior hx hb hdg (hk _ _ _ _ _ h H locs ls hP hD hS hl)
  · cases h
theorem sn_ixor (X : CX p l R s m args meth c own cc nL ret D Λ d o) (hdg : decode cc pc = .ok (.ixor, 1)) : SN p l e R s m args below meth c nL D Λ FR Q pc (x_bin (fun x y => x ^^^ y) (pc + 1)) := by
  intro k L st A r hk h
  obtain ⟨hx, hb, hml, hown, hts, hKD, hR, hr, hlk, hO⟩ := X
  unfold x_bin at h
  split at h
  · intro H locs ls hP hD hS hl
    exact lv_ixor hx hb hdg (hk _ _ _ _ _ h H locs ls hP hD hS hl)
  · cases h
theorem sn_ishl (X : CX p l R s m args meth c own cc nL ret D Λ d o) (hdg : decode cc pc = .ok (.ishl, 1)) : SN p l e R s m args below meth c nL D Λ FR Q pc (x_bin (fun x y => x <<< (y &&& 31)) (pc + 1)) := by
  intro k L st A r hk h
  obtain ⟨hx, hb, hml, hown, hts, hKD, hR, hr, hlk, hO⟩ := X
  unfold x_bin at h
  split at h
  · intro H locs ls hP hD hS hl
    exact lv_ishl hx hb hdg (hk _ _ _ _ _ h H locs ls hP hD hS hl)
  · cases h
theorem sn_ishr (X : CX p l R s m args meth c own cc nL ret D Λ d o) (hdg : decode cc pc = .ok (.ishr, 1)) : SN p l e R s m args below meth c nL D Λ FR Q pc (x_bin (fun x y => x >>> (y &&& 31)) (pc + 1)) := by
  intro k L st A r hk h
  obtain ⟨hx, hb, hml, hown, hts, hKD, hR, hr, hlk, hO⟩ := X
  unfold x_bin at h
  split at h
  · intro H locs ls hP hD hS hl
    exact lv_ishr hx hb hdg (hk _ _ _ _ _ h H locs ls hP hD hS hl)
  · cases h
theorem sn_iushr (X : CX p l R s m args meth c own cc nL ret D Λ d o) (hdg : decode cc pc = .ok (.iushr, 1)) : SN p l e R s m args below meth c nL D Λ FR Q pc (x_bin (fun x y => (x.toUInt32 >>> (y.toUInt32 &&& Int32.toUInt32 31)).toInt32) (pc + 1)) := by
  intro k L st A r hk h
  obtain ⟨hx, hb, hml, hown, hts, hKD, hR, hr, hlk, hO⟩ := X
  unfold x_bin at h
  split at h
  · intro H locs ls hP hD hS hl
    exact lv_iushr hx hb hdg rfl (hk _ _ _ _ _ h H locs ls hP hD hS hl)
  · cases h
theorem sn_ladd (X : CX p l R s m args meth c own cc nL ret D Λ d o) (hdg : decode cc pc = .ok (.ladd, 1)) : SN p l e R s m args below meth c nL D Λ FR Q pc (x_binl (fun x y => x + y) (pc + 1)) := by
  intro k L st A r hk h
  obtain ⟨hx, hb, hml, hown, hts, hKD, hR, hr, hlk, hO⟩ := X
  unfold x_binl at h
  split at h
  · intro H locs ls hP hD hS hl
    exact lv_ladd hx hb hdg (hk _ _ _ _ _ h H locs ls hP hD hS hl)
  · cases h
theorem sn_lmul (X : CX p l R s m args meth c own cc nL ret D Λ d o) (hdg : decode cc pc = .ok (.lmul, 1)) : SN p l e R s m args below meth c nL D Λ FR Q pc (x_binl (fun x y => x * y) (pc + 1)) := by
  intro k L st A r hk h
  obtain ⟨hx, hb, hml, hown, hts, hKD, hR, hr, hlk, hO⟩ := X
  unfold x_binl at h
  split at h
  · intro H locs ls hP hD hS hl
    exact lv_lmul hx hb hdg (hk _ _ _ _ _ h H locs ls hP hD hS hl)
  · cases h
theorem sn_idiv (X : CX p l R s m args meth c own cc nL ret D Λ d o) (hdg : decode cc pc = .ok (.idiv, 1)) : SN p l e R s m args below meth c nL D Λ FR Q pc (x_dv (fun x y => x / y) (pc + 1)) := by
  intro k L st A r hk h
  obtain ⟨hx, hb, hml, hown, hts, hKD, hR, hr, hlk, hO⟩ := X
  unfold x_dv at h
  split at h
  · next y x r9 =>
    split at h
    · cases h
    · next hne =>
      intro H locs ls hP hD hS hl
      exact lv_idiv hx hb hdg hne (hk _ _ _ _ _ h H locs ls hP hD hS hl)
  · cases h
theorem sn_irem (X : CX p l R s m args meth c own cc nL ret D Λ d o) (hdg : decode cc pc = .ok (.irem, 1)) : SN p l e R s m args below meth c nL D Λ FR Q pc (x_dv (fun x y => x - x / y * y) (pc + 1)) := by
  intro k L st A r hk h
  obtain ⟨hx, hb, hml, hown, hts, hKD, hR, hr, hlk, hO⟩ := X
  unfold x_dv at h
  split at h
  · next y x r9 =>
    split at h
    · cases h
    · next hne =>
      intro H locs ls hP hD hS hl
      exact lv_irem hx hb hdg hne (hk _ _ _ _ _ h H locs ls hP hD hS hl)
  · cases h
theorem sn_ldiv (X : CX p l R s m args meth c own cc nL ret D Λ d o) (hdg : decode cc pc = .ok (.ldiv, 1)) : SN p l e R s m args below meth c nL D Λ FR Q pc (x_dvl (fun x y => x / y) (pc + 1)) := by
  intro k L st A r hk h
  obtain ⟨hx, hb, hml, hown, hts, hKD, hR, hr, hlk, hO⟩ := X
  unfold x_dvl at h
  split at h
  · next y x r9 =>
    split at h
    · cases h
    · next hne =>
      intro H locs ls hP hD hS hl
      exact lv_ldiv hx hb hdg hne (hk _ _ _ _ _ h H locs ls hP hD hS hl)
  · cases h
theorem sn_lrem (X : CX p l R s m args meth c own cc nL ret D Λ d o) (hdg : decode cc pc = .ok (.lrem, 1)) : SN p l e R s m args below meth c nL D Λ FR Q pc (x_dvl (fun x y => x - x / y * y) (pc + 1)) := by
  intro k L st A r hk h
  obtain ⟨hx, hb, hml, hown, hts, hKD, hR, hr, hlk, hO⟩ := X
  unfold x_dvl at h
  split at h
  · next y x r9 =>
    split at h
    · cases h
    · next hne =>
      intro H locs ls hP hD hS hl
      exact lv_lrem hx hb hdg hne (hk _ _ _ _ _ h H locs ls hP hD hS hl)
  · cases h
theorem sn_lcmp (X : CX p l R s m args meth c own cc nL ret D Λ d o) (hdg : decode cc pc = .ok (.lcmp, 1)) : SN p l e R s m args below meth c nL D Λ FR Q pc (x_lcmp (pc + 1)) := by
  intro k L st A r hk h
  obtain ⟨hx, hb, hml, hown, hts, hKD, hR, hr, hlk, hO⟩ := X
  unfold x_lcmp at h
  split at h
  · intro H locs ls hP hD hS hl
    exact W.lcmp hx hb hdg (hk _ _ _ _ _ h H locs ls hP hD hS hl)
  · cases h
theorem sn_ineg (X : CX p l R s m args meth c own cc nL ret D Λ d o) (hdg : decode cc pc = .ok (.ineg, 1)) : SN p l e R s m args below meth c nL D Λ FR Q pc (x_un (fun x => -x) (pc + 1)) := by
  intro k L st A r hk h
  obtain ⟨hx, hb, hml, hown, hts, hKD, hR, hr, hlk, hO⟩ := X
  unfold x_un at h
  split at h
  · intro H locs ls hP hD hS hl
    exact lv_ineg hx hb hdg (hk _ _ _ _ _ h H locs ls hP hD hS hl)
  · cases h
theorem sn_i2b (X : CX p l R s m args meth c own cc nL ret D Λ d o) (hdg : decode cc pc = .ok (.i2b, 1)) : SN p l e R s m args below meth c nL D Λ FR Q pc (x_un (fun x => x.toInt8.toInt32) (pc + 1)) := by
  intro k L st A r hk h
  obtain ⟨hx, hb, hml, hown, hts, hKD, hR, hr, hlk, hO⟩ := X
  unfold x_un at h
  split at h
  · intro H locs ls hP hD hS hl
    exact lv_i2b hx hb hdg rfl (hk _ _ _ _ _ h H locs ls hP hD hS hl)
  · cases h
theorem sn_i2l (X : CX p l R s m args meth c own cc nL ret D Λ d o) (hdg : decode cc pc = .ok (.i2l, 1)) : SN p l e R s m args below meth c nL D Λ FR Q pc (x_i2l (pc + 1)) := by
  intro k L st A r hk h
  obtain ⟨hx, hb, hml, hown, hts, hKD, hR, hr, hlk, hO⟩ := X
  unfold x_i2l at h
  split at h
  · intro H locs ls hP hD hS hl
    exact lv_i2l hx hb hdg rfl (hk _ _ _ _ _ h H locs ls hP hD hS hl)
  · cases h
theorem sn_l2i (X : CX p l R s m args meth c own cc nL ret D Λ d o) (hdg : decode cc pc = .ok (.l2i, 1)) : SN p l e R s m args below meth c nL D Λ FR Q pc (x_l2i (pc + 1)) := by
  intro k L st A r hk h
  obtain ⟨hx, hb, hml, hown, hts, hKD, hR, hr, hlk, hO⟩ := X
  unfold x_l2i at h
  split at h
  · intro H locs ls hP hD hS hl
    exact lv_l2i hx hb hdg rfl (hk _ _ _ _ _ h H locs ls hP hD hS hl)
  · cases h
theorem sn_dup (X : CX p l R s m args meth c own cc nL ret D Λ d o) (hdg : decode cc pc = .ok (.dup, 1)) : SN p l e R s m args below meth c nL D Λ FR Q pc (x_dup (pc + 1)) := by
  intro k L st A r hk h
  obtain ⟨hx, hb, hml, hown, hts, hKD, hR, hr, hlk, hO⟩ := X
  unfold x_dup at h
  split at h
  · intro H locs ls hP hD hS hl
    exact lv_dup hx hb hdg rfl (hk _ _ _ _ _ h H locs ls hP hD hS hl)
  · next x r9 =>
    intro H locs ls hP hD hS hl
    cases x with
    | none => exact lv_dup hx hb hdg rfl (hk _ _ _ _ _ h H locs ls hP hD hS hl)
    | some a => exact lv_dup hx hb hdg rfl (hk _ _ _ _ _ h H locs ls hP hD hS hl)
  · cases h
theorem sn_pop (X : CX p l R s m args meth c own cc nL ret D Λ d o) (hdg : decode cc pc = .ok (.pop, 1)) : SN p l e R s m args below meth c nL D Λ FR Q pc (x_pop (pc + 1)) := by
  intro k L st A r hk h
  obtain ⟨hx, hb, hml, hown, hts, hKD, hR, hr, hlk, hO⟩ := X
  unfold x_pop at h
  split at h
  · intro H locs ls hP hD hS hl
    exact lv_pop hx hb hdg rfl (hk _ _ _ _ _ h H locs ls hP hD hS hl)
  · next x r9 =>
    intro H locs ls hP hD hS hl
    cases x with
    | none => exact lv_pop hx hb hdg rfl (hk _ _ _ _ _ h H locs ls hP hD hS hl)
    | some a => exact lv_pop hx hb hdg rfl (hk _ _ _ _ _ h H locs ls hP hD hS hl)
  · cases h
theorem sn_dup2 (X : CX p l R s m args meth c own cc nL ret D Λ d o) (hdg : decode cc pc = .ok (.dup2, 1)) : SN p l e R s m args below meth c nL D Λ FR Q pc (x_dup2 (pc + 1)) := by
  intro k L st A r hk h
  obtain ⟨hx, hb, hml, hown, hts, hKD, hR, hr, hlk, hO⟩ := X
  unfold x_dup2 at h
  split at h
  · next i x r9 =>
    intro H locs ls hP hD hS hl
    cases x with
    | none => exact lv_dup2_11 hx hb hdg rfl rfl (hk _ _ _ _ _ h H locs ls hP hD hS hl)
    | some a => exact lv_dup2_11 hx hb hdg rfl rfl (hk _ _ _ _ _ h H locs ls hP hD hS hl)
  · cases h
theorem sn_goto (X : CX p l R s m args meth c own cc nL ret D Λ d o) {off : Int} {tgt : Nat} (hdg : decode cc pc = .ok (.goto off, 3)) (ht : (pc : Int) + off = (tgt : Int)) : SN p l e R s m args below meth c nL D Λ FR Q pc (x_goto tgt) := by
  intro k L st A r hk h
  obtain ⟨hx, hb, hml, hown, hts, hKD, hR, hr, hlk, hO⟩ := X
  intro H locs ls hP hD hS hl
  exact lv_goto hx hb hdg ht (hk _ _ _ _ _ h H locs ls hP hD hS hl)
theorem sn_ifeq (X : CX p l R s m args meth c own cc nL ret D Λ d o) {off : Int} {tgt : Nat} (hdg : decode cc pc = .ok (.ifCond .eq off, 3)) (ht : (pc : Int) + off = (tgt : Int)) : SN p l e R s m args below meth c nL D Λ FR Q pc (x_ifeq tgt (pc + 3)) := by
  intro k L st A r hk h
  obtain ⟨hx, hb, hml, hown, hts, hKD, hR, hr, hlk, hO⟩ := X
  unfold x_ifeq at h
  split at h
  · next x r9 =>
    intro H locs ls hP hD hS hl
    split at h
    · next hc => exact lv_if_eq hx hb hdg ht (fun _ => hk _ _ _ _ _ h H locs ls hP hD hS hl) (fun q => absurd hc q)
    · next hc => exact lv_if_eq hx hb hdg ht (fun q => absurd q hc) (fun _ => hk _ _ _ _ _ h H locs ls hP hD hS hl)
  · cases h
theorem sn_ifne (X : CX p l R s m args meth c own cc nL ret D Λ d o) {off : Int} {tgt : Nat} (hdg : decode cc pc = .ok (.ifCond .ne off, 3)) (ht : (pc : Int) + off = (tgt : Int)) : SN p l e R s m args below meth c nL D Λ FR Q pc (x_ifne tgt (pc + 3)) := by
  intro k L st A r hk h
  obtain ⟨hx, hb, hml, hown, hts, hKD, hR, hr, hlk, hO⟩ := X
  unfold x_ifne at h
  split at h
  · next x r9 =>
    intro H locs ls hP hD hS hl
    split at h
    · next hc => exact lv_if_ne hx hb hdg ht (fun q => absurd hc q) (fun _ => hk _ _ _ _ _ h H locs ls hP hD hS hl)
    · next hc => exact lv_if_ne hx hb hdg ht (fun _ => hk _ _ _ _ _ h H locs ls hP hD hS hl) (fun q => absurd q hc)
  · cases h
theorem sn_iflt (X : CX p l R s m args meth c own cc nL ret D Λ d o) {off : Int} {tgt : Nat} (hdg : decode cc pc = .ok (.ifCond .lt off, 3)) (ht : (pc : Int) + off = (tgt : Int)) : SN p l e R s m args below meth c nL D Λ FR Q pc (x_iflt tgt (pc + 3)) := by
  intro k L st A r hk h
  obtain ⟨hx, hb, hml, hown, hts, hKD, hR, hr, hlk, hO⟩ := X
  unfold x_iflt at h
  split at h
  · next x r9 =>
    intro H locs ls hP hD hS hl
    split at h
    · next hc => exact lv_if_lt hx hb hdg ht (fun _ => hk _ _ _ _ _ h H locs ls hP hD hS hl) (fun q => absurd hc q)
    · next hc => exact lv_if_lt hx hb hdg ht (fun q => absurd q hc) (fun _ => hk _ _ _ _ _ h H locs ls hP hD hS hl)
  · cases h
theorem sn_ifge (X : CX p l R s m args meth c own cc nL ret D Λ d o) {off : Int} {tgt : Nat} (hdg : decode cc pc = .ok (.ifCond .ge off, 3)) (ht : (pc : Int) + off = (tgt : Int)) : SN p l e R s m args below meth c nL D Λ FR Q pc (x_ifge tgt (pc + 3)) := by
  intro k L st A r hk h
  obtain ⟨hx, hb, hml, hown, hts, hKD, hR, hr, hlk, hO⟩ := X
  unfold x_ifge at h
  split at h
  · next x r9 =>
    intro H locs ls hP hD hS hl
    split at h
    · next hc => exact lv_if_ge hx hb hdg ht (fun _ => hk _ _ _ _ _ h H locs ls hP hD hS hl) (fun q => absurd hc q)
    · next hc => exact lv_if_ge hx hb hdg ht (fun q => absurd q hc) (fun _ => hk _ _ _ _ _ h H locs ls hP hD hS hl)
  · cases h
theorem sn_ifgt (X : CX p l R s m args meth c own cc nL ret D Λ d o) {off : Int} {tgt : Nat} (hdg : decode cc pc = .ok (.ifCond .gt off, 3)) (ht : (pc : Int) + off = (tgt : Int)) : SN p l e R s m args below meth c nL D Λ FR Q pc (x_ifgt tgt (pc + 3)) := by
  intro k L st A r hk h
  obtain ⟨hx, hb, hml, hown, hts, hKD, hR, hr, hlk, hO⟩ := X
  unfold x_ifgt at h
  split at h
  · next x r9 =>
    intro H locs ls hP hD hS hl
    split at h
    · next hc => exact lv_if_gt hx hb hdg ht (fun _ => hk _ _ _ _ _ h H locs ls hP hD hS hl) (fun q => absurd hc q)
    · next hc => exact lv_if_gt hx hb hdg ht (fun q => absurd q hc) (fun _ => hk _ _ _ _ _ h H locs ls hP hD hS hl)
  · cases h
theorem sn_ifle (X : CX p l R s m args meth c own cc nL ret D Λ d o) {off : Int} {tgt : Nat} (hdg : decode cc pc = .ok (.ifCond .le off, 3)) (ht : (pc : Int) + off = (tgt : Int)) : SN p l e R s m args below meth c nL D Λ FR Q pc (x_ifle tgt (pc + 3)) := by
  intro k L st A r hk h
  obtain ⟨hx, hb, hml, hown, hts, hKD, hR, hr, hlk, hO⟩ := X
  unfold x_ifle at h
  split at h
  · next x r9 =>
    intro H locs ls hP hD hS hl
    split at h
    · next hc => exact lv_if_le hx hb hdg ht (fun _ => hk _ _ _ _ _ h H locs ls hP hD hS hl) (fun q => absurd hc q)
    · next hc => exact lv_if_le hx hb hdg ht (fun q => absurd q hc) (fun _ => hk _ _ _ _ _ h H locs ls hP hD hS hl)
  · cases h
theorem sn_ceq (X : CX p l R s m args meth c own cc nL ret D Λ d o) {off : Int} {tgt : Nat} (hdg : decode cc pc = .ok (.if_icmp .eq off, 3)) (ht : (pc : Int) + off = (tgt : Int)) : SN p l e R s m args below meth c nL D Λ FR Q pc (x_ceq tgt (pc + 3)) := by
  intro k L st A r hk h
  obtain ⟨hx, hb, hml, hown, hts, hKD, hR, hr, hlk, hO⟩ := X
  unfold x_ceq at h
  split at h
  · next y x r9 =>
    intro H locs ls hP hD hS hl
    split at h
    · next hc => exact lv_icmp_eq hx hb hdg ht (fun _ => hk _ _ _ _ _ h H locs ls hP hD hS hl) (fun q => absurd hc q)
    · next hc => exact lv_icmp_eq hx hb hdg ht (fun q => absurd q hc) (fun _ => hk _ _ _ _ _ h H locs ls hP hD hS hl)
  · cases h
theorem sn_cne (X : CX p l R s m args meth c own cc nL ret D Λ d o) {off : Int} {tgt : Nat} (hdg : decode cc pc = .ok (.if_icmp .ne off, 3)) (ht : (pc : Int) + off = (tgt : Int)) : SN p l e R s m args below meth c nL D Λ FR Q pc (x_cne tgt (pc + 3)) := by
  intro k L st A r hk h
  obtain ⟨hx, hb, hml, hown, hts, hKD, hR, hr, hlk, hO⟩ := X
  unfold x_cne at h
  split at h
  · next y x r9 =>
    intro H locs ls hP hD hS hl
    split at h
    · next hc => exact lv_icmp_ne hx hb hdg ht (fun q => absurd hc q) (fun _ => hk _ _ _ _ _ h H locs ls hP hD hS hl)
    · next hc => exact lv_icmp_ne hx hb hdg ht (fun _ => hk _ _ _ _ _ h H locs ls hP hD hS hl) (fun q => absurd q hc)
  · cases h
theorem sn_clt (X : CX p l R s m args meth c own cc nL ret D Λ d o) {off : Int} {tgt : Nat} (hdg : decode cc pc = .ok (.if_icmp .lt off, 3)) (ht : (pc : Int) + off = (tgt : Int)) : SN p l e R s m args below meth c nL D Λ FR Q pc (x_clt tgt (pc + 3)) := by
  intro k L st A r hk h
  obtain ⟨hx, hb, hml, hown, hts, hKD, hR, hr, hlk, hO⟩ := X
  unfold x_clt at h
  split at h
  · next y x r9 =>
    intro H locs ls hP hD hS hl
    split at h
    · next hc => exact lv_icmp_lt hx hb hdg ht (fun _ => hk _ _ _ _ _ h H locs ls hP hD hS hl) (fun q => absurd hc q)
    · next hc => exact lv_icmp_lt hx hb hdg ht (fun q => absurd q hc) (fun _ => hk _ _ _ _ _ h H locs ls hP hD hS hl)
  · cases h
theorem sn_cge (X : CX p l R s m args meth c own cc nL ret D Λ d o) {off : Int} {tgt : Nat} (hdg : decode cc pc = .ok (.if_icmp .ge off, 3)) (ht : (pc : Int) + off = (tgt : Int)) : SN p l e R s m args below meth c nL D Λ FR Q pc (x_cge tgt (pc + 3)) := by
  intro k L st A r hk h
  obtain ⟨hx, hb, hml, hown, hts, hKD, hR, hr, hlk, hO⟩ := X
  unfold x_cge at h
  split at h
  · next y x r9 =>
    intro H locs ls hP hD hS hl
    split at h
    · next hc => exact lv_icmp_ge hx hb hdg ht (fun _ => hk _ _ _ _ _ h H locs ls hP hD hS hl) (fun q => absurd hc q)
    · next hc => exact lv_icmp_ge hx hb hdg ht (fun q => absurd q hc) (fun _ => hk _ _ _ _ _ h H locs ls hP hD hS hl)
  · cases h
theorem sn_cgt (X : CX p l R s m args meth c own cc nL ret D Λ d o) {off : Int} {tgt : Nat} (hdg : decode cc pc = .ok (.if_icmp .gt off, 3)) (ht : (pc : Int) + off = (tgt : Int)) : SN p l e R s m args below meth c nL D Λ FR Q pc (x_cgt tgt (pc + 3)) := by
  intro k L st A r hk h
  obtain ⟨hx, hb, hml, hown, hts, hKD, hR, hr, hlk, hO⟩ := X
  unfold x_cgt at h
  split at h
  · next y x r9 =>
    intro H locs ls hP hD hS hl
    split at h
    · next hc => exact lv_icmp_gt hx hb hdg ht (fun _ => hk _ _ _ _ _ h H locs ls hP hD hS hl) (fun q => absurd hc q)
    · next hc => exact lv_icmp_gt hx hb hdg ht (fun q => absurd q hc) (fun _ => hk _ _ _ _ _ h H locs ls hP hD hS hl)
  · cases h
theorem sn_cle (X : CX p l R s m args meth c own cc nL ret D Λ d o) {off : Int} {tgt : Nat} (hdg : decode cc pc = .ok (.if_icmp .le off, 3)) (ht : (pc : Int) + off = (tgt : Int)) : SN p l e R s m args below meth c nL D Λ FR Q pc (x_cle tgt (pc + 3)) := by
  intro k L st A r hk h
  obtain ⟨hx, hb, hml, hown, hts, hKD, hR, hr, hlk, hO⟩ := X
  unfold x_cle at h
  split at h
  · next y x r9 =>
    intro H locs ls hP hD hS hl
    split at h
    · next hc => exact lv_icmp_le hx hb hdg ht (fun _ => hk _ _ _ _ _ h H locs ls hP hD hS hl) (fun q => absurd hc q)
    · next hc => exact lv_icmp_le hx hb hdg ht (fun q => absurd q hc) (fun _ => hk _ _ _ _ _ h H locs ls hP hD hS hl)
  · cases h
theorem sn_ifnull (X : CX p l R s m args meth c own cc nL ret D Λ d o) {off : Int} {tgt : Nat} (hdg : decode cc pc = .ok (.ifnull off, 3)) (ht : (pc : Int) + off = (tgt : Int)) : SN p l e R s m args below meth c nL D Λ FR Q pc (x_ifnull tgt (pc + 3)) := by
  intro k L st A r hk h
  obtain ⟨hx, hb, hml, hown, hts, hKD, hR, hr, hlk, hO⟩ := X
  unfold x_ifnull at h
  split at h
  · intro H locs ls hP hD hS hl
    split at h
    · exact lv_ifnullN hx hb hdg ht (hk _ _ _ _ _ h H locs ls hP hD hS hl)
    · exact lv_ifnull hx hb hdg (hk _ _ _ _ _ h H locs ls hP hD hS hl)
  · cases h
theorem sn_iret (X : CX p l R s m args meth c own cc nL (some .int) D Λ d o) (hdg : decode cc pc = .ok (.ireturn, 1)) : SN p l e R s m args below meth c nL D Λ FR (fun r => MQ below (QM D Λ r.1 r.2 FR) args s 0 0 FR) pc x_iret := by
  intro k L st A r hk h
  obtain ⟨hx, hb, hml, hown, hts, hKD, hR, hr, hlk, hO⟩ := X
  unfold x_iret at h
  split at h
  · next x =>
    cases h
    intro H locs ls hP hD hS hl
    exact W.iret (v := x) hx hb hr (fun t ht hW => ⟨⟨rfl, by rw [ht]; exact hP⟩, hS.F ht⟩) hS.2.2 hdg hlk
  · cases h
theorem sn_lret (X : CX p l R s m args meth c own cc nL (some .long) D Λ d o) (hdg : decode cc pc = .ok (.lreturn, 1)) : SN p l e R s m args below meth c nL D Λ FR (fun r => MQ below (QM D Λ r.1 r.2 FR) args s 0 0 FR) pc x_lret := by
  intro k L st A r hk h
  obtain ⟨hx, hb, hml, hown, hts, hKD, hR, hr, hlk, hO⟩ := X
  unfold x_lret at h
  split at h
  · next x =>
    cases h
    intro H locs ls hP hD hS hl
    exact W.lret (v := x) hx hb hr (fun t ht hW => ⟨⟨rfl, by rw [ht]; exact hP⟩, hS.F ht⟩) hS.2.2 hdg hlk
  · cases h
theorem sn_vret (X : CX p l R s m args meth c own cc nL none D Λ d o) (hdg : decode cc pc = .ok (.return_, 1)) : SN p l e R s m args below meth c nL D Λ FR (fun r => MQ below (QM D Λ r.1 r.2 FR) args s 0 0 FR) pc x_vret := by
  intro k L st A r hk h
  obtain ⟨hx, hb, hml, hown, hts, hKD, hR, hr, hlk, hO⟩ := X
  unfold x_vret at h
  split at h
  · cases h
    intro H locs ls hP hD hS hl
    exact W.vret hx hb hr (fun t ht hW => ⟨⟨rfl, by rw [ht]; exact hP⟩, hS.F ht⟩) hS.2.2 hdg hlk
  · cases h
theorem sn_zret (X : CX p l R s m args meth c own cc nL (some .boolean) D Λ d o) (hdg : decode cc pc = .ok (.ireturn, 1)) : SN p l e R s m args below meth c nL D Λ FR (fun r => MQ below (QM D Λ r.1 r.2 FR) args s 0 0 FR) pc x_zret := by
  intro k L st A r hk h
  obtain ⟨hx, hb, hml, hown, hts, hKD, hR, hr, hlk, hO⟩ := X
  unfold x_zret at h
  split at h
  · next x =>
    split at h
    · next e1 =>
      cases h
      subst e1
      intro H locs ls hP hD hS hl
      exact W.zret (v := 1) hx hb hr (by decide) (fun t ht hW => ⟨⟨rfl, by rw [ht]; exact hP⟩, hS.F ht⟩) hS.2.2 hdg hlk
    · split at h
      · next e1 =>
        cases h
        subst e1
        intro H locs ls hP hD hS hl
        exact W.zret (v := 0) hx hb hr (by decide) (fun t ht hW => ⟨⟨rfl, by rw [ht]; exact hP⟩, hS.F ht⟩) hS.2.2 hdg hlk
      · cases h
  · cases h
end SND
