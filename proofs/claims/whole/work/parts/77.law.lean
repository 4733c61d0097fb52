def R_law : String := "RiverDaysLaw"
def lw_P (b : Addr) (xs : List Int32) (args : Array Value) (s : State) : Prop := args = #[.ref b] ∧ s.IntsAt b xs ∧ xs.length ≤ 384 ∧ (Jvm.Cond.and given_1 narrow_1).before args s = true
def lw_Q (_ : Array Value) (s : State) (o : Outcome) (t : State) : Prop := o = .returned (some (.int 1)) ∧ Framed s o t [] 600000 7302250
def lw_Z (below : List Frame) (a : Array Value) (s : State) : State → Prop := fun t => ∃ o, t.status = .running ∧ Ended t below o ∧ lw_Q a s o t
/-- the law's own end, with 1 on the stack, nothing written that was there before, its room as the claim has it -/
theorem lw_ret {p : Program} {l : Launch} {e : Env} {s : State} {m : MethodId} {below : List Frame} {meth : Method} {c : Code} {b : Nat} (hx : p.tables.exec = Jvm.exec) (hb : c.code = code) (hr : meth.sig.returnType = ret) (hlocks : meth.locks = false) {pc : Nat} {H : Heap} {ls : Array Slot} (hdg : decode code pc = .ok (.ireturn, 1)) : W p l e room_1 s m #[Value.ref b] below meth c H [] 600000 7302250 (lw_Z below #[Value.ref b] s) (F0 m pc ls [.int 1]) := by
  intro T hT X
  obtain ⟨fs, hret, hrun, hended, hW, hframe⟩ := X.leave (v := some (.int 1)) (hlocks := hlocks) (fun h => by rw [hr] at h; cases h)
  have hmeth' : T.vm.method? m = some meth := X.method'
  refine ⟨T.setFrames fs, ?_, .returned (some (.int 1)), hrun, hended, rfl, ⟨_, rfl⟩, hW, hframe⟩
  jvm_step X.here [X.here.top, hx, hb, hdg, hmeth', hr, ret, narrow_b1]
  (try refine ⟨rfl, ?_⟩); (try refine ⟨rfl, ?_⟩)
  first | (intro acts; rw [hret _ acts rfl rfl rfl]) | rw [hret _ _ rfl rfl rfl]
  exact Steps.refl _
/-- what holds at the law's entry: the machine, the code, the tables' words (any of lw_tbl by 'hts w (by decide +kernel)'), the script of L ints xs at the cell b, what the Statement gives of the start (any of its parts by flat_of_before) -/
def lw_At (p : Program) (s : State) (m : MethodId) (meth : Method) (c : Code) (b L : Nat) (xs : Nat → Int32) : Prop :=
  p.tables.exec = Jvm.exec ∧ c.code = code ∧ meth.sig.returnType = ret ∧ c.maxLocals = 4 ∧ s.vm.findClass R_law = some m.cls ∧ (∀ w ∈ lw_tbl, w.before #[Value.ref b] s = true) ∧ va_X b L xs s s.heap ∧ b < s.heap.size ∧ meth.locks = false ∧ (Jvm.Cond.and given_1 narrow_1).before #[Value.ref b] s = true
/-! ROWS OF THE LAW -/
theorem swp_swp (a : Nat) : swp (swp a) = a := by
  unfold swp
  split
  · rw [if_neg (by omega), if_pos (by omega)]; omega
  · split
    · rw [if_pos (by omega)]; omega
    · rfl
theorem SH_sw (k : Nat) : lgt SH (swp k) = lgt SH k := by
  by_cases h : k < 73 ∨ 86 < k
  · rw [swp_o h]
  · have : ∀ k, k < 87 → 73 ≤ k → lgt SH (swp k) = lgt SH k := by decide +kernel
    exact this k (by omega) (by omega)
theorem lgt_none {α : Type} : ∀ (l : List α) (n : Nat), l.length ≤ n → lgt l n = none
  | [], _, _ => by simp [lgt]
  | a :: t, 0, h => by simp at h
  | a :: t, n + 1, h => by
    rw [show lgt (a :: t) (n + 1) = lgt t n by simp [lgt]]
    exact lgt_none t n (by simpa using h)
theorem RT_len : ∀ r ∈ RT, r.length ≤ 36 := by decide +kernel
theorem lgt_mem {α : Type} {l : List α} {n : Nat} {x : α} (h : lgt l n = some x) : x ∈ l := by
  rw [lgt_eq] at h
  exact List.mem_of_getElem? h
theorem rt_far {a j : Nat} (h : 36 ≤ j) : rt a j = none := by
  unfold rt
  cases hq : lgt RT a with
  | none => rfl
  | some r => 
    have h1 := RT_len r (lgt_mem hq)
    show (match lgt r j with | some o => o | none => none) = none
    rw [lgt_none r j (by omega)]
theorem rt_out {a j : Nat} (h : 110 ≤ a) : rt a j = none := by
  unfold rt
  rw [lgt_none RT a (Nat.le_trans (show RT.length ≤ 110 by decide +kernel) h)]
theorem RF_sw (k j : Nat) : (RF (73, 80) k j).map swp = RF (80, 73) (swp k) j := by
  have H : ∀ k, k < 110 → ∀ j, j < 36 → (RF (73, 80) k j).map swp = RF (80, 73) (swp k) j := by decide +kernel
  by_cases hk : k < 110
  · by_cases hj : j < 36
    · exact H k hk j hj
    · have e : ∀ cd a, RF cd a j = none := fun cd a => by
        unfold RF
        rw [rt_far (by omega)]
        cases h1 : Nat.beq a 0
        · rfl
        · cases h2 : Nat.beq j 11
          · cases h3 : Nat.beq j 12
            · rfl
            · have := Nat.eq_of_beq_eq_true h3; omega
          · have := Nat.eq_of_beq_eq_true h2; omega
      rw [e, e]; rfl
  · have e : ∀ cd, RF cd k j = none := fun cd => by
      unfold RF
      rw [rt_out (by omega)]
      cases h1 : Nat.beq k 0
      · rfl
      · have := Nat.eq_of_beq_eq_true h1; omega
    rw [swp_o (by omega), e, e]; rfl
theorem adr_sw (Λ : LAM) (o : Option Nat) : adr (fun a => Λ (swp a)) o = adr Λ (o.map swp) := by cases o <;> rfl
theorem cell_sw (Λ : LAM) (I : Nat → Nat → Int32) (J : Nat → Nat → Int64) (k : Nat) (s : SHP) : cellOf (fun a => Λ (swp a)) (fun a => I (swp a), fun a => J (swp a), 73, 80) k s = cellOf Λ (I, J, 80, 73) (swp k) s := by
  cases s with
  | inl x =>
    unfold cellOf
    simp only [adr_sw, RF_sw]
  | inr ci =>
    have e : flds (fun a => Λ (swp a)) (fun a => I (swp a), fun a => J (swp a), 73, 80) k ci = flds Λ (I, J, 80, 73) (swp k) ci := by
      unfold flds
      congr 1
      funext j t
      match t with
      | 0 => rfl
      | 1 => rfl
      | t + 2 =>
        show va_rf (adr (fun a => Λ (swp a)) (RF (73, 80) k j)) = va_rf (adr Λ (RF (80, 73) (swp k) j))
        rw [adr_sw, RF_sw]
    show (.inr (ci, flds (fun a => Λ (swp a)) (fun a => I (swp a), fun a => J (swp a), 73, 80) k ci) : va_E) = .inr (ci, flds Λ (I, J, 80, 73) (swp k) ci)
    rw [e]
theorem WD_sw {Λ : LAM} {I : Nat → Nat → Int32} {J : Nat → Nat → Int64} {k : Nat} {q : Nat × va_E} (h : (WD (fun a => Λ (swp a)) (fun a => I (swp a), fun a => J (swp a), 73, 80))[k]? = some q) : (WD Λ (I, J, 80, 73))[swp k]? = some q := by
  simp only [WD, List.getElem?_mapIdx] at h ⊢
  have e := SH_sw k
  rw [lgt_eq, lgt_eq] at e
  rw [e]
  cases hs : SH[k]? with
  | none => rw [hs] at h; cases h
  | some s =>
    rw [hs] at h
    simp only [Option.map_some] at h ⊢
    rw [cell_sw] at h
    exact h
theorem Rel.sw {I : Nat → Nat → Int32} {J : Nat → Nat → Int64} (h : Rel (fun a => I (swp a)) J) : Rel (fun a => I (swp a)) (fun a => J (swp a)) := by
  obtain ⟨h1, h2, h3, h4, h5⟩ := h
  refine ⟨h1, h2, h3, ?_, h5⟩
  unfold RelA at h4 ⊢
  simp only [swp_o (a := 0) (by omega), swp_o (a := 87) (by omega)] at h4 ⊢
  exact h4
theorem relabel {D : va_G} {Λ : LAM} {s : State} {I : Nat → Nat → Int32} {J : Nat → Nat → Int64} {H : Heap} {F : Nat → Prop} (hK : KD D Λ s) (hP : va_P D CLS (WD Λ (I, J, 80, 73)) H) (hD : va_D F (WD Λ (I, J, 80, 73))) : KD D (fun a => Λ (swp a)) s ∧ va_P D CLS (WD (fun a => Λ (swp a)) (fun a => I (swp a), fun a => J (swp a), 73, 80)) H ∧ va_D F (WD (fun a => Λ (swp a)) (fun a => I (swp a), fun a => J (swp a), 73, 80)) := by
  refine ⟨⟨hK.1, fun k t n e => hK.2.1 (swp k) t n (by rw [SH_sw]; exact e), hK.2.2⟩, fun k q h => hP _ q (WD_sw h), fun i j x y hi hj e => ?_, fun k q h => hD.2 _ q (WD_sw h)⟩
  have h1 := hD.1 _ _ x y (WD_sw hi) (WD_sw hj) e
  rw [← swp_swp i, h1, swp_swp]
/-- what holds all along in the law's body -/
def LC (p : Program) (s : State) (m : MethodId) (c : Code) (b L : Nat) (xs : Nat → Int32) : Prop := p.tables.exec = Jvm.exec ∧ c.code = code ∧ c.maxLocals = 4 ∧ s.vm.findClass R_law = some m.cls ∧ (∀ w ∈ GW, w.before #[Value.ref b] s = true) ∧ va_X b L xs s s.heap ∧ b < s.heap.size ∧ L ≤ 384
def Inv (s : State) (D : va_G) (a0 a87 : Nat) (Λ : LAM) (I : Nat → Nat → Int32) (J : Nat → Nat → Int64) (H : Heap) (locs : List Loc) : Prop := KD D Λ s ∧ va_P D CLS (WD Λ (I, J, 73, 80)) H ∧ va_D (fun q : Nat => s.heap.size ≤ q) (WD Λ (I, J, 73, 80)) ∧ va_S (fun q : Nat => s.heap.size ≤ q) s.heap H locs ∧ Rel I J ∧ (Λ 0).1 = a0 ∧ (Λ 87).1 = a87
/-- the bytes that fetch np arguments -/
abbrev DA (pc np : Nat) : Prop := ∀ j, j < np → decode code (pc + 5 * j) = .ok (.aload_n 0, 1) ∧ decode code (pc + 5 * j + 1) = .ok (.iload_n 3, 1) ∧ decode code (pc + 5 * j + 1 + 1) = .ok (.iconst ((j : Int) + 1), 1) ∧ decode code (pc + 5 * j + 1 + 1 + 1) = .ok (.iadd, 1) ∧ decode code (pc + 5 * j + 1 + 1 + 1 + 1) = .ok (.iaload, 1)
abbrev DFi (pc np ix im : Nat) (off : Int) : Prop := decode code pc = .ok (.aload_n 1, 1) ∧ DA (pc + 1) np ∧ decode code (pc + 1 + 5 * np) = .ok (.invokevirtual ix, 3) ∧ decode code (pc + 1 + 5 * np + 3) = .ok (.aload_n 2, 1) ∧ DA (pc + 1 + 5 * np + 3 + 1) np ∧ decode code (pc + 1 + 5 * np + 3 + 1 + 5 * np) = .ok (.invokevirtual im, 3) ∧ decode code (pc + 1 + 5 * np + 3 + 1 + 5 * np + 3) = .ok (.if_icmp .eq off, 3) ∧ ((pc + 1 + 5 * np + 3 + 1 + 5 * np + 3 : Nat) : Int) + off = ((1449 : Nat) : Int)
abbrev DFj (pc ix im : Nat) (off : Int) : Prop := decode code pc = .ok (.aload_n 1, 1) ∧ decode code (pc + 1) = .ok (.invokevirtual ix, 3) ∧ decode code (pc + 1 + 3) = .ok (.aload_n 2, 1) ∧ decode code (pc + 1 + 3 + 1) = .ok (.invokevirtual im, 3) ∧ decode code (pc + 1 + 3 + 1 + 3) = .ok (.lcmp, 1) ∧ decode code (pc + 1 + 3 + 1 + 3 + 1) = .ok (.ifCond .eq off, 3) ∧ ((pc + 1 + 3 + 1 + 3 + 1 : Nat) : Int) + off = ((1449 : Nat) : Int)
section LAW
variable {p : Program} {l : Launch} {e : Env} {s : State} {m : MethodId} {below : List Frame} {meth : Method} {c : Code} {b L : Nat} {xs : Nat → Int32} {D : va_G} {Q : State → Prop} {H : Heap} {locs : List Loc} {cells slots : Nat} {ls : Array Slot} {Λ : LAM}
def asL (xs : Nat → Int32) (i np : Nat) : List AV := (List.range np).map (fun j => iv (xs (i + 1 + j)))
theorem asL_s (i n : Nat) : ((asL xs i (n + 1)).map (cv Λ)).reverse = .int (xs (i + 1 + n)) :: ((asL xs i n).map (cv Λ)).reverse := by
  simp [asL, List.range_succ, cv]
theorem la_args (C0 : LC p s m c b L xs) {i np pc a0 a87 : Nat} (hi : i + 6 ≤ L) (hnp : np ≤ 5) (hS : va_S (fun q : Nat => s.heap.size ≤ q) s.heap H locs) (hl : lv_has ls 4 [(3, .int (nI i)), (2, .ref a87), (1, .ref a0), (0, .ref b)]) (hd : DA pc np) (st : List Value) (kk : W p l e room_1 s m #[Value.ref b] below meth c H locs cells slots Q (F0 m (pc + 5 * np) ls (((asL xs i np).map (cv Λ)).reverse ++ st))) : W p l e room_1 s m #[Value.ref b] below meth c H locs cells slots Q (F0 m pc ls st) := by
  obtain ⟨hx, hb, hml, hown, hts, hX, hbl, hL⟩ := C0
  have hbA : ¬ (fun q : Nat => s.heap.size ≤ q) b := Nat.not_le.mpr hbl
  have key : ∀ k, k ≤ np → W p l e room_1 s m #[Value.ref b] below meth c H locs cells slots Q (F0 m (pc + 5 * (np - k)) ls (((asL xs i (np - k)).map (cv Λ)).reverse ++ st)) := by
    intro k
    induction k with
    | zero => intro _; exact kk
    | succ k ih =>
      intro hk
      have ih := ih (by omega)
      obtain ⟨j, hj⟩ : ∃ j, j = np - (k + 1) := ⟨_, rfl⟩
      rw [show np - k = j + 1 by omega, asL_s] at ih
      rw [← hj]
      obtain ⟨d1, d2, d3, d4, d5⟩ := hd j (by omega)
      refine lv_aload_n hx hb d1 rfl (lv_at hl 3 rfl) ?_
      refine lv_iload_n hx hb d2 rfl (lv_at hl 0 rfl) ?_
      refine lv_iconst (v := nI (j + 1)) hx hb d3 (by rcases (show j = 0 ∨ j = 1 ∨ j = 2 ∨ j = 3 ∨ j = 4 by omega) with e | e | e | e | e <;> rw [e] <;> decide) ?_
      refine lv_iadd hx hb d4 ?_
      rw [nI_add, show i + (j + 1) = i + 1 + j by omega]
      refine va_sld hx hb hX hbl hbA hS (nI_in (show i + 1 + j < L by omega) (by omega)) d5 ?_
      rw [nI_clamp (by omega)]
      rw [show pc + 5 * (j + 1) = pc + 5 * j + 1 + 1 + 1 + 1 + 1 by omega] at ih
      exact ih
  have := key np (Nat.le_refl _)
  rw [Nat.sub_self] at this
  exact this
theorem lcall (C0 : LC p s m c b L xs) (hKD : KD D Λ s) {i : MIn} {np idx ci y N d pc : Nat} {T : u_T} (hy : lgt MT y = some i) (hc : CLS[ci]? = some (i.1.cls, T, N)) (hm : MF i np) (hlink : Cond.methodLink R_law idx i.1 ∈ GW) (hinst : Cond.instanceMethod i.1 ∈ GW) (hsel : Cond.selects i.1.cls i.1 i.1 ∈ GW) (hdg : decode code pc = .ok (.invokevirtual idx, 3)) {k : Nat} {as : List AV} (hlen : as.length = np) (hsh : lgt SH k = some (.inr ci)) {A B : AH} {v : AV} (hM : CON l D Λ d y (rv (some k) :: as) A v B) (hd : d ≤ 100) (hcl : cells ≤ room_1.cells) (hsl : slots ≤ room_1.slots) {rest : List Value} (hrest : (rest.map fun v => v.category).sum ≤ 8)
    (hP : va_P D CLS (WD Λ A) H) (hD : va_D (fun q : Nat => s.heap.size ≤ q) (WD Λ A)) (hS : va_S (fun q : Nat => s.heap.size ≤ q) s.heap H locs) (hls : ls.size = 4)
    (kk : ∀ (H1 : Heap) (locs1 : List Loc), va_P D CLS (WD Λ B) H1 → va_D (fun q : Nat => s.heap.size ≤ q) (WD Λ B) → va_S (fun q : Nat => s.heap.size ≤ q) s.heap H1 locs1 → W p l e room_1 s m #[Value.ref b] below meth c H1 locs1 cells slots Q (F0 m (pc + 3) ls ((cvr v).toList ++ rest))) : W p l e room_1 s m #[Value.ref b] below meth c H locs cells slots Q (F0 m pc ls ((as.map (cv Λ)).reverse ++ .ref (Λ k).1 :: rest)) := by
  obtain ⟨hx, hb, hml, hown, hts, -, -, -⟩ := C0
  obtain ⟨hcode, hini, hnm, hmx⟩ := hm
  have hFc := fr_in hD hS (fun q h => h)
  have hM := hM i hy H.size
  have hroom : d + 1 ≤ room_1.frames ∧ 8 + (i.2.2.1 + 11) + 300 * d ≤ room_1.locals := ⟨by show d + 1 ≤ 2048; omega, by show 8 + (i.2.2.1 + 11) + 300 * d ≤ 84000; omega⟩
  have cw : CallW room_1 s #[Value.ref b] R_law i.1.cls idx i.1 i.2.1 i.2.2.1 i.2.2.2 (.code i.1 i.2.1 i.2.2.1 i.2.2.2 :: GW) (rmd d) 0 0 np := ⟨callB_of np hts (gw_in hcode) rfl rfl rfl (hts _ hini) (hts _ hlink) hnm hroom, hts _ hinst, hts _ hsel⟩
  have hrun := va_runV (locs := locs) (cells := cells) (slots := slots) (below := below) (meth := meth) (e := e) (n := np) (b := (Λ k).1) (As := as.map (cv Λ)) (rest := rest) (g := F0 m pc ls ((as.map (cv Λ)).reverse ++ .ref (Λ k).1 :: rest)) ⟨hx, hb, hml, hown, hts⟩ hM cw ⟨pm_blind, va_recv hKD.1 hP hc (WD_at hsh), pm_at hKD hP hD⟩ rfl (by simpa using hlen) hls rfl (lv_room hrest) hdg ⟨hcl, hsl⟩
  intro T hT X
  obtain ⟨w, st₀, t, T', L, h0, X', hL, e1, e2, ⟨⟨hv, hp⟩, hz, hk⟩, st⟩ := hrun T hT X
  have hv : w = cvr v := by injection hv
  subst hv
  rw [h0] at hz hk
  obtain ⟨t2, a1, b1⟩ := kk T'.heap (locs ++ L) (by rw [e1]; exact hp) (WD_D hD (fun _ h => h))
    ⟨Nat.le_trans hS.1 (by rw [e1]; exact hz), fun q h1 h2 => by rw [e1, hk q (Nat.lt_of_lt_of_le h1 hS.1) (fun z => h2 (hFc q z))]; exact hS.2.1 q h1 h2, fun q hq => by
      rcases List.mem_append.mp hq with h | h
      · exact hS.2.2 q h
      · exact hFc _ (hL q h)⟩ T' rfl X'
  exact ⟨t2, st t2 a1, b1⟩
/-- a call of both sides whose answers are ints -/
theorem law_int (C0 : LC p s m c b L xs) {i a0 a87 : Nat} (hi : i + 6 ≤ L) {np ix im pc yx ym : Nat} {off : Int} {iX iM : MIn} (hyx : lgt MT yx = some iX) (hym : lgt MT ym = some iM) (hcX : CLS[9]? = some (iX.1.cls, TX9, 17)) (hcM : CLS[10]? = some (iM.1.cls, TX10, 36)) (mX : MF iX np) (mM : MF iM np) (lX : Cond.methodLink R_law ix iX.1 ∈ GW) (nX : Cond.instanceMethod iX.1 ∈ GW) (sX : Cond.selects iX.1.cls iX.1 iX.1 ∈ GW) (lM : Cond.methodLink R_law im iM.1 ∈ GW) (nM : Cond.instanceMethod iM.1 ∈ GW) (sM : Cond.selects iM.1.cls iM.1 iM.1 ∈ GW) (hnp : np ≤ 5) (hrt : ∀ (N d : Nat) (as : List AV) (A : AH) (r : RES), arun N d yx as A = some r → isIr r) (hok : OKR yx ym (asL xs i np)) (hd : DFi pc np ix im off)
    {I : Nat → Nat → Int32} {J : Nat → Nat → Int64} (hI : Inv s D a0 a87 Λ I J H locs) (hl : lv_has ls 4 [(3, .int (nI i)), (2, .ref a87), (1, .ref a0), (0, .ref b)]) (kk : ∀ (Λ : LAM) (I : Nat → Nat → Int32) (J : Nat → Nat → Int64) (H : Heap) (locs : List Loc), Inv s D a0 a87 Λ I J H locs → W p l e room_1 s m #[Value.ref b] below meth c H locs 110 6371 Q (F0 m 1449 ls [])) : W p l e room_1 s m #[Value.ref b] below meth c H locs 110 6371 Q (F0 m pc ls []) := by
  obtain ⟨hK, hP, hD, hS, hR, e0, e87⟩ := hI
  obtain ⟨d1, dA, d2, d3, dB, d4, d5, ht⟩ := hd
  obtain ⟨hx, hb, -⟩ := id C0
  obtain ⟨v, I1, J1, I2, J2, cd, hx1, hm1, hc⟩ := hok 0 0 I J hR
  obtain ⟨x, hv⟩ := hrt _ _ _ _ _ hx1
  have hv : v = iv x := hv
  subst hv
  have hlen : (asL xs i np).length = np := by simp [asL]
  refine lv_aload_n hx hb d1 rfl (lv_at hl 2 rfl) ?_
  refine la_args (Λ := Λ) C0 hi hnp hS hl dA _ ?_
  rw [← e0]
  refine lcall C0 hK hyx hcX mX lX nX sX d2 hlen (k := 0) rfl (arun_sound _ _ _ _ _ _ _ hx1) (by decide) (by decide) (by decide) (by decide) hP hD hS hl.1 (fun H1 locs1 hP1 hD1 hS1 => ?_)
  refine lv_aload_n hx hb d3 rfl (lv_at hl 1 rfl) ?_
  refine la_args (Λ := Λ) C0 hi hnp hS1 hl dB _ ?_
  rw [← e87]
  refine lcall C0 hK hym hcM mM lM nM sM d4 hlen (k := 87) rfl (arun_sound _ _ _ _ _ _ _ hm1) (by decide) (by decide) (by decide) (Nat.le_of_ble_eq_true rfl) hP1 hD1 hS1 hl.1 (fun H2 locs2 hP2 hD2 hS2 => ?_)
  refine lv_icmp_eq (x := x) (y := x) (rest := []) hx hb d5 ht (fun _ => ?_) (fun h => absurd rfl h)
  rcases hc with ⟨hc, hR2⟩ | ⟨hc, hR2⟩
  · subst hc
    exact kk Λ I2 J2 _ _ ⟨hK, hP2, hD2, hS2, hR2, e0, e87⟩
  · subst hc
    obtain ⟨k1, k2, k3⟩ := relabel hK hP2 hD2
    exact kk (fun a => Λ (swp a)) _ _ _ _ ⟨k1, k2, k3, hS2, hR2.sw, by show (Λ (swp 0)).1 = a0; rw [swp_o (by omega)]; exact e0, by show (Λ (swp 87)).1 = a87; rw [swp_o (by omega)]; exact e87⟩
theorem lg_cmp_self (x : Int64) : lg_cmp x x = 0 := by
  simp [lg_cmp]
/-- a call of both sides whose answers are longs -/
theorem law_long (C0 : LC p s m c b L xs) {i a0 a87 : Nat} {ix im pc yx ym : Nat} {off : Int} {iX iM : MIn} (hyx : lgt MT yx = some iX) (hym : lgt MT ym = some iM) (hcX : CLS[9]? = some (iX.1.cls, TX9, 17)) (hcM : CLS[10]? = some (iM.1.cls, TX10, 36)) (mX : MF iX 0) (mM : MF iM 0) (lX : Cond.methodLink R_law ix iX.1 ∈ GW) (nX : Cond.instanceMethod iX.1 ∈ GW) (sX : Cond.selects iX.1.cls iX.1 iX.1 ∈ GW) (lM : Cond.methodLink R_law im iM.1 ∈ GW) (nM : Cond.instanceMethod iM.1 ∈ GW) (sM : Cond.selects iM.1.cls iM.1 iM.1 ∈ GW) (hrt : ∀ (N d : Nat) (as : List AV) (A : AH) (r : RES), arun N d yx as A = some r → isJr r) (hok : OKR yx ym []) (hd : DFj pc ix im off)
    {I : Nat → Nat → Int32} {J : Nat → Nat → Int64} (hI : Inv s D a0 a87 Λ I J H locs) (hl : lv_has ls 4 [(3, .int (nI i)), (2, .ref a87), (1, .ref a0), (0, .ref b)]) (kk : ∀ (Λ : LAM) (I : Nat → Nat → Int32) (J : Nat → Nat → Int64) (H : Heap) (locs : List Loc), Inv s D a0 a87 Λ I J H locs → W p l e room_1 s m #[Value.ref b] below meth c H locs 110 6371 Q (F0 m 1449 ls [])) : W p l e room_1 s m #[Value.ref b] below meth c H locs 110 6371 Q (F0 m pc ls []) := by
  obtain ⟨hK, hP, hD, hS, hR, e0, e87⟩ := hI
  obtain ⟨d1, d2, d3, d4, d5, d6, ht⟩ := hd
  obtain ⟨hx, hb, -⟩ := id C0
  obtain ⟨v, I1, J1, I2, J2, cd, hx1, hm1, hc⟩ := hok 0 0 I J hR
  obtain ⟨x, hv⟩ := hrt _ _ _ _ _ hx1
  have hv : v = jv x := hv
  subst hv
  refine lv_aload_n hx hb d1 rfl (lv_at hl 2 rfl) ?_
  rw [← e0]
  refine lcall (as := []) C0 hK hyx hcX mX lX nX sX d2 rfl (k := 0) rfl (arun_sound _ _ _ _ _ _ _ hx1) (by decide) (by decide) (by decide) (by decide) hP hD hS hl.1 (fun H1 locs1 hP1 hD1 hS1 => ?_)
  refine lv_aload_n hx hb d3 rfl (lv_at hl 1 rfl) ?_
  rw [← e87]
  refine lcall (as := []) C0 hK hym hcM mM lM nM sM d4 rfl (k := 87) rfl (arun_sound _ _ _ _ _ _ _ hm1) (by decide) (by decide) (by decide) (Nat.le_of_ble_eq_true rfl) hP1 hD1 hS1 hl.1 (fun H2 locs2 hP2 hD2 hS2 => ?_)
  refine W.lcmp (x := x) (y := x) (rest := []) hx hb d5 ?_
  refine lv_if_eq hx hb d6 ht (fun _ => ?_) (fun h => absurd (lg_cmp_self x) h)
  rcases hc with ⟨hc, hR2⟩ | ⟨hc, hR2⟩
  · subst hc
    exact kk Λ I2 J2 _ _ ⟨hK, hP2, hD2, hS2, hR2, e0, e87⟩
  · subst hc
    obtain ⟨k1, k2, k3⟩ := relabel hK hP2 hD2
    exact kk (fun a => Λ (swp a)) _ _ _ _ ⟨k1, k2, k3, hS2, hR2.sw, by show (Λ (swp 0)).1 = a0; rw [swp_o (by omega)]; exact e0, by show (Λ (swp 87)).1 = a87; rw [swp_o (by omega)]; exact e87⟩
end LAW
