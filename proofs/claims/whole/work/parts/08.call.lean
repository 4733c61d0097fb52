/-! soundness of calls; of a method by its code; of all methods by the depth -/
section SND
variable {p : Program} {l : Launch} {e : Env} {R : Room} {s : State} {m : MethodId} {args : Array Value} {below : List Frame} {meth : Method} {c : Code} {own : String} {cc : ByteArray} {nL d : Nat} {ret : Option FieldType} {D : va_G} {Λ : LAM} {FR : Nat → Prop} {Q : RES → State → Prop} {o : ORC} {pc : Nat}
theorem callG {H : Heap} {locs : List Loc} {ls : Array Slot} {st0 rest : List Value} {v : AV} {B : AH} {A1 free : Nat → Prop} {a : Array Value} {Q : State → Prop} (hr : va_Run p l e R s m args below meth c H locs 0 0 0 0 (F0 m pc ls st0) rest (QM D Λ v B A1 a) free) (hS : va_S FR s.heap H locs) (hA : ∀ q, q < H.size → A1 q → FR q) (hf : ∀ q, free q → FR q)
    (kk : ∀ (H1 : Heap) (locs1 : List Loc), va_P D CLS (WD Λ B) H1 → va_S FR s.heap H1 locs1 → W p l e R s m args below meth c H1 locs1 0 0 Q (F0 m (pc + 3) ls ((cvr v).toList ++ rest))) : W p l e R s m args below meth c H locs 0 0 Q (F0 m pc ls st0) := by
  intro T hT X
  obtain ⟨w, st₀, t, T', L, h0, X', hL, e1, e2, ⟨⟨hv, hp⟩, hz, hk⟩, st⟩ := hr T hT X
  have hv : w = cvr v := by injection hv
  subst hv
  rw [h0] at hz hk
  obtain ⟨t2, a1, b1⟩ := kk T'.heap (locs ++ L) (by rw [e1]; exact hp)
    ⟨Nat.le_trans hS.1 (by rw [e1]; exact hz), fun q h1 h2 => by rw [e1, hk q (Nat.lt_of_lt_of_le h1 hS.1) (fun z => h2 (hA q (Nat.lt_of_lt_of_le h1 hS.1) z))]; exact hS.2.1 q h1 h2, fun q hq => by
      rcases List.mem_append.mp hq with h | h
      · exact hS.2.2 q h
      · exact hf _ (hL q h)⟩ T' rfl X'
  exact ⟨t2, st t2 a1, b1⟩
theorem fr_in {A : AH} {H : Heap} {locs : List Loc} (hD : va_D FR (WD Λ A)) (hS : va_S FR s.heap H locs) (hFR : ∀ q, s.heap.size ≤ q → FR q) : ∀ q, va_A (WD Λ A) H.size q → FR q := by
  intro q h
  rcases h with ⟨k, e, h⟩ | h
  · exact hD.2 k _ h
  · exact hFR q (Nat.le_trans hS.1 h)
theorem pm_blind {A : AH} {as : List AV} {sz : Nat} : FrameBlind (PM D Λ A as sz) := by
  intro a U g mk h
  obtain ⟨h1, h2, h3, h4, h5⟩ := h
  exact ⟨h1, h2, h3, h4.call, h5⟩
theorem pm_at {A : AH} {as : List AV} {H : Heap} (hK : KD D Λ s) (hP : va_P D CLS (WD Λ A) H) (hD : va_D FR (WD Λ A)) : ∀ U : State, U.heap = H → s.WarmedH U.vm → PM D Λ A as H.size (as.map (cv Λ)).toArray U := fun U hU hW => ⟨rfl, by rw [hU], by rw [hU]; exact hP, hK.warm hW, hD.weaken (fun _ _ _ _ => trivial)⟩
theorem okst_spec {n : Nat} {st : List AV} (h : okst n st = true) : n ≤ st.length ∧ cats (st.drop n) ≤ 8 := by
  unfold okst at h
  simp only [Bool.and_eq_true] at h
  exact ⟨Nat.le_of_ble_eq_true h.1, Nat.le_of_ble_eq_true h.2⟩
theorem vcall (X : CX p l R s m args meth c own cc nL ret D Λ d o) (hFR : ∀ q, s.heap.size ≤ q → FR q) {i : MIn} {np idx ci y N : Nat} {T : u_T} (hy : lgt MT y = some i) (hc : CLS[ci]? = some (i.1.cls, T, N)) (hm : MF i np) (hlink : Cond.methodLink own idx i.1 ∈ GW) (hinst : Cond.instanceMethod i.1 ∈ GW) (hsel : Cond.selects i.1.cls i.1 i.1 ∈ GW) (hdg : decode cc pc = .ok (.invokevirtual idx, 3))
    {st : List AV} {A : AH} {v : AV} {B : AH} {Q : State → Prop} (hst : okst (np + 1) st = true) (hrc : rcv (st.take (np + 1)).reverse ci = true) (ho : o y (st.take (np + 1)).reverse A = some (v, B)) {H : Heap} {locs : List Loc} {ls : Array Slot} (hP : va_P D CLS (WD Λ A) H) (hD : va_D FR (WD Λ A)) (hS : va_S FR s.heap H locs) (hls : ls.size = nL)
    (kk : ∀ (H1 : Heap) (locs1 : List Loc), va_P D CLS (WD Λ B) H1 → va_D FR (WD Λ B) → va_S FR s.heap H1 locs1 → W p l e R s m args below meth c H1 locs1 0 0 Q (F0 m (pc + 3) ls ((cvr v).toList ++ (st.drop (np + 1)).map (cv Λ)))) : W p l e R s m args below meth c H locs 0 0 Q (F0 m pc ls (st.map (cv Λ))) := by
  obtain ⟨hx, hb, hml, hown, hts, hKD, hR, hr, hlk, hO⟩ := X
  obtain ⟨hcode, hini, hnm, hmx⟩ := hm
  obtain ⟨h1, h2⟩ := okst_spec hst
  have hsplit : st = st.take (np + 1) ++ st.drop (np + 1) := (List.take_append_drop _ _).symm
  generalize hrest : st.drop (np + 1) = rest at *
  have hlen : (st.take (np + 1)).length = np + 1 := by rw [List.length_take]; omega
  generalize hT9 : st.take (np + 1) = tk at *
  obtain ⟨b, as', hba⟩ : ∃ b as', tk.reverse = rv (some b) :: as' := by
    unfold rcv at hrc
    split at hrc
    · next b t hq => exact ⟨b, t, hq⟩
    · cases hrc
  rw [hba] at ho hrc
  have hrc : okc b ci = true := hrc
  have htk : tk = as'.reverse ++ [rv (some b)] := by
    have := congrArg List.reverse hba
    simpa using this
  have hl' : as'.length = np := by
    rw [htk] at hlen
    simpa using hlen
  have hsh := okc_spec hrc
  have hFc := fr_in hD hS hFR
  have hM := hO y _ A v B ho i hy H.size
  have cw : CallW R s args own i.1.cls idx i.1 i.2.1 i.2.2.1 i.2.2.2 (.code i.1 i.2.1 i.2.2.1 i.2.2.2 :: GW) (rmd d) 0 0 np := ⟨callB_of np hts (gw_in hcode) rfl rfl rfl (hts _ hini) (hts _ hlink) hnm ⟨hR.1, by show 8 + (i.2.2.1 + 11) + 300 * d ≤ R.locals; have := hR.2; omega⟩, hts _ hinst, hts _ hsel⟩
  have hstk : st.map (cv Λ) = (as'.map (cv Λ)).reverse ++ .ref (Λ b).1 :: rest.map (cv Λ) := by
    rw [hsplit, htk]
    simp [List.map_reverse, cv, adr, va_rf]
  rw [hstk]
  refine callG (A1 := va_A (WD Λ A) H.size) (free := va_A (WD Λ A) H.size) (va_runV (n := np) (b := (Λ b).1) (As := as'.map (cv Λ)) (rest := rest.map (cv Λ)) ⟨hx, hb, hml, hown, hts⟩ hM cw ⟨pm_blind, va_recv hKD.1 hP hc (WD_at hsh), pm_at hKD hP hD⟩ rfl (by simpa using hl') hls rfl (lv_room (by rw [cats_sum]; exact h2)) hdg ⟨Nat.zero_le _, Nat.zero_le _⟩) hS (fun q _ h => hFc q h) hFc (fun H1 locs1 hP1 hS1 => ?_)
  exact kk H1 locs1 hP1 (WD_D hD (fun _ h => h)) hS1
theorem scall (X : CX p l R s m args meth c own cc nL ret D Λ d o) (hFR : ∀ q, s.heap.size ≤ q → FR q) {i : MIn} {np idx y : Nat} (hy : lgt MT y = some i) (hm : MF i np) (hlink : Cond.methodLink own idx i.1 ∈ GW ∨ ∃ host, va_Nw (.methodLinkNest own idx i.1 host) s) (hstat : Cond.static i.1 ∈ GW) (hdg : decode cc pc = .ok (.invokestatic idx, 3))
    {st : List AV} {A : AH} {v : AV} {B : AH} {Q : State → Prop} (hst : okst np st = true) (ho : o y (st.take np).reverse A = some (v, B)) {H : Heap} {locs : List Loc} {ls : Array Slot} (hP : va_P D CLS (WD Λ A) H) (hD : va_D FR (WD Λ A)) (hS : va_S FR s.heap H locs) (hls : ls.size = nL)
    (kk : ∀ (H1 : Heap) (locs1 : List Loc), va_P D CLS (WD Λ B) H1 → va_D FR (WD Λ B) → va_S FR s.heap H1 locs1 → W p l e R s m args below meth c H1 locs1 0 0 Q (F0 m (pc + 3) ls ((cvr v).toList ++ (st.drop np).map (cv Λ)))) : W p l e R s m args below meth c H locs 0 0 Q (F0 m pc ls (st.map (cv Λ))) := by
  obtain ⟨hx, hb, hml, hown, hts, hKD, hR, hr, hlk, hO⟩ := X
  obtain ⟨hcode, hini, hnm, hmx⟩ := hm
  obtain ⟨h1, h2⟩ := okst_spec hst
  have hsplit : st = st.take np ++ st.drop np := (List.take_append_drop _ _).symm
  generalize hrest : st.drop np = rest at *
  have hlen : (st.take np).length = np := by rw [List.length_take]; omega
  generalize hT9 : st.take np = tk at *
  have hFc := fr_in hD hS hFR
  have hM := hO y _ A v B ho i hy H.size
  have hroom : d + 1 ≤ R.frames ∧ 8 + (i.2.2.1 + 11) + 300 * d ≤ R.locals := ⟨hR.1, by have := hR.2; omega⟩
  have hstk : st.map (cv Λ) = (tk.reverse.map (cv Λ)).reverse ++ rest.map (cv Λ) := by
    rw [hsplit]
    simp [List.map_reverse]
  rw [hstk]
  refine callG (A1 := va_A (WD Λ A) H.size) (free := va_A (WD Λ A) H.size) (D := D) (Λ := Λ) (v := v) (B := B) (rest := rest.map (cv Λ)) (a := (tk.reverse.map (cv Λ)).toArray) ?_ hS (fun q _ h => hFc q h) hFc (fun H1 locs1 hP1 hS1 => ?_)
  · rcases hlink with hlink | ⟨host, hlink⟩
    · exact va_runS (n := np) (As := tk.reverse.map (cv Λ)) (rest := rest.map (cv Λ)) ⟨hx, hb, hml, hown, hts⟩ hM ⟨callB_of np hts (gw_in hcode) rfl rfl rfl (hts _ hini) (hts _ hlink) hnm hroom, hts _ hstat⟩ ⟨pm_blind, pm_at hKD hP hD⟩ rfl (by simpa using hlen) hls rfl (lv_room (by rw [cats_sum]; exact h2)) hdg ⟨Nat.zero_le _, Nat.zero_le _⟩
    · exact va_runSN (n := np) (host := host) (As := tk.reverse.map (cv Λ)) (rest := rest.map (cv Λ)) ⟨hx, hb, hml, hown, hts⟩ hM ⟨va_cnB np hts (gw_in hcode) rfl rfl rfl hlink (hts _ hini) hnm hroom, hts _ hstat, trivial⟩ ⟨pm_blind, pm_at hKD hP hD⟩ rfl (by simpa using hlen) hls rfl (lv_room (by rw [cats_sum]; exact h2)) hdg ⟨Nat.zero_le _, Nat.zero_le _⟩
  · exact kk H1 locs1 hP1 (WD_D hD (fun _ h => h)) hS1
theorem cI_spec {o : ORC} {y : Nat} {as : List AV} {A : AH} {x : Int32 × AH} (h : cI o y as A = some x) : o y as A = some (iv x.1, x.2) := by
  unfold cI at h
  split at h
  · next h1 => cases h; exact h1
  · cases h
theorem cJ_spec {o : ORC} {y : Nat} {as : List AV} {A : AH} {x : Int64 × AH} (h : cJ o y as A = some x) : o y as A = some (jv x.1, x.2) := by
  unfold cJ at h
  split at h
  · next h1 => cases h; exact h1
  · cases h
theorem cV_spec {o : ORC} {y : Nat} {as : List AV} {A : AH} {x : AH} (h : cV o y as A = some x) : o y as A = some (rv none, x) := by
  unfold cV at h
  split at h
  · next h1 => cases h; exact h1
  · cases h
theorem sn_vI (X : CX p l R s m args meth c own cc nL ret D Λ d o) (hFR : ∀ q, s.heap.size ≤ q → FR q) {i : MIn} {np idx ci y N : Nat} {T : u_T} (hy : lgt MT y = some i) (hc : CLS[ci]? = some (i.1.cls, T, N)) (hm : MF i np) (hlink : Cond.methodLink own idx i.1 ∈ GW) (hinst : Cond.instanceMethod i.1 ∈ GW) (hsel : Cond.selects i.1.cls i.1 i.1 ∈ GW) (hdg : decode cc pc = .ok (.invokevirtual idx, 3)) : SN p l e R s m args below meth c nL D Λ FR Q pc (x_vI o y ci (np + 1) (pc + 3)) := by
  intro k L st A r hk h
  unfold x_vI at h
  cases hst : okst (np + 1) st with
  | false => rw [hst] at h; cases h
  | true =>
    rw [hst] at h
    have h : (if rcv (st.take (np + 1)).reverse ci then (cI o y (st.take (np + 1)).reverse A).bind fun r => k (pc + 3) L (iv r.1 :: st.drop (np + 1)) r.2 else none) = some r := h
    split at h
    · next hrc =>
      cases hq : cI o y (st.take (np + 1)).reverse A with
      | none => rw [hq] at h; cases h
      | some x =>
        rw [hq] at h
        have h : k (pc + 3) L (iv x.1 :: st.drop (np + 1)) x.2 = some r := h
        intro H locs ls hP hD hS hl
        exact vcall X hFR hy hc hm hlink hinst hsel hdg hst hrc (cI_spec hq) hP hD hS hl.1 (fun H1 locs1 hP1 hD1 hS1 => hk _ _ _ _ _ h H1 locs1 ls hP1 hD1 hS1 hl)
    · cases h
theorem sn_vJ (X : CX p l R s m args meth c own cc nL ret D Λ d o) (hFR : ∀ q, s.heap.size ≤ q → FR q) {i : MIn} {np idx ci y N : Nat} {T : u_T} (hy : lgt MT y = some i) (hc : CLS[ci]? = some (i.1.cls, T, N)) (hm : MF i np) (hlink : Cond.methodLink own idx i.1 ∈ GW) (hinst : Cond.instanceMethod i.1 ∈ GW) (hsel : Cond.selects i.1.cls i.1 i.1 ∈ GW) (hdg : decode cc pc = .ok (.invokevirtual idx, 3)) : SN p l e R s m args below meth c nL D Λ FR Q pc (x_vJ o y ci (np + 1) (pc + 3)) := by
  intro k L st A r hk h
  unfold x_vJ at h
  cases hst : okst (np + 1) st with
  | false => rw [hst] at h; cases h
  | true =>
    rw [hst] at h
    have h : (if rcv (st.take (np + 1)).reverse ci then (cJ o y (st.take (np + 1)).reverse A).bind fun r => k (pc + 3) L (jv r.1 :: st.drop (np + 1)) r.2 else none) = some r := h
    split at h
    · next hrc =>
      cases hq : cJ o y (st.take (np + 1)).reverse A with
      | none => rw [hq] at h; cases h
      | some x =>
        rw [hq] at h
        have h : k (pc + 3) L (jv x.1 :: st.drop (np + 1)) x.2 = some r := h
        intro H locs ls hP hD hS hl
        exact vcall X hFR hy hc hm hlink hinst hsel hdg hst hrc (cJ_spec hq) hP hD hS hl.1 (fun H1 locs1 hP1 hD1 hS1 => hk _ _ _ _ _ h H1 locs1 ls hP1 hD1 hS1 hl)
    · cases h
theorem sn_vV (X : CX p l R s m args meth c own cc nL ret D Λ d o) (hFR : ∀ q, s.heap.size ≤ q → FR q) {i : MIn} {np idx ci y N : Nat} {T : u_T} (hy : lgt MT y = some i) (hc : CLS[ci]? = some (i.1.cls, T, N)) (hm : MF i np) (hlink : Cond.methodLink own idx i.1 ∈ GW) (hinst : Cond.instanceMethod i.1 ∈ GW) (hsel : Cond.selects i.1.cls i.1 i.1 ∈ GW) (hdg : decode cc pc = .ok (.invokevirtual idx, 3)) : SN p l e R s m args below meth c nL D Λ FR Q pc (x_vV o y ci (np + 1) (pc + 3)) := by
  intro k L st A r hk h
  unfold x_vV at h
  cases hst : okst (np + 1) st with
  | false => rw [hst] at h; cases h
  | true =>
    rw [hst] at h
    have h : (if rcv (st.take (np + 1)).reverse ci then (cV o y (st.take (np + 1)).reverse A).bind fun B => k (pc + 3) L (st.drop (np + 1)) B else none) = some r := h
    split at h
    · next hrc =>
      cases hq : cV o y (st.take (np + 1)).reverse A with
      | none => rw [hq] at h; cases h
      | some x =>
        rw [hq] at h
        have h : k (pc + 3) L (st.drop (np + 1)) x = some r := h
        intro H locs ls hP hD hS hl
        exact vcall X hFR hy hc hm hlink hinst hsel hdg hst hrc (cV_spec hq) hP hD hS hl.1 (fun H1 locs1 hP1 hD1 hS1 => hk _ _ _ _ _ h H1 locs1 ls hP1 hD1 hS1 hl)
    · cases h
theorem sn_sI (X : CX p l R s m args meth c own cc nL ret D Λ d o) (hFR : ∀ q, s.heap.size ≤ q → FR q) {i : MIn} {np idx y : Nat} (hy : lgt MT y = some i) (hm : MF i np) (hlink : Cond.methodLink own idx i.1 ∈ GW ∨ ∃ host, va_Nw (.methodLinkNest own idx i.1 host) s) (hstat : Cond.static i.1 ∈ GW) (hdg : decode cc pc = .ok (.invokestatic idx, 3)) : SN p l e R s m args below meth c nL D Λ FR Q pc (x_sI o y np (pc + 3)) := by
  intro k L st A r hk h
  unfold x_sI at h
  cases hst : okst np st with
  | false => rw [hst] at h; cases h
  | true =>
    rw [hst] at h
    have h : ((cI o y (st.take np).reverse A).bind fun r => k (pc + 3) L (iv r.1 :: st.drop np) r.2) = some r := h
    cases hq : cI o y (st.take np).reverse A with
    | none => rw [hq] at h; cases h
    | some x =>
      rw [hq] at h
      have h : k (pc + 3) L (iv x.1 :: st.drop np) x.2 = some r := h
      intro H locs ls hP hD hS hl
      exact scall X hFR hy hm hlink hstat hdg hst (cI_spec hq) hP hD hS hl.1 (fun H1 locs1 hP1 hD1 hS1 => hk _ _ _ _ _ h H1 locs1 ls hP1 hD1 hS1 hl)
theorem sn_sJ (X : CX p l R s m args meth c own cc nL ret D Λ d o) (hFR : ∀ q, s.heap.size ≤ q → FR q) {i : MIn} {np idx y : Nat} (hy : lgt MT y = some i) (hm : MF i np) (hlink : Cond.methodLink own idx i.1 ∈ GW ∨ ∃ host, va_Nw (.methodLinkNest own idx i.1 host) s) (hstat : Cond.static i.1 ∈ GW) (hdg : decode cc pc = .ok (.invokestatic idx, 3)) : SN p l e R s m args below meth c nL D Λ FR Q pc (x_sJ o y np (pc + 3)) := by
  intro k L st A r hk h
  unfold x_sJ at h
  cases hst : okst np st with
  | false => rw [hst] at h; cases h
  | true =>
    rw [hst] at h
    have h : ((cJ o y (st.take np).reverse A).bind fun r => k (pc + 3) L (jv r.1 :: st.drop np) r.2) = some r := h
    cases hq : cJ o y (st.take np).reverse A with
    | none => rw [hq] at h; cases h
    | some x =>
      rw [hq] at h
      have h : k (pc + 3) L (jv x.1 :: st.drop np) x.2 = some r := h
      intro H locs ls hP hD hS hl
      exact scall X hFR hy hm hlink hstat hdg hst (cJ_spec hq) hP hD hS hl.1 (fun H1 locs1 hP1 hD1 hS1 => hk _ _ _ _ _ h H1 locs1 ls hP1 hD1 hS1 hl)
-- runs
theorem lk1_spec {pc : Nat} {i : INS} : ∀ (l : List (Nat × INS)), lk1 pc l = some i → (pc, i) ∈ l
  | [], h => by cases h
  | c :: cs, h => by
    unfold lk1 at h
    cases hb : Nat.beq c.1 pc with
    | true =>
      rw [hb] at h
      have h : some c.2 = some i := h
      cases h
      rw [← Nat.eq_of_beq_eq_true hb]
      exact List.mem_cons_self
    | false =>
      rw [hb] at h
      exact List.mem_cons_of_mem _ (lk1_spec cs h)
theorem lk_spec {pc : Nat} {i : INS} : ∀ (C : COD), lk pc C = some i → ∃ ch ∈ C, (pc, i) ∈ ch.2
  | [], h => by cases h
  | c :: cs, h => by
    unfold lk at h
    cases hb : Nat.blt pc c.1 with
    | true =>
      rw [hb] at h
      exact ⟨c, List.mem_cons_self, lk1_spec c.2 h⟩
    | false =>
      rw [hb] at h
      obtain ⟨ch, h1, h2⟩ := lk_spec cs h
      exact ⟨ch, List.mem_cons_of_mem _ h1, h2⟩
theorem run_sound {C : COD} {cuts : List (Nat × List Nat)} {K : Nat → LO → AH → Option RES} (hC : ∀ ch ∈ C, ∀ q ∈ ch.2, SN p l e R s m args below meth c nL D Λ FR Q q.1 q.2) (hK : ∀ pc L A r, K pc L A = some r → GD p l e R s m args below meth c nL D Λ FR Q pc L [] A r) : ∀ (f pc : Nat) (L : LO) (st : List AV) (A : AH) (r : RES), run C cuts K f pc L st A = some r → GD p l e R s m args below meth c nL D Λ FR Q pc L st A r := by
  intro f
  induction f with
  | zero => intro pc L st A r h; cases h
  | succ f ih =>
    intro pc L st A r h
    unfold run at h
    cases hq : cutAt pc cuts with
    | some lv =>
      rw [hq] at h
      cases st with
      | nil =>
        intro H locs ls hP hD hS hl
        exact hK pc _ A r h H locs ls hP hD hS (hl.keep lv)
      | cons a t => cases h
    | none =>
      rw [hq] at h
      have h : (match lk pc C with
        | some i => i (run C cuts K f) L st A
        | none => none) = some r := h
      cases hi : lk pc C with
      | none => rw [hi] at h; cases h
      | some i =>
        rw [hi] at h
        obtain ⟨ch, h1, h2⟩ := lk_spec C hi
        exact hC ch h1 _ h2 _ _ _ _ _ ih h
theorem exec_sound {C : COD} {cuts : List (Nat × List Nat)} (hC : ∀ ch ∈ C, ∀ q ∈ ch.2, SN p l e R s m args below meth c nL D Λ FR Q q.1 q.2) : ∀ (N pc : Nat) (L : LO) (A : AH) (r : RES), exec C cuts N pc L A = some r → GD p l e R s m args below meth c nL D Λ FR Q pc L [] A r := by
  intro N
  induction N with
  | zero => intro pc L A r h; cases h
  | succ N ih =>
    intro pc L A r h
    unfold exec at h
    have h : (match lk pc C with
      | some i => i (run C cuts (exec C cuts N) 400) L [] A
      | none => none) = some r := h
    cases hi : lk pc C with
    | none => rw [hi] at h; cases h
    | some i =>
      rw [hi] at h
      obtain ⟨ch, h1, h2⟩ := lk_spec C hi
      exact hC ch h1 _ h2 _ _ _ _ _ (run_sound hC ih 400) h
end SND
abbrev MPr : Type := Nat × List (Nat × List Nat) × (ORC → COD)
def OKC (i : MIn) (C : ORC → COD) : Prop := ∀ (p : Program) (l : Launch) (e : Env) (R : Room) (s : State) (m : MethodId) (args : Array Value) (below : List Frame) (meth : Method) (c : Code) (D : va_G) (Λ : LAM) (FR : Nat → Prop) (d : Nat) (o : ORC), (∀ q, s.heap.size ≤ q → FR q) → CX p l R s m args meth c i.1.cls i.2.1 i.2.2.1 i.2.2.2 D Λ d o → ∀ ch ∈ C o, ∀ q ∈ ch.2, SN p l e R s m args below meth c i.2.2.1 D Λ FR (fun r => MQ below (QM D Λ r.1 r.2 FR) args s 0 0 FR) q.1 q.2
def OKM (i : MIn) (q : MPr) : Prop := plainFor i.1 = true ∧ q.1 = i.2.2.1 ∧ OKC i q.2.2
theorem sl_len (Λ : LAM) : ∀ as : List AV, (lg_sl (as.map (cv Λ))).length = cats as
  | [] => rfl
  | a :: t => by
    have := sl_len Λ t
    have e : ∀ v : Value, ∀ vs : List Value, lg_sl (v :: vs) = (if v.category = 2 then [.val v, .second] else [.val v]) ++ lg_sl vs := fun v vs => by simp [lg_sl]
    rw [List.map_cons, e, List.length_append, this]
    rcases a with x | x | (_ | x) <;> simp [cv, cats, cat, Value.category, va_rf, adr]
theorem Met.ofWF {l : Launch} {y : MethodName} {ws ws' : List Cond} {rm : Room} {Pc : Array Value → State → Prop} {Qc : Array Value → State → Outcome → State → Prop} {mc ms : Nat} {free : Addr → Prop} {cc : ByteArray} {maxL : Nat} {ret : Option FieldType}
    (hy : plainFor y = true) (hw : ws = Cond.code y cc maxL ret :: ws')
    (body : ∀ p e s m args below meth c s₁, BodyLoose p l y (headSpec ws rm) cc maxL ret e s m args below meth c s₁ → c.maxLocals = maxL → Pc args s →
      W p l e (headSpec ws rm).room s m args below meth c s.heap [] 0 0 (MQ below Qc args s mc ms free) (entryFrame m args maxL)) : Met l y ws rm Pc Qc mc ms free := by
  refine MetFree.of_bodySF (code := cc) (maxLocals := maxL) (ret := ret) hy ?_ ?_
  · intro args s m h hn
    obtain ⟨meth, c, h1, h2, h3, h4, h5, h6, -, -⟩ := Cond.code_spec hn (atoms_spec (ws := ws) h _ (by rw [hw]; exact List.mem_cons_self))
    exact ⟨meth, c, h1, h2, h3, h4, h5, h6⟩
  · intro p e s m args below meth c s₁ B hml hP _
    have hh0 : s₁.heap = s.heap := by rw [B.state]; rfl
    obtain ⟨t, a1, o, b1, b2, b3⟩ := body p e s m args below meth c s₁ B hml hP s₁ hh0 (Stand.of_body B)
    exact ⟨t, o, a1, b1, b2, ⟨b3.1, b3.2⟩⟩
theorem met_sound {l : Launch} {D : va_G} {Λ : LAM} {d N y : Nat} {o : ORC} {i : MIn} {q : MPr} (hy : lgt MT y = some i) (hq : OKM i q) (hO : ∀ y as A v B, o y as A = some (v, B) → CON l D Λ d y as A v B) {as : List AV} {A : AH} {v : AV} {B : AH} (hcat : cats as ≤ q.1) (h : exec (q.2.2 o) q.2.1 N 0 (padL q.1 (ent as)) A = some (v, B)) : CON l D Λ (d + 1) y as A v B := by
  intro i' hi' sz
  rw [hy] at hi'
  cases hi'
  obtain ⟨hpl, hnl, hok⟩ := hq
  refine Met.ofWF (cc := i.2.1) (maxL := i.2.2.1) (ret := i.2.2.2) hpl rfl ?_
  intro p e s m args below meth c s₁ BB hml hv
  obtain ⟨rfl, hsz, hP, hK, hD0⟩ := hv
  have hts := atoms_spec (ws := .code i.1 i.2.1 i.2.2.1 i.2.2.2 :: GW) BB.pre
  have hown : s.vm.findClass i.1.cls = some m.cls := findClass_of_methodNamed BB.named
  subst hsz
  have hD := hD0.self (sz := s.heap.size)
  have hFR : ∀ q : Nat, s.heap.size ≤ q → va_A (WD Λ A) s.heap.size q := fun q h => Or.inr h
  have hl := lv_entry (as.map (cv Λ)) (n := i.2.2.1) (by rw [sl_len, ← hnl]; exact hcat)
  rw [lg_entry_eq]
  have hLH : LH Λ ((lg_sl (as.map (cv Λ)) ++ List.replicate (i.2.2.1 - (lg_sl (as.map (cv Λ))).length) Slot.unset).toArray) i.2.2.1 (padL q.1 (ent as)) := by
    refine ⟨hl.1, hl.2.1, fun j w hj => ?_⟩
    have h1 := ent_args (Λ := Λ) as 0 j w (lg_pad _ _ _ _ hj)
    rw [Nat.zero_add] at h1
    exact hl.2.2 _ h1
  have X : CX p l (rmd (d + 1)) s m (as.map (cv Λ)).toArray meth c i.1.cls i.2.1 i.2.2.1 i.2.2.2 D Λ d o := ⟨BB.exec, BB.bytes, hml, hown, fun w hw => hts w (List.mem_cons_of_mem _ hw), hK, ⟨Nat.le_refl _, Nat.le_refl _⟩, BB.returns, BB.notSynchronized, hO⟩
  exact exec_sound (hok p l e (rmd (d + 1)) s m _ below meth c D Λ (va_A (WD Λ A) s.heap.size) d o hFR X) N 0 _ A (v, B) h s.heap [] _ hP hD va_S.rf hLH
