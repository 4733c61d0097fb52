/-! the class's constructor -/
theorem k100 : Cond.methodLink RX9 1 Lib.objectInit ∈ GW := gwp 100 (by decide +kernel) (by decide +kernel)
theorem k103 : Cond.classLink RX9 7 RX8 ∈ GW := gwp 103 (by decide +kernel) (by decide +kernel)
theorem k104 : Cond.instantiable RX8 3 ∈ GW := gwp 104 (by decide +kernel) (by decide +kernel)
theorem k105 : Cond.methodLink RX9 11 yX8_init ∈ GW := gwp 105 (by decide +kernel) (by decide +kernel)
theorem k106 : Cond.instanceMethod yX8_init ∈ GW := gwp 106 (by decide +kernel) (by decide +kernel)
theorem k107 : Cond.code yX8_init cX8_init 4 none ∈ GW := gwp 107 (by decide +kernel) (by decide +kernel)
theorem k126 : Cond.classLink RX9 21 RX7 ∈ GW := gwp 126 (by decide +kernel) (by decide +kernel)
theorem k127 : Cond.instantiable RX7 3 ∈ GW := gwp 127 (by decide +kernel) (by decide +kernel)
theorem k129 : Cond.instanceMethod yX7_init ∈ GW := gwp 129 (by decide +kernel) (by decide +kernel)
theorem k130 : Cond.code yX7_init cX7_init 1 none ∈ GW := gwp 130 (by decide +kernel) (by decide +kernel)
theorem k142 : Cond.classLink RX9 28 RX4 ∈ GW := gwp 142 (by decide +kernel) (by decide +kernel)
theorem k143 : Cond.instantiable RX4 5 ∈ GW := gwp 143 (by decide +kernel) (by decide +kernel)
theorem k145 : Cond.instanceMethod yX4_init ∈ GW := gwp 145 (by decide +kernel) (by decide +kernel)
theorem k146 : Cond.code yX4_init cX4_init 1 none ∈ GW := gwp 146 (by decide +kernel) (by decide +kernel)
theorem k168 : Cond.classLink RX9 35 RX3 ∈ GW := gwp 168 (by decide +kernel) (by decide +kernel)
theorem k169 : Cond.instantiable RX3 3 ∈ GW := gwp 169 (by decide +kernel) (by decide +kernel)
theorem k171 : Cond.instanceMethod yX3_init ∈ GW := gwp 171 (by decide +kernel) (by decide +kernel)
theorem k172 : Cond.code yX3_init cX3_init 1 none ∈ GW := gwp 172 (by decide +kernel) (by decide +kernel)
theorem k188 : Cond.classLink RX9 50 RX0 ∈ GW := gwp 188 (by decide +kernel) (by decide +kernel)
theorem k233 : Cond.arrayClass .boolean ∈ GW := gwp 233 (by decide +kernel) (by decide +kernel)
theorem k234 : Cond.classLink RX9 57 RX5 ∈ GW := gwp 234 (by decide +kernel) (by decide +kernel)
theorem k235 : Cond.instantiable RX5 10 ∈ GW := gwp 235 (by decide +kernel) (by decide +kernel)
theorem k237 : Cond.instanceMethod yX5_init ∈ GW := gwp 237 (by decide +kernel) (by decide +kernel)
theorem k238 : Cond.code yX5_init cX5_init 1 none ∈ GW := gwp 238 (by decide +kernel) (by decide +kernel)
theorem k280 : Cond.classLink RX9 64 RX1 ∈ GW := gwp 280 (by decide +kernel) (by decide +kernel)
theorem k281 : Cond.instantiable RX1 8 ∈ GW := gwp 281 (by decide +kernel) (by decide +kernel)
theorem k283 : Cond.instanceMethod yX1_init ∈ GW := gwp 283 (by decide +kernel) (by decide +kernel)
theorem k284 : Cond.code yX1_init cX1_init 1 none ∈ GW := gwp 284 (by decide +kernel) (by decide +kernel)
theorem k317 : Cond.classLink RX9 75 RX2 ∈ GW := gwp 317 (by decide +kernel) (by decide +kernel)
theorem k318 : Cond.instantiable RX2 10 ∈ GW := gwp 318 (by decide +kernel) (by decide +kernel)
theorem k320 : Cond.instanceMethod yX2_init ∈ GW := gwp 320 (by decide +kernel) (by decide +kernel)
theorem k321 : Cond.code yX2_init cX2_init 1 none ∈ GW := gwp 321 (by decide +kernel) (by decide +kernel)
theorem k372 : Cond.fieldLink RX9 14 "RiverDays" "rows" "LRiverDays$Rows;" ∈ GW := gwp 372 (by decide +kernel) (by decide +kernel)
theorem k373 : Cond.fieldLink RX9 18 "RiverDays" "texts" "LRiverDays$Rows;" ∈ GW := gwp 373 (by decide +kernel) (by decide +kernel)
theorem k374 : Cond.fieldLink RX9 24 "RiverDays" "reader" "LRiverDays$Reader;" ∈ GW := gwp 374 (by decide +kernel) (by decide +kernel)
theorem k375 : Cond.fieldLink RX9 31 "RiverDays" "flow" "LRiverDays$Flow;" ∈ GW := gwp 375 (by decide +kernel) (by decide +kernel)
theorem k376 : Cond.fieldLink RX9 38 "RiverDays" "deeds" "LRiverDays$Deeds;" ∈ GW := gwp 376 (by decide +kernel) (by decide +kernel)
theorem k377 : Cond.fieldLink RX9 42 "RiverDays" "kept" "[LRiverDays$Deeds;" ∈ GW := gwp 377 (by decide +kernel) (by decide +kernel)
theorem k378 : Cond.fieldLink RX9 46 "RiverDays" "isKept" "[Z" ∈ GW := gwp 378 (by decide +kernel) (by decide +kernel)
theorem k379 : Cond.fieldLink RX9 53 "RiverDays" "aside" "LRiverDays$Aside;" ∈ GW := gwp 379 (by decide +kernel) (by decide +kernel)
theorem k380 : Cond.fieldLink RX9 60 "RiverDays" "hunt" "LRiverDays$Hunt;" ∈ GW := gwp 380 (by decide +kernel) (by decide +kernel)
theorem k381 : Cond.fieldLink RX9 67 "RiverDays" "breaking" "LRiverDays$Breaking;" ∈ GW := gwp 381 (by decide +kernel) (by decide +kernel)
theorem k382 : Cond.fieldLink RX9 71 "RiverDays" "answered" "[I" ∈ GW := gwp 382 (by decide +kernel) (by decide +kernel)
theorem k383 : Cond.fieldLink RX9 78 "RiverDays" "course" "LRiverDays$Course;" ∈ GW := gwp 383 (by decide +kernel) (by decide +kernel)
theorem k384 : Cond.fieldLink RX9 82 "RiverDays" "draft" "LRiverDays$Course;" ∈ GW := gwp 384 (by decide +kernel) (by decide +kernel)
theorem k385 : Cond.fieldLink RX9 85 "RiverDays" "latestFinding" "I" ∈ GW := gwp 385 (by decide +kernel) (by decide +kernel)
theorem k386 : Cond.fieldLink RX9 89 "RiverDays" "toldInt" "I" ∈ GW := gwp 386 (by decide +kernel) (by decide +kernel)
theorem k387 : Cond.fieldLink RX9 92 "RiverDays" "toldUpper" "J" ∈ GW := gwp 387 (by decide +kernel) (by decide +kernel)
theorem k388 : Cond.fieldLink RX9 96 "RiverDays" "toldLower" "J" ∈ GW := gwp 388 (by decide +kernel) (by decide +kernel)
def w9 (L : LAM) (r0 : Nat → Option Nat) (r1 : Nat → Option Nat) (r2 : Nat → Option Nat) (r3 : Nat → Option Nat) (r4 : Nat → Option Nat) (r5 : Nat → Option Nat) : va_W := ((L 0).1, .inr (9, [.ref (L 1).1, .ref (L 10).1, .ref (L 17).1, .ref (L 19).1, .ref (L 25).1, .ref (L 28).1, .ref (L 38).1, .ref (L 39).1, .ref (L 48).1, .ref (L 61).1, .ref (L 72).1, .ref (L 73).1, .ref (L 80).1, .int 0, .int 0, .long 0, .long 1])) :: (w8a (fun k => L (1 + k)) r0 ++ w8b (fun k => L (10 + k)) r1 ++ w7 (fun k => L (17 + k))  ++ w4 (fun k => L (19 + k))  ++ w3 (fun k => L (25 + k))  ++ [((L 28).1, .inl ((L 28).2, 3, .inr (.inr (.inr (.inr r2)))))] ++ w3 (fun k => L (29 + k))  ++ w3 (fun k => L (32 + k))  ++ w3 (fun k => L (35 + k))  ++ [((L 38).1, .inl ((L 38).2, 3, .inl (fun _ => 0)))] ++ w0 (fun k => L (39 + k)) r3 ++ w5 (fun k => L (48 + k)) r4 ++ w1 (fun k => L (61 + k)) r5 ++ [((L 72).1, .inl ((L 72).2, 6, .inl (fun _ => 0)))] ++ w2 (fun k => L (73 + k))  ++ w2 (fun k => L (80 + k)) )
def kC9 (L : LAM) : List (ClassId × FieldType) := [] ++ kC8a (fun k => L (1 + k)) ++ kC8b (fun k => L (10 + k)) ++ kC7 (fun k => L (17 + k)) ++ kC4 (fun k => L (19 + k)) ++ kC3 (fun k => L (25 + k)) ++ [((L 28).2, .object "RiverDays$Deeds")] ++ kC3 (fun k => L (29 + k)) ++ kC3 (fun k => L (32 + k)) ++ kC3 (fun k => L (35 + k)) ++ [((L 38).2, .boolean)] ++ kC0 (fun k => L (39 + k)) ++ kC5 (fun k => L (48 + k)) ++ kC1 (fun k => L (61 + k)) ++ [((L 72).2, .int)] ++ kC2 (fun k => L (73 + k)) ++ kC2 (fun k => L (80 + k))
set_option maxHeartbeats 4000000 in
set_option maxRecDepth 100000 in
theorem cn9 (l : Launch) (D : va_G) (h0 sz : Nat) : Met l yX9_init (.code yX9_init cX9_init 1 none :: GW) ({ frames := 4, cells := 86, slots := 1254, locals := 300 }) (va_Pc [.ref h0] (fun U => U.heap.size = sz ∧ va_P D CLS [(h0, .inr (9, [.null, .null, .null, .null, .null, .null, .null, .null, .null, .null, .null, .null, .null, .int 0, .int 0, .long 0, .long 0]))] U.heap ∧ va_K D CLS [] U ∧ va_D (fun _ => True) [(h0, .inr (9, [.null, .null, .null, .null, .null, .null, .null, .null, .null, .null, .null, .null, .null, .int 0, .int 0, .long 0, .long 0]))] ∧ XW U)) (va_Qv (fun L : LAM => (L 0).1 = h0) (fun L U => va_P D CLS (w9 L (lgt [(L 3).1, (L 4).1, (L 5).1, (L 6).1, (L 7).1, (L 8).1]) (lgt [(L 12).1, (L 13).1, (L 14).1, (L 15).1]) (lgt [(L 29).1, (L 32).1, (L 35).1]) (lgt [(L 42).1, (L 43).1, (L 44).1, (L 45).1, (L 46).1]) (lgt [(L 55).1, (L 56).1, (L 57).1, (L 58).1, (L 59).1]) (lgt [(L 66).1, (L 67).1, (L 68).1, (L 69).1, (L 70).1])) U.heap ∧ va_K D CLS (kC9 L) U ∧ va_D (va_A [(h0, .inr (9, [.null, .null, .null, .null, .null, .null, .null, .null, .null, .null, .null, .null, .null, .int 0, .int 0, .long 0, .long 0]))] sz) (w9 L (lgt [(L 3).1, (L 4).1, (L 5).1, (L 6).1, (L 7).1, (L 8).1]) (lgt [(L 12).1, (L 13).1, (L 14).1, (L 15).1]) (lgt [(L 29).1, (L 32).1, (L 35).1]) (lgt [(L 42).1, (L 43).1, (L 44).1, (L 45).1, (L 46).1]) (lgt [(L 55).1, (L 56).1, (L 57).1, (L 58).1, (L 59).1]) (lgt [(L 66).1, (L 67).1, (L 68).1, (L 69).1, (L 70).1]))) (va_A [(h0, .inr (9, [.null, .null, .null, .null, .null, .null, .null, .null, .null, .null, .null, .null, .null, .int 0, .int 0, .long 0, .long 0]))] sz)) 86 1254 (va_A [(h0, .inr (9, [.null, .null, .null, .null, .null, .null, .null, .null, .null, .null, .null, .null, .null, .int 0, .int 0, .long 0, .long 0]))] sz) := by
  refine Met.ofW (cc := cX9_init) (maxL := 1) (ret := none) (by decide) rfl ?_
  intro p e s m args below meth c s₁ B hml hv
  obtain ⟨rfl, hsz, hP, hK, hD0, hXW⟩ := hv
  have hx := B.exec
  have hb := B.bytes
  have hr := B.returns
  have hts := atoms_spec (ws := .code yX9_init cX9_init 1 none :: GW) B.pre
  have hts := fun w hw => hts w (List.mem_cons_of_mem _ hw)
  have hown : s.vm.findClass RX9 = some m.cls := findClass_of_methodNamed B.named
  have hlocks := B.notSynchronized
  have hin : meth.name = "<init>" := (name_of_methodNamed B.named B.method).1
  subst hsz
  have hD := hD0.self (sz := s.heap.size)
  generalize hAe : va_A [(h0, .inr (9, [.null, .null, .null, .null, .null, .null, .null, .null, .null, .null, .null, .null, .null, .int 0, .int 0, .long 0, .long 0]))] s.heap.size = A at hD ⊢
  have hA : ∀ q : Nat, s.heap.size ≤ q → A q := fun q h => by rw [← hAe]; exact Or.inr h
  have hS : va_S A s.heap s.heap [] := va_S.rf
  have hl := lv_entry ([.ref h0]) (n := 1) (Nat.le_of_ble_eq_true rfl)
  rw [lg_entry_eq]
  generalize (lg_sl ([.ref h0]) ++ List.replicate (1 - (lg_sl ([.ref h0])).length) Slot.unset).toArray = ls at hl ⊢
  have hl : lv_has ls 1 [(0, .ref h0)] := hl
  skip
  refine lv_aload_n hx hb (show decode cX9_init 0 = .ok (.aload_n 0, 1) by decide +kernel) rfl (lv_at hl 0 rfl) ?_
  refine W.objInit hx hb hown (hts _ k100) (hts _ k101) (hts _ k102) rfl (by rw [hml]; exact hl.1) rfl (show decode cX9_init 1 = .ok (.invokespecial 1, 3) by decide +kernel) (Nat.le_of_ble_eq_true rfl) (Nat.le_of_ble_eq_true rfl) ?_
  refine W.eq (g2 := F0 m 4 ls []) rfl ?_
  refine lv_aload_n hx hb (show decode cX9_init 4 = .ok (.aload_n 0, 1) by decide +kernel) rfl (lv_at hl 0 rfl) ?_
  refine va_new (D := D) (ci := 8) (fs := [.int 0, .null, .null]) (C := RX8) (T := TX8) (N := 3) hx hb hts uX8 tyX8 tyX8_ok hown (hts _ k103) (hts _ k104) (hts _ g82) hK hP hD hS hA rfl dfX8 (Nat.le_of_ble_eq_true rfl) (Nat.le_of_ble_eq_true rfl) (show decode cX9_init 5 = .ok (.new 7, 3) by decide +kernel) (fun q1 H hP hD hS => ?_)
  rename_i z0 z1 z2
  clear z0 z1 z2
  refine W.widen (k := 1) (n := 3) (Nat.le_of_ble_eq_true rfl) (Nat.le_of_ble_eq_true rfl) ?_
  refine lv_dup hx hb (show decode cX9_init 8 = .ok (.dup, 1) by decide +kernel) rfl ?_
  refine lv_bipush (v := 6) hx hb (show decode cX9_init 9 = .ok (.bipush 6, 2) by decide +kernel) (by decide) ?_
  refine lv_bipush (v := 40) hx hb (show decode cX9_init 11 = .ok (.bipush 40, 2) by decide +kernel) (by decide) ?_
  have hFc := vfree hD hS hA
  refine va_callv (va_runI (As := [.int 6, .int 40]) (rest := [.ref q1, .ref h0]) ⟨hx, hb, hml, hown, hts⟩ (cn8a l D q1 H.size) ⟨callB_of 2 hts (gw_in k107) rfl rfl rfl (hts _ g82) (hts _ k105) (by decide +kernel) ⟨(Nat.le_of_ble_eq_true rfl), (Nat.le_of_ble_eq_true rfl)⟩, rfl, hts _ k106⟩ ⟨fun a U g mk q => by obtain ⟨q0, q1, qP, qK, qD, qX⟩ := q; exact ⟨q0, q1, qP, va_K.moved (u := U) (U := U.calling g mk a) (Vm.Alike.refl U.vm) qK, qD, qX.call⟩, fun U hU hW => ⟨rfl, by rw [hU], by rw [hU]; exact vP_r hP, va_K.moved hW.alike (hK.sub (tys' := []) [] rfl), (vD_r hD).weaken (fun _ _ _ _ => trivial), hXW.warm hW⟩⟩ rfl rfl hl.1 rfl (lv_room (Nat.le_of_ble_eq_true rfl)) (show decode cX9_init 13 = .ok (.invokespecial 11, 3) by decide +kernel) ⟨(Nat.le_of_ble_eq_true rfl), (Nat.le_of_ble_eq_true rfl)⟩) hS (fun q _ h => hFc q h) hFc (fun L1 t H1 locs ht hvm hw hB hz1 hk1 hS => ?_)
  obtain ⟨hP1, hK1, hD1⟩ := hB
  rw [ht] at hP1
  replace hK1 := va_K.moved hvm.symm hK1
  replace hP := vjoin hP hD hk1 hFc hP1 hD1
  clear hD
  obtain ⟨hP, hD⟩ := hP
  replace hK := hK.app hK1
  clear hP1 hK1 hD1 hk1 hz1 hFc ht hvm
  rename_i z0
  clear z0
  clear H
  clear t
  generalize H1 = H at hP hS ⊢
  refine W.widen (k := 9) (n := 255) (Nat.le_of_ble_eq_true rfl) (Nat.le_of_ble_eq_true rfl) ?_
  rw [← hw]
  clear hw
  replace hP : va_P D CLS ((h0, .inr (9, [.null, .null, .null, .null, .null, .null, .null, .null, .null, .null, .null, .null, .null, .int 0, .int 0, .long 0, .long 0])) :: (w8a L1 (lgt [(L1 2).1, (L1 3).1, (L1 4).1, (L1 5).1, (L1 6).1, (L1 7).1])) : va_W) H := hP
  replace hD : va_D A ((h0, .inr (9, [.null, .null, .null, .null, .null, .null, .null, .null, .null, .null, .null, .null, .null, .int 0, .int 0, .long 0, .long 0])) :: (w8a L1 (lgt [(L1 2).1, (L1 3).1, (L1 4).1, (L1 5).1, (L1 6).1, (L1 7).1])) : va_W) := hD
  replace hK : va_K D CLS ([] ++ kC8a L1) s := hK
  refine va_putF (D := D) (ci := 9) (v := .ref (L1 0).1) (ty := .object "RiverDays$Rows") (C := RX9) (T := TX9) (N := 17) hx hb hts uX9 tyX9 tyX9_ok nmX9 hown hK hP hD hS 0 rfl rfl 0 (by decide) (hts _ k372) (fun _ h9 => h9) rfl hin rfl (by decide +kernel) rfl rfl (Nat.le_of_ble_eq_true rfl) (show decode cX9_init 16 = .ok (.putfield 14, 3) by decide +kernel) (fun H locs hP hD hS => ?_)
  rename_i z0 z1 z2 z3 z4
  clear z0 z1 z2 z3 z4
  replace hP : va_P D CLS ((h0, .inr (9, [.ref (L1 0).1, .null, .null, .null, .null, .null, .null, .null, .null, .null, .null, .null, .null, .int 0, .int 0, .long 0, .long 0])) :: (w8a L1 (lgt [(L1 2).1, (L1 3).1, (L1 4).1, (L1 5).1, (L1 6).1, (L1 7).1])) : va_W) H := hP
  replace hD : va_D A ((h0, .inr (9, [.ref (L1 0).1, .null, .null, .null, .null, .null, .null, .null, .null, .null, .null, .null, .null, .int 0, .int 0, .long 0, .long 0])) :: (w8a L1 (lgt [(L1 2).1, (L1 3).1, (L1 4).1, (L1 5).1, (L1 6).1, (L1 7).1])) : va_W) := hD
  refine W.eq (g2 := F0 m 19 ls []) rfl ?_
  refine lv_aload_n hx hb (show decode cX9_init 19 = .ok (.aload_n 0, 1) by decide +kernel) rfl (lv_at hl 0 rfl) ?_
  refine va_new (D := D) (ci := 8) (fs := [.int 0, .null, .null]) (C := RX8) (T := TX8) (N := 3) hx hb hts uX8 tyX8 tyX8_ok hown (hts _ k103) (hts _ k104) (hts _ g82) hK hP hD hS hA rfl dfX8 (Nat.le_of_ble_eq_true rfl) (Nat.le_of_ble_eq_true rfl) (show decode cX9_init 20 = .ok (.new 7, 3) by decide +kernel) (fun q2 H hP hD hS => ?_)
  rename_i z0 z1 z2 z3
  clear z0 z1 z2 z3
  refine W.widen (k := 10) (n := 258) (Nat.le_of_ble_eq_true rfl) (Nat.le_of_ble_eq_true rfl) ?_
  refine lv_dup hx hb (show decode cX9_init 23 = .ok (.dup, 1) by decide +kernel) rfl ?_
  refine lv_iconst (v := 4) hx hb (show decode cX9_init 24 = .ok (.iconst 4, 1) by decide +kernel) (by decide) ?_
  refine lv_bipush (v := 60) hx hb (show decode cX9_init 25 = .ok (.bipush 60, 2) by decide +kernel) (by decide) ?_
  have hFc := vfree hD hS hA
  refine va_callv (va_runI (As := [.int 4, .int 60]) (rest := [.ref q2, .ref h0]) ⟨hx, hb, hml, hown, hts⟩ (cn8b l D q2 H.size) ⟨callB_of 2 hts (gw_in k107) rfl rfl rfl (hts _ g82) (hts _ k105) (by decide +kernel) ⟨(Nat.le_of_ble_eq_true rfl), (Nat.le_of_ble_eq_true rfl)⟩, rfl, hts _ k106⟩ ⟨fun a U g mk q => by obtain ⟨q0, q1, qP, qK, qD, qX⟩ := q; exact ⟨q0, q1, qP, va_K.moved (u := U) (U := U.calling g mk a) (Vm.Alike.refl U.vm) qK, qD, qX.call⟩, fun U hU hW => ⟨rfl, by rw [hU], by rw [hU]; exact vP_r hP, va_K.moved hW.alike (hK.sub (tys' := []) [] rfl), (vD_r hD).weaken (fun _ _ _ _ => trivial), hXW.warm hW⟩⟩ rfl rfl hl.1 rfl (lv_room (Nat.le_of_ble_eq_true rfl)) (show decode cX9_init 27 = .ok (.invokespecial 11, 3) by decide +kernel) ⟨(Nat.le_of_ble_eq_true rfl), (Nat.le_of_ble_eq_true rfl)⟩) hS (fun q _ h => hFc q h) hFc (fun L2 t H1 locs ht hvm hw hB hz1 hk1 hS => ?_)
  obtain ⟨hP1, hK1, hD1⟩ := hB
  rw [ht] at hP1
  replace hK1 := va_K.moved hvm.symm hK1
  replace hP := vjoin hP hD hk1 hFc hP1 hD1
  clear hD
  obtain ⟨hP, hD⟩ := hP
  replace hK := hK.app hK1
  clear hP1 hK1 hD1 hk1 hz1 hFc ht hvm
  rename_i z0 z1
  clear z0 z1
  clear H
  clear t
  generalize H1 = H at hP hS ⊢
  refine W.widen (k := 16) (n := 506) (Nat.le_of_ble_eq_true rfl) (Nat.le_of_ble_eq_true rfl) ?_
  rw [← hw]
  clear hw
  replace hP : va_P D CLS ((h0, .inr (9, [.ref (L1 0).1, .null, .null, .null, .null, .null, .null, .null, .null, .null, .null, .null, .null, .int 0, .int 0, .long 0, .long 0])) :: (w8a L1 (lgt [(L1 2).1, (L1 3).1, (L1 4).1, (L1 5).1, (L1 6).1, (L1 7).1]) ++ w8b L2 (lgt [(L2 2).1, (L2 3).1, (L2 4).1, (L2 5).1])) : va_W) H := hP
  replace hD : va_D A ((h0, .inr (9, [.ref (L1 0).1, .null, .null, .null, .null, .null, .null, .null, .null, .null, .null, .null, .null, .int 0, .int 0, .long 0, .long 0])) :: (w8a L1 (lgt [(L1 2).1, (L1 3).1, (L1 4).1, (L1 5).1, (L1 6).1, (L1 7).1]) ++ w8b L2 (lgt [(L2 2).1, (L2 3).1, (L2 4).1, (L2 5).1])) : va_W) := hD
  replace hK : va_K D CLS ([] ++ kC8a L1 ++ kC8b L2) s := hK
  refine va_putF (D := D) (ci := 9) (v := .ref (L2 0).1) (ty := .object "RiverDays$Rows") (C := RX9) (T := TX9) (N := 17) hx hb hts uX9 tyX9 tyX9_ok nmX9 hown hK hP hD hS 0 rfl rfl 1 (by decide) (hts _ k373) (fun _ h9 => h9) rfl hin rfl (by decide +kernel) rfl rfl (Nat.le_of_ble_eq_true rfl) (show decode cX9_init 30 = .ok (.putfield 18, 3) by decide +kernel) (fun H locs hP hD hS => ?_)
  rename_i z0 z1 z2 z3 z4
  clear z0 z1 z2 z3 z4
  replace hP : va_P D CLS ((h0, .inr (9, [.ref (L1 0).1, .ref (L2 0).1, .null, .null, .null, .null, .null, .null, .null, .null, .null, .null, .null, .int 0, .int 0, .long 0, .long 0])) :: (w8a L1 (lgt [(L1 2).1, (L1 3).1, (L1 4).1, (L1 5).1, (L1 6).1, (L1 7).1]) ++ w8b L2 (lgt [(L2 2).1, (L2 3).1, (L2 4).1, (L2 5).1])) : va_W) H := hP
  replace hD : va_D A ((h0, .inr (9, [.ref (L1 0).1, .ref (L2 0).1, .null, .null, .null, .null, .null, .null, .null, .null, .null, .null, .null, .int 0, .int 0, .long 0, .long 0])) :: (w8a L1 (lgt [(L1 2).1, (L1 3).1, (L1 4).1, (L1 5).1, (L1 6).1, (L1 7).1]) ++ w8b L2 (lgt [(L2 2).1, (L2 3).1, (L2 4).1, (L2 5).1])) : va_W) := hD
  refine W.eq (g2 := F0 m 33 ls []) rfl ?_
  refine lv_aload_n hx hb (show decode cX9_init 33 = .ok (.aload_n 0, 1) by decide +kernel) rfl (lv_at hl 0 rfl) ?_
  refine va_new (D := D) (ci := 7) (fs := [.null, .int 0, .int 0]) (C := RX7) (T := TX7) (N := 3) hx hb hts uX7 tyX7 tyX7_ok hown (hts _ k126) (hts _ k127) (hts _ g84) hK hP hD hS hA rfl dfX7 (Nat.le_of_ble_eq_true rfl) (Nat.le_of_ble_eq_true rfl) (show decode cX9_init 34 = .ok (.new 21, 3) by decide +kernel) (fun q3 H hP hD hS => ?_)
  rename_i z0 z1 z2 z3
  clear z0 z1 z2 z3
  refine W.widen (k := 17) (n := 509) (Nat.le_of_ble_eq_true rfl) (Nat.le_of_ble_eq_true rfl) ?_
  refine lv_dup hx hb (show decode cX9_init 37 = .ok (.dup, 1) by decide +kernel) rfl ?_
  have hFc := vfree hD hS hA
  refine va_callv (va_runIN (As := []) (rest := [.ref q3, .ref h0]) ⟨hx, hb, hml, hown, hts⟩ (cn7 l D q3 H.size) ⟨va_cnB 0 hts (gw_in k130) rfl rfl rfl (hXW.2.2.1) (hts _ g84) (by decide +kernel) ⟨(Nat.le_of_ble_eq_true rfl), (Nat.le_of_ble_eq_true rfl)⟩, rfl, hts _ k129⟩ ⟨fun a U g mk q => by obtain ⟨q0, q1, qP, qK, qD, qX⟩ := q; exact ⟨q0, q1, qP, va_K.moved (u := U) (U := U.calling g mk a) (Vm.Alike.refl U.vm) qK, qD, qX.call⟩, fun U hU hW => ⟨rfl, by rw [hU], by rw [hU]; exact vP_r hP, va_K.moved hW.alike (hK.sub (tys' := []) [] rfl), (vD_r hD).weaken (fun _ _ _ _ => trivial), hXW.warm hW⟩⟩ rfl rfl hl.1 rfl (lv_room (Nat.le_of_ble_eq_true rfl)) (show decode cX9_init 38 = .ok (.invokespecial 23, 3) by decide +kernel) ⟨(Nat.le_of_ble_eq_true rfl), (Nat.le_of_ble_eq_true rfl)⟩) hS (fun q _ h => hFc q h) hFc (fun L3 t H1 locs ht hvm hw hB hz1 hk1 hS => ?_)
  obtain ⟨hP1, hK1, hD1⟩ := hB
  rw [ht] at hP1
  replace hK1 := va_K.moved hvm.symm hK1
  replace hP := vjoin hP hD hk1 hFc hP1 hD1
  clear hD
  obtain ⟨hP, hD⟩ := hP
  replace hK := hK.app hK1
  clear hP1 hK1 hD1 hk1 hz1 hFc ht hvm
  rename_i z0 z1
  clear z0 z1
  clear H
  clear t
  generalize H1 = H at hP hS ⊢
  refine W.widen (k := 18) (n := 569) (Nat.le_of_ble_eq_true rfl) (Nat.le_of_ble_eq_true rfl) ?_
  rw [← hw]
  clear hw
  replace hP : va_P D CLS ((h0, .inr (9, [.ref (L1 0).1, .ref (L2 0).1, .null, .null, .null, .null, .null, .null, .null, .null, .null, .null, .null, .int 0, .int 0, .long 0, .long 0])) :: (w8a L1 (lgt [(L1 2).1, (L1 3).1, (L1 4).1, (L1 5).1, (L1 6).1, (L1 7).1]) ++ w8b L2 (lgt [(L2 2).1, (L2 3).1, (L2 4).1, (L2 5).1]) ++ w7 L3) : va_W) H := hP
  replace hD : va_D A ((h0, .inr (9, [.ref (L1 0).1, .ref (L2 0).1, .null, .null, .null, .null, .null, .null, .null, .null, .null, .null, .null, .int 0, .int 0, .long 0, .long 0])) :: (w8a L1 (lgt [(L1 2).1, (L1 3).1, (L1 4).1, (L1 5).1, (L1 6).1, (L1 7).1]) ++ w8b L2 (lgt [(L2 2).1, (L2 3).1, (L2 4).1, (L2 5).1]) ++ w7 L3) : va_W) := hD
  replace hK : va_K D CLS ([] ++ kC8a L1 ++ kC8b L2 ++ kC7 L3) s := hK
  refine va_putF (D := D) (ci := 9) (v := .ref (L3 0).1) (ty := .object "RiverDays$Reader") (C := RX9) (T := TX9) (N := 17) hx hb hts uX9 tyX9 tyX9_ok nmX9 hown hK hP hD hS 0 rfl rfl 2 (by decide) (hts _ k374) (fun _ h9 => h9) rfl hin rfl (by decide +kernel) rfl rfl (Nat.le_of_ble_eq_true rfl) (show decode cX9_init 41 = .ok (.putfield 24, 3) by decide +kernel) (fun H locs hP hD hS => ?_)
  rename_i z0 z1 z2 z3 z4
  clear z0 z1 z2 z3 z4
  replace hP : va_P D CLS ((h0, .inr (9, [.ref (L1 0).1, .ref (L2 0).1, .ref (L3 0).1, .null, .null, .null, .null, .null, .null, .null, .null, .null, .null, .int 0, .int 0, .long 0, .long 0])) :: (w8a L1 (lgt [(L1 2).1, (L1 3).1, (L1 4).1, (L1 5).1, (L1 6).1, (L1 7).1]) ++ w8b L2 (lgt [(L2 2).1, (L2 3).1, (L2 4).1, (L2 5).1]) ++ w7 L3) : va_W) H := hP
  replace hD : va_D A ((h0, .inr (9, [.ref (L1 0).1, .ref (L2 0).1, .ref (L3 0).1, .null, .null, .null, .null, .null, .null, .null, .null, .null, .null, .int 0, .int 0, .long 0, .long 0])) :: (w8a L1 (lgt [(L1 2).1, (L1 3).1, (L1 4).1, (L1 5).1, (L1 6).1, (L1 7).1]) ++ w8b L2 (lgt [(L2 2).1, (L2 3).1, (L2 4).1, (L2 5).1]) ++ w7 L3) : va_W) := hD
  refine W.eq (g2 := F0 m 44 ls []) rfl ?_
  refine lv_aload_n hx hb (show decode cX9_init 44 = .ok (.aload_n 0, 1) by decide +kernel) rfl (lv_at hl 0 rfl) ?_
  refine va_new (D := D) (ci := 4) (fs := [.null, .null, .null, .null, .null]) (C := RX4) (T := TX4) (N := 5) hx hb hts uX4 tyX4 tyX4_ok hown (hts _ k142) (hts _ k143) (hts _ g85) hK hP hD hS hA rfl dfX4 (Nat.le_of_ble_eq_true rfl) (Nat.le_of_ble_eq_true rfl) (show decode cX9_init 45 = .ok (.new 28, 3) by decide +kernel) (fun q4 H hP hD hS => ?_)
  rename_i z0 z1 z2 z3
  clear z0 z1 z2 z3
  refine W.widen (k := 19) (n := 574) (Nat.le_of_ble_eq_true rfl) (Nat.le_of_ble_eq_true rfl) ?_
  refine lv_dup hx hb (show decode cX9_init 48 = .ok (.dup, 1) by decide +kernel) rfl ?_
  have hFc := vfree hD hS hA
  refine va_callv (va_runIN (As := []) (rest := [.ref q4, .ref h0]) ⟨hx, hb, hml, hown, hts⟩ (cn4 l D q4 H.size) ⟨va_cnB 0 hts (gw_in k146) rfl rfl rfl (hXW.2.2.2.1) (hts _ g85) (by decide +kernel) ⟨(Nat.le_of_ble_eq_true rfl), (Nat.le_of_ble_eq_true rfl)⟩, rfl, hts _ k145⟩ ⟨fun a U g mk q => by obtain ⟨q0, q1, qP, qK, qD, qX⟩ := q; exact ⟨q0, q1, qP, va_K.moved (u := U) (U := U.calling g mk a) (Vm.Alike.refl U.vm) qK, qD, qX.call⟩, fun U hU hW => ⟨rfl, by rw [hU], by rw [hU]; exact vP_r hP, va_K.moved hW.alike (hK.sub (tys' := []) [] rfl), (vD_r hD).weaken (fun _ _ _ _ => trivial), hXW.warm hW⟩⟩ rfl rfl hl.1 rfl (lv_room (Nat.le_of_ble_eq_true rfl)) (show decode cX9_init 49 = .ok (.invokespecial 30, 3) by decide +kernel) ⟨(Nat.le_of_ble_eq_true rfl), (Nat.le_of_ble_eq_true rfl)⟩) hS (fun q _ h => hFc q h) hFc (fun L4 t H1 locs ht hvm hw hB hz1 hk1 hS => ?_)
  obtain ⟨hP1, hK1, hD1⟩ := hB
  rw [ht] at hP1
  replace hK1 := va_K.moved hvm.symm hK1
  replace hP := vjoin hP hD hk1 hFc hP1 hD1
  clear hD
  obtain ⟨hP, hD⟩ := hP
  replace hK := hK.app hK1
  clear hP1 hK1 hD1 hk1 hz1 hFc ht hvm
  rename_i z0 z1
  clear z0 z1
  clear H
  clear t
  generalize H1 = H at hP hS ⊢
  refine W.widen (k := 24) (n := 605) (Nat.le_of_ble_eq_true rfl) (Nat.le_of_ble_eq_true rfl) ?_
  rw [← hw]
  clear hw
  replace hP : va_P D CLS ((h0, .inr (9, [.ref (L1 0).1, .ref (L2 0).1, .ref (L3 0).1, .null, .null, .null, .null, .null, .null, .null, .null, .null, .null, .int 0, .int 0, .long 0, .long 0])) :: (w8a L1 (lgt [(L1 2).1, (L1 3).1, (L1 4).1, (L1 5).1, (L1 6).1, (L1 7).1]) ++ w8b L2 (lgt [(L2 2).1, (L2 3).1, (L2 4).1, (L2 5).1]) ++ w7 L3 ++ w4 L4) : va_W) H := hP
  replace hD : va_D A ((h0, .inr (9, [.ref (L1 0).1, .ref (L2 0).1, .ref (L3 0).1, .null, .null, .null, .null, .null, .null, .null, .null, .null, .null, .int 0, .int 0, .long 0, .long 0])) :: (w8a L1 (lgt [(L1 2).1, (L1 3).1, (L1 4).1, (L1 5).1, (L1 6).1, (L1 7).1]) ++ w8b L2 (lgt [(L2 2).1, (L2 3).1, (L2 4).1, (L2 5).1]) ++ w7 L3 ++ w4 L4) : va_W) := hD
  replace hK : va_K D CLS ([] ++ kC8a L1 ++ kC8b L2 ++ kC7 L3 ++ kC4 L4) s := hK
  refine va_putF (D := D) (ci := 9) (v := .ref (L4 0).1) (ty := .object "RiverDays$Flow") (C := RX9) (T := TX9) (N := 17) hx hb hts uX9 tyX9 tyX9_ok nmX9 hown hK hP hD hS 0 rfl rfl 3 (by decide) (hts _ k375) (fun _ h9 => h9) rfl hin rfl (by decide +kernel) rfl rfl (Nat.le_of_ble_eq_true rfl) (show decode cX9_init 52 = .ok (.putfield 31, 3) by decide +kernel) (fun H locs hP hD hS => ?_)
  rename_i z0 z1 z2 z3 z4
  clear z0 z1 z2 z3 z4
  replace hP : va_P D CLS ((h0, .inr (9, [.ref (L1 0).1, .ref (L2 0).1, .ref (L3 0).1, .ref (L4 0).1, .null, .null, .null, .null, .null, .null, .null, .null, .null, .int 0, .int 0, .long 0, .long 0])) :: (w8a L1 (lgt [(L1 2).1, (L1 3).1, (L1 4).1, (L1 5).1, (L1 6).1, (L1 7).1]) ++ w8b L2 (lgt [(L2 2).1, (L2 3).1, (L2 4).1, (L2 5).1]) ++ w7 L3 ++ w4 L4) : va_W) H := hP
  replace hD : va_D A ((h0, .inr (9, [.ref (L1 0).1, .ref (L2 0).1, .ref (L3 0).1, .ref (L4 0).1, .null, .null, .null, .null, .null, .null, .null, .null, .null, .int 0, .int 0, .long 0, .long 0])) :: (w8a L1 (lgt [(L1 2).1, (L1 3).1, (L1 4).1, (L1 5).1, (L1 6).1, (L1 7).1]) ++ w8b L2 (lgt [(L2 2).1, (L2 3).1, (L2 4).1, (L2 5).1]) ++ w7 L3 ++ w4 L4) : va_W) := hD
  refine W.eq (g2 := F0 m 55 ls []) rfl ?_
  refine lv_aload_n hx hb (show decode cX9_init 55 = .ok (.aload_n 0, 1) by decide +kernel) rfl (lv_at hl 0 rfl) ?_
  refine va_new (D := D) (ci := 3) (fs := [.int 0, .null, .null]) (C := RX3) (T := TX3) (N := 3) hx hb hts uX3 tyX3 tyX3_ok hown (hts _ k168) (hts _ k169) (hts _ g86) hK hP hD hS hA rfl dfX3 (Nat.le_of_ble_eq_true rfl) (Nat.le_of_ble_eq_true rfl) (show decode cX9_init 56 = .ok (.new 35, 3) by decide +kernel) (fun q5 H hP hD hS => ?_)
  rename_i z0 z1 z2 z3
  clear z0 z1 z2 z3
  refine W.widen (k := 25) (n := 608) (Nat.le_of_ble_eq_true rfl) (Nat.le_of_ble_eq_true rfl) ?_
  refine lv_dup hx hb (show decode cX9_init 59 = .ok (.dup, 1) by decide +kernel) rfl ?_
  have hFc := vfree hD hS hA
  refine va_callv (va_runIN (As := []) (rest := [.ref q5, .ref h0]) ⟨hx, hb, hml, hown, hts⟩ (cn3 l D q5 H.size) ⟨va_cnB 0 hts (gw_in k172) rfl rfl rfl (hXW.2.2.2.2.1) (hts _ g86) (by decide +kernel) ⟨(Nat.le_of_ble_eq_true rfl), (Nat.le_of_ble_eq_true rfl)⟩, rfl, hts _ k171⟩ ⟨fun a U g mk q => by obtain ⟨q0, q1, qP, qK, qD, qX⟩ := q; exact ⟨q0, q1, qP, va_K.moved (u := U) (U := U.calling g mk a) (Vm.Alike.refl U.vm) qK, qD, qX.call⟩, fun U hU hW => ⟨rfl, by rw [hU], by rw [hU]; exact vP_r hP, va_K.moved hW.alike (hK.sub (tys' := []) [] rfl), (vD_r hD).weaken (fun _ _ _ _ => trivial), hXW.warm hW⟩⟩ rfl rfl hl.1 rfl (lv_room (Nat.le_of_ble_eq_true rfl)) (show decode cX9_init 60 = .ok (.invokespecial 37, 3) by decide +kernel) ⟨(Nat.le_of_ble_eq_true rfl), (Nat.le_of_ble_eq_true rfl)⟩) hS (fun q _ h => hFc q h) hFc (fun L5 t H1 locs ht hvm hw hB hz1 hk1 hS => ?_)
  obtain ⟨hP1, hK1, hD1⟩ := hB
  rw [ht] at hP1
  replace hK1 := va_K.moved hvm.symm hK1
  replace hP := vjoin hP hD hk1 hFc hP1 hD1
  clear hD
  obtain ⟨hP, hD⟩ := hP
  replace hK := hK.app hK1
  clear hP1 hK1 hD1 hk1 hz1 hFc ht hvm
  rename_i z0 z1
  clear z0 z1
  clear H
  clear t
  generalize H1 = H at hP hS ⊢
  refine W.widen (k := 27) (n := 688) (Nat.le_of_ble_eq_true rfl) (Nat.le_of_ble_eq_true rfl) ?_
  rw [← hw]
  clear hw
  replace hP : va_P D CLS ((h0, .inr (9, [.ref (L1 0).1, .ref (L2 0).1, .ref (L3 0).1, .ref (L4 0).1, .null, .null, .null, .null, .null, .null, .null, .null, .null, .int 0, .int 0, .long 0, .long 0])) :: (w8a L1 (lgt [(L1 2).1, (L1 3).1, (L1 4).1, (L1 5).1, (L1 6).1, (L1 7).1]) ++ w8b L2 (lgt [(L2 2).1, (L2 3).1, (L2 4).1, (L2 5).1]) ++ w7 L3 ++ w4 L4 ++ w3 L5) : va_W) H := hP
  replace hD : va_D A ((h0, .inr (9, [.ref (L1 0).1, .ref (L2 0).1, .ref (L3 0).1, .ref (L4 0).1, .null, .null, .null, .null, .null, .null, .null, .null, .null, .int 0, .int 0, .long 0, .long 0])) :: (w8a L1 (lgt [(L1 2).1, (L1 3).1, (L1 4).1, (L1 5).1, (L1 6).1, (L1 7).1]) ++ w8b L2 (lgt [(L2 2).1, (L2 3).1, (L2 4).1, (L2 5).1]) ++ w7 L3 ++ w4 L4 ++ w3 L5) : va_W) := hD
  replace hK : va_K D CLS ([] ++ kC8a L1 ++ kC8b L2 ++ kC7 L3 ++ kC4 L4 ++ kC3 L5) s := hK
  refine va_putF (D := D) (ci := 9) (v := .ref (L5 0).1) (ty := .object "RiverDays$Deeds") (C := RX9) (T := TX9) (N := 17) hx hb hts uX9 tyX9 tyX9_ok nmX9 hown hK hP hD hS 0 rfl rfl 4 (by decide) (hts _ k376) (fun _ h9 => h9) rfl hin rfl (by decide +kernel) rfl rfl (Nat.le_of_ble_eq_true rfl) (show decode cX9_init 63 = .ok (.putfield 38, 3) by decide +kernel) (fun H locs hP hD hS => ?_)
  rename_i z0 z1 z2 z3 z4
  clear z0 z1 z2 z3 z4
  replace hP : va_P D CLS ((h0, .inr (9, [.ref (L1 0).1, .ref (L2 0).1, .ref (L3 0).1, .ref (L4 0).1, .ref (L5 0).1, .null, .null, .null, .null, .null, .null, .null, .null, .int 0, .int 0, .long 0, .long 0])) :: (w8a L1 (lgt [(L1 2).1, (L1 3).1, (L1 4).1, (L1 5).1, (L1 6).1, (L1 7).1]) ++ w8b L2 (lgt [(L2 2).1, (L2 3).1, (L2 4).1, (L2 5).1]) ++ w7 L3 ++ w4 L4 ++ w3 L5) : va_W) H := hP
  replace hD : va_D A ((h0, .inr (9, [.ref (L1 0).1, .ref (L2 0).1, .ref (L3 0).1, .ref (L4 0).1, .ref (L5 0).1, .null, .null, .null, .null, .null, .null, .null, .null, .int 0, .int 0, .long 0, .long 0])) :: (w8a L1 (lgt [(L1 2).1, (L1 3).1, (L1 4).1, (L1 5).1, (L1 6).1, (L1 7).1]) ++ w8b L2 (lgt [(L2 2).1, (L2 3).1, (L2 4).1, (L2 5).1]) ++ w7 L3 ++ w4 L4 ++ w3 L5) : va_W) := hD
  refine W.eq (g2 := F0 m 66 ls []) rfl ?_
  refine lv_aload_n hx hb (show decode cX9_init 66 = .ok (.aload_n 0, 1) by decide +kernel) rfl (lv_at hl 0 rfl) ?_
  refine lv_iconst (v := 3) hx hb (show decode cX9_init 67 = .ok (.iconst 3, 1) by decide +kernel) (by decide) ?_
  refine va_newq (D := D) (C := "RiverDays$Deeds") hx hb hown (hts _ k168) hXW.2.1 hK hP hD hS hA (N' := 3) (by decide) (by decide) (by decide) (Nat.le_of_ble_eq_true rfl) (Nat.le_of_ble_eq_true rfl) (show decode cX9_init 68 = .ok (.anewarray 35, 3) by decide +kernel) (fun q6 c6 H hK hP hD hS => ?_)
  rename_i z0 z1 z2 z3 z4
  clear z0 z1 z2 z3 z4
  refine W.widen (k := 28) (n := 691) (Nat.le_of_ble_eq_true rfl) (Nat.le_of_ble_eq_true rfl) ?_
  replace hP : va_P D CLS ((h0, .inr (9, [.ref (L1 0).1, .ref (L2 0).1, .ref (L3 0).1, .ref (L4 0).1, .ref (L5 0).1, .null, .null, .null, .null, .null, .null, .null, .null, .int 0, .int 0, .long 0, .long 0])) :: (w8a L1 (lgt [(L1 2).1, (L1 3).1, (L1 4).1, (L1 5).1, (L1 6).1, (L1 7).1]) ++ w8b L2 (lgt [(L2 2).1, (L2 3).1, (L2 4).1, (L2 5).1]) ++ w7 L3 ++ w4 L4 ++ w3 L5 ++ [(q6, .inl (c6, 3, .inr (.inr (.inr (.inr (fun _ => none))))))]) : va_W) H := hP
  replace hD : va_D A ((h0, .inr (9, [.ref (L1 0).1, .ref (L2 0).1, .ref (L3 0).1, .ref (L4 0).1, .ref (L5 0).1, .null, .null, .null, .null, .null, .null, .null, .null, .int 0, .int 0, .long 0, .long 0])) :: (w8a L1 (lgt [(L1 2).1, (L1 3).1, (L1 4).1, (L1 5).1, (L1 6).1, (L1 7).1]) ++ w8b L2 (lgt [(L2 2).1, (L2 3).1, (L2 4).1, (L2 5).1]) ++ w7 L3 ++ w4 L4 ++ w3 L5 ++ [(q6, .inl (c6, 3, .inr (.inr (.inr (.inr (fun _ => none))))))]) : va_W) := hD
  replace hK : va_K D CLS ([] ++ kC8a L1 ++ kC8b L2 ++ kC7 L3 ++ kC4 L4 ++ kC3 L5 ++ [(c6, .object "RiverDays$Deeds")]) s := hK
  refine lv_dup hx hb (show decode cX9_init 71 = .ok (.dup, 1) by decide +kernel) rfl ?_
  refine lv_iconst (v := 0) hx hb (show decode cX9_init 72 = .ok (.iconst 0, 1) by decide +kernel) (by decide) ?_
  refine va_new (D := D) (ci := 3) (fs := [.int 0, .null, .null]) (C := RX3) (T := TX3) (N := 3) hx hb hts uX3 tyX3 tyX3_ok hown (hts _ k168) (hts _ k169) (hts _ g86) hK hP hD hS hA rfl dfX3 (Nat.le_of_ble_eq_true rfl) (Nat.le_of_ble_eq_true rfl) (show decode cX9_init 73 = .ok (.new 35, 3) by decide +kernel) (fun q7 H hP hD hS => ?_)
  rename_i z0 z1 z2 z3
  clear z0 z1 z2 z3
  refine W.widen (k := 29) (n := 694) (Nat.le_of_ble_eq_true rfl) (Nat.le_of_ble_eq_true rfl) ?_
  refine lv_dup hx hb (show decode cX9_init 76 = .ok (.dup, 1) by decide +kernel) rfl ?_
  have hFc := vfree hD hS hA
  refine va_callv (va_runIN (As := []) (rest := [.ref q7, .int 0, .ref q6, .ref q6, .ref h0]) ⟨hx, hb, hml, hown, hts⟩ (cn3 l D q7 H.size) ⟨va_cnB 0 hts (gw_in k172) rfl rfl rfl (hXW.2.2.2.2.1) (hts _ g86) (by decide +kernel) ⟨(Nat.le_of_ble_eq_true rfl), (Nat.le_of_ble_eq_true rfl)⟩, rfl, hts _ k171⟩ ⟨fun a U g mk q => by obtain ⟨q0, q1, qP, qK, qD, qX⟩ := q; exact ⟨q0, q1, qP, va_K.moved (u := U) (U := U.calling g mk a) (Vm.Alike.refl U.vm) qK, qD, qX.call⟩, fun U hU hW => ⟨rfl, by rw [hU], by rw [hU]; exact vP_r hP, va_K.moved hW.alike (hK.sub (tys' := []) [] rfl), (vD_r hD).weaken (fun _ _ _ _ => trivial), hXW.warm hW⟩⟩ rfl rfl hl.1 rfl (lv_room (Nat.le_of_ble_eq_true rfl)) (show decode cX9_init 77 = .ok (.invokespecial 37, 3) by decide +kernel) ⟨(Nat.le_of_ble_eq_true rfl), (Nat.le_of_ble_eq_true rfl)⟩) hS (fun q _ h => hFc q h) hFc (fun L7 t H1 locs ht hvm hw hB hz1 hk1 hS => ?_)
  obtain ⟨hP1, hK1, hD1⟩ := hB
  rw [ht] at hP1
  replace hK1 := va_K.moved hvm.symm hK1
  replace hP := vjoin hP hD hk1 hFc hP1 hD1
  clear hD
  obtain ⟨hP, hD⟩ := hP
  replace hK := hK.app hK1
  clear hP1 hK1 hD1 hk1 hz1 hFc ht hvm
  rename_i z0 z1
  clear z0 z1
  clear H
  clear t
  generalize H1 = H at hP hS ⊢
  refine W.widen (k := 31) (n := 774) (Nat.le_of_ble_eq_true rfl) (Nat.le_of_ble_eq_true rfl) ?_
  rw [← hw]
  clear hw
  replace hP : va_P D CLS ((h0, .inr (9, [.ref (L1 0).1, .ref (L2 0).1, .ref (L3 0).1, .ref (L4 0).1, .ref (L5 0).1, .null, .null, .null, .null, .null, .null, .null, .null, .int 0, .int 0, .long 0, .long 0])) :: (w8a L1 (lgt [(L1 2).1, (L1 3).1, (L1 4).1, (L1 5).1, (L1 6).1, (L1 7).1]) ++ w8b L2 (lgt [(L2 2).1, (L2 3).1, (L2 4).1, (L2 5).1]) ++ w7 L3 ++ w4 L4 ++ w3 L5 ++ [(q6, .inl (c6, 3, .inr (.inr (.inr (.inr (fun _ => none))))))] ++ w3 L7) : va_W) H := hP
  replace hD : va_D A ((h0, .inr (9, [.ref (L1 0).1, .ref (L2 0).1, .ref (L3 0).1, .ref (L4 0).1, .ref (L5 0).1, .null, .null, .null, .null, .null, .null, .null, .null, .int 0, .int 0, .long 0, .long 0])) :: (w8a L1 (lgt [(L1 2).1, (L1 3).1, (L1 4).1, (L1 5).1, (L1 6).1, (L1 7).1]) ++ w8b L2 (lgt [(L2 2).1, (L2 3).1, (L2 4).1, (L2 5).1]) ++ w7 L3 ++ w4 L4 ++ w3 L5 ++ [(q6, .inl (c6, 3, .inr (.inr (.inr (.inr (fun _ => none))))))] ++ w3 L7) : va_W) := hD
  replace hK : va_K D CLS ([] ++ kC8a L1 ++ kC8b L2 ++ kC7 L3 ++ kC4 L4 ++ kC3 L5 ++ [(c6, .object "RiverDays$Deeds")] ++ kC3 L7) s := hK
  refine cx_astq (D := D) hx hb hK hP hD hS 28 22 29 3 (I := 0) rfl rfl rfl rfl (by unfold vp_in; decide) (by decide) (show decode cX9_init 80 = .ok (.aastore, 1) by decide +kernel) (fun H locs hP hD hS => ?_)
  rename_i z0 z1 z2 z3 z4
  clear z0 z1 z2 z3 z4
  replace hP : va_P D CLS ((h0, .inr (9, [.ref (L1 0).1, .ref (L2 0).1, .ref (L3 0).1, .ref (L4 0).1, .ref (L5 0).1, .null, .null, .null, .null, .null, .null, .null, .null, .int 0, .int 0, .long 0, .long 0])) :: (w8a L1 (lgt [(L1 2).1, (L1 3).1, (L1 4).1, (L1 5).1, (L1 6).1, (L1 7).1]) ++ w8b L2 (lgt [(L2 2).1, (L2 3).1, (L2 4).1, (L2 5).1]) ++ w7 L3 ++ w4 L4 ++ w3 L5 ++ [(q6, .inl (c6, 3, .inr (.inr (.inr (.inr (va_up (fun _ => none) 0 (some (L7 0).1)))))))] ++ w3 L7) : va_W) H := hP
  replace hD : va_D A ((h0, .inr (9, [.ref (L1 0).1, .ref (L2 0).1, .ref (L3 0).1, .ref (L4 0).1, .ref (L5 0).1, .null, .null, .null, .null, .null, .null, .null, .null, .int 0, .int 0, .long 0, .long 0])) :: (w8a L1 (lgt [(L1 2).1, (L1 3).1, (L1 4).1, (L1 5).1, (L1 6).1, (L1 7).1]) ++ w8b L2 (lgt [(L2 2).1, (L2 3).1, (L2 4).1, (L2 5).1]) ++ w7 L3 ++ w4 L4 ++ w3 L5 ++ [(q6, .inl (c6, 3, .inr (.inr (.inr (.inr (va_up (fun _ => none) 0 (some (L7 0).1)))))))] ++ w3 L7) : va_W) := hD
  refine lv_dup hx hb (show decode cX9_init 81 = .ok (.dup, 1) by decide +kernel) rfl ?_
  refine lv_iconst (v := 1) hx hb (show decode cX9_init 82 = .ok (.iconst 1, 1) by decide +kernel) (by decide) ?_
  refine va_new (D := D) (ci := 3) (fs := [.int 0, .null, .null]) (C := RX3) (T := TX3) (N := 3) hx hb hts uX3 tyX3 tyX3_ok hown (hts _ k168) (hts _ k169) (hts _ g86) hK hP hD hS hA rfl dfX3 (Nat.le_of_ble_eq_true rfl) (Nat.le_of_ble_eq_true rfl) (show decode cX9_init 83 = .ok (.new 35, 3) by decide +kernel) (fun q8 H hP hD hS => ?_)
  rename_i z0 z1 z2 z3
  clear z0 z1 z2 z3
  refine W.widen (k := 32) (n := 777) (Nat.le_of_ble_eq_true rfl) (Nat.le_of_ble_eq_true rfl) ?_
  refine lv_dup hx hb (show decode cX9_init 86 = .ok (.dup, 1) by decide +kernel) rfl ?_
  have hFc := vfree hD hS hA
  refine va_callv (va_runIN (As := []) (rest := [.ref q8, .int 1, .ref q6, .ref q6, .ref h0]) ⟨hx, hb, hml, hown, hts⟩ (cn3 l D q8 H.size) ⟨va_cnB 0 hts (gw_in k172) rfl rfl rfl (hXW.2.2.2.2.1) (hts _ g86) (by decide +kernel) ⟨(Nat.le_of_ble_eq_true rfl), (Nat.le_of_ble_eq_true rfl)⟩, rfl, hts _ k171⟩ ⟨fun a U g mk q => by obtain ⟨q0, q1, qP, qK, qD, qX⟩ := q; exact ⟨q0, q1, qP, va_K.moved (u := U) (U := U.calling g mk a) (Vm.Alike.refl U.vm) qK, qD, qX.call⟩, fun U hU hW => ⟨rfl, by rw [hU], by rw [hU]; exact vP_r hP, va_K.moved hW.alike (hK.sub (tys' := []) [] rfl), (vD_r hD).weaken (fun _ _ _ _ => trivial), hXW.warm hW⟩⟩ rfl rfl hl.1 rfl (lv_room (Nat.le_of_ble_eq_true rfl)) (show decode cX9_init 87 = .ok (.invokespecial 37, 3) by decide +kernel) ⟨(Nat.le_of_ble_eq_true rfl), (Nat.le_of_ble_eq_true rfl)⟩) hS (fun q _ h => hFc q h) hFc (fun L8 t H1 locs ht hvm hw hB hz1 hk1 hS => ?_)
  obtain ⟨hP1, hK1, hD1⟩ := hB
  rw [ht] at hP1
  replace hK1 := va_K.moved hvm.symm hK1
  replace hP := vjoin hP hD hk1 hFc hP1 hD1
  clear hD
  obtain ⟨hP, hD⟩ := hP
  replace hK := hK.app hK1
  clear hP1 hK1 hD1 hk1 hz1 hFc ht hvm
  rename_i z0 z1
  clear z0 z1
  clear H
  clear t
  generalize H1 = H at hP hS ⊢
  refine W.widen (k := 34) (n := 857) (Nat.le_of_ble_eq_true rfl) (Nat.le_of_ble_eq_true rfl) ?_
  rw [← hw]
  clear hw
  replace hP : va_P D CLS ((h0, .inr (9, [.ref (L1 0).1, .ref (L2 0).1, .ref (L3 0).1, .ref (L4 0).1, .ref (L5 0).1, .null, .null, .null, .null, .null, .null, .null, .null, .int 0, .int 0, .long 0, .long 0])) :: (w8a L1 (lgt [(L1 2).1, (L1 3).1, (L1 4).1, (L1 5).1, (L1 6).1, (L1 7).1]) ++ w8b L2 (lgt [(L2 2).1, (L2 3).1, (L2 4).1, (L2 5).1]) ++ w7 L3 ++ w4 L4 ++ w3 L5 ++ [(q6, .inl (c6, 3, .inr (.inr (.inr (.inr (va_up (fun _ => none) 0 (some (L7 0).1)))))))] ++ w3 L7 ++ w3 L8) : va_W) H := hP
  replace hD : va_D A ((h0, .inr (9, [.ref (L1 0).1, .ref (L2 0).1, .ref (L3 0).1, .ref (L4 0).1, .ref (L5 0).1, .null, .null, .null, .null, .null, .null, .null, .null, .int 0, .int 0, .long 0, .long 0])) :: (w8a L1 (lgt [(L1 2).1, (L1 3).1, (L1 4).1, (L1 5).1, (L1 6).1, (L1 7).1]) ++ w8b L2 (lgt [(L2 2).1, (L2 3).1, (L2 4).1, (L2 5).1]) ++ w7 L3 ++ w4 L4 ++ w3 L5 ++ [(q6, .inl (c6, 3, .inr (.inr (.inr (.inr (va_up (fun _ => none) 0 (some (L7 0).1)))))))] ++ w3 L7 ++ w3 L8) : va_W) := hD
  replace hK : va_K D CLS ([] ++ kC8a L1 ++ kC8b L2 ++ kC7 L3 ++ kC4 L4 ++ kC3 L5 ++ [(c6, .object "RiverDays$Deeds")] ++ kC3 L7 ++ kC3 L8) s := hK
  refine cx_astq (D := D) hx hb hK hP hD hS 28 22 32 3 (I := 1) rfl rfl rfl rfl (by unfold vp_in; decide) (by decide) (show decode cX9_init 90 = .ok (.aastore, 1) by decide +kernel) (fun H locs hP hD hS => ?_)
  rename_i z0 z1 z2 z3 z4
  clear z0 z1 z2 z3 z4
  replace hP : va_P D CLS ((h0, .inr (9, [.ref (L1 0).1, .ref (L2 0).1, .ref (L3 0).1, .ref (L4 0).1, .ref (L5 0).1, .null, .null, .null, .null, .null, .null, .null, .null, .int 0, .int 0, .long 0, .long 0])) :: (w8a L1 (lgt [(L1 2).1, (L1 3).1, (L1 4).1, (L1 5).1, (L1 6).1, (L1 7).1]) ++ w8b L2 (lgt [(L2 2).1, (L2 3).1, (L2 4).1, (L2 5).1]) ++ w7 L3 ++ w4 L4 ++ w3 L5 ++ [(q6, .inl (c6, 3, .inr (.inr (.inr (.inr (va_up (va_up (fun _ => none) 0 (some (L7 0).1)) 1 (some (L8 0).1)))))))] ++ w3 L7 ++ w3 L8) : va_W) H := hP
  replace hD : va_D A ((h0, .inr (9, [.ref (L1 0).1, .ref (L2 0).1, .ref (L3 0).1, .ref (L4 0).1, .ref (L5 0).1, .null, .null, .null, .null, .null, .null, .null, .null, .int 0, .int 0, .long 0, .long 0])) :: (w8a L1 (lgt [(L1 2).1, (L1 3).1, (L1 4).1, (L1 5).1, (L1 6).1, (L1 7).1]) ++ w8b L2 (lgt [(L2 2).1, (L2 3).1, (L2 4).1, (L2 5).1]) ++ w7 L3 ++ w4 L4 ++ w3 L5 ++ [(q6, .inl (c6, 3, .inr (.inr (.inr (.inr (va_up (va_up (fun _ => none) 0 (some (L7 0).1)) 1 (some (L8 0).1)))))))] ++ w3 L7 ++ w3 L8) : va_W) := hD
  refine lv_dup hx hb (show decode cX9_init 91 = .ok (.dup, 1) by decide +kernel) rfl ?_
  refine lv_iconst (v := 2) hx hb (show decode cX9_init 92 = .ok (.iconst 2, 1) by decide +kernel) (by decide) ?_
  refine va_new (D := D) (ci := 3) (fs := [.int 0, .null, .null]) (C := RX3) (T := TX3) (N := 3) hx hb hts uX3 tyX3 tyX3_ok hown (hts _ k168) (hts _ k169) (hts _ g86) hK hP hD hS hA rfl dfX3 (Nat.le_of_ble_eq_true rfl) (Nat.le_of_ble_eq_true rfl) (show decode cX9_init 93 = .ok (.new 35, 3) by decide +kernel) (fun q9 H hP hD hS => ?_)
  rename_i z0 z1 z2 z3
  clear z0 z1 z2 z3
  refine W.widen (k := 35) (n := 860) (Nat.le_of_ble_eq_true rfl) (Nat.le_of_ble_eq_true rfl) ?_
  refine lv_dup hx hb (show decode cX9_init 96 = .ok (.dup, 1) by decide +kernel) rfl ?_
  have hFc := vfree hD hS hA
  refine va_callv (va_runIN (As := []) (rest := [.ref q9, .int 2, .ref q6, .ref q6, .ref h0]) ⟨hx, hb, hml, hown, hts⟩ (cn3 l D q9 H.size) ⟨va_cnB 0 hts (gw_in k172) rfl rfl rfl (hXW.2.2.2.2.1) (hts _ g86) (by decide +kernel) ⟨(Nat.le_of_ble_eq_true rfl), (Nat.le_of_ble_eq_true rfl)⟩, rfl, hts _ k171⟩ ⟨fun a U g mk q => by obtain ⟨q0, q1, qP, qK, qD, qX⟩ := q; exact ⟨q0, q1, qP, va_K.moved (u := U) (U := U.calling g mk a) (Vm.Alike.refl U.vm) qK, qD, qX.call⟩, fun U hU hW => ⟨rfl, by rw [hU], by rw [hU]; exact vP_r hP, va_K.moved hW.alike (hK.sub (tys' := []) [] rfl), (vD_r hD).weaken (fun _ _ _ _ => trivial), hXW.warm hW⟩⟩ rfl rfl hl.1 rfl (lv_room (Nat.le_of_ble_eq_true rfl)) (show decode cX9_init 97 = .ok (.invokespecial 37, 3) by decide +kernel) ⟨(Nat.le_of_ble_eq_true rfl), (Nat.le_of_ble_eq_true rfl)⟩) hS (fun q _ h => hFc q h) hFc (fun L9 t H1 locs ht hvm hw hB hz1 hk1 hS => ?_)
  obtain ⟨hP1, hK1, hD1⟩ := hB
  rw [ht] at hP1
  replace hK1 := va_K.moved hvm.symm hK1
  replace hP := vjoin hP hD hk1 hFc hP1 hD1
  clear hD
  obtain ⟨hP, hD⟩ := hP
  replace hK := hK.app hK1
  clear hP1 hK1 hD1 hk1 hz1 hFc ht hvm
  rename_i z0 z1
  clear z0 z1
  clear H
  clear t
  generalize H1 = H at hP hS ⊢
  refine W.widen (k := 37) (n := 940) (Nat.le_of_ble_eq_true rfl) (Nat.le_of_ble_eq_true rfl) ?_
  rw [← hw]
  clear hw
  replace hP : va_P D CLS ((h0, .inr (9, [.ref (L1 0).1, .ref (L2 0).1, .ref (L3 0).1, .ref (L4 0).1, .ref (L5 0).1, .null, .null, .null, .null, .null, .null, .null, .null, .int 0, .int 0, .long 0, .long 0])) :: (w8a L1 (lgt [(L1 2).1, (L1 3).1, (L1 4).1, (L1 5).1, (L1 6).1, (L1 7).1]) ++ w8b L2 (lgt [(L2 2).1, (L2 3).1, (L2 4).1, (L2 5).1]) ++ w7 L3 ++ w4 L4 ++ w3 L5 ++ [(q6, .inl (c6, 3, .inr (.inr (.inr (.inr (va_up (va_up (fun _ => none) 0 (some (L7 0).1)) 1 (some (L8 0).1)))))))] ++ w3 L7 ++ w3 L8 ++ w3 L9) : va_W) H := hP
  replace hD : va_D A ((h0, .inr (9, [.ref (L1 0).1, .ref (L2 0).1, .ref (L3 0).1, .ref (L4 0).1, .ref (L5 0).1, .null, .null, .null, .null, .null, .null, .null, .null, .int 0, .int 0, .long 0, .long 0])) :: (w8a L1 (lgt [(L1 2).1, (L1 3).1, (L1 4).1, (L1 5).1, (L1 6).1, (L1 7).1]) ++ w8b L2 (lgt [(L2 2).1, (L2 3).1, (L2 4).1, (L2 5).1]) ++ w7 L3 ++ w4 L4 ++ w3 L5 ++ [(q6, .inl (c6, 3, .inr (.inr (.inr (.inr (va_up (va_up (fun _ => none) 0 (some (L7 0).1)) 1 (some (L8 0).1)))))))] ++ w3 L7 ++ w3 L8 ++ w3 L9) : va_W) := hD
  replace hK : va_K D CLS ([] ++ kC8a L1 ++ kC8b L2 ++ kC7 L3 ++ kC4 L4 ++ kC3 L5 ++ [(c6, .object "RiverDays$Deeds")] ++ kC3 L7 ++ kC3 L8 ++ kC3 L9) s := hK
  refine cx_astq (D := D) hx hb hK hP hD hS 28 22 35 3 (I := 2) rfl rfl rfl rfl (by unfold vp_in; decide) (by decide) (show decode cX9_init 100 = .ok (.aastore, 1) by decide +kernel) (fun H locs hP hD hS => ?_)
  rename_i z0 z1 z2 z3 z4
  clear z0 z1 z2 z3 z4
  replace hP : va_P D CLS ((h0, .inr (9, [.ref (L1 0).1, .ref (L2 0).1, .ref (L3 0).1, .ref (L4 0).1, .ref (L5 0).1, .null, .null, .null, .null, .null, .null, .null, .null, .int 0, .int 0, .long 0, .long 0])) :: (w8a L1 (lgt [(L1 2).1, (L1 3).1, (L1 4).1, (L1 5).1, (L1 6).1, (L1 7).1]) ++ w8b L2 (lgt [(L2 2).1, (L2 3).1, (L2 4).1, (L2 5).1]) ++ w7 L3 ++ w4 L4 ++ w3 L5 ++ [(q6, .inl (c6, 3, .inr (.inr (.inr (.inr (va_up (va_up (va_up (fun _ => none) 0 (some (L7 0).1)) 1 (some (L8 0).1)) 2 (some (L9 0).1)))))))] ++ w3 L7 ++ w3 L8 ++ w3 L9) : va_W) H := hP
  replace hD : va_D A ((h0, .inr (9, [.ref (L1 0).1, .ref (L2 0).1, .ref (L3 0).1, .ref (L4 0).1, .ref (L5 0).1, .null, .null, .null, .null, .null, .null, .null, .null, .int 0, .int 0, .long 0, .long 0])) :: (w8a L1 (lgt [(L1 2).1, (L1 3).1, (L1 4).1, (L1 5).1, (L1 6).1, (L1 7).1]) ++ w8b L2 (lgt [(L2 2).1, (L2 3).1, (L2 4).1, (L2 5).1]) ++ w7 L3 ++ w4 L4 ++ w3 L5 ++ [(q6, .inl (c6, 3, .inr (.inr (.inr (.inr (va_up (va_up (va_up (fun _ => none) 0 (some (L7 0).1)) 1 (some (L8 0).1)) 2 (some (L9 0).1)))))))] ++ w3 L7 ++ w3 L8 ++ w3 L9) : va_W) := hD
  rw [vup3] at hP hD
  refine va_putF (D := D) (ci := 9) (v := .ref q6) (ty := .array (.object "RiverDays$Deeds")) (C := RX9) (T := TX9) (N := 17) hx hb hts uX9 tyX9 tyX9_ok nmX9 hown hK hP hD hS 0 rfl rfl 5 (by decide) (hts _ k377) (fun _ h9 => h9) rfl hin rfl (by decide +kernel) rfl rfl (Nat.le_of_ble_eq_true rfl) (show decode cX9_init 101 = .ok (.putfield 42, 3) by decide +kernel) (fun H locs hP hD hS => ?_)
  rename_i z0 z1 z2 z3 z4
  clear z0 z1 z2 z3 z4
  replace hP : va_P D CLS ((h0, .inr (9, [.ref (L1 0).1, .ref (L2 0).1, .ref (L3 0).1, .ref (L4 0).1, .ref (L5 0).1, .ref q6, .null, .null, .null, .null, .null, .null, .null, .int 0, .int 0, .long 0, .long 0])) :: (w8a L1 (lgt [(L1 2).1, (L1 3).1, (L1 4).1, (L1 5).1, (L1 6).1, (L1 7).1]) ++ w8b L2 (lgt [(L2 2).1, (L2 3).1, (L2 4).1, (L2 5).1]) ++ w7 L3 ++ w4 L4 ++ w3 L5 ++ [(q6, .inl (c6, 3, .inr (.inr (.inr (.inr (lgt [(L7 0).1, (L8 0).1, (L9 0).1]))))))] ++ w3 L7 ++ w3 L8 ++ w3 L9) : va_W) H := hP
  replace hD : va_D A ((h0, .inr (9, [.ref (L1 0).1, .ref (L2 0).1, .ref (L3 0).1, .ref (L4 0).1, .ref (L5 0).1, .ref q6, .null, .null, .null, .null, .null, .null, .null, .int 0, .int 0, .long 0, .long 0])) :: (w8a L1 (lgt [(L1 2).1, (L1 3).1, (L1 4).1, (L1 5).1, (L1 6).1, (L1 7).1]) ++ w8b L2 (lgt [(L2 2).1, (L2 3).1, (L2 4).1, (L2 5).1]) ++ w7 L3 ++ w4 L4 ++ w3 L5 ++ [(q6, .inl (c6, 3, .inr (.inr (.inr (.inr (lgt [(L7 0).1, (L8 0).1, (L9 0).1]))))))] ++ w3 L7 ++ w3 L8 ++ w3 L9) : va_W) := hD
  refine W.eq (g2 := F0 m 104 ls []) rfl ?_
  refine lv_aload_n hx hb (show decode cX9_init 104 = .ok (.aload_n 0, 1) by decide +kernel) rfl (lv_at hl 0 rfl) ?_
  refine lv_iconst (v := 3) hx hb (show decode cX9_init 105 = .ok (.iconst 3, 1) by decide +kernel) (by decide) ?_
  refine va_newa (D := D) (atype := .boolean) (a0 := (3, .inl (fun _ => 0))) hx hb (hts _ k233) rfl hK hP hD hS hA (fun _ => rfl) (by decide) (by decide) (by decide) (Nat.le_of_ble_eq_true rfl) (Nat.le_of_ble_eq_true rfl) (show decode cX9_init 106 = .ok (.newarray .boolean, 2) by decide +kernel) (fun q10 c10 H hK hP hD hS => ?_)
  rename_i z0 z1 z2 z3 z4
  clear z0 z1 z2 z3 z4
  refine W.widen (k := 38) (n := 943) (Nat.le_of_ble_eq_true rfl) (Nat.le_of_ble_eq_true rfl) ?_
  replace hP : va_P D CLS ((h0, .inr (9, [.ref (L1 0).1, .ref (L2 0).1, .ref (L3 0).1, .ref (L4 0).1, .ref (L5 0).1, .ref q6, .null, .null, .null, .null, .null, .null, .null, .int 0, .int 0, .long 0, .long 0])) :: (w8a L1 (lgt [(L1 2).1, (L1 3).1, (L1 4).1, (L1 5).1, (L1 6).1, (L1 7).1]) ++ w8b L2 (lgt [(L2 2).1, (L2 3).1, (L2 4).1, (L2 5).1]) ++ w7 L3 ++ w4 L4 ++ w3 L5 ++ [(q6, .inl (c6, 3, .inr (.inr (.inr (.inr (lgt [(L7 0).1, (L8 0).1, (L9 0).1]))))))] ++ w3 L7 ++ w3 L8 ++ w3 L9 ++ [(q10, .inl (c10, 3, .inl (fun _ => 0)))]) : va_W) H := hP
  replace hD : va_D A ((h0, .inr (9, [.ref (L1 0).1, .ref (L2 0).1, .ref (L3 0).1, .ref (L4 0).1, .ref (L5 0).1, .ref q6, .null, .null, .null, .null, .null, .null, .null, .int 0, .int 0, .long 0, .long 0])) :: (w8a L1 (lgt [(L1 2).1, (L1 3).1, (L1 4).1, (L1 5).1, (L1 6).1, (L1 7).1]) ++ w8b L2 (lgt [(L2 2).1, (L2 3).1, (L2 4).1, (L2 5).1]) ++ w7 L3 ++ w4 L4 ++ w3 L5 ++ [(q6, .inl (c6, 3, .inr (.inr (.inr (.inr (lgt [(L7 0).1, (L8 0).1, (L9 0).1]))))))] ++ w3 L7 ++ w3 L8 ++ w3 L9 ++ [(q10, .inl (c10, 3, .inl (fun _ => 0)))]) : va_W) := hD
  replace hK : va_K D CLS ([] ++ kC8a L1 ++ kC8b L2 ++ kC7 L3 ++ kC4 L4 ++ kC3 L5 ++ [(c6, .object "RiverDays$Deeds")] ++ kC3 L7 ++ kC3 L8 ++ kC3 L9 ++ [(c10, .boolean)]) s := hK
  refine va_putF (D := D) (ci := 9) (v := .ref q10) (ty := .array .boolean) (C := RX9) (T := TX9) (N := 17) hx hb hts uX9 tyX9 tyX9_ok nmX9 hown hK hP hD hS 0 rfl rfl 6 (by decide) (hts _ k378) (fun _ h9 => h9) rfl hin rfl (by decide +kernel) rfl rfl (Nat.le_of_ble_eq_true rfl) (show decode cX9_init 108 = .ok (.putfield 46, 3) by decide +kernel) (fun H locs hP hD hS => ?_)
  rename_i z0 z1 z2 z3 z4
  clear z0 z1 z2 z3 z4
  replace hP : va_P D CLS ((h0, .inr (9, [.ref (L1 0).1, .ref (L2 0).1, .ref (L3 0).1, .ref (L4 0).1, .ref (L5 0).1, .ref q6, .ref q10, .null, .null, .null, .null, .null, .null, .int 0, .int 0, .long 0, .long 0])) :: (w8a L1 (lgt [(L1 2).1, (L1 3).1, (L1 4).1, (L1 5).1, (L1 6).1, (L1 7).1]) ++ w8b L2 (lgt [(L2 2).1, (L2 3).1, (L2 4).1, (L2 5).1]) ++ w7 L3 ++ w4 L4 ++ w3 L5 ++ [(q6, .inl (c6, 3, .inr (.inr (.inr (.inr (lgt [(L7 0).1, (L8 0).1, (L9 0).1]))))))] ++ w3 L7 ++ w3 L8 ++ w3 L9 ++ [(q10, .inl (c10, 3, .inl (fun _ => 0)))]) : va_W) H := hP
  replace hD : va_D A ((h0, .inr (9, [.ref (L1 0).1, .ref (L2 0).1, .ref (L3 0).1, .ref (L4 0).1, .ref (L5 0).1, .ref q6, .ref q10, .null, .null, .null, .null, .null, .null, .int 0, .int 0, .long 0, .long 0])) :: (w8a L1 (lgt [(L1 2).1, (L1 3).1, (L1 4).1, (L1 5).1, (L1 6).1, (L1 7).1]) ++ w8b L2 (lgt [(L2 2).1, (L2 3).1, (L2 4).1, (L2 5).1]) ++ w7 L3 ++ w4 L4 ++ w3 L5 ++ [(q6, .inl (c6, 3, .inr (.inr (.inr (.inr (lgt [(L7 0).1, (L8 0).1, (L9 0).1]))))))] ++ w3 L7 ++ w3 L8 ++ w3 L9 ++ [(q10, .inl (c10, 3, .inl (fun _ => 0)))]) : va_W) := hD
  refine W.eq (g2 := F0 m 111 ls []) rfl ?_
  refine lv_aload_n hx hb (show decode cX9_init 111 = .ok (.aload_n 0, 1) by decide +kernel) rfl (lv_at hl 0 rfl) ?_
  refine va_new (D := D) (ci := 0) (fs := [.int 0, .int 0, .int 0, .int 0, .int 0, .null, .int 0, .null, .null]) (C := RX0) (T := TX0) (N := 9) hx hb hts uX0 tyX0 tyX0_ok hown (hts _ k188) (hts _ k189) (hts _ g87) hK hP hD hS hA rfl dfX0 (Nat.le_of_ble_eq_true rfl) (Nat.le_of_ble_eq_true rfl) (show decode cX9_init 112 = .ok (.new 50, 3) by decide +kernel) (fun q11 H hP hD hS => ?_)
  rename_i z0 z1 z2 z3
  clear z0 z1 z2 z3
  refine W.widen (k := 39) (n := 952) (Nat.le_of_ble_eq_true rfl) (Nat.le_of_ble_eq_true rfl) ?_
  refine lv_dup hx hb (show decode cX9_init 115 = .ok (.dup, 1) by decide +kernel) rfl ?_
  have hFc := vfree hD hS hA
  refine va_callv (va_runIN (As := []) (rest := [.ref q11, .ref h0]) ⟨hx, hb, hml, hown, hts⟩ (cn0 l D q11 H.size) ⟨va_cnB 0 hts (gw_in k192) rfl rfl rfl (hXW.2.2.2.2.2.1) (hts _ g87) (by decide +kernel) ⟨(Nat.le_of_ble_eq_true rfl), (Nat.le_of_ble_eq_true rfl)⟩, rfl, hts _ k191⟩ ⟨fun a U g mk q => by obtain ⟨q0, q1, qP, qK, qD, qX⟩ := q; exact ⟨q0, q1, qP, va_K.moved (u := U) (U := U.calling g mk a) (Vm.Alike.refl U.vm) qK, qD, qX.call⟩, fun U hU hW => ⟨rfl, by rw [hU], by rw [hU]; exact vP_r hP, va_K.moved hW.alike (hK.sub (tys' := []) [] rfl), (vD_r hD).weaken (fun _ _ _ _ => trivial), hXW.warm hW⟩⟩ rfl rfl hl.1 rfl (lv_room (Nat.le_of_ble_eq_true rfl)) (show decode cX9_init 116 = .ok (.invokespecial 52, 3) by decide +kernel) ⟨(Nat.le_of_ble_eq_true rfl), (Nat.le_of_ble_eq_true rfl)⟩) hS (fun q _ h => hFc q h) hFc (fun L11 t H1 locs ht hvm hw hB hz1 hk1 hS => ?_)
  obtain ⟨hP1, hK1, hD1⟩ := hB
  rw [ht] at hP1
  replace hK1 := va_K.moved hvm.symm hK1
  replace hP := vjoin hP hD hk1 hFc hP1 hD1
  clear hD
  obtain ⟨hP, hD⟩ := hP
  replace hK := hK.app hK1
  clear hP1 hK1 hD1 hk1 hz1 hFc ht hvm
  rename_i z0 z1
  clear z0 z1
  clear H
  clear t
  generalize H1 = H at hP hS ⊢
  refine W.widen (k := 47) (n := 1000) (Nat.le_of_ble_eq_true rfl) (Nat.le_of_ble_eq_true rfl) ?_
  rw [← hw]
  clear hw
  replace hP : va_P D CLS ((h0, .inr (9, [.ref (L1 0).1, .ref (L2 0).1, .ref (L3 0).1, .ref (L4 0).1, .ref (L5 0).1, .ref q6, .ref q10, .null, .null, .null, .null, .null, .null, .int 0, .int 0, .long 0, .long 0])) :: (w8a L1 (lgt [(L1 2).1, (L1 3).1, (L1 4).1, (L1 5).1, (L1 6).1, (L1 7).1]) ++ w8b L2 (lgt [(L2 2).1, (L2 3).1, (L2 4).1, (L2 5).1]) ++ w7 L3 ++ w4 L4 ++ w3 L5 ++ [(q6, .inl (c6, 3, .inr (.inr (.inr (.inr (lgt [(L7 0).1, (L8 0).1, (L9 0).1]))))))] ++ w3 L7 ++ w3 L8 ++ w3 L9 ++ [(q10, .inl (c10, 3, .inl (fun _ => 0)))] ++ w0 L11 (lgt [(L11 3).1, (L11 4).1, (L11 5).1, (L11 6).1, (L11 7).1])) : va_W) H := hP
  replace hD : va_D A ((h0, .inr (9, [.ref (L1 0).1, .ref (L2 0).1, .ref (L3 0).1, .ref (L4 0).1, .ref (L5 0).1, .ref q6, .ref q10, .null, .null, .null, .null, .null, .null, .int 0, .int 0, .long 0, .long 0])) :: (w8a L1 (lgt [(L1 2).1, (L1 3).1, (L1 4).1, (L1 5).1, (L1 6).1, (L1 7).1]) ++ w8b L2 (lgt [(L2 2).1, (L2 3).1, (L2 4).1, (L2 5).1]) ++ w7 L3 ++ w4 L4 ++ w3 L5 ++ [(q6, .inl (c6, 3, .inr (.inr (.inr (.inr (lgt [(L7 0).1, (L8 0).1, (L9 0).1]))))))] ++ w3 L7 ++ w3 L8 ++ w3 L9 ++ [(q10, .inl (c10, 3, .inl (fun _ => 0)))] ++ w0 L11 (lgt [(L11 3).1, (L11 4).1, (L11 5).1, (L11 6).1, (L11 7).1])) : va_W) := hD
  replace hK : va_K D CLS ([] ++ kC8a L1 ++ kC8b L2 ++ kC7 L3 ++ kC4 L4 ++ kC3 L5 ++ [(c6, .object "RiverDays$Deeds")] ++ kC3 L7 ++ kC3 L8 ++ kC3 L9 ++ [(c10, .boolean)] ++ kC0 L11) s := hK
  refine va_putF (D := D) (ci := 9) (v := .ref (L11 0).1) (ty := .object "RiverDays$Aside") (C := RX9) (T := TX9) (N := 17) hx hb hts uX9 tyX9 tyX9_ok nmX9 hown hK hP hD hS 0 rfl rfl 7 (by decide) (hts _ k379) (fun _ h9 => h9) rfl hin rfl (by decide +kernel) rfl rfl (Nat.le_of_ble_eq_true rfl) (show decode cX9_init 119 = .ok (.putfield 53, 3) by decide +kernel) (fun H locs hP hD hS => ?_)
  rename_i z0 z1 z2 z3 z4
  clear z0 z1 z2 z3 z4
  replace hP : va_P D CLS ((h0, .inr (9, [.ref (L1 0).1, .ref (L2 0).1, .ref (L3 0).1, .ref (L4 0).1, .ref (L5 0).1, .ref q6, .ref q10, .ref (L11 0).1, .null, .null, .null, .null, .null, .int 0, .int 0, .long 0, .long 0])) :: (w8a L1 (lgt [(L1 2).1, (L1 3).1, (L1 4).1, (L1 5).1, (L1 6).1, (L1 7).1]) ++ w8b L2 (lgt [(L2 2).1, (L2 3).1, (L2 4).1, (L2 5).1]) ++ w7 L3 ++ w4 L4 ++ w3 L5 ++ [(q6, .inl (c6, 3, .inr (.inr (.inr (.inr (lgt [(L7 0).1, (L8 0).1, (L9 0).1]))))))] ++ w3 L7 ++ w3 L8 ++ w3 L9 ++ [(q10, .inl (c10, 3, .inl (fun _ => 0)))] ++ w0 L11 (lgt [(L11 3).1, (L11 4).1, (L11 5).1, (L11 6).1, (L11 7).1])) : va_W) H := hP
  replace hD : va_D A ((h0, .inr (9, [.ref (L1 0).1, .ref (L2 0).1, .ref (L3 0).1, .ref (L4 0).1, .ref (L5 0).1, .ref q6, .ref q10, .ref (L11 0).1, .null, .null, .null, .null, .null, .int 0, .int 0, .long 0, .long 0])) :: (w8a L1 (lgt [(L1 2).1, (L1 3).1, (L1 4).1, (L1 5).1, (L1 6).1, (L1 7).1]) ++ w8b L2 (lgt [(L2 2).1, (L2 3).1, (L2 4).1, (L2 5).1]) ++ w7 L3 ++ w4 L4 ++ w3 L5 ++ [(q6, .inl (c6, 3, .inr (.inr (.inr (.inr (lgt [(L7 0).1, (L8 0).1, (L9 0).1]))))))] ++ w3 L7 ++ w3 L8 ++ w3 L9 ++ [(q10, .inl (c10, 3, .inl (fun _ => 0)))] ++ w0 L11 (lgt [(L11 3).1, (L11 4).1, (L11 5).1, (L11 6).1, (L11 7).1])) : va_W) := hD
  refine W.eq (g2 := F0 m 122 ls []) rfl ?_
  refine lv_aload_n hx hb (show decode cX9_init 122 = .ok (.aload_n 0, 1) by decide +kernel) rfl (lv_at hl 0 rfl) ?_
  refine va_new (D := D) (ci := 5) (fs := [.null, .null, .int 0, .int 0, .int 0, .int 0, .int 0, .int 0, .null, .null]) (C := RX5) (T := TX5) (N := 10) hx hb hts uX5 tyX5 tyX5_ok hown (hts _ k234) (hts _ k235) (hts _ g88) hK hP hD hS hA rfl dfX5 (Nat.le_of_ble_eq_true rfl) (Nat.le_of_ble_eq_true rfl) (show decode cX9_init 123 = .ok (.new 57, 3) by decide +kernel) (fun q12 H hP hD hS => ?_)
  rename_i z0 z1 z2 z3
  clear z0 z1 z2 z3
  refine W.widen (k := 48) (n := 1010) (Nat.le_of_ble_eq_true rfl) (Nat.le_of_ble_eq_true rfl) ?_
  refine lv_dup hx hb (show decode cX9_init 126 = .ok (.dup, 1) by decide +kernel) rfl ?_
  have hFc := vfree hD hS hA
  refine va_callv (va_runIN (As := []) (rest := [.ref q12, .ref h0]) ⟨hx, hb, hml, hown, hts⟩ (cn5 l D q12 H.size) ⟨va_cnB 0 hts (gw_in k238) rfl rfl rfl (hXW.2.2.2.2.2.2.1) (hts _ g88) (by decide +kernel) ⟨(Nat.le_of_ble_eq_true rfl), (Nat.le_of_ble_eq_true rfl)⟩, rfl, hts _ k237⟩ ⟨fun a U g mk q => by obtain ⟨q0, q1, qP, qK, qD, qX⟩ := q; exact ⟨q0, q1, qP, va_K.moved (u := U) (U := U.calling g mk a) (Vm.Alike.refl U.vm) qK, qD, qX.call⟩, fun U hU hW => ⟨rfl, by rw [hU], by rw [hU]; exact vP_r hP, va_K.moved hW.alike (hK.sub (tys' := []) [] rfl), (vD_r hD).weaken (fun _ _ _ _ => trivial), hXW.warm hW⟩⟩ rfl rfl hl.1 rfl (lv_room (Nat.le_of_ble_eq_true rfl)) (show decode cX9_init 127 = .ok (.invokespecial 59, 3) by decide +kernel) ⟨(Nat.le_of_ble_eq_true rfl), (Nat.le_of_ble_eq_true rfl)⟩) hS (fun q _ h => hFc q h) hFc (fun L12 t H1 locs ht hvm hw hB hz1 hk1 hS => ?_)
  obtain ⟨hP1, hK1, hD1⟩ := hB
  rw [ht] at hP1
  replace hK1 := va_K.moved hvm.symm hK1
  replace hP := vjoin hP hD hk1 hFc hP1 hD1
  clear hD
  obtain ⟨hP, hD⟩ := hP
  replace hK := hK.app hK1
  clear hP1 hK1 hD1 hk1 hz1 hFc ht hvm
  rename_i z0 z1
  clear z0 z1
  clear H
  clear t
  generalize H1 = H at hP hS ⊢
  refine W.widen (k := 60) (n := 1079) (Nat.le_of_ble_eq_true rfl) (Nat.le_of_ble_eq_true rfl) ?_
  rw [← hw]
  clear hw
  replace hP : va_P D CLS ((h0, .inr (9, [.ref (L1 0).1, .ref (L2 0).1, .ref (L3 0).1, .ref (L4 0).1, .ref (L5 0).1, .ref q6, .ref q10, .ref (L11 0).1, .null, .null, .null, .null, .null, .int 0, .int 0, .long 0, .long 0])) :: (w8a L1 (lgt [(L1 2).1, (L1 3).1, (L1 4).1, (L1 5).1, (L1 6).1, (L1 7).1]) ++ w8b L2 (lgt [(L2 2).1, (L2 3).1, (L2 4).1, (L2 5).1]) ++ w7 L3 ++ w4 L4 ++ w3 L5 ++ [(q6, .inl (c6, 3, .inr (.inr (.inr (.inr (lgt [(L7 0).1, (L8 0).1, (L9 0).1]))))))] ++ w3 L7 ++ w3 L8 ++ w3 L9 ++ [(q10, .inl (c10, 3, .inl (fun _ => 0)))] ++ w0 L11 (lgt [(L11 3).1, (L11 4).1, (L11 5).1, (L11 6).1, (L11 7).1]) ++ w5 L12 (lgt [(L12 7).1, (L12 8).1, (L12 9).1, (L12 10).1, (L12 11).1])) : va_W) H := hP
  replace hD : va_D A ((h0, .inr (9, [.ref (L1 0).1, .ref (L2 0).1, .ref (L3 0).1, .ref (L4 0).1, .ref (L5 0).1, .ref q6, .ref q10, .ref (L11 0).1, .null, .null, .null, .null, .null, .int 0, .int 0, .long 0, .long 0])) :: (w8a L1 (lgt [(L1 2).1, (L1 3).1, (L1 4).1, (L1 5).1, (L1 6).1, (L1 7).1]) ++ w8b L2 (lgt [(L2 2).1, (L2 3).1, (L2 4).1, (L2 5).1]) ++ w7 L3 ++ w4 L4 ++ w3 L5 ++ [(q6, .inl (c6, 3, .inr (.inr (.inr (.inr (lgt [(L7 0).1, (L8 0).1, (L9 0).1]))))))] ++ w3 L7 ++ w3 L8 ++ w3 L9 ++ [(q10, .inl (c10, 3, .inl (fun _ => 0)))] ++ w0 L11 (lgt [(L11 3).1, (L11 4).1, (L11 5).1, (L11 6).1, (L11 7).1]) ++ w5 L12 (lgt [(L12 7).1, (L12 8).1, (L12 9).1, (L12 10).1, (L12 11).1])) : va_W) := hD
  replace hK : va_K D CLS ([] ++ kC8a L1 ++ kC8b L2 ++ kC7 L3 ++ kC4 L4 ++ kC3 L5 ++ [(c6, .object "RiverDays$Deeds")] ++ kC3 L7 ++ kC3 L8 ++ kC3 L9 ++ [(c10, .boolean)] ++ kC0 L11 ++ kC5 L12) s := hK
  refine va_putF (D := D) (ci := 9) (v := .ref (L12 0).1) (ty := .object "RiverDays$Hunt") (C := RX9) (T := TX9) (N := 17) hx hb hts uX9 tyX9 tyX9_ok nmX9 hown hK hP hD hS 0 rfl rfl 8 (by decide) (hts _ k380) (fun _ h9 => h9) rfl hin rfl (by decide +kernel) rfl rfl (Nat.le_of_ble_eq_true rfl) (show decode cX9_init 130 = .ok (.putfield 60, 3) by decide +kernel) (fun H locs hP hD hS => ?_)
  rename_i z0 z1 z2 z3 z4
  clear z0 z1 z2 z3 z4
  replace hP : va_P D CLS ((h0, .inr (9, [.ref (L1 0).1, .ref (L2 0).1, .ref (L3 0).1, .ref (L4 0).1, .ref (L5 0).1, .ref q6, .ref q10, .ref (L11 0).1, .ref (L12 0).1, .null, .null, .null, .null, .int 0, .int 0, .long 0, .long 0])) :: (w8a L1 (lgt [(L1 2).1, (L1 3).1, (L1 4).1, (L1 5).1, (L1 6).1, (L1 7).1]) ++ w8b L2 (lgt [(L2 2).1, (L2 3).1, (L2 4).1, (L2 5).1]) ++ w7 L3 ++ w4 L4 ++ w3 L5 ++ [(q6, .inl (c6, 3, .inr (.inr (.inr (.inr (lgt [(L7 0).1, (L8 0).1, (L9 0).1]))))))] ++ w3 L7 ++ w3 L8 ++ w3 L9 ++ [(q10, .inl (c10, 3, .inl (fun _ => 0)))] ++ w0 L11 (lgt [(L11 3).1, (L11 4).1, (L11 5).1, (L11 6).1, (L11 7).1]) ++ w5 L12 (lgt [(L12 7).1, (L12 8).1, (L12 9).1, (L12 10).1, (L12 11).1])) : va_W) H := hP
  replace hD : va_D A ((h0, .inr (9, [.ref (L1 0).1, .ref (L2 0).1, .ref (L3 0).1, .ref (L4 0).1, .ref (L5 0).1, .ref q6, .ref q10, .ref (L11 0).1, .ref (L12 0).1, .null, .null, .null, .null, .int 0, .int 0, .long 0, .long 0])) :: (w8a L1 (lgt [(L1 2).1, (L1 3).1, (L1 4).1, (L1 5).1, (L1 6).1, (L1 7).1]) ++ w8b L2 (lgt [(L2 2).1, (L2 3).1, (L2 4).1, (L2 5).1]) ++ w7 L3 ++ w4 L4 ++ w3 L5 ++ [(q6, .inl (c6, 3, .inr (.inr (.inr (.inr (lgt [(L7 0).1, (L8 0).1, (L9 0).1]))))))] ++ w3 L7 ++ w3 L8 ++ w3 L9 ++ [(q10, .inl (c10, 3, .inl (fun _ => 0)))] ++ w0 L11 (lgt [(L11 3).1, (L11 4).1, (L11 5).1, (L11 6).1, (L11 7).1]) ++ w5 L12 (lgt [(L12 7).1, (L12 8).1, (L12 9).1, (L12 10).1, (L12 11).1])) : va_W) := hD
  refine W.eq (g2 := F0 m 133 ls []) rfl ?_
  refine lv_aload_n hx hb (show decode cX9_init 133 = .ok (.aload_n 0, 1) by decide +kernel) rfl (lv_at hl 0 rfl) ?_
  refine va_new (D := D) (ci := 1) (fs := [.null, .long 0, .long 0, .long 0, .int 0, .int 0, .int 0, .null]) (C := RX1) (T := TX1) (N := 8) hx hb hts uX1 tyX1 tyX1_ok hown (hts _ k280) (hts _ k281) (hts _ g89) hK hP hD hS hA rfl dfX1 (Nat.le_of_ble_eq_true rfl) (Nat.le_of_ble_eq_true rfl) (show decode cX9_init 134 = .ok (.new 64, 3) by decide +kernel) (fun q13 H hP hD hS => ?_)
  rename_i z0 z1 z2 z3
  clear z0 z1 z2 z3
  refine W.widen (k := 61) (n := 1087) (Nat.le_of_ble_eq_true rfl) (Nat.le_of_ble_eq_true rfl) ?_
  refine lv_dup hx hb (show decode cX9_init 137 = .ok (.dup, 1) by decide +kernel) rfl ?_
  have hFc := vfree hD hS hA
  refine va_callv (va_runIN (As := []) (rest := [.ref q13, .ref h0]) ⟨hx, hb, hml, hown, hts⟩ (cn1 l D q13 H.size) ⟨va_cnB 0 hts (gw_in k284) rfl rfl rfl (hXW.2.2.2.2.2.2.2.1) (hts _ g89) (by decide +kernel) ⟨(Nat.le_of_ble_eq_true rfl), (Nat.le_of_ble_eq_true rfl)⟩, rfl, hts _ k283⟩ ⟨fun a U g mk q => by obtain ⟨q0, q1, qP, qK, qD, qX⟩ := q; exact ⟨q0, q1, qP, va_K.moved (u := U) (U := U.calling g mk a) (Vm.Alike.refl U.vm) qK, qD, qX.call⟩, fun U hU hW => ⟨rfl, by rw [hU], by rw [hU]; exact vP_r hP, va_K.moved hW.alike (hK.sub (tys' := []) [] rfl), (vD_r hD).weaken (fun _ _ _ _ => trivial), hXW.warm hW⟩⟩ rfl rfl hl.1 rfl (lv_room (Nat.le_of_ble_eq_true rfl)) (show decode cX9_init 138 = .ok (.invokespecial 66, 3) by decide +kernel) ⟨(Nat.le_of_ble_eq_true rfl), (Nat.le_of_ble_eq_true rfl)⟩) hS (fun q _ h => hFc q h) hFc (fun L13 t H1 locs ht hvm hw hB hz1 hk1 hS => ?_)
  obtain ⟨hP1, hK1, hD1⟩ := hB
  rw [ht] at hP1
  replace hK1 := va_K.moved hvm.symm hK1
  replace hP := vjoin hP hD hk1 hFc hP1 hD1
  clear hD
  obtain ⟨hP, hD⟩ := hP
  replace hK := hK.app hK1
  clear hP1 hK1 hD1 hk1 hz1 hFc ht hvm
  rename_i z0 z1
  clear z0 z1
  clear H
  clear t
  generalize H1 = H at hP hS ⊢
  refine W.widen (k := 71) (n := 1148) (Nat.le_of_ble_eq_true rfl) (Nat.le_of_ble_eq_true rfl) ?_
  rw [← hw]
  clear hw
  replace hP : va_P D CLS ((h0, .inr (9, [.ref (L1 0).1, .ref (L2 0).1, .ref (L3 0).1, .ref (L4 0).1, .ref (L5 0).1, .ref q6, .ref q10, .ref (L11 0).1, .ref (L12 0).1, .null, .null, .null, .null, .int 0, .int 0, .long 0, .long 0])) :: (w8a L1 (lgt [(L1 2).1, (L1 3).1, (L1 4).1, (L1 5).1, (L1 6).1, (L1 7).1]) ++ w8b L2 (lgt [(L2 2).1, (L2 3).1, (L2 4).1, (L2 5).1]) ++ w7 L3 ++ w4 L4 ++ w3 L5 ++ [(q6, .inl (c6, 3, .inr (.inr (.inr (.inr (lgt [(L7 0).1, (L8 0).1, (L9 0).1]))))))] ++ w3 L7 ++ w3 L8 ++ w3 L9 ++ [(q10, .inl (c10, 3, .inl (fun _ => 0)))] ++ w0 L11 (lgt [(L11 3).1, (L11 4).1, (L11 5).1, (L11 6).1, (L11 7).1]) ++ w5 L12 (lgt [(L12 7).1, (L12 8).1, (L12 9).1, (L12 10).1, (L12 11).1]) ++ w1 L13 (lgt [(L13 5).1, (L13 6).1, (L13 7).1, (L13 8).1, (L13 9).1])) : va_W) H := hP
  replace hD : va_D A ((h0, .inr (9, [.ref (L1 0).1, .ref (L2 0).1, .ref (L3 0).1, .ref (L4 0).1, .ref (L5 0).1, .ref q6, .ref q10, .ref (L11 0).1, .ref (L12 0).1, .null, .null, .null, .null, .int 0, .int 0, .long 0, .long 0])) :: (w8a L1 (lgt [(L1 2).1, (L1 3).1, (L1 4).1, (L1 5).1, (L1 6).1, (L1 7).1]) ++ w8b L2 (lgt [(L2 2).1, (L2 3).1, (L2 4).1, (L2 5).1]) ++ w7 L3 ++ w4 L4 ++ w3 L5 ++ [(q6, .inl (c6, 3, .inr (.inr (.inr (.inr (lgt [(L7 0).1, (L8 0).1, (L9 0).1]))))))] ++ w3 L7 ++ w3 L8 ++ w3 L9 ++ [(q10, .inl (c10, 3, .inl (fun _ => 0)))] ++ w0 L11 (lgt [(L11 3).1, (L11 4).1, (L11 5).1, (L11 6).1, (L11 7).1]) ++ w5 L12 (lgt [(L12 7).1, (L12 8).1, (L12 9).1, (L12 10).1, (L12 11).1]) ++ w1 L13 (lgt [(L13 5).1, (L13 6).1, (L13 7).1, (L13 8).1, (L13 9).1])) : va_W) := hD
  replace hK : va_K D CLS ([] ++ kC8a L1 ++ kC8b L2 ++ kC7 L3 ++ kC4 L4 ++ kC3 L5 ++ [(c6, .object "RiverDays$Deeds")] ++ kC3 L7 ++ kC3 L8 ++ kC3 L9 ++ [(c10, .boolean)] ++ kC0 L11 ++ kC5 L12 ++ kC1 L13) s := hK
  refine va_putF (D := D) (ci := 9) (v := .ref (L13 0).1) (ty := .object "RiverDays$Breaking") (C := RX9) (T := TX9) (N := 17) hx hb hts uX9 tyX9 tyX9_ok nmX9 hown hK hP hD hS 0 rfl rfl 9 (by decide) (hts _ k381) (fun _ h9 => h9) rfl hin rfl (by decide +kernel) rfl rfl (Nat.le_of_ble_eq_true rfl) (show decode cX9_init 141 = .ok (.putfield 67, 3) by decide +kernel) (fun H locs hP hD hS => ?_)
  rename_i z0 z1 z2 z3 z4
  clear z0 z1 z2 z3 z4
  replace hP : va_P D CLS ((h0, .inr (9, [.ref (L1 0).1, .ref (L2 0).1, .ref (L3 0).1, .ref (L4 0).1, .ref (L5 0).1, .ref q6, .ref q10, .ref (L11 0).1, .ref (L12 0).1, .ref (L13 0).1, .null, .null, .null, .int 0, .int 0, .long 0, .long 0])) :: (w8a L1 (lgt [(L1 2).1, (L1 3).1, (L1 4).1, (L1 5).1, (L1 6).1, (L1 7).1]) ++ w8b L2 (lgt [(L2 2).1, (L2 3).1, (L2 4).1, (L2 5).1]) ++ w7 L3 ++ w4 L4 ++ w3 L5 ++ [(q6, .inl (c6, 3, .inr (.inr (.inr (.inr (lgt [(L7 0).1, (L8 0).1, (L9 0).1]))))))] ++ w3 L7 ++ w3 L8 ++ w3 L9 ++ [(q10, .inl (c10, 3, .inl (fun _ => 0)))] ++ w0 L11 (lgt [(L11 3).1, (L11 4).1, (L11 5).1, (L11 6).1, (L11 7).1]) ++ w5 L12 (lgt [(L12 7).1, (L12 8).1, (L12 9).1, (L12 10).1, (L12 11).1]) ++ w1 L13 (lgt [(L13 5).1, (L13 6).1, (L13 7).1, (L13 8).1, (L13 9).1])) : va_W) H := hP
  replace hD : va_D A ((h0, .inr (9, [.ref (L1 0).1, .ref (L2 0).1, .ref (L3 0).1, .ref (L4 0).1, .ref (L5 0).1, .ref q6, .ref q10, .ref (L11 0).1, .ref (L12 0).1, .ref (L13 0).1, .null, .null, .null, .int 0, .int 0, .long 0, .long 0])) :: (w8a L1 (lgt [(L1 2).1, (L1 3).1, (L1 4).1, (L1 5).1, (L1 6).1, (L1 7).1]) ++ w8b L2 (lgt [(L2 2).1, (L2 3).1, (L2 4).1, (L2 5).1]) ++ w7 L3 ++ w4 L4 ++ w3 L5 ++ [(q6, .inl (c6, 3, .inr (.inr (.inr (.inr (lgt [(L7 0).1, (L8 0).1, (L9 0).1]))))))] ++ w3 L7 ++ w3 L8 ++ w3 L9 ++ [(q10, .inl (c10, 3, .inl (fun _ => 0)))] ++ w0 L11 (lgt [(L11 3).1, (L11 4).1, (L11 5).1, (L11 6).1, (L11 7).1]) ++ w5 L12 (lgt [(L12 7).1, (L12 8).1, (L12 9).1, (L12 10).1, (L12 11).1]) ++ w1 L13 (lgt [(L13 5).1, (L13 6).1, (L13 7).1, (L13 8).1, (L13 9).1])) : va_W) := hD
  refine W.eq (g2 := F0 m 144 ls []) rfl ?_
  refine lv_aload_n hx hb (show decode cX9_init 144 = .ok (.aload_n 0, 1) by decide +kernel) rfl (lv_at hl 0 rfl) ?_
  refine lv_bipush (v := 6) hx hb (show decode cX9_init 145 = .ok (.bipush 6, 2) by decide +kernel) (by decide) ?_
  refine va_newa (D := D) (atype := .int) (a0 := (6, .inl (fun _ => 0))) hx hb (hts _ k125) rfl hK hP hD hS hA (fun _ => rfl) (by decide) (by decide) (by decide) (Nat.le_of_ble_eq_true rfl) (Nat.le_of_ble_eq_true rfl) (show decode cX9_init 147 = .ok (.newarray .int, 2) by decide +kernel) (fun q14 c14 H hK hP hD hS => ?_)
  rename_i z0 z1 z2 z3 z4
  clear z0 z1 z2 z3 z4
  refine W.widen (k := 72) (n := 1154) (Nat.le_of_ble_eq_true rfl) (Nat.le_of_ble_eq_true rfl) ?_
  replace hP : va_P D CLS ((h0, .inr (9, [.ref (L1 0).1, .ref (L2 0).1, .ref (L3 0).1, .ref (L4 0).1, .ref (L5 0).1, .ref q6, .ref q10, .ref (L11 0).1, .ref (L12 0).1, .ref (L13 0).1, .null, .null, .null, .int 0, .int 0, .long 0, .long 0])) :: (w8a L1 (lgt [(L1 2).1, (L1 3).1, (L1 4).1, (L1 5).1, (L1 6).1, (L1 7).1]) ++ w8b L2 (lgt [(L2 2).1, (L2 3).1, (L2 4).1, (L2 5).1]) ++ w7 L3 ++ w4 L4 ++ w3 L5 ++ [(q6, .inl (c6, 3, .inr (.inr (.inr (.inr (lgt [(L7 0).1, (L8 0).1, (L9 0).1]))))))] ++ w3 L7 ++ w3 L8 ++ w3 L9 ++ [(q10, .inl (c10, 3, .inl (fun _ => 0)))] ++ w0 L11 (lgt [(L11 3).1, (L11 4).1, (L11 5).1, (L11 6).1, (L11 7).1]) ++ w5 L12 (lgt [(L12 7).1, (L12 8).1, (L12 9).1, (L12 10).1, (L12 11).1]) ++ w1 L13 (lgt [(L13 5).1, (L13 6).1, (L13 7).1, (L13 8).1, (L13 9).1]) ++ [(q14, .inl (c14, 6, .inl (fun _ => 0)))]) : va_W) H := hP
  replace hD : va_D A ((h0, .inr (9, [.ref (L1 0).1, .ref (L2 0).1, .ref (L3 0).1, .ref (L4 0).1, .ref (L5 0).1, .ref q6, .ref q10, .ref (L11 0).1, .ref (L12 0).1, .ref (L13 0).1, .null, .null, .null, .int 0, .int 0, .long 0, .long 0])) :: (w8a L1 (lgt [(L1 2).1, (L1 3).1, (L1 4).1, (L1 5).1, (L1 6).1, (L1 7).1]) ++ w8b L2 (lgt [(L2 2).1, (L2 3).1, (L2 4).1, (L2 5).1]) ++ w7 L3 ++ w4 L4 ++ w3 L5 ++ [(q6, .inl (c6, 3, .inr (.inr (.inr (.inr (lgt [(L7 0).1, (L8 0).1, (L9 0).1]))))))] ++ w3 L7 ++ w3 L8 ++ w3 L9 ++ [(q10, .inl (c10, 3, .inl (fun _ => 0)))] ++ w0 L11 (lgt [(L11 3).1, (L11 4).1, (L11 5).1, (L11 6).1, (L11 7).1]) ++ w5 L12 (lgt [(L12 7).1, (L12 8).1, (L12 9).1, (L12 10).1, (L12 11).1]) ++ w1 L13 (lgt [(L13 5).1, (L13 6).1, (L13 7).1, (L13 8).1, (L13 9).1]) ++ [(q14, .inl (c14, 6, .inl (fun _ => 0)))]) : va_W) := hD
  replace hK : va_K D CLS ([] ++ kC8a L1 ++ kC8b L2 ++ kC7 L3 ++ kC4 L4 ++ kC3 L5 ++ [(c6, .object "RiverDays$Deeds")] ++ kC3 L7 ++ kC3 L8 ++ kC3 L9 ++ [(c10, .boolean)] ++ kC0 L11 ++ kC5 L12 ++ kC1 L13 ++ [(c14, .int)]) s := hK
  refine va_putF (D := D) (ci := 9) (v := .ref q14) (ty := .array .int) (C := RX9) (T := TX9) (N := 17) hx hb hts uX9 tyX9 tyX9_ok nmX9 hown hK hP hD hS 0 rfl rfl 10 (by decide) (hts _ k382) (fun _ h9 => h9) rfl hin rfl (by decide +kernel) rfl rfl (Nat.le_of_ble_eq_true rfl) (show decode cX9_init 149 = .ok (.putfield 71, 3) by decide +kernel) (fun H locs hP hD hS => ?_)
  rename_i z0 z1 z2 z3 z4
  clear z0 z1 z2 z3 z4
  replace hP : va_P D CLS ((h0, .inr (9, [.ref (L1 0).1, .ref (L2 0).1, .ref (L3 0).1, .ref (L4 0).1, .ref (L5 0).1, .ref q6, .ref q10, .ref (L11 0).1, .ref (L12 0).1, .ref (L13 0).1, .ref q14, .null, .null, .int 0, .int 0, .long 0, .long 0])) :: (w8a L1 (lgt [(L1 2).1, (L1 3).1, (L1 4).1, (L1 5).1, (L1 6).1, (L1 7).1]) ++ w8b L2 (lgt [(L2 2).1, (L2 3).1, (L2 4).1, (L2 5).1]) ++ w7 L3 ++ w4 L4 ++ w3 L5 ++ [(q6, .inl (c6, 3, .inr (.inr (.inr (.inr (lgt [(L7 0).1, (L8 0).1, (L9 0).1]))))))] ++ w3 L7 ++ w3 L8 ++ w3 L9 ++ [(q10, .inl (c10, 3, .inl (fun _ => 0)))] ++ w0 L11 (lgt [(L11 3).1, (L11 4).1, (L11 5).1, (L11 6).1, (L11 7).1]) ++ w5 L12 (lgt [(L12 7).1, (L12 8).1, (L12 9).1, (L12 10).1, (L12 11).1]) ++ w1 L13 (lgt [(L13 5).1, (L13 6).1, (L13 7).1, (L13 8).1, (L13 9).1]) ++ [(q14, .inl (c14, 6, .inl (fun _ => 0)))]) : va_W) H := hP
  replace hD : va_D A ((h0, .inr (9, [.ref (L1 0).1, .ref (L2 0).1, .ref (L3 0).1, .ref (L4 0).1, .ref (L5 0).1, .ref q6, .ref q10, .ref (L11 0).1, .ref (L12 0).1, .ref (L13 0).1, .ref q14, .null, .null, .int 0, .int 0, .long 0, .long 0])) :: (w8a L1 (lgt [(L1 2).1, (L1 3).1, (L1 4).1, (L1 5).1, (L1 6).1, (L1 7).1]) ++ w8b L2 (lgt [(L2 2).1, (L2 3).1, (L2 4).1, (L2 5).1]) ++ w7 L3 ++ w4 L4 ++ w3 L5 ++ [(q6, .inl (c6, 3, .inr (.inr (.inr (.inr (lgt [(L7 0).1, (L8 0).1, (L9 0).1]))))))] ++ w3 L7 ++ w3 L8 ++ w3 L9 ++ [(q10, .inl (c10, 3, .inl (fun _ => 0)))] ++ w0 L11 (lgt [(L11 3).1, (L11 4).1, (L11 5).1, (L11 6).1, (L11 7).1]) ++ w5 L12 (lgt [(L12 7).1, (L12 8).1, (L12 9).1, (L12 10).1, (L12 11).1]) ++ w1 L13 (lgt [(L13 5).1, (L13 6).1, (L13 7).1, (L13 8).1, (L13 9).1]) ++ [(q14, .inl (c14, 6, .inl (fun _ => 0)))]) : va_W) := hD
  refine W.eq (g2 := F0 m 152 ls []) rfl ?_
  refine lv_aload_n hx hb (show decode cX9_init 152 = .ok (.aload_n 0, 1) by decide +kernel) rfl (lv_at hl 0 rfl) ?_
  refine va_new (D := D) (ci := 2) (fs := [.int 0, .int 0, .int 0, .int 0, .null, .null, .null, .null, .null, .null]) (C := RX2) (T := TX2) (N := 10) hx hb hts uX2 tyX2 tyX2_ok hown (hts _ k317) (hts _ k318) (hts _ g90) hK hP hD hS hA rfl dfX2 (Nat.le_of_ble_eq_true rfl) (Nat.le_of_ble_eq_true rfl) (show decode cX9_init 153 = .ok (.new 75, 3) by decide +kernel) (fun q15 H hP hD hS => ?_)
  rename_i z0 z1 z2 z3
  clear z0 z1 z2 z3
  refine W.widen (k := 73) (n := 1164) (Nat.le_of_ble_eq_true rfl) (Nat.le_of_ble_eq_true rfl) ?_
  refine lv_dup hx hb (show decode cX9_init 156 = .ok (.dup, 1) by decide +kernel) rfl ?_
  have hFc := vfree hD hS hA
  refine va_callv (va_runIN (As := []) (rest := [.ref q15, .ref h0]) ⟨hx, hb, hml, hown, hts⟩ (cn2 l D q15 H.size) ⟨va_cnB 0 hts (gw_in k321) rfl rfl rfl (hXW.2.2.2.2.2.2.2.2.1) (hts _ g90) (by decide +kernel) ⟨(Nat.le_of_ble_eq_true rfl), (Nat.le_of_ble_eq_true rfl)⟩, rfl, hts _ k320⟩ ⟨fun a U g mk q => by obtain ⟨q0, q1, qP, qK, qD, qX⟩ := q; exact ⟨q0, q1, qP, va_K.moved (u := U) (U := U.calling g mk a) (Vm.Alike.refl U.vm) qK, qD, qX.call⟩, fun U hU hW => ⟨rfl, by rw [hU], by rw [hU]; exact vP_r hP, va_K.moved hW.alike (hK.sub (tys' := []) [] rfl), (vD_r hD).weaken (fun _ _ _ _ => trivial), hXW.warm hW⟩⟩ rfl rfl hl.1 rfl (lv_room (Nat.le_of_ble_eq_true rfl)) (show decode cX9_init 157 = .ok (.invokespecial 77, 3) by decide +kernel) ⟨(Nat.le_of_ble_eq_true rfl), (Nat.le_of_ble_eq_true rfl)⟩) hS (fun q _ h => hFc q h) hFc (fun L15 t H1 locs ht hvm hw hB hz1 hk1 hS => ?_)
  obtain ⟨hP1, hK1, hD1⟩ := hB
  rw [ht] at hP1
  replace hK1 := va_K.moved hvm.symm hK1
  replace hP := vjoin hP hD hk1 hFc hP1 hD1
  clear hD
  obtain ⟨hP, hD⟩ := hP
  replace hK := hK.app hK1
  clear hP1 hK1 hD1 hk1 hz1 hFc ht hvm
  rename_i z0 z1
  clear z0 z1
  clear H
  clear t
  generalize H1 = H at hP hS ⊢
  refine W.widen (k := 79) (n := 1204) (Nat.le_of_ble_eq_true rfl) (Nat.le_of_ble_eq_true rfl) ?_
  rw [← hw]
  clear hw
  replace hP : va_P D CLS ((h0, .inr (9, [.ref (L1 0).1, .ref (L2 0).1, .ref (L3 0).1, .ref (L4 0).1, .ref (L5 0).1, .ref q6, .ref q10, .ref (L11 0).1, .ref (L12 0).1, .ref (L13 0).1, .ref q14, .null, .null, .int 0, .int 0, .long 0, .long 0])) :: (w8a L1 (lgt [(L1 2).1, (L1 3).1, (L1 4).1, (L1 5).1, (L1 6).1, (L1 7).1]) ++ w8b L2 (lgt [(L2 2).1, (L2 3).1, (L2 4).1, (L2 5).1]) ++ w7 L3 ++ w4 L4 ++ w3 L5 ++ [(q6, .inl (c6, 3, .inr (.inr (.inr (.inr (lgt [(L7 0).1, (L8 0).1, (L9 0).1]))))))] ++ w3 L7 ++ w3 L8 ++ w3 L9 ++ [(q10, .inl (c10, 3, .inl (fun _ => 0)))] ++ w0 L11 (lgt [(L11 3).1, (L11 4).1, (L11 5).1, (L11 6).1, (L11 7).1]) ++ w5 L12 (lgt [(L12 7).1, (L12 8).1, (L12 9).1, (L12 10).1, (L12 11).1]) ++ w1 L13 (lgt [(L13 5).1, (L13 6).1, (L13 7).1, (L13 8).1, (L13 9).1]) ++ [(q14, .inl (c14, 6, .inl (fun _ => 0)))] ++ w2 L15) : va_W) H := hP
  replace hD : va_D A ((h0, .inr (9, [.ref (L1 0).1, .ref (L2 0).1, .ref (L3 0).1, .ref (L4 0).1, .ref (L5 0).1, .ref q6, .ref q10, .ref (L11 0).1, .ref (L12 0).1, .ref (L13 0).1, .ref q14, .null, .null, .int 0, .int 0, .long 0, .long 0])) :: (w8a L1 (lgt [(L1 2).1, (L1 3).1, (L1 4).1, (L1 5).1, (L1 6).1, (L1 7).1]) ++ w8b L2 (lgt [(L2 2).1, (L2 3).1, (L2 4).1, (L2 5).1]) ++ w7 L3 ++ w4 L4 ++ w3 L5 ++ [(q6, .inl (c6, 3, .inr (.inr (.inr (.inr (lgt [(L7 0).1, (L8 0).1, (L9 0).1]))))))] ++ w3 L7 ++ w3 L8 ++ w3 L9 ++ [(q10, .inl (c10, 3, .inl (fun _ => 0)))] ++ w0 L11 (lgt [(L11 3).1, (L11 4).1, (L11 5).1, (L11 6).1, (L11 7).1]) ++ w5 L12 (lgt [(L12 7).1, (L12 8).1, (L12 9).1, (L12 10).1, (L12 11).1]) ++ w1 L13 (lgt [(L13 5).1, (L13 6).1, (L13 7).1, (L13 8).1, (L13 9).1]) ++ [(q14, .inl (c14, 6, .inl (fun _ => 0)))] ++ w2 L15) : va_W) := hD
  replace hK : va_K D CLS ([] ++ kC8a L1 ++ kC8b L2 ++ kC7 L3 ++ kC4 L4 ++ kC3 L5 ++ [(c6, .object "RiverDays$Deeds")] ++ kC3 L7 ++ kC3 L8 ++ kC3 L9 ++ [(c10, .boolean)] ++ kC0 L11 ++ kC5 L12 ++ kC1 L13 ++ [(c14, .int)] ++ kC2 L15) s := hK
  refine va_put (D := D) (ci := 9) (v := .ref (L15 0).1) (ty := .object "RiverDays$Course") (C := RX9) (T := TX9) (N := 17) hx hb hts uX9 tyX9 tyX9_ok nmX9 hown hK hP hD hS 0 rfl rfl 11 (by decide) (hts _ k383) (fun _ h9 => h9) rfl (by decide +kernel) rfl rfl (Nat.le_of_ble_eq_true rfl) (show decode cX9_init 160 = .ok (.putfield 78, 3) by decide +kernel) (fun H locs hP hD hS => ?_)
  rename_i z0 z1 z2 z3 z4
  clear z0 z1 z2 z3 z4
  replace hP : va_P D CLS ((h0, .inr (9, [.ref (L1 0).1, .ref (L2 0).1, .ref (L3 0).1, .ref (L4 0).1, .ref (L5 0).1, .ref q6, .ref q10, .ref (L11 0).1, .ref (L12 0).1, .ref (L13 0).1, .ref q14, .ref (L15 0).1, .null, .int 0, .int 0, .long 0, .long 0])) :: (w8a L1 (lgt [(L1 2).1, (L1 3).1, (L1 4).1, (L1 5).1, (L1 6).1, (L1 7).1]) ++ w8b L2 (lgt [(L2 2).1, (L2 3).1, (L2 4).1, (L2 5).1]) ++ w7 L3 ++ w4 L4 ++ w3 L5 ++ [(q6, .inl (c6, 3, .inr (.inr (.inr (.inr (lgt [(L7 0).1, (L8 0).1, (L9 0).1]))))))] ++ w3 L7 ++ w3 L8 ++ w3 L9 ++ [(q10, .inl (c10, 3, .inl (fun _ => 0)))] ++ w0 L11 (lgt [(L11 3).1, (L11 4).1, (L11 5).1, (L11 6).1, (L11 7).1]) ++ w5 L12 (lgt [(L12 7).1, (L12 8).1, (L12 9).1, (L12 10).1, (L12 11).1]) ++ w1 L13 (lgt [(L13 5).1, (L13 6).1, (L13 7).1, (L13 8).1, (L13 9).1]) ++ [(q14, .inl (c14, 6, .inl (fun _ => 0)))] ++ w2 L15) : va_W) H := hP
  replace hD : va_D A ((h0, .inr (9, [.ref (L1 0).1, .ref (L2 0).1, .ref (L3 0).1, .ref (L4 0).1, .ref (L5 0).1, .ref q6, .ref q10, .ref (L11 0).1, .ref (L12 0).1, .ref (L13 0).1, .ref q14, .ref (L15 0).1, .null, .int 0, .int 0, .long 0, .long 0])) :: (w8a L1 (lgt [(L1 2).1, (L1 3).1, (L1 4).1, (L1 5).1, (L1 6).1, (L1 7).1]) ++ w8b L2 (lgt [(L2 2).1, (L2 3).1, (L2 4).1, (L2 5).1]) ++ w7 L3 ++ w4 L4 ++ w3 L5 ++ [(q6, .inl (c6, 3, .inr (.inr (.inr (.inr (lgt [(L7 0).1, (L8 0).1, (L9 0).1]))))))] ++ w3 L7 ++ w3 L8 ++ w3 L9 ++ [(q10, .inl (c10, 3, .inl (fun _ => 0)))] ++ w0 L11 (lgt [(L11 3).1, (L11 4).1, (L11 5).1, (L11 6).1, (L11 7).1]) ++ w5 L12 (lgt [(L12 7).1, (L12 8).1, (L12 9).1, (L12 10).1, (L12 11).1]) ++ w1 L13 (lgt [(L13 5).1, (L13 6).1, (L13 7).1, (L13 8).1, (L13 9).1]) ++ [(q14, .inl (c14, 6, .inl (fun _ => 0)))] ++ w2 L15) : va_W) := hD
  refine W.eq (g2 := F0 m 163 ls []) rfl ?_
  refine lv_aload_n hx hb (show decode cX9_init 163 = .ok (.aload_n 0, 1) by decide +kernel) rfl (lv_at hl 0 rfl) ?_
  refine va_new (D := D) (ci := 2) (fs := [.int 0, .int 0, .int 0, .int 0, .null, .null, .null, .null, .null, .null]) (C := RX2) (T := TX2) (N := 10) hx hb hts uX2 tyX2 tyX2_ok hown (hts _ k317) (hts _ k318) (hts _ g90) hK hP hD hS hA rfl dfX2 (Nat.le_of_ble_eq_true rfl) (Nat.le_of_ble_eq_true rfl) (show decode cX9_init 164 = .ok (.new 75, 3) by decide +kernel) (fun q16 H hP hD hS => ?_)
  rename_i z0 z1 z2 z3
  clear z0 z1 z2 z3
  refine W.widen (k := 80) (n := 1214) (Nat.le_of_ble_eq_true rfl) (Nat.le_of_ble_eq_true rfl) ?_
  refine lv_dup hx hb (show decode cX9_init 167 = .ok (.dup, 1) by decide +kernel) rfl ?_
  have hFc := vfree hD hS hA
  refine va_callv (va_runIN (As := []) (rest := [.ref q16, .ref h0]) ⟨hx, hb, hml, hown, hts⟩ (cn2 l D q16 H.size) ⟨va_cnB 0 hts (gw_in k321) rfl rfl rfl (hXW.2.2.2.2.2.2.2.2.1) (hts _ g90) (by decide +kernel) ⟨(Nat.le_of_ble_eq_true rfl), (Nat.le_of_ble_eq_true rfl)⟩, rfl, hts _ k320⟩ ⟨fun a U g mk q => by obtain ⟨q0, q1, qP, qK, qD, qX⟩ := q; exact ⟨q0, q1, qP, va_K.moved (u := U) (U := U.calling g mk a) (Vm.Alike.refl U.vm) qK, qD, qX.call⟩, fun U hU hW => ⟨rfl, by rw [hU], by rw [hU]; exact vP_r hP, va_K.moved hW.alike (hK.sub (tys' := []) [] rfl), (vD_r hD).weaken (fun _ _ _ _ => trivial), hXW.warm hW⟩⟩ rfl rfl hl.1 rfl (lv_room (Nat.le_of_ble_eq_true rfl)) (show decode cX9_init 168 = .ok (.invokespecial 77, 3) by decide +kernel) ⟨(Nat.le_of_ble_eq_true rfl), (Nat.le_of_ble_eq_true rfl)⟩) hS (fun q _ h => hFc q h) hFc (fun L16 t H1 locs ht hvm hw hB hz1 hk1 hS => ?_)
  obtain ⟨hP1, hK1, hD1⟩ := hB
  rw [ht] at hP1
  replace hK1 := va_K.moved hvm.symm hK1
  replace hP := vjoin hP hD hk1 hFc hP1 hD1
  clear hD
  obtain ⟨hP, hD⟩ := hP
  replace hK := hK.app hK1
  clear hP1 hK1 hD1 hk1 hz1 hFc ht hvm
  rename_i z0 z1
  clear z0 z1
  clear H
  clear t
  generalize H1 = H at hP hS ⊢
  refine W.widen (k := 86) (n := 1254) (Nat.le_of_ble_eq_true rfl) (Nat.le_of_ble_eq_true rfl) ?_
  rw [← hw]
  clear hw
  replace hP : va_P D CLS ((h0, .inr (9, [.ref (L1 0).1, .ref (L2 0).1, .ref (L3 0).1, .ref (L4 0).1, .ref (L5 0).1, .ref q6, .ref q10, .ref (L11 0).1, .ref (L12 0).1, .ref (L13 0).1, .ref q14, .ref (L15 0).1, .null, .int 0, .int 0, .long 0, .long 0])) :: (w8a L1 (lgt [(L1 2).1, (L1 3).1, (L1 4).1, (L1 5).1, (L1 6).1, (L1 7).1]) ++ w8b L2 (lgt [(L2 2).1, (L2 3).1, (L2 4).1, (L2 5).1]) ++ w7 L3 ++ w4 L4 ++ w3 L5 ++ [(q6, .inl (c6, 3, .inr (.inr (.inr (.inr (lgt [(L7 0).1, (L8 0).1, (L9 0).1]))))))] ++ w3 L7 ++ w3 L8 ++ w3 L9 ++ [(q10, .inl (c10, 3, .inl (fun _ => 0)))] ++ w0 L11 (lgt [(L11 3).1, (L11 4).1, (L11 5).1, (L11 6).1, (L11 7).1]) ++ w5 L12 (lgt [(L12 7).1, (L12 8).1, (L12 9).1, (L12 10).1, (L12 11).1]) ++ w1 L13 (lgt [(L13 5).1, (L13 6).1, (L13 7).1, (L13 8).1, (L13 9).1]) ++ [(q14, .inl (c14, 6, .inl (fun _ => 0)))] ++ w2 L15 ++ w2 L16) : va_W) H := hP
  replace hD : va_D A ((h0, .inr (9, [.ref (L1 0).1, .ref (L2 0).1, .ref (L3 0).1, .ref (L4 0).1, .ref (L5 0).1, .ref q6, .ref q10, .ref (L11 0).1, .ref (L12 0).1, .ref (L13 0).1, .ref q14, .ref (L15 0).1, .null, .int 0, .int 0, .long 0, .long 0])) :: (w8a L1 (lgt [(L1 2).1, (L1 3).1, (L1 4).1, (L1 5).1, (L1 6).1, (L1 7).1]) ++ w8b L2 (lgt [(L2 2).1, (L2 3).1, (L2 4).1, (L2 5).1]) ++ w7 L3 ++ w4 L4 ++ w3 L5 ++ [(q6, .inl (c6, 3, .inr (.inr (.inr (.inr (lgt [(L7 0).1, (L8 0).1, (L9 0).1]))))))] ++ w3 L7 ++ w3 L8 ++ w3 L9 ++ [(q10, .inl (c10, 3, .inl (fun _ => 0)))] ++ w0 L11 (lgt [(L11 3).1, (L11 4).1, (L11 5).1, (L11 6).1, (L11 7).1]) ++ w5 L12 (lgt [(L12 7).1, (L12 8).1, (L12 9).1, (L12 10).1, (L12 11).1]) ++ w1 L13 (lgt [(L13 5).1, (L13 6).1, (L13 7).1, (L13 8).1, (L13 9).1]) ++ [(q14, .inl (c14, 6, .inl (fun _ => 0)))] ++ w2 L15 ++ w2 L16) : va_W) := hD
  replace hK : va_K D CLS ([] ++ kC8a L1 ++ kC8b L2 ++ kC7 L3 ++ kC4 L4 ++ kC3 L5 ++ [(c6, .object "RiverDays$Deeds")] ++ kC3 L7 ++ kC3 L8 ++ kC3 L9 ++ [(c10, .boolean)] ++ kC0 L11 ++ kC5 L12 ++ kC1 L13 ++ [(c14, .int)] ++ kC2 L15 ++ kC2 L16) s := hK
  refine va_put (D := D) (ci := 9) (v := .ref (L16 0).1) (ty := .object "RiverDays$Course") (C := RX9) (T := TX9) (N := 17) hx hb hts uX9 tyX9 tyX9_ok nmX9 hown hK hP hD hS 0 rfl rfl 12 (by decide) (hts _ k384) (fun _ h9 => h9) rfl (by decide +kernel) rfl rfl (Nat.le_of_ble_eq_true rfl) (show decode cX9_init 171 = .ok (.putfield 82, 3) by decide +kernel) (fun H locs hP hD hS => ?_)
  rename_i z0 z1 z2 z3 z4
  clear z0 z1 z2 z3 z4
  replace hP : va_P D CLS ((h0, .inr (9, [.ref (L1 0).1, .ref (L2 0).1, .ref (L3 0).1, .ref (L4 0).1, .ref (L5 0).1, .ref q6, .ref q10, .ref (L11 0).1, .ref (L12 0).1, .ref (L13 0).1, .ref q14, .ref (L15 0).1, .ref (L16 0).1, .int 0, .int 0, .long 0, .long 0])) :: (w8a L1 (lgt [(L1 2).1, (L1 3).1, (L1 4).1, (L1 5).1, (L1 6).1, (L1 7).1]) ++ w8b L2 (lgt [(L2 2).1, (L2 3).1, (L2 4).1, (L2 5).1]) ++ w7 L3 ++ w4 L4 ++ w3 L5 ++ [(q6, .inl (c6, 3, .inr (.inr (.inr (.inr (lgt [(L7 0).1, (L8 0).1, (L9 0).1]))))))] ++ w3 L7 ++ w3 L8 ++ w3 L9 ++ [(q10, .inl (c10, 3, .inl (fun _ => 0)))] ++ w0 L11 (lgt [(L11 3).1, (L11 4).1, (L11 5).1, (L11 6).1, (L11 7).1]) ++ w5 L12 (lgt [(L12 7).1, (L12 8).1, (L12 9).1, (L12 10).1, (L12 11).1]) ++ w1 L13 (lgt [(L13 5).1, (L13 6).1, (L13 7).1, (L13 8).1, (L13 9).1]) ++ [(q14, .inl (c14, 6, .inl (fun _ => 0)))] ++ w2 L15 ++ w2 L16) : va_W) H := hP
  replace hD : va_D A ((h0, .inr (9, [.ref (L1 0).1, .ref (L2 0).1, .ref (L3 0).1, .ref (L4 0).1, .ref (L5 0).1, .ref q6, .ref q10, .ref (L11 0).1, .ref (L12 0).1, .ref (L13 0).1, .ref q14, .ref (L15 0).1, .ref (L16 0).1, .int 0, .int 0, .long 0, .long 0])) :: (w8a L1 (lgt [(L1 2).1, (L1 3).1, (L1 4).1, (L1 5).1, (L1 6).1, (L1 7).1]) ++ w8b L2 (lgt [(L2 2).1, (L2 3).1, (L2 4).1, (L2 5).1]) ++ w7 L3 ++ w4 L4 ++ w3 L5 ++ [(q6, .inl (c6, 3, .inr (.inr (.inr (.inr (lgt [(L7 0).1, (L8 0).1, (L9 0).1]))))))] ++ w3 L7 ++ w3 L8 ++ w3 L9 ++ [(q10, .inl (c10, 3, .inl (fun _ => 0)))] ++ w0 L11 (lgt [(L11 3).1, (L11 4).1, (L11 5).1, (L11 6).1, (L11 7).1]) ++ w5 L12 (lgt [(L12 7).1, (L12 8).1, (L12 9).1, (L12 10).1, (L12 11).1]) ++ w1 L13 (lgt [(L13 5).1, (L13 6).1, (L13 7).1, (L13 8).1, (L13 9).1]) ++ [(q14, .inl (c14, 6, .inl (fun _ => 0)))] ++ w2 L15 ++ w2 L16) : va_W) := hD
  refine W.eq (g2 := F0 m 174 ls []) rfl ?_
  refine lv_aload_n hx hb (show decode cX9_init 174 = .ok (.aload_n 0, 1) by decide +kernel) rfl (lv_at hl 0 rfl) ?_
  refine lv_iconst (v := 0) hx hb (show decode cX9_init 175 = .ok (.iconst 0, 1) by decide +kernel) (by decide) ?_
  refine va_put (D := D) (ci := 9) (v := .int 0) (ty := .int) (C := RX9) (T := TX9) (N := 17) hx hb hts uX9 tyX9 tyX9_ok nmX9 hown hK hP hD hS 0 rfl rfl 13 (by decide) (hts _ k385) (fun _ h9 => h9) rfl (by decide +kernel) rfl rfl (Nat.le_of_ble_eq_true rfl) (show decode cX9_init 176 = .ok (.putfield 85, 3) by decide +kernel) (fun H locs hP hD hS => ?_)
  rename_i z0 z1 z2 z3 z4
  clear z0 z1 z2 z3 z4
  replace hP : va_P D CLS ((h0, .inr (9, [.ref (L1 0).1, .ref (L2 0).1, .ref (L3 0).1, .ref (L4 0).1, .ref (L5 0).1, .ref q6, .ref q10, .ref (L11 0).1, .ref (L12 0).1, .ref (L13 0).1, .ref q14, .ref (L15 0).1, .ref (L16 0).1, .int 0, .int 0, .long 0, .long 0])) :: (w8a L1 (lgt [(L1 2).1, (L1 3).1, (L1 4).1, (L1 5).1, (L1 6).1, (L1 7).1]) ++ w8b L2 (lgt [(L2 2).1, (L2 3).1, (L2 4).1, (L2 5).1]) ++ w7 L3 ++ w4 L4 ++ w3 L5 ++ [(q6, .inl (c6, 3, .inr (.inr (.inr (.inr (lgt [(L7 0).1, (L8 0).1, (L9 0).1]))))))] ++ w3 L7 ++ w3 L8 ++ w3 L9 ++ [(q10, .inl (c10, 3, .inl (fun _ => 0)))] ++ w0 L11 (lgt [(L11 3).1, (L11 4).1, (L11 5).1, (L11 6).1, (L11 7).1]) ++ w5 L12 (lgt [(L12 7).1, (L12 8).1, (L12 9).1, (L12 10).1, (L12 11).1]) ++ w1 L13 (lgt [(L13 5).1, (L13 6).1, (L13 7).1, (L13 8).1, (L13 9).1]) ++ [(q14, .inl (c14, 6, .inl (fun _ => 0)))] ++ w2 L15 ++ w2 L16) : va_W) H := hP
  replace hD : va_D A ((h0, .inr (9, [.ref (L1 0).1, .ref (L2 0).1, .ref (L3 0).1, .ref (L4 0).1, .ref (L5 0).1, .ref q6, .ref q10, .ref (L11 0).1, .ref (L12 0).1, .ref (L13 0).1, .ref q14, .ref (L15 0).1, .ref (L16 0).1, .int 0, .int 0, .long 0, .long 0])) :: (w8a L1 (lgt [(L1 2).1, (L1 3).1, (L1 4).1, (L1 5).1, (L1 6).1, (L1 7).1]) ++ w8b L2 (lgt [(L2 2).1, (L2 3).1, (L2 4).1, (L2 5).1]) ++ w7 L3 ++ w4 L4 ++ w3 L5 ++ [(q6, .inl (c6, 3, .inr (.inr (.inr (.inr (lgt [(L7 0).1, (L8 0).1, (L9 0).1]))))))] ++ w3 L7 ++ w3 L8 ++ w3 L9 ++ [(q10, .inl (c10, 3, .inl (fun _ => 0)))] ++ w0 L11 (lgt [(L11 3).1, (L11 4).1, (L11 5).1, (L11 6).1, (L11 7).1]) ++ w5 L12 (lgt [(L12 7).1, (L12 8).1, (L12 9).1, (L12 10).1, (L12 11).1]) ++ w1 L13 (lgt [(L13 5).1, (L13 6).1, (L13 7).1, (L13 8).1, (L13 9).1]) ++ [(q14, .inl (c14, 6, .inl (fun _ => 0)))] ++ w2 L15 ++ w2 L16) : va_W) := hD
  refine W.eq (g2 := F0 m 179 ls []) rfl ?_
  refine lv_aload_n hx hb (show decode cX9_init 179 = .ok (.aload_n 0, 1) by decide +kernel) rfl (lv_at hl 0 rfl) ?_
  refine lv_iconst (v := 0) hx hb (show decode cX9_init 180 = .ok (.iconst 0, 1) by decide +kernel) (by decide) ?_
  refine va_put (D := D) (ci := 9) (v := .int 0) (ty := .int) (C := RX9) (T := TX9) (N := 17) hx hb hts uX9 tyX9 tyX9_ok nmX9 hown hK hP hD hS 0 rfl rfl 14 (by decide) (hts _ k386) (fun _ h9 => h9) rfl (by decide +kernel) rfl rfl (Nat.le_of_ble_eq_true rfl) (show decode cX9_init 181 = .ok (.putfield 89, 3) by decide +kernel) (fun H locs hP hD hS => ?_)
  rename_i z0 z1 z2 z3 z4
  clear z0 z1 z2 z3 z4
  replace hP : va_P D CLS ((h0, .inr (9, [.ref (L1 0).1, .ref (L2 0).1, .ref (L3 0).1, .ref (L4 0).1, .ref (L5 0).1, .ref q6, .ref q10, .ref (L11 0).1, .ref (L12 0).1, .ref (L13 0).1, .ref q14, .ref (L15 0).1, .ref (L16 0).1, .int 0, .int 0, .long 0, .long 0])) :: (w8a L1 (lgt [(L1 2).1, (L1 3).1, (L1 4).1, (L1 5).1, (L1 6).1, (L1 7).1]) ++ w8b L2 (lgt [(L2 2).1, (L2 3).1, (L2 4).1, (L2 5).1]) ++ w7 L3 ++ w4 L4 ++ w3 L5 ++ [(q6, .inl (c6, 3, .inr (.inr (.inr (.inr (lgt [(L7 0).1, (L8 0).1, (L9 0).1]))))))] ++ w3 L7 ++ w3 L8 ++ w3 L9 ++ [(q10, .inl (c10, 3, .inl (fun _ => 0)))] ++ w0 L11 (lgt [(L11 3).1, (L11 4).1, (L11 5).1, (L11 6).1, (L11 7).1]) ++ w5 L12 (lgt [(L12 7).1, (L12 8).1, (L12 9).1, (L12 10).1, (L12 11).1]) ++ w1 L13 (lgt [(L13 5).1, (L13 6).1, (L13 7).1, (L13 8).1, (L13 9).1]) ++ [(q14, .inl (c14, 6, .inl (fun _ => 0)))] ++ w2 L15 ++ w2 L16) : va_W) H := hP
  replace hD : va_D A ((h0, .inr (9, [.ref (L1 0).1, .ref (L2 0).1, .ref (L3 0).1, .ref (L4 0).1, .ref (L5 0).1, .ref q6, .ref q10, .ref (L11 0).1, .ref (L12 0).1, .ref (L13 0).1, .ref q14, .ref (L15 0).1, .ref (L16 0).1, .int 0, .int 0, .long 0, .long 0])) :: (w8a L1 (lgt [(L1 2).1, (L1 3).1, (L1 4).1, (L1 5).1, (L1 6).1, (L1 7).1]) ++ w8b L2 (lgt [(L2 2).1, (L2 3).1, (L2 4).1, (L2 5).1]) ++ w7 L3 ++ w4 L4 ++ w3 L5 ++ [(q6, .inl (c6, 3, .inr (.inr (.inr (.inr (lgt [(L7 0).1, (L8 0).1, (L9 0).1]))))))] ++ w3 L7 ++ w3 L8 ++ w3 L9 ++ [(q10, .inl (c10, 3, .inl (fun _ => 0)))] ++ w0 L11 (lgt [(L11 3).1, (L11 4).1, (L11 5).1, (L11 6).1, (L11 7).1]) ++ w5 L12 (lgt [(L12 7).1, (L12 8).1, (L12 9).1, (L12 10).1, (L12 11).1]) ++ w1 L13 (lgt [(L13 5).1, (L13 6).1, (L13 7).1, (L13 8).1, (L13 9).1]) ++ [(q14, .inl (c14, 6, .inl (fun _ => 0)))] ++ w2 L15 ++ w2 L16) : va_W) := hD
  refine W.eq (g2 := F0 m 184 ls []) rfl ?_
  refine lv_aload_n hx hb (show decode cX9_init 184 = .ok (.aload_n 0, 1) by decide +kernel) rfl (lv_at hl 0 rfl) ?_
  refine lv_lconst (v := 0) hx hb (show decode cX9_init 185 = .ok (.lconst 0, 1) by decide +kernel) (by decide) ?_
  refine va_put (D := D) (ci := 9) (v := .long 0) (ty := .long) (C := RX9) (T := TX9) (N := 17) hx hb hts uX9 tyX9 tyX9_ok nmX9 hown hK hP hD hS 0 rfl rfl 15 (by decide) (hts _ k387) (fun _ h9 => h9) rfl (by decide +kernel) rfl rfl (Nat.le_of_ble_eq_true rfl) (show decode cX9_init 186 = .ok (.putfield 92, 3) by decide +kernel) (fun H locs hP hD hS => ?_)
  rename_i z0 z1 z2 z3 z4
  clear z0 z1 z2 z3 z4
  replace hP : va_P D CLS ((h0, .inr (9, [.ref (L1 0).1, .ref (L2 0).1, .ref (L3 0).1, .ref (L4 0).1, .ref (L5 0).1, .ref q6, .ref q10, .ref (L11 0).1, .ref (L12 0).1, .ref (L13 0).1, .ref q14, .ref (L15 0).1, .ref (L16 0).1, .int 0, .int 0, .long 0, .long 0])) :: (w8a L1 (lgt [(L1 2).1, (L1 3).1, (L1 4).1, (L1 5).1, (L1 6).1, (L1 7).1]) ++ w8b L2 (lgt [(L2 2).1, (L2 3).1, (L2 4).1, (L2 5).1]) ++ w7 L3 ++ w4 L4 ++ w3 L5 ++ [(q6, .inl (c6, 3, .inr (.inr (.inr (.inr (lgt [(L7 0).1, (L8 0).1, (L9 0).1]))))))] ++ w3 L7 ++ w3 L8 ++ w3 L9 ++ [(q10, .inl (c10, 3, .inl (fun _ => 0)))] ++ w0 L11 (lgt [(L11 3).1, (L11 4).1, (L11 5).1, (L11 6).1, (L11 7).1]) ++ w5 L12 (lgt [(L12 7).1, (L12 8).1, (L12 9).1, (L12 10).1, (L12 11).1]) ++ w1 L13 (lgt [(L13 5).1, (L13 6).1, (L13 7).1, (L13 8).1, (L13 9).1]) ++ [(q14, .inl (c14, 6, .inl (fun _ => 0)))] ++ w2 L15 ++ w2 L16) : va_W) H := hP
  replace hD : va_D A ((h0, .inr (9, [.ref (L1 0).1, .ref (L2 0).1, .ref (L3 0).1, .ref (L4 0).1, .ref (L5 0).1, .ref q6, .ref q10, .ref (L11 0).1, .ref (L12 0).1, .ref (L13 0).1, .ref q14, .ref (L15 0).1, .ref (L16 0).1, .int 0, .int 0, .long 0, .long 0])) :: (w8a L1 (lgt [(L1 2).1, (L1 3).1, (L1 4).1, (L1 5).1, (L1 6).1, (L1 7).1]) ++ w8b L2 (lgt [(L2 2).1, (L2 3).1, (L2 4).1, (L2 5).1]) ++ w7 L3 ++ w4 L4 ++ w3 L5 ++ [(q6, .inl (c6, 3, .inr (.inr (.inr (.inr (lgt [(L7 0).1, (L8 0).1, (L9 0).1]))))))] ++ w3 L7 ++ w3 L8 ++ w3 L9 ++ [(q10, .inl (c10, 3, .inl (fun _ => 0)))] ++ w0 L11 (lgt [(L11 3).1, (L11 4).1, (L11 5).1, (L11 6).1, (L11 7).1]) ++ w5 L12 (lgt [(L12 7).1, (L12 8).1, (L12 9).1, (L12 10).1, (L12 11).1]) ++ w1 L13 (lgt [(L13 5).1, (L13 6).1, (L13 7).1, (L13 8).1, (L13 9).1]) ++ [(q14, .inl (c14, 6, .inl (fun _ => 0)))] ++ w2 L15 ++ w2 L16) : va_W) := hD
  refine W.eq (g2 := F0 m 189 ls []) rfl ?_
  refine lv_aload_n hx hb (show decode cX9_init 189 = .ok (.aload_n 0, 1) by decide +kernel) rfl (lv_at hl 0 rfl) ?_
  refine lv_lconst (v := 1) hx hb (show decode cX9_init 190 = .ok (.lconst 1, 1) by decide +kernel) (by decide) ?_
  refine va_put (D := D) (ci := 9) (v := .long 1) (ty := .long) (C := RX9) (T := TX9) (N := 17) hx hb hts uX9 tyX9 tyX9_ok nmX9 hown hK hP hD hS 0 rfl rfl 16 (by decide) (hts _ k388) (fun _ h9 => h9) rfl (by decide +kernel) rfl rfl (Nat.le_of_ble_eq_true rfl) (show decode cX9_init 191 = .ok (.putfield 96, 3) by decide +kernel) (fun H locs hP hD hS => ?_)
  rename_i z0 z1 z2 z3 z4
  clear z0 z1 z2 z3 z4
  replace hP : va_P D CLS ((h0, .inr (9, [.ref (L1 0).1, .ref (L2 0).1, .ref (L3 0).1, .ref (L4 0).1, .ref (L5 0).1, .ref q6, .ref q10, .ref (L11 0).1, .ref (L12 0).1, .ref (L13 0).1, .ref q14, .ref (L15 0).1, .ref (L16 0).1, .int 0, .int 0, .long 0, .long 1])) :: (w8a L1 (lgt [(L1 2).1, (L1 3).1, (L1 4).1, (L1 5).1, (L1 6).1, (L1 7).1]) ++ w8b L2 (lgt [(L2 2).1, (L2 3).1, (L2 4).1, (L2 5).1]) ++ w7 L3 ++ w4 L4 ++ w3 L5 ++ [(q6, .inl (c6, 3, .inr (.inr (.inr (.inr (lgt [(L7 0).1, (L8 0).1, (L9 0).1]))))))] ++ w3 L7 ++ w3 L8 ++ w3 L9 ++ [(q10, .inl (c10, 3, .inl (fun _ => 0)))] ++ w0 L11 (lgt [(L11 3).1, (L11 4).1, (L11 5).1, (L11 6).1, (L11 7).1]) ++ w5 L12 (lgt [(L12 7).1, (L12 8).1, (L12 9).1, (L12 10).1, (L12 11).1]) ++ w1 L13 (lgt [(L13 5).1, (L13 6).1, (L13 7).1, (L13 8).1, (L13 9).1]) ++ [(q14, .inl (c14, 6, .inl (fun _ => 0)))] ++ w2 L15 ++ w2 L16) : va_W) H := hP
  replace hD : va_D A ((h0, .inr (9, [.ref (L1 0).1, .ref (L2 0).1, .ref (L3 0).1, .ref (L4 0).1, .ref (L5 0).1, .ref q6, .ref q10, .ref (L11 0).1, .ref (L12 0).1, .ref (L13 0).1, .ref q14, .ref (L15 0).1, .ref (L16 0).1, .int 0, .int 0, .long 0, .long 1])) :: (w8a L1 (lgt [(L1 2).1, (L1 3).1, (L1 4).1, (L1 5).1, (L1 6).1, (L1 7).1]) ++ w8b L2 (lgt [(L2 2).1, (L2 3).1, (L2 4).1, (L2 5).1]) ++ w7 L3 ++ w4 L4 ++ w3 L5 ++ [(q6, .inl (c6, 3, .inr (.inr (.inr (.inr (lgt [(L7 0).1, (L8 0).1, (L9 0).1]))))))] ++ w3 L7 ++ w3 L8 ++ w3 L9 ++ [(q10, .inl (c10, 3, .inl (fun _ => 0)))] ++ w0 L11 (lgt [(L11 3).1, (L11 4).1, (L11 5).1, (L11 6).1, (L11 7).1]) ++ w5 L12 (lgt [(L12 7).1, (L12 8).1, (L12 9).1, (L12 10).1, (L12 11).1]) ++ w1 L13 (lgt [(L13 5).1, (L13 6).1, (L13 7).1, (L13 8).1, (L13 9).1]) ++ [(q14, .inl (c14, 6, .inl (fun _ => 0)))] ++ w2 L15 ++ w2 L16) : va_W) := hD
  refine W.eq (g2 := F0 m 194 ls []) rfl ?_
  obtain ⟨L, hL⟩ : ∃ L : LAM, L = fun k => bif Nat.ble k 0 then (h0, D.1 0) else bif Nat.ble k 9 then L1 (k - 1) else bif Nat.ble k 16 then L2 (k - 10) else bif Nat.ble k 18 then L3 (k - 17) else bif Nat.ble k 24 then L4 (k - 19) else bif Nat.ble k 27 then L5 (k - 25) else bif Nat.ble k 28 then (q6, c6) else bif Nat.ble k 31 then L7 (k - 29) else bif Nat.ble k 34 then L8 (k - 32) else bif Nat.ble k 37 then L9 (k - 35) else bif Nat.ble k 38 then (q10, c10) else bif Nat.ble k 47 then L11 (k - 39) else bif Nat.ble k 60 then L12 (k - 48) else bif Nat.ble k 71 then L13 (k - 61) else bif Nat.ble k 72 then (q14, c14) else bif Nat.ble k 79 then L15 (k - 73) else bif Nat.ble k 86 then L16 (k - 80) else (0, D.1 0) := ⟨_, rfl⟩
  have hP9 : va_P D CLS (w9 L (lgt [(L 3).1, (L 4).1, (L 5).1, (L 6).1, (L 7).1, (L 8).1]) (lgt [(L 12).1, (L 13).1, (L 14).1, (L 15).1]) (lgt [(L 29).1, (L 32).1, (L 35).1]) (lgt [(L 42).1, (L 43).1, (L 44).1, (L 45).1, (L 46).1]) (lgt [(L 55).1, (L 56).1, (L 57).1, (L 58).1, (L 59).1]) (lgt [(L 66).1, (L 67).1, (L 68).1, (L 69).1, (L 70).1])) H := by rw [hL]; exact hP
  have hD9 : va_D A (w9 L (lgt [(L 3).1, (L 4).1, (L 5).1, (L 6).1, (L 7).1, (L 8).1]) (lgt [(L 12).1, (L 13).1, (L 14).1, (L 15).1]) (lgt [(L 29).1, (L 32).1, (L 35).1]) (lgt [(L 42).1, (L 43).1, (L 44).1, (L 45).1, (L 46).1]) (lgt [(L 55).1, (L 56).1, (L 57).1, (L 58).1, (L 59).1]) (lgt [(L 66).1, (L 67).1, (L 68).1, (L 69).1, (L 70).1])) := by rw [hL]; exact hD
  have hK9 : va_K D CLS (kC9 L) s := by rw [hL]; exact hK
  refine W.widen (k := 86) (n := 1254) (Nat.le_of_ble_eq_true rfl) (Nat.le_of_ble_eq_true rfl) ?_
  exact W.vret hx hb hr (fun t ht hW => ⟨⟨L, rfl, by rw [hL]; rfl, by rw [ht]; exact hP9, va_K.moved hW.alike hK9, hD9⟩, hS.F ht⟩) hS.2.2 (show decode cX9_init 194 = .ok (.return_, 1) by decide +kernel)
