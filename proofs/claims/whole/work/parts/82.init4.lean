/-! the reference's constructor, its walk -/
def w10 (L : LAM) : va_W := ((L 0).1, .inr (10, [.int 0, .ref (L 1).1, .int 0, .long 0, .long 1, .ref (L 2).1, .ref (L 3).1, .ref (L 4).1, .ref (L 5).1, .ref (L 6).1, .int 0, .ref (L 7).1, .ref (L 8).1, .ref (L 9).1, .ref (L 10).1, .ref (L 11).1, .ref (L 12).1, .ref (L 13).1, .int 0, .ref (L 14).1, .int 0, .int 0, .int 0, .ref (L 15).1, .ref (L 16).1, .int 0, .ref (L 17).1, .ref (L 18).1, .ref (L 19).1, .ref (L 20).1, .ref (L 21).1, .int 0, .int (-9), .ref (L 22).1, .int 0, .long 0])) :: ([((L 1).1, .inl ((L 1).2, 6, .inl (fun _ => 0)))] ++ [((L 2).1, .inl ((L 2).2, 6, .inl (upd (upd (upd (upd (upd (upd (fun _ => 0) 0 (-9)) 1 (-9)) 2 (-9)) 3 (-9)) 4 (-9)) 5 (-9))))] ++ [((L 3).1, .inl ((L 3).2, 240, .inl (fun _ => 0)))] ++ [((L 4).1, .inl ((L 4).2, 40, .inl (fun _ => 0)))] ++ [((L 5).1, .inl ((L 5).2, 4, .inl (upd (upd (upd (upd (fun _ => 0) 0 (-9)) 1 (-9)) 2 (-9)) 3 (-9))))] ++ [((L 6).1, .inl ((L 6).2, 240, .inl (fun _ => 0)))] ++ [((L 7).1, .inl ((L 7).2, 7, .inl (fun _ => 0)))] ++ [((L 8).1, .inl ((L 8).2, 7, .inl (fun _ => 0)))] ++ [((L 9).1, .inl ((L 9).2, 6, .inl (fun _ => 0)))] ++ [((L 10).1, .inl ((L 10).2, 6, .inl (fun _ => 0)))] ++ [((L 11).1, .inl ((L 11).2, 6, .inl (fun _ => 0)))] ++ [((L 12).1, .inl ((L 12).2, 6, .inl (fun _ => 0)))] ++ [((L 13).1, .inl ((L 13).2, 6, .inl (fun _ => 0)))] ++ [((L 14).1, .inl ((L 14).2, 7, .inl (fun _ => 0)))] ++ [((L 15).1, .inl ((L 15).2, 14, .inl (fun _ => 0)))] ++ [((L 16).1, .inl ((L 16).2, 18, .inl (fun _ => 0)))] ++ [((L 17).1, .inl ((L 17).2, 1080, .inl (fun _ => 0)))] ++ [((L 18).1, .inl ((L 18).2, 3, .inl (fun _ => 0)))] ++ [((L 19).1, .inl ((L 19).2, 3321, .inl (fun _ => 0)))] ++ [((L 20).1, .inl ((L 20).2, 27, .inl (fun _ => 0)))] ++ [((L 21).1, .inl ((L 21).2, 6, .inl (fun _ => 0)))] ++ [((L 22).1, .inl ((L 22).2, 8, .inl (fun _ => 0)))])
def kC10 (L : LAM) : List (ClassId × FieldType) := [] ++ [((L 1).2, .int)] ++ [((L 2).2, .int)] ++ [((L 3).2, .int)] ++ [((L 4).2, .int)] ++ [((L 5).2, .int)] ++ [((L 6).2, .int)] ++ [((L 7).2, .int)] ++ [((L 8).2, .int)] ++ [((L 9).2, .int)] ++ [((L 10).2, .int)] ++ [((L 11).2, .int)] ++ [((L 12).2, .int)] ++ [((L 13).2, .int)] ++ [((L 14).2, .int)] ++ [((L 15).2, .int)] ++ [((L 16).2, .int)] ++ [((L 17).2, .int)] ++ [((L 18).2, .int)] ++ [((L 19).2, .int)] ++ [((L 20).2, .int)] ++ [((L 21).2, .int)] ++ [((L 22).2, .int)]
set_option maxHeartbeats 4000000 in
set_option maxRecDepth 100000 in
theorem cn10 (l : Launch) (D : va_G) (h0 sz : Nat) : Met l yX10_init (.code yX10_init cX10_init 2 none :: GW) ({ frames := 2, cells := 22, slots := 5064, locals := 100 }) (va_Pc [.ref h0] (fun U => U.heap.size = sz ∧ va_P D CLS [(h0, .inr (10, [.int 0, .null, .int 0, .long 0, .long 0, .null, .null, .null, .null, .null, .int 0, .null, .null, .null, .null, .null, .null, .null, .int 0, .null, .int 0, .int 0, .int 0, .null, .null, .int 0, .null, .null, .null, .null, .null, .int 0, .int 0, .null, .int 0, .long 0]))] U.heap ∧ va_K D CLS [] U ∧ va_D (fun _ => True) [(h0, .inr (10, [.int 0, .null, .int 0, .long 0, .long 0, .null, .null, .null, .null, .null, .int 0, .null, .null, .null, .null, .null, .null, .null, .int 0, .null, .int 0, .int 0, .int 0, .null, .null, .int 0, .null, .null, .null, .null, .null, .int 0, .int 0, .null, .int 0, .long 0]))] ∧ XW U)) (va_Qv (fun L : LAM => (L 0).1 = h0) (fun L U => va_P D CLS (w10 L) U.heap ∧ va_K D CLS (kC10 L) U ∧ va_D (va_A [(h0, .inr (10, [.int 0, .null, .int 0, .long 0, .long 0, .null, .null, .null, .null, .null, .int 0, .null, .null, .null, .null, .null, .null, .null, .int 0, .null, .int 0, .int 0, .int 0, .null, .null, .int 0, .null, .null, .null, .null, .null, .int 0, .int 0, .null, .int 0, .long 0]))] sz) (w10 L)) (va_A [(h0, .inr (10, [.int 0, .null, .int 0, .long 0, .long 0, .null, .null, .null, .null, .null, .int 0, .null, .null, .null, .null, .null, .null, .null, .int 0, .null, .int 0, .int 0, .int 0, .null, .null, .int 0, .null, .null, .null, .null, .null, .int 0, .int 0, .null, .int 0, .long 0]))] sz)) 22 5064 (va_A [(h0, .inr (10, [.int 0, .null, .int 0, .long 0, .long 0, .null, .null, .null, .null, .null, .int 0, .null, .null, .null, .null, .null, .null, .null, .int 0, .null, .int 0, .int 0, .int 0, .null, .null, .int 0, .null, .null, .null, .null, .null, .int 0, .int 0, .null, .int 0, .long 0]))] sz) := by
  refine Met.ofW (cc := cX10_init) (maxL := 2) (ret := none) (by decide) rfl ?_
  intro p e s m args below meth c s₁ B hml hv
  obtain ⟨rfl, hsz, hP, hK, hD0, hXW⟩ := hv
  have hx := B.exec
  have hb := B.bytes
  have hr := B.returns
  have hts := atoms_spec (ws := .code yX10_init cX10_init 2 none :: GW) B.pre
  have hts := fun w hw => hts w (List.mem_cons_of_mem _ hw)
  have hown : s.vm.findClass RX10 = some m.cls := findClass_of_methodNamed B.named
  have hlocks := B.notSynchronized
  have hin : meth.name = "<init>" := (name_of_methodNamed B.named B.method).1
  subst hsz
  have hD := hD0.self (sz := s.heap.size)
  generalize hAe : va_A [(h0, .inr (10, [.int 0, .null, .int 0, .long 0, .long 0, .null, .null, .null, .null, .null, .int 0, .null, .null, .null, .null, .null, .null, .null, .int 0, .null, .int 0, .int 0, .int 0, .null, .null, .int 0, .null, .null, .null, .null, .null, .int 0, .int 0, .null, .int 0, .long 0]))] s.heap.size = A at hD ⊢
  have hA : ∀ q : Nat, s.heap.size ≤ q → A q := fun q h => by rw [← hAe]; exact Or.inr h
  have hS : va_S A s.heap s.heap [] := va_S.rf
  have hl := lv_entry ([.ref h0]) (n := 2) (Nat.le_of_ble_eq_true rfl)
  rw [lg_entry_eq]
  generalize (lg_sl ([.ref h0]) ++ List.replicate (2 - (lg_sl ([.ref h0])).length) Slot.unset).toArray = ls at hl ⊢
  have hl : lv_has ls 2 [(0, .ref h0)] := hl
  have hlen : ([.int 0, .null, .int 0, .long 0, .long 0, .null, .null, .null, .null, .null, .int 0, .null, .null, .null, .null, .null, .null, .null, .int 0, .null, .int 0, .int 0, .int 0, .null, .null, .int 0, .null, .null, .null, .null, .null, .int 0, .int 0, .null, .int 0, .long 0] : List Value).length = 36 := rfl
  refine lv_aload_n hx hb (show decode cX10_init 0 = .ok (.aload_n 0, 1) by decide +kernel) rfl (lv_at hl 0 rfl) ?_
  refine W.objInit hx hb hown (hts _ k1009) (hts _ k101) (hts _ k102) rfl (by rw [hml]; exact hl.1) rfl (show decode cX10_init 1 = .ok (.invokespecial 1, 3) by decide +kernel) (Nat.le_of_ble_eq_true rfl) (Nat.le_of_ble_eq_true rfl) ?_
  refine W.eq (g2 := F0 m 4 ls []) rfl ?_
  refine lv_aload_n hx hb (show decode cX10_init 4 = .ok (.aload_n 0, 1) by decide +kernel) rfl (lv_at hl 0 rfl) ?_
  refine lv_bipush (v := 6) hx hb (show decode cX10_init 5 = .ok (.bipush 6, 2) by decide +kernel) (by decide) ?_
  refine blkA hx hb hts hown hin hlen hK hP hD hS hA (n := 6) (N := 6) (k := 1) (idx := 7) (nm := "findings") (by decide) (by decide) (by decide) (by decide) rfl k1011 (Nat.le_of_ble_eq_true rfl) (Nat.le_of_ble_eq_true rfl) (show decode cX10_init 7 = .ok (.newarray .int, 2) by decide +kernel) (show decode cX10_init 9 = .ok (.putfield 7, 3) by decide +kernel) (fun q1 c1 H locs hlen hK hP hD hS => ?_)
  rename_i z0 z1 z2 z3 z4
  clear z0 z1 z2 z3 z4
  refine W.widen (k := 1) (n := 6) (Nat.le_of_ble_eq_true rfl) (Nat.le_of_ble_eq_true rfl) ?_
  refine W.eq (g2 := F0 m 12 ls []) rfl ?_
  refine lv_aload_n hx hb (show decode cX10_init 12 = .ok (.aload_n 0, 1) by decide +kernel) rfl (lv_at hl 0 rfl) ?_
  refine lv_lconst (v := 1) hx hb (show decode cX10_init 13 = .ok (.lconst 1, 1) by decide +kernel) (by decide) ?_
  refine blkS hx hb hts hown hlen hK hP hD hS (k := 4) (idx := 13) (nm := "lower") (ds := "J") (v := .long 1) (ty := .long) (by decide) rfl k1014 (by decide +kernel) rfl rfl (show decode cX10_init 14 = .ok (.putfield 13, 3) by decide +kernel) (fun H locs hlen hP hD hS => ?_)
  rename_i z0 z1 z2 z3 z4 z5
  clear z0 z1 z2 z3 z4 z5
  refine W.eq (g2 := F0 m 17 ls []) rfl ?_
  refine lv_aload_n hx hb (show decode cX10_init 17 = .ok (.aload_n 0, 1) by decide +kernel) rfl (lv_at hl 0 rfl) ?_
  refine lv_bipush (v := 6) hx hb (show decode cX10_init 18 = .ok (.bipush 6, 2) by decide +kernel) (by decide) ?_
  refine blkA hx hb hts hown hin hlen hK hP hD hS hA (n := 6) (N := 6) (k := 5) (idx := 17) (nm := "sizes") (by decide) (by decide) (by decide) (by decide) rfl k1015 (Nat.le_of_ble_eq_true rfl) (Nat.le_of_ble_eq_true rfl) (show decode cX10_init 20 = .ok (.newarray .int, 2) by decide +kernel) (show decode cX10_init 22 = .ok (.putfield 17, 3) by decide +kernel) (fun q2 c2 H locs hlen hK hP hD hS => ?_)
  rename_i z0 z1 z2 z3 z4 z5 z6
  clear z0 z1 z2 z3 z4 z5 z6
  refine W.widen (k := 2) (n := 12) (Nat.le_of_ble_eq_true rfl) (Nat.le_of_ble_eq_true rfl) ?_
  refine W.eq (g2 := F0 m 25 ls []) rfl ?_
  refine lv_aload_n hx hb (show decode cX10_init 25 = .ok (.aload_n 0, 1) by decide +kernel) rfl (lv_at hl 0 rfl) ?_
  refine lv_sipush (v := 240) hx hb (show decode cX10_init 26 = .ok (.sipush 240, 3) by decide +kernel) (by decide) ?_
  refine blkA hx hb hts hown hin hlen hK hP hD hS hA (n := 240) (N := 240) (k := 6) (idx := 20) (nm := "rows") (by decide) (by decide) (by decide) (by decide) rfl k1016 (Nat.le_of_ble_eq_true rfl) (Nat.le_of_ble_eq_true rfl) (show decode cX10_init 29 = .ok (.newarray .int, 2) by decide +kernel) (show decode cX10_init 31 = .ok (.putfield 20, 3) by decide +kernel) (fun q3 c3 H locs hlen hK hP hD hS => ?_)
  rename_i z0 z1 z2 z3 z4 z5 z6
  clear z0 z1 z2 z3 z4 z5 z6
  refine W.widen (k := 3) (n := 252) (Nat.le_of_ble_eq_true rfl) (Nat.le_of_ble_eq_true rfl) ?_
  refine W.eq (g2 := F0 m 34 ls []) rfl ?_
  refine lv_aload_n hx hb (show decode cX10_init 34 = .ok (.aload_n 0, 1) by decide +kernel) rfl (lv_at hl 0 rfl) ?_
  refine lv_bipush (v := 40) hx hb (show decode cX10_init 35 = .ok (.bipush 40, 2) by decide +kernel) (by decide) ?_
  refine blkA hx hb hts hown hin hlen hK hP hD hS hA (n := 40) (N := 40) (k := 7) (idx := 23) (nm := "moving") (by decide) (by decide) (by decide) (by decide) rfl k1017 (Nat.le_of_ble_eq_true rfl) (Nat.le_of_ble_eq_true rfl) (show decode cX10_init 37 = .ok (.newarray .int, 2) by decide +kernel) (show decode cX10_init 39 = .ok (.putfield 23, 3) by decide +kernel) (fun q4 c4 H locs hlen hK hP hD hS => ?_)
  rename_i z0 z1 z2 z3 z4 z5 z6
  clear z0 z1 z2 z3 z4 z5 z6
  refine W.widen (k := 4) (n := 292) (Nat.le_of_ble_eq_true rfl) (Nat.le_of_ble_eq_true rfl) ?_
  refine W.eq (g2 := F0 m 42 ls []) rfl ?_
  refine lv_aload_n hx hb (show decode cX10_init 42 = .ok (.aload_n 0, 1) by decide +kernel) rfl (lv_at hl 0 rfl) ?_
  refine lv_iconst (v := 4) hx hb (show decode cX10_init 43 = .ok (.iconst 4, 1) by decide +kernel) (by decide) ?_
  refine blkA hx hb hts hown hin hlen hK hP hD hS hA (n := 4) (N := 4) (k := 8) (idx := 26) (nm := "lengths") (by decide) (by decide) (by decide) (by decide) rfl k1018 (Nat.le_of_ble_eq_true rfl) (Nat.le_of_ble_eq_true rfl) (show decode cX10_init 44 = .ok (.newarray .int, 2) by decide +kernel) (show decode cX10_init 46 = .ok (.putfield 26, 3) by decide +kernel) (fun q5 c5 H locs hlen hK hP hD hS => ?_)
  rename_i z0 z1 z2 z3 z4 z5 z6
  clear z0 z1 z2 z3 z4 z5 z6
  refine W.widen (k := 5) (n := 296) (Nat.le_of_ble_eq_true rfl) (Nat.le_of_ble_eq_true rfl) ?_
  refine W.eq (g2 := F0 m 49 ls []) rfl ?_
  refine lv_aload_n hx hb (show decode cX10_init 49 = .ok (.aload_n 0, 1) by decide +kernel) rfl (lv_at hl 0 rfl) ?_
  refine lv_sipush (v := 240) hx hb (show decode cX10_init 50 = .ok (.sipush 240, 3) by decide +kernel) (by decide) ?_
  refine blkA hx hb hts hown hin hlen hK hP hD hS hA (n := 240) (N := 240) (k := 9) (idx := 29) (nm := "texts") (by decide) (by decide) (by decide) (by decide) rfl k1019 (Nat.le_of_ble_eq_true rfl) (Nat.le_of_ble_eq_true rfl) (show decode cX10_init 53 = .ok (.newarray .int, 2) by decide +kernel) (show decode cX10_init 55 = .ok (.putfield 29, 3) by decide +kernel) (fun q6 c6 H locs hlen hK hP hD hS => ?_)
  rename_i z0 z1 z2 z3 z4 z5 z6
  clear z0 z1 z2 z3 z4 z5 z6
  refine W.widen (k := 6) (n := 536) (Nat.le_of_ble_eq_true rfl) (Nat.le_of_ble_eq_true rfl) ?_
  refine W.eq (g2 := F0 m 58 ls []) rfl ?_
  refine lv_aload_n hx hb (show decode cX10_init 58 = .ok (.aload_n 0, 1) by decide +kernel) rfl (lv_at hl 0 rfl) ?_
  refine lv_bipush (v := 7) hx hb (show decode cX10_init 59 = .ok (.bipush 7, 2) by decide +kernel) (by decide) ?_
  refine blkA hx hb hts hown hin hlen hK hP hD hS hA (n := 7) (N := 7) (k := 11) (idx := 32) (nm := "rain") (by decide) (by decide) (by decide) (by decide) rfl k1021 (Nat.le_of_ble_eq_true rfl) (Nat.le_of_ble_eq_true rfl) (show decode cX10_init 61 = .ok (.newarray .int, 2) by decide +kernel) (show decode cX10_init 63 = .ok (.putfield 32, 3) by decide +kernel) (fun q7 c7 H locs hlen hK hP hD hS => ?_)
  rename_i z0 z1 z2 z3 z4 z5 z6
  clear z0 z1 z2 z3 z4 z5 z6
  refine W.widen (k := 7) (n := 543) (Nat.le_of_ble_eq_true rfl) (Nat.le_of_ble_eq_true rfl) ?_
  refine W.eq (g2 := F0 m 66 ls []) rfl ?_
  refine lv_aload_n hx hb (show decode cX10_init 66 = .ok (.aload_n 0, 1) by decide +kernel) rfl (lv_at hl 0 rfl) ?_
  refine lv_bipush (v := 7) hx hb (show decode cX10_init 67 = .ok (.bipush 7, 2) by decide +kernel) (by decide) ?_
  refine blkA hx hb hts hown hin hlen hK hP hD hS hA (n := 7) (N := 7) (k := 12) (idx := 35) (nm := "owner") (by decide) (by decide) (by decide) (by decide) rfl k1022 (Nat.le_of_ble_eq_true rfl) (Nat.le_of_ble_eq_true rfl) (show decode cX10_init 69 = .ok (.newarray .int, 2) by decide +kernel) (show decode cX10_init 71 = .ok (.putfield 35, 3) by decide +kernel) (fun q8 c8 H locs hlen hK hP hD hS => ?_)
  rename_i z0 z1 z2 z3 z4 z5 z6
  clear z0 z1 z2 z3 z4 z5 z6
  refine W.widen (k := 8) (n := 550) (Nat.le_of_ble_eq_true rfl) (Nat.le_of_ble_eq_true rfl) ?_
  refine W.eq (g2 := F0 m 74 ls []) rfl ?_
  refine lv_aload_n hx hb (show decode cX10_init 74 = .ok (.aload_n 0, 1) by decide +kernel) rfl (lv_at hl 0 rfl) ?_
  refine lv_bipush (v := 6) hx hb (show decode cX10_init 75 = .ok (.bipush 6, 2) by decide +kernel) (by decide) ?_
  refine blkA hx hb hts hown hin hlen hK hP hD hS hA (n := 6) (N := 6) (k := 13) (idx := 38) (nm := "kinds") (by decide) (by decide) (by decide) (by decide) rfl k1023 (Nat.le_of_ble_eq_true rfl) (Nat.le_of_ble_eq_true rfl) (show decode cX10_init 77 = .ok (.newarray .int, 2) by decide +kernel) (show decode cX10_init 79 = .ok (.putfield 38, 3) by decide +kernel) (fun q9 c9 H locs hlen hK hP hD hS => ?_)
  rename_i z0 z1 z2 z3 z4 z5 z6
  clear z0 z1 z2 z3 z4 z5 z6
  refine W.widen (k := 9) (n := 556) (Nat.le_of_ble_eq_true rfl) (Nat.le_of_ble_eq_true rfl) ?_
  refine W.eq (g2 := F0 m 82 ls []) rfl ?_
  refine lv_aload_n hx hb (show decode cX10_init 82 = .ok (.aload_n 0, 1) by decide +kernel) rfl (lv_at hl 0 rfl) ?_
  refine lv_bipush (v := 6) hx hb (show decode cX10_init 83 = .ok (.bipush 6, 2) by decide +kernel) (by decide) ?_
  refine blkA hx hb hts hown hin hlen hK hP hD hS hA (n := 6) (N := 6) (k := 14) (idx := 41) (nm := "measures") (by decide) (by decide) (by decide) (by decide) rfl k1024 (Nat.le_of_ble_eq_true rfl) (Nat.le_of_ble_eq_true rfl) (show decode cX10_init 85 = .ok (.newarray .int, 2) by decide +kernel) (show decode cX10_init 87 = .ok (.putfield 41, 3) by decide +kernel) (fun q10 c10 H locs hlen hK hP hD hS => ?_)
  rename_i z0 z1 z2 z3 z4 z5 z6
  clear z0 z1 z2 z3 z4 z5 z6
  refine W.widen (k := 10) (n := 562) (Nat.le_of_ble_eq_true rfl) (Nat.le_of_ble_eq_true rfl) ?_
  refine W.eq (g2 := F0 m 90 ls []) rfl ?_
  refine lv_aload_n hx hb (show decode cX10_init 90 = .ok (.aload_n 0, 1) by decide +kernel) rfl (lv_at hl 0 rfl) ?_
  refine lv_bipush (v := 6) hx hb (show decode cX10_init 91 = .ok (.bipush 6, 2) by decide +kernel) (by decide) ?_
  refine blkA hx hb hts hown hin hlen hK hP hD hS hA (n := 6) (N := 6) (k := 15) (idx := 44) (nm := "water") (by decide) (by decide) (by decide) (by decide) rfl k1025 (Nat.le_of_ble_eq_true rfl) (Nat.le_of_ble_eq_true rfl) (show decode cX10_init 93 = .ok (.newarray .int, 2) by decide +kernel) (show decode cX10_init 95 = .ok (.putfield 44, 3) by decide +kernel) (fun q11 c11 H locs hlen hK hP hD hS => ?_)
  rename_i z0 z1 z2 z3 z4 z5 z6
  clear z0 z1 z2 z3 z4 z5 z6
  refine W.widen (k := 11) (n := 568) (Nat.le_of_ble_eq_true rfl) (Nat.le_of_ble_eq_true rfl) ?_
  refine W.eq (g2 := F0 m 98 ls []) rfl ?_
  refine lv_aload_n hx hb (show decode cX10_init 98 = .ok (.aload_n 0, 1) by decide +kernel) rfl (lv_at hl 0 rfl) ?_
  refine lv_bipush (v := 6) hx hb (show decode cX10_init 99 = .ok (.bipush 6, 2) by decide +kernel) (by decide) ?_
  refine blkA hx hb hts hown hin hlen hK hP hD hS hA (n := 6) (N := 6) (k := 16) (idx := 47) (nm := "ground") (by decide) (by decide) (by decide) (by decide) rfl k1026 (Nat.le_of_ble_eq_true rfl) (Nat.le_of_ble_eq_true rfl) (show decode cX10_init 101 = .ok (.newarray .int, 2) by decide +kernel) (show decode cX10_init 103 = .ok (.putfield 47, 3) by decide +kernel) (fun q12 c12 H locs hlen hK hP hD hS => ?_)
  rename_i z0 z1 z2 z3 z4 z5 z6
  clear z0 z1 z2 z3 z4 z5 z6
  refine W.widen (k := 12) (n := 574) (Nat.le_of_ble_eq_true rfl) (Nat.le_of_ble_eq_true rfl) ?_
  refine W.eq (g2 := F0 m 106 ls []) rfl ?_
  refine lv_aload_n hx hb (show decode cX10_init 106 = .ok (.aload_n 0, 1) by decide +kernel) rfl (lv_at hl 0 rfl) ?_
  refine lv_bipush (v := 6) hx hb (show decode cX10_init 107 = .ok (.bipush 6, 2) by decide +kernel) (by decide) ?_
  refine blkA hx hb hts hown hin hlen hK hP hD hS hA (n := 6) (N := 6) (k := 17) (idx := 50) (nm := "ran") (by decide) (by decide) (by decide) (by decide) rfl k1027 (Nat.le_of_ble_eq_true rfl) (Nat.le_of_ble_eq_true rfl) (show decode cX10_init 109 = .ok (.newarray .int, 2) by decide +kernel) (show decode cX10_init 111 = .ok (.putfield 50, 3) by decide +kernel) (fun q13 c13 H locs hlen hK hP hD hS => ?_)
  rename_i z0 z1 z2 z3 z4 z5 z6
  clear z0 z1 z2 z3 z4 z5 z6
  refine W.widen (k := 13) (n := 580) (Nat.le_of_ble_eq_true rfl) (Nat.le_of_ble_eq_true rfl) ?_
  refine W.eq (g2 := F0 m 114 ls []) rfl ?_
  refine lv_aload_n hx hb (show decode cX10_init 114 = .ok (.aload_n 0, 1) by decide +kernel) rfl (lv_at hl 0 rfl) ?_
  refine lv_bipush (v := 7) hx hb (show decode cX10_init 115 = .ok (.bipush 7, 2) by decide +kernel) (by decide) ?_
  refine blkA hx hb hts hown hin hlen hK hP hD hS hA (n := 7) (N := 7) (k := 19) (idx := 53) (nm := "owned") (by decide) (by decide) (by decide) (by decide) rfl k1029 (Nat.le_of_ble_eq_true rfl) (Nat.le_of_ble_eq_true rfl) (show decode cX10_init 117 = .ok (.newarray .int, 2) by decide +kernel) (show decode cX10_init 119 = .ok (.putfield 53, 3) by decide +kernel) (fun q14 c14 H locs hlen hK hP hD hS => ?_)
  rename_i z0 z1 z2 z3 z4 z5 z6
  clear z0 z1 z2 z3 z4 z5 z6
  refine W.widen (k := 14) (n := 587) (Nat.le_of_ble_eq_true rfl) (Nat.le_of_ble_eq_true rfl) ?_
  refine W.eq (g2 := F0 m 122 ls []) rfl ?_
  refine lv_aload_n hx hb (show decode cX10_init 122 = .ok (.aload_n 0, 1) by decide +kernel) rfl (lv_at hl 0 rfl) ?_
  refine lv_bipush (v := 14) hx hb (show decode cX10_init 123 = .ok (.bipush 14, 2) by decide +kernel) (by decide) ?_
  refine blkA hx hb hts hown hin hlen hK hP hD hS hA (n := 14) (N := 14) (k := 23) (idx := 56) (nm := "readWeek") (by decide) (by decide) (by decide) (by decide) rfl k1033 (Nat.le_of_ble_eq_true rfl) (Nat.le_of_ble_eq_true rfl) (show decode cX10_init 125 = .ok (.newarray .int, 2) by decide +kernel) (show decode cX10_init 127 = .ok (.putfield 56, 3) by decide +kernel) (fun q15 c15 H locs hlen hK hP hD hS => ?_)
  rename_i z0 z1 z2 z3 z4 z5 z6
  clear z0 z1 z2 z3 z4 z5 z6
  refine W.widen (k := 15) (n := 601) (Nat.le_of_ble_eq_true rfl) (Nat.le_of_ble_eq_true rfl) ?_
  refine W.eq (g2 := F0 m 130 ls []) rfl ?_
  refine lv_aload_n hx hb (show decode cX10_init 130 = .ok (.aload_n 0, 1) by decide +kernel) rfl (lv_at hl 0 rfl) ?_
  refine lv_bipush (v := 18) hx hb (show decode cX10_init 131 = .ok (.bipush 18, 2) by decide +kernel) (by decide) ?_
  refine blkA hx hb hts hown hin hlen hK hP hD hS hA (n := 18) (N := 18) (k := 24) (idx := 59) (nm := "readReach") (by decide) (by decide) (by decide) (by decide) rfl k1034 (Nat.le_of_ble_eq_true rfl) (Nat.le_of_ble_eq_true rfl) (show decode cX10_init 133 = .ok (.newarray .int, 2) by decide +kernel) (show decode cX10_init 135 = .ok (.putfield 59, 3) by decide +kernel) (fun q16 c16 H locs hlen hK hP hD hS => ?_)
  rename_i z0 z1 z2 z3 z4 z5 z6
  clear z0 z1 z2 z3 z4 z5 z6
  refine W.widen (k := 16) (n := 619) (Nat.le_of_ble_eq_true rfl) (Nat.le_of_ble_eq_true rfl) ?_
  refine W.eq (g2 := F0 m 138 ls []) rfl ?_
  refine lv_aload_n hx hb (show decode cX10_init 138 = .ok (.aload_n 0, 1) by decide +kernel) rfl (lv_at hl 0 rfl) ?_
  refine lv_sipush (v := 1080) hx hb (show decode cX10_init 139 = .ok (.sipush 1080, 3) by decide +kernel) (by decide) ?_
  refine blkA hx hb hts hown hin hlen hK hP hD hS hA (n := 1080) (N := 1080) (k := 26) (idx := 62) (nm := "notes") (by decide) (by decide) (by decide) (by decide) rfl k1036 (Nat.le_of_ble_eq_true rfl) (Nat.le_of_ble_eq_true rfl) (show decode cX10_init 142 = .ok (.newarray .int, 2) by decide +kernel) (show decode cX10_init 144 = .ok (.putfield 62, 3) by decide +kernel) (fun q17 c17 H locs hlen hK hP hD hS => ?_)
  rename_i z0 z1 z2 z3 z4 z5 z6
  clear z0 z1 z2 z3 z4 z5 z6
  refine W.widen (k := 17) (n := 1699) (Nat.le_of_ble_eq_true rfl) (Nat.le_of_ble_eq_true rfl) ?_
  refine W.eq (g2 := F0 m 147 ls []) rfl ?_
  refine lv_aload_n hx hb (show decode cX10_init 147 = .ok (.aload_n 0, 1) by decide +kernel) rfl (lv_at hl 0 rfl) ?_
  refine lv_iconst (v := 3) hx hb (show decode cX10_init 148 = .ok (.iconst 3, 1) by decide +kernel) (by decide) ?_
  refine blkA hx hb hts hown hin hlen hK hP hD hS hA (n := 3) (N := 3) (k := 27) (idx := 65) (nm := "isThere") (by decide) (by decide) (by decide) (by decide) rfl k1037 (Nat.le_of_ble_eq_true rfl) (Nat.le_of_ble_eq_true rfl) (show decode cX10_init 149 = .ok (.newarray .int, 2) by decide +kernel) (show decode cX10_init 151 = .ok (.putfield 65, 3) by decide +kernel) (fun q18 c18 H locs hlen hK hP hD hS => ?_)
  rename_i z0 z1 z2 z3 z4 z5 z6
  clear z0 z1 z2 z3 z4 z5 z6
  refine W.widen (k := 18) (n := 1702) (Nat.le_of_ble_eq_true rfl) (Nat.le_of_ble_eq_true rfl) ?_
  refine W.eq (g2 := F0 m 154 ls []) rfl ?_
  refine lv_aload_n hx hb (show decode cX10_init 154 = .ok (.aload_n 0, 1) by decide +kernel) rfl (lv_at hl 0 rfl) ?_
  refine lv_sipush (v := 3321) hx hb (show decode cX10_init 155 = .ok (.sipush 3321, 3) by decide +kernel) (by decide) ?_
  refine blkA hx hb hts hown hin hlen hK hP hD hS hA (n := 3321) (N := 3321) (k := 28) (idx := 68) (nm := "images") (by decide) (by decide) (by decide) (by decide) rfl k1038 (Nat.le_of_ble_eq_true rfl) (Nat.le_of_ble_eq_true rfl) (show decode cX10_init 158 = .ok (.newarray .int, 2) by decide +kernel) (show decode cX10_init 160 = .ok (.putfield 68, 3) by decide +kernel) (fun q19 c19 H locs hlen hK hP hD hS => ?_)
  rename_i z0 z1 z2 z3 z4 z5 z6
  clear z0 z1 z2 z3 z4 z5 z6
  refine W.widen (k := 19) (n := 5023) (Nat.le_of_ble_eq_true rfl) (Nat.le_of_ble_eq_true rfl) ?_
  refine W.eq (g2 := F0 m 163 ls []) rfl ?_
  refine lv_aload_n hx hb (show decode cX10_init 163 = .ok (.aload_n 0, 1) by decide +kernel) rfl (lv_at hl 0 rfl) ?_
  refine lv_bipush (v := 27) hx hb (show decode cX10_init 164 = .ok (.bipush 27, 2) by decide +kernel) (by decide) ?_
  refine blkA hx hb hts hown hin hlen hK hP hD hS hA (n := 27) (N := 27) (k := 29) (idx := 71) (nm := "aside") (by decide) (by decide) (by decide) (by decide) rfl k1039 (Nat.le_of_ble_eq_true rfl) (Nat.le_of_ble_eq_true rfl) (show decode cX10_init 166 = .ok (.newarray .int, 2) by decide +kernel) (show decode cX10_init 168 = .ok (.putfield 71, 3) by decide +kernel) (fun q20 c20 H locs hlen hK hP hD hS => ?_)
  rename_i z0 z1 z2 z3 z4 z5 z6
  clear z0 z1 z2 z3 z4 z5 z6
  refine W.widen (k := 20) (n := 5050) (Nat.le_of_ble_eq_true rfl) (Nat.le_of_ble_eq_true rfl) ?_
  refine W.eq (g2 := F0 m 171 ls []) rfl ?_
  refine lv_aload_n hx hb (show decode cX10_init 171 = .ok (.aload_n 0, 1) by decide +kernel) rfl (lv_at hl 0 rfl) ?_
  refine lv_bipush (v := 6) hx hb (show decode cX10_init 172 = .ok (.bipush 6, 2) by decide +kernel) (by decide) ?_
  refine blkA hx hb hts hown hin hlen hK hP hD hS hA (n := 6) (N := 6) (k := 30) (idx := 74) (nm := "flow") (by decide) (by decide) (by decide) (by decide) rfl k1040 (Nat.le_of_ble_eq_true rfl) (Nat.le_of_ble_eq_true rfl) (show decode cX10_init 174 = .ok (.newarray .int, 2) by decide +kernel) (show decode cX10_init 176 = .ok (.putfield 74, 3) by decide +kernel) (fun q21 c21 H locs hlen hK hP hD hS => ?_)
  rename_i z0 z1 z2 z3 z4 z5 z6
  clear z0 z1 z2 z3 z4 z5 z6
  refine W.widen (k := 21) (n := 5056) (Nat.le_of_ble_eq_true rfl) (Nat.le_of_ble_eq_true rfl) ?_
  refine W.eq (g2 := F0 m 179 ls []) rfl ?_
  refine lv_aload_n hx hb (show decode cX10_init 179 = .ok (.aload_n 0, 1) by decide +kernel) rfl (lv_at hl 0 rfl) ?_
  refine lv_bipush (v := -9) hx hb (show decode cX10_init 180 = .ok (.bipush (-9), 2) by decide +kernel) (by decide) ?_
  refine blkS hx hb hts hown hlen hK hP hD hS (k := 32) (idx := 77) (nm := "dry") (ds := "I") (v := .int (-9)) (ty := .int) (by decide) rfl k1042 (by decide +kernel) rfl rfl (show decode cX10_init 182 = .ok (.putfield 77, 3) by decide +kernel) (fun H locs hlen hP hD hS => ?_)
  rename_i z0 z1 z2 z3 z4 z5
  clear z0 z1 z2 z3 z4 z5
  refine W.eq (g2 := F0 m 185 ls []) rfl ?_
  refine lv_aload_n hx hb (show decode cX10_init 185 = .ok (.aload_n 0, 1) by decide +kernel) rfl (lv_at hl 0 rfl) ?_
  refine lv_bipush (v := 8) hx hb (show decode cX10_init 186 = .ok (.bipush 8, 2) by decide +kernel) (by decide) ?_
  refine blkA hx hb hts hown hin hlen hK hP hD hS hA (n := 8) (N := 8) (k := 33) (idx := 81) (nm := "sets") (by decide) (by decide) (by decide) (by decide) rfl k1043 (Nat.le_of_ble_eq_true rfl) (Nat.le_of_ble_eq_true rfl) (show decode cX10_init 188 = .ok (.newarray .int, 2) by decide +kernel) (show decode cX10_init 190 = .ok (.putfield 81, 3) by decide +kernel) (fun q22 c22 H locs hlen hK hP hD hS => ?_)
  rename_i z0 z1 z2 z3 z4 z5 z6
  clear z0 z1 z2 z3 z4 z5 z6
  refine W.widen (k := 22) (n := 5064) (Nat.le_of_ble_eq_true rfl) (Nat.le_of_ble_eq_true rfl) ?_
  refine W.eq (g2 := F0 m 193 ls []) rfl ?_
  refine loop1 hx hb hts hown hK hP hD hS (q := q2) (cA := c2) (f := fun _ => 0) rfl rfl rfl hl (fun H locs ls hP hD hS hl => ?_)
  refine loop2 hx hb hts hown hK hP hD hS (q := q5) (cA := c5) (f := fun _ => 0) rfl rfl rfl hl (fun H locs ls hP hD hS hl => ?_)
  obtain ⟨L, hL⟩ : ∃ L : LAM, L = fun k => bif Nat.ble k 0 then (h0, D.1 0) else bif Nat.ble k 1 then (q1, c1) else bif Nat.ble k 2 then (q2, c2) else bif Nat.ble k 3 then (q3, c3) else bif Nat.ble k 4 then (q4, c4) else bif Nat.ble k 5 then (q5, c5) else bif Nat.ble k 6 then (q6, c6) else bif Nat.ble k 7 then (q7, c7) else bif Nat.ble k 8 then (q8, c8) else bif Nat.ble k 9 then (q9, c9) else bif Nat.ble k 10 then (q10, c10) else bif Nat.ble k 11 then (q11, c11) else bif Nat.ble k 12 then (q12, c12) else bif Nat.ble k 13 then (q13, c13) else bif Nat.ble k 14 then (q14, c14) else bif Nat.ble k 15 then (q15, c15) else bif Nat.ble k 16 then (q16, c16) else bif Nat.ble k 17 then (q17, c17) else bif Nat.ble k 18 then (q18, c18) else bif Nat.ble k 19 then (q19, c19) else bif Nat.ble k 20 then (q20, c20) else bif Nat.ble k 21 then (q21, c21) else bif Nat.ble k 22 then (q22, c22) else (0, D.1 0) := ⟨_, rfl⟩
  have hP9 : va_P D CLS (w10 L) H := by rw [hL]; exact hP
  have hD9 : va_D A (w10 L) := by rw [hL]; exact hD
  have hK9 : va_K D CLS (kC10 L) s := by rw [hL]; exact hK
  refine W.widen (k := 22) (n := 5064) (Nat.le_of_ble_eq_true rfl) (Nat.le_of_ble_eq_true rfl) ?_
  exact W.vret hx hb hr (fun t ht hW => ⟨⟨L, rfl, by rw [hL]; rfl, by rw [ht]; exact hP9, va_K.moved hW.alike hK9, hD9⟩, hS.F ht⟩) hS.2.2 (show decode cX10_init 236 = .ok (.return_, 1) by decide +kernel)
