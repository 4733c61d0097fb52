/-! constructors that call -/
theorem k108 : Cond.methodLink RX8 3 Lib.objectInit ∈ GW := gwp 108 (by decide +kernel) (by decide +kernel)
theorem k109 : Cond.methodLink RX8 9 yJ9_max_7cf53 ∈ GW := gwp 109 (by decide +kernel) (by decide +kernel)
theorem k110 : Cond.static yJ9_max_7cf53 ∈ GW := gwp 110 (by decide +kernel) (by decide +kernel)
theorem k111 : Cond.code yJ9_max_7cf53 cJ9_max_7cf53 2 (some .int) ∈ GW := gwp 111 (by decide +kernel) (by decide +kernel)
theorem k112 : Cond.classLink RX8 21 "[[I" ∈ GW := gwp 112 (by decide +kernel) (by decide +kernel)
theorem k114 : Cond.fieldLink RX8 15 "RiverDays$Rows" "limit" "I" ∈ GW := gwp 114 (by decide +kernel) (by decide +kernel)
theorem k116 : Cond.fieldLink RX8 23 "RiverDays$Rows" "places" "[[I" ∈ GW := gwp 116 (by decide +kernel) (by decide +kernel)
theorem k117 : Cond.fieldLink RX8 26 "RiverDays$Rows" "sizes" "[I" ∈ GW := gwp 117 (by decide +kernel) (by decide +kernel)
theorem k189 : Cond.instantiable RX0 9 ∈ GW := gwp 189 (by decide +kernel) (by decide +kernel)
theorem k191 : Cond.instanceMethod yX0_init ∈ GW := gwp 191 (by decide +kernel) (by decide +kernel)
theorem k192 : Cond.code yX0_init cX0_init 1 none ∈ GW := gwp 192 (by decide +kernel) (by decide +kernel)
theorem k239 : Cond.methodLink RX5 3 Lib.objectInit ∈ GW := gwp 239 (by decide +kernel) (by decide +kernel)
theorem k240 : Cond.classLink RX5 40 RX0 ∈ GW := gwp 240 (by decide +kernel) (by decide +kernel)
theorem k242 : Cond.fieldLink RX5 9 "RiverDays$Hunt" "due" "[I" ∈ GW := gwp 242 (by decide +kernel) (by decide +kernel)
theorem k244 : Cond.fieldLink RX5 15 "RiverDays$Hunt" "plan" "[I" ∈ GW := gwp 244 (by decide +kernel) (by decide +kernel)
theorem k246 : Cond.fieldLink RX5 18 "RiverDays$Hunt" "village" "I" ∈ GW := gwp 246 (by decide +kernel) (by decide +kernel)
theorem k248 : Cond.fieldLink RX5 22 "RiverDays$Hunt" "days" "I" ∈ GW := gwp 248 (by decide +kernel) (by decide +kernel)
theorem k250 : Cond.fieldLink RX5 25 "RiverDays$Hunt" "found" "I" ∈ GW := gwp 250 (by decide +kernel) (by decide +kernel)
theorem k252 : Cond.fieldLink RX5 28 "RiverDays$Hunt" "top" "I" ∈ GW := gwp 252 (by decide +kernel) (by decide +kernel)
theorem k254 : Cond.fieldLink RX5 31 "RiverDays$Hunt" "common" "I" ∈ GW := gwp 254 (by decide +kernel) (by decide +kernel)
theorem k256 : Cond.fieldLink RX5 34 "RiverDays$Hunt" "goal" "I" ∈ GW := gwp 256 (by decide +kernel) (by decide +kernel)
theorem k257 : Cond.fieldLink RX5 37 "RiverDays$Hunt" "tried" "[I" ∈ GW := gwp 257 (by decide +kernel) (by decide +kernel)
theorem k258 : Cond.fieldLink RX5 43 "RiverDays$Hunt" "aside" "LRiverDays$Aside;" ∈ GW := gwp 258 (by decide +kernel) (by decide +kernel)
theorem k285 : Cond.methodLink RX1 3 Lib.objectInit ∈ GW := gwp 285 (by decide +kernel) (by decide +kernel)
theorem k286 : Cond.classLink RX1 35 RX0 ∈ GW := gwp 286 (by decide +kernel) (by decide +kernel)
theorem k288 : Cond.fieldLink RX1 9 "RiverDays$Breaking" "plan" "[I" ∈ GW := gwp 288 (by decide +kernel) (by decide +kernel)
theorem k290 : Cond.fieldLink RX1 15 "RiverDays$Breaking" "seaWeighed" "J" ∈ GW := gwp 290 (by decide +kernel) (by decide +kernel)
theorem k292 : Cond.fieldLink RX1 19 "RiverDays$Breaking" "reached" "J" ∈ GW := gwp 292 (by decide +kernel) (by decide +kernel)
theorem k294 : Cond.fieldLink RX1 22 "RiverDays$Breaking" "whole" "J" ∈ GW := gwp 294 (by decide +kernel) (by decide +kernel)
theorem k296 : Cond.fieldLink RX1 25 "RiverDays$Breaking" "days" "I" ∈ GW := gwp 296 (by decide +kernel) (by decide +kernel)
theorem k297 : Cond.fieldLink RX1 29 "RiverDays$Breaking" "often" "I" ∈ GW := gwp 297 (by decide +kernel) (by decide +kernel)
theorem k298 : Cond.fieldLink RX1 32 "RiverDays$Breaking" "p" "I" ∈ GW := gwp 298 (by decide +kernel) (by decide +kernel)
theorem k299 : Cond.fieldLink RX1 38 "RiverDays$Breaking" "aside" "LRiverDays$Aside;" ∈ GW := gwp 299 (by decide +kernel) (by decide +kernel)
def w8a (L : LAM) (r0 : Nat → Option Nat) : va_W := ((L 0).1, .inr (8, [.int 40, .ref (L 1).1, .ref (L 8).1])) :: ((((L 1).1, .inl ((L 1).2, 6, .inr (.inr (.inr (.inr r0))))) :: [((L 2).1, .inl ((L 2).2, 40, .inl (fun _ => 0))), ((L 3).1, .inl ((L 3).2, 40, .inl (fun _ => 0))), ((L 4).1, .inl ((L 4).2, 40, .inl (fun _ => 0))), ((L 5).1, .inl ((L 5).2, 40, .inl (fun _ => 0))), ((L 6).1, .inl ((L 6).2, 40, .inl (fun _ => 0))), ((L 7).1, .inl ((L 7).2, 40, .inl (fun _ => 0)))]) ++ [((L 8).1, .inl ((L 8).2, 6, .inl (upd (upd (upd (upd (upd (upd (fun _ => 0) 0 (-1)) 1 (-1)) 2 (-1)) 3 (-1)) 4 (-1)) 5 (-1))))])
def kC8a (L : LAM) : List (ClassId × FieldType) := [] ++ (((L 1).2, .array .int) :: [((L 2).2, .int), ((L 3).2, .int), ((L 4).2, .int), ((L 5).2, .int), ((L 6).2, .int), ((L 7).2, .int)]) ++ [((L 8).2, .int)]
set_option maxHeartbeats 4000000 in
set_option maxRecDepth 100000 in
theorem cn8a (l : Launch) (D : va_G) (h0 sz : Nat) : Met l yX8_init (.code yX8_init cX8_init 4 none :: GW) ({ frames := 3, cells := 8, slots := 252, locals := 200 }) (va_Pc [.ref h0, .int 6, .int 40] (fun U => U.heap.size = sz ∧ va_P D CLS [(h0, .inr (8, [.int 0, .null, .null]))] U.heap ∧ va_K D CLS [] U ∧ va_D (fun _ => True) [(h0, .inr (8, [.int 0, .null, .null]))] ∧ XW U)) (va_Qv (fun L : LAM => (L 0).1 = h0) (fun L U => va_P D CLS (w8a L (lgt [(L 2).1, (L 3).1, (L 4).1, (L 5).1, (L 6).1, (L 7).1])) U.heap ∧ va_K D CLS (kC8a L) U ∧ va_D (va_A [(h0, .inr (8, [.int 0, .null, .null]))] sz) (w8a L (lgt [(L 2).1, (L 3).1, (L 4).1, (L 5).1, (L 6).1, (L 7).1]))) (va_A [(h0, .inr (8, [.int 0, .null, .null]))] sz)) 8 252 (va_A [(h0, .inr (8, [.int 0, .null, .null]))] sz) := by
  refine Met.ofW (cc := cX8_init) (maxL := 4) (ret := none) (by decide) rfl ?_
  intro p e s m args below meth c s₁ B hml hv
  obtain ⟨rfl, hsz, hP, hK, hD0, hXW⟩ := hv
  have hx := B.exec
  have hb := B.bytes
  have hr := B.returns
  have hts := atoms_spec (ws := .code yX8_init cX8_init 4 none :: GW) B.pre
  have hts := fun w hw => hts w (List.mem_cons_of_mem _ hw)
  have hown : s.vm.findClass RX8 = some m.cls := findClass_of_methodNamed B.named
  have hlocks := B.notSynchronized
  have hin : meth.name = "<init>" := (name_of_methodNamed B.named B.method).1
  subst hsz
  have hD := hD0.self (sz := s.heap.size)
  generalize hAe : va_A [(h0, .inr (8, [.int 0, .null, .null]))] s.heap.size = A at hD ⊢
  have hA : ∀ q : Nat, s.heap.size ≤ q → A q := fun q h => by rw [← hAe]; exact Or.inr h
  have hS : va_S A s.heap s.heap [] := va_S.rf
  have hl := lv_entry ([.ref h0, .int 6, .int 40]) (n := 4) (Nat.le_of_ble_eq_true rfl)
  rw [lg_entry_eq]
  generalize (lg_sl ([.ref h0, .int 6, .int 40]) ++ List.replicate (4 - (lg_sl ([.ref h0, .int 6, .int 40])).length) Slot.unset).toArray = ls at hl ⊢
  have hl : lv_has ls 4 [(0, .ref h0), (1, .int 6), (2, .int 40)] := hl
  skip
  refine lv_aload_n hx hb (show decode cX8_init 0 = .ok (.aload_n 0, 1) by decide +kernel) rfl (lv_at hl 0 rfl) ?_
  refine W.objInit hx hb hown (hts _ k108) (hts _ k101) (hts _ k102) rfl (by rw [hml]; exact hl.1) rfl (show decode cX8_init 1 = .ok (.invokespecial 3, 3) by decide +kernel) (Nat.le_of_ble_eq_true rfl) (Nat.le_of_ble_eq_true rfl) ?_
  refine W.eq (g2 := F0 m 4 ls []) rfl ?_
  refine lv_aload_n hx hb (show decode cX8_init 4 = .ok (.aload_n 0, 1) by decide +kernel) rfl (lv_at hl 0 rfl) ?_
  refine lv_iconst (v := 0) hx hb (show decode cX8_init 5 = .ok (.iconst 0, 1) by decide +kernel) (by decide) ?_
  refine lv_iload_n hx hb (show decode cX8_init 6 = .ok (.iload_n 2, 1) by decide +kernel) rfl (lv_at hl 2 rfl) ?_
  refine va_calli (va_runS (As := [.int 0, .int 40]) (rest := [.ref h0]) ⟨hx, hb, hml, hown, hts⟩ (cnmax l 0 40) ⟨callB_of 2 hts (gw_in k111) rfl rfl rfl (hts _ g83) (hts _ k109) (by decide +kernel) ⟨(Nat.le_of_ble_eq_true rfl), (Nat.le_of_ble_eq_true rfl)⟩, hts _ k110⟩ ⟨fun a U g mk q => q, fun U hU hW => ⟨rfl, trivial⟩⟩ rfl rfl hl.1 rfl (lv_room (Nat.le_of_ble_eq_true rfl)) (show decode cX8_init 7 = .ok (.invokestatic 9, 3) by decide +kernel) ⟨(Nat.le_of_ble_eq_true rfl), (Nat.le_of_ble_eq_true rfl)⟩) hS (fun q _ h => h.elim) (fun q h => h.elim) (fun r u t H1 locs ht hvm hw hB hz1 hk1 hS => ?_)
  have hw : r = 40 := hw.trans (by decide)
  subst hw
  replace hP := hP.kept (H1 := H1) (fun k q9 hq => hk1 q9.1 (hP k q9 hq).lt (fun h => h))
  clear hk1 hz1 ht hvm hB
  rename_i z0
  clear z0
  clear t u
  generalize H1 = H at hP hS ⊢
  refine va_putF (D := D) (ci := 8) (v := .int 40) (ty := .int) (C := RX8) (T := TX8) (N := 3) hx hb hts uX8 tyX8 tyX8_ok nmX8 hown hK hP hD hS 0 rfl rfl 0 (by decide) (hts _ k114) (fun _ h9 => h9) rfl hin rfl (by decide +kernel) rfl rfl (Nat.le_of_ble_eq_true rfl) (show decode cX8_init 10 = .ok (.putfield 15, 3) by decide +kernel) (fun H locs hP hD hS => ?_)
  rename_i z0 z1 z2 z3 z4
  clear z0 z1 z2 z3 z4
  replace hP : va_P D CLS ((h0, .inr (8, [.int 40, .null, .null])) :: [] : va_W) H := hP
  replace hD : va_D A ((h0, .inr (8, [.int 40, .null, .null])) :: [] : va_W) := hD
  refine W.eq (g2 := F0 m 13 ls []) rfl ?_
  refine lv_aload_n hx hb (show decode cX8_init 13 = .ok (.aload_n 0, 1) by decide +kernel) rfl (lv_at hl 0 rfl) ?_
  refine lv_iconst (v := 0) hx hb (show decode cX8_init 14 = .ok (.iconst 0, 1) by decide +kernel) (by decide) ?_
  refine lv_iload_n hx hb (show decode cX8_init 15 = .ok (.iload_n 1, 1) by decide +kernel) rfl (lv_at hl 1 rfl) ?_
  refine va_calli (va_runS (As := [.int 0, .int 6]) (rest := [.ref h0]) ⟨hx, hb, hml, hown, hts⟩ (cnmax l 0 6) ⟨callB_of 2 hts (gw_in k111) rfl rfl rfl (hts _ g83) (hts _ k109) (by decide +kernel) ⟨(Nat.le_of_ble_eq_true rfl), (Nat.le_of_ble_eq_true rfl)⟩, hts _ k110⟩ ⟨fun a U g mk q => q, fun U hU hW => ⟨rfl, trivial⟩⟩ rfl rfl hl.1 rfl (lv_room (Nat.le_of_ble_eq_true rfl)) (show decode cX8_init 16 = .ok (.invokestatic 9, 3) by decide +kernel) ⟨(Nat.le_of_ble_eq_true rfl), (Nat.le_of_ble_eq_true rfl)⟩) hS (fun q _ h => h.elim) (fun q h => h.elim) (fun r u t H1 locs ht hvm hw hB hz1 hk1 hS => ?_)
  have hw : r = 6 := hw.trans (by decide)
  subst hw
  replace hP := hP.kept (H1 := H1) (fun k q9 hq => hk1 q9.1 (hP k q9 hq).lt (fun h => h))
  clear hk1 hz1 ht hvm hB
  rename_i z0 z1
  clear z0 z1
  clear H
  clear t u
  generalize H1 = H at hP hS ⊢
  refine lv_aload_n hx hb (show decode cX8_init 19 = .ok (.aload_n 0, 1) by decide +kernel) rfl (lv_at hl 0 rfl) ?_
  refine va_get (D := D) (ci := 8) (C := RX8) (T := TX8) (N := 3) hx hb hts uX8 hown hK hP 0 rfl rfl 0 (by decide) (hts _ k114) (fun _ h9 => h9) rfl (show decode cX8_init 20 = .ok (.getfield 15, 3) by decide +kernel) ?_
  refine va_mna (D := D) hx hb hown (hts _ k112) hXW.1 (hts _ k125) hK hP hD hS hA (N := 6) (K := 40) (by decide) (by decide) (by decide) (by decide) (by decide) (by decide) (Nat.le_of_ble_eq_true rfl) (Nat.le_of_ble_eq_true rfl) (show decode cX8_init 23 = .ok (.multianewarray 21 2, 4) by decide +kernel) (fun q1 c1 b1 H locs hK hP hD hS => ?_)
  rename_i z0 z1 z2 z3 z4 z5
  clear z0 z1 z2 z3 z4 z5
  refine W.widen (k := 7) (n := 246) (Nat.le_of_ble_eq_true rfl) (Nat.le_of_ble_eq_true rfl) ?_
  replace hP : va_P D CLS ((h0, .inr (8, [.int 40, .null, .null])) :: (mwX q1 c1 b1 6 40 (orF q1 6)) : va_W) H := hP
  replace hD : va_D A ((h0, .inr (8, [.int 40, .null, .null])) :: (mwX q1 c1 b1 6 40 (orF q1 6)) : va_W) := hD
  rw [orF_6] at hP hD
  replace hK : va_K D CLS ([] ++ mkC c1 b1 6) s := hK
  refine va_putF (D := D) (ci := 8) (v := .ref q1) (ty := .array (.array .int)) (C := RX8) (T := TX8) (N := 3) hx hb hts uX8 tyX8 tyX8_ok nmX8 hown hK hP hD hS 0 rfl rfl 1 (by decide) (hts _ k116) (fun _ h9 => h9) rfl hin rfl (by decide +kernel) rfl rfl (Nat.le_of_ble_eq_true rfl) (show decode cX8_init 27 = .ok (.putfield 23, 3) by decide +kernel) (fun H locs hP hD hS => ?_)
  rename_i z0 z1 z2 z3 z4
  clear z0 z1 z2 z3 z4
  replace hP : va_P D CLS ((h0, .inr (8, [.int 40, .ref q1, .null])) :: (mwX q1 c1 b1 6 40 (lgt [q1 + 1 + 0, q1 + 1 + 1, q1 + 1 + 2, q1 + 1 + 3, q1 + 1 + 4, q1 + 1 + 5])) : va_W) H := hP
  replace hD : va_D A ((h0, .inr (8, [.int 40, .ref q1, .null])) :: (mwX q1 c1 b1 6 40 (lgt [q1 + 1 + 0, q1 + 1 + 1, q1 + 1 + 2, q1 + 1 + 3, q1 + 1 + 4, q1 + 1 + 5])) : va_W) := hD
  refine W.eq (g2 := F0 m 30 ls []) rfl ?_
  refine lv_aload_n hx hb (show decode cX8_init 30 = .ok (.aload_n 0, 1) by decide +kernel) rfl (lv_at hl 0 rfl) ?_
  refine lv_iconst (v := 0) hx hb (show decode cX8_init 31 = .ok (.iconst 0, 1) by decide +kernel) (by decide) ?_
  refine lv_iload_n hx hb (show decode cX8_init 32 = .ok (.iload_n 1, 1) by decide +kernel) rfl (lv_at hl 1 rfl) ?_
  refine va_calli (va_runS (As := [.int 0, .int 6]) (rest := [.ref h0]) ⟨hx, hb, hml, hown, hts⟩ (cnmax l 0 6) ⟨callB_of 2 hts (gw_in k111) rfl rfl rfl (hts _ g83) (hts _ k109) (by decide +kernel) ⟨(Nat.le_of_ble_eq_true rfl), (Nat.le_of_ble_eq_true rfl)⟩, hts _ k110⟩ ⟨fun a U g mk q => q, fun U hU hW => ⟨rfl, trivial⟩⟩ rfl rfl hl.1 rfl (lv_room (Nat.le_of_ble_eq_true rfl)) (show decode cX8_init 33 = .ok (.invokestatic 9, 3) by decide +kernel) ⟨(Nat.le_of_ble_eq_true rfl), (Nat.le_of_ble_eq_true rfl)⟩) hS (fun q _ h => h.elim) (fun q h => h.elim) (fun r u t H1 locs ht hvm hw hB hz1 hk1 hS => ?_)
  have hw : r = 6 := hw.trans (by decide)
  subst hw
  replace hP := hP.kept (H1 := H1) (fun k q9 hq => hk1 q9.1 (hP k q9 hq).lt (fun h => h))
  clear hk1 hz1 ht hvm hB
  rename_i z0 z1
  clear z0 z1
  clear H
  clear t u
  generalize H1 = H at hP hS ⊢
  refine va_newa (D := D) (atype := .int) (a0 := (6, .inl (fun _ => 0))) hx hb (hts _ k125) rfl hK hP hD hS hA (fun _ => rfl) (by decide) (by decide) (by decide) (Nat.le_of_ble_eq_true rfl) (Nat.le_of_ble_eq_true rfl) (show decode cX8_init 36 = .ok (.newarray .int, 2) by decide +kernel) (fun q2 c2 H hK hP hD hS => ?_)
  rename_i z0 z1 z2 z3 z4
  clear z0 z1 z2 z3 z4
  refine W.widen (k := 8) (n := 252) (Nat.le_of_ble_eq_true rfl) (Nat.le_of_ble_eq_true rfl) ?_
  replace hP : va_P D CLS ((h0, .inr (8, [.int 40, .ref q1, .null])) :: (mwX q1 c1 b1 6 40 (lgt [q1 + 1 + 0, q1 + 1 + 1, q1 + 1 + 2, q1 + 1 + 3, q1 + 1 + 4, q1 + 1 + 5]) ++ [(q2, .inl (c2, 6, .inl (fun _ => 0)))]) : va_W) H := hP
  replace hD : va_D A ((h0, .inr (8, [.int 40, .ref q1, .null])) :: (mwX q1 c1 b1 6 40 (lgt [q1 + 1 + 0, q1 + 1 + 1, q1 + 1 + 2, q1 + 1 + 3, q1 + 1 + 4, q1 + 1 + 5]) ++ [(q2, .inl (c2, 6, .inl (fun _ => 0)))]) : va_W) := hD
  replace hK : va_K D CLS ([] ++ mkC c1 b1 6 ++ [(c2, .int)]) s := hK
  refine va_putF (D := D) (ci := 8) (v := .ref q2) (ty := .array .int) (C := RX8) (T := TX8) (N := 3) hx hb hts uX8 tyX8 tyX8_ok nmX8 hown hK hP hD hS 0 rfl rfl 2 (by decide) (hts _ k117) (fun _ h9 => h9) rfl hin rfl (by decide +kernel) rfl rfl (Nat.le_of_ble_eq_true rfl) (show decode cX8_init 38 = .ok (.putfield 26, 3) by decide +kernel) (fun H locs hP hD hS => ?_)
  rename_i z0 z1 z2 z3 z4
  clear z0 z1 z2 z3 z4
  replace hP : va_P D CLS ((h0, .inr (8, [.int 40, .ref q1, .ref q2])) :: (mwX q1 c1 b1 6 40 (lgt [q1 + 1 + 0, q1 + 1 + 1, q1 + 1 + 2, q1 + 1 + 3, q1 + 1 + 4, q1 + 1 + 5]) ++ [(q2, .inl (c2, 6, .inl (fun _ => 0)))]) : va_W) H := hP
  replace hD : va_D A ((h0, .inr (8, [.int 40, .ref q1, .ref q2])) :: (mwX q1 c1 b1 6 40 (lgt [q1 + 1 + 0, q1 + 1 + 1, q1 + 1 + 2, q1 + 1 + 3, q1 + 1 + 4, q1 + 1 + 5]) ++ [(q2, .inl (c2, 6, .inl (fun _ => 0)))]) : va_W) := hD
  refine W.eq (g2 := F0 m 41 ls []) rfl ?_
  refine lv_iconst (v := 0) hx hb (show decode cX8_init 41 = .ok (.iconst 0, 1) by decide +kernel) (by decide) ?_
  refine lv_istore_n (lv' := [(3, .int 0), (0, .ref h0), (1, .int 6), (2, .int 40)]) hx hb (show decode cX8_init 42 = .ok (.istore_n 3, 1) by decide +kernel) rfl hl (by decide) rfl (fun ls hl => ?_)
  rename_i z0 z1
  clear z0 z1
  refine lv_iload_n hx hb (show decode cX8_init 43 = .ok (.iload_n 3, 1) by decide +kernel) rfl (lv_at hl 0 rfl) ?_
  refine lv_aload_n hx hb (show decode cX8_init 44 = .ok (.aload_n 0, 1) by decide +kernel) rfl (lv_at hl 1 rfl) ?_
  refine va_get (D := D) (ci := 8) (C := RX8) (T := TX8) (N := 3) hx hb hts uX8 hown hK hP 0 rfl rfl 2 (by decide) (hts _ k117) (fun _ h9 => h9) rfl (show decode cX8_init 45 = .ok (.getfield 26, 3) by decide +kernel) ?_
  refine va_alen (D := D) (v := 6) hx hb hK hP 8 7 rfl rfl (by decide) (show decode cX8_init 48 = .ok (.arraylength, 1) by decide +kernel) ?_
  refine lv_icmp_ge (tgt := 65) hx hb (show decode cX8_init 49 = .ok (.if_icmp .ge 16, 3) by decide +kernel) (by decide) (fun h9 => absurd h9 (by decide)) (fun _ => ?_)
  refine lv_aload_n hx hb (show decode cX8_init 52 = .ok (.aload_n 0, 1) by decide +kernel) rfl (lv_at hl 1 rfl) ?_
  refine va_get (D := D) (ci := 8) (C := RX8) (T := TX8) (N := 3) hx hb hts uX8 hown hK hP 0 rfl rfl 2 (by decide) (hts _ k117) (fun _ h9 => h9) rfl (show decode cX8_init 53 = .ok (.getfield 26, 3) by decide +kernel) ?_
  refine lv_iload_n hx hb (show decode cX8_init 56 = .ok (.iload_n 3, 1) by decide +kernel) rfl (lv_at hl 0 rfl) ?_
  refine lv_iconst (v := -1) hx hb (show decode cX8_init 57 = .ok (.iconst (-1), 1) by decide +kernel) (by decide) ?_
  refine cx_iast (D := D) hx hb hK hP hD hS 8 7 (I := 0) rfl rfl (by unfold vp_in; decide) (by decide) (show decode cX8_init 58 = .ok (.iastore, 1) by decide +kernel) (fun H locs hP hD hS => ?_)
  rename_i z0 z1 z2 z3 z4
  clear z0 z1 z2 z3 z4
  replace hP : va_P D CLS ((h0, .inr (8, [.int 40, .ref q1, .ref q2])) :: (mwX q1 c1 b1 6 40 (lgt [q1 + 1 + 0, q1 + 1 + 1, q1 + 1 + 2, q1 + 1 + 3, q1 + 1 + 4, q1 + 1 + 5]) ++ [(q2, .inl (c2, 6, .inl (upd (fun _ => 0) 0 (-1))))]) : va_W) H := hP
  replace hD : va_D A ((h0, .inr (8, [.int 40, .ref q1, .ref q2])) :: (mwX q1 c1 b1 6 40 (lgt [q1 + 1 + 0, q1 + 1 + 1, q1 + 1 + 2, q1 + 1 + 3, q1 + 1 + 4, q1 + 1 + 5]) ++ [(q2, .inl (c2, 6, .inl (upd (fun _ => 0) 0 (-1))))]) : va_W) := hD
  refine W.eq (g2 := F0 m 59 ls []) rfl ?_
  refine lv_iinc (k := 0) (v := 1) (lv' := [(3, .int 1), (0, .ref h0), (1, .int 6), (2, .int 40)]) hx hb (show decode cX8_init 59 = .ok (.iinc 3 1, 3) by decide +kernel) hl rfl (by decide) (by decide) rfl (fun ls hl => ?_)
  rename_i z0 z1
  clear z0 z1
  refine lv_goto (tgt := 43) hx hb (show decode cX8_init 62 = .ok (.goto (-19), 3) by decide +kernel) (by decide) ?_
  refine lv_iload_n hx hb (show decode cX8_init 43 = .ok (.iload_n 3, 1) by decide +kernel) rfl (lv_at hl 0 rfl) ?_
  refine lv_aload_n hx hb (show decode cX8_init 44 = .ok (.aload_n 0, 1) by decide +kernel) rfl (lv_at hl 1 rfl) ?_
  refine va_get (D := D) (ci := 8) (C := RX8) (T := TX8) (N := 3) hx hb hts uX8 hown hK hP 0 rfl rfl 2 (by decide) (hts _ k117) (fun _ h9 => h9) rfl (show decode cX8_init 45 = .ok (.getfield 26, 3) by decide +kernel) ?_
  refine va_alen (D := D) (v := 6) hx hb hK hP 8 7 rfl rfl (by decide) (show decode cX8_init 48 = .ok (.arraylength, 1) by decide +kernel) ?_
  refine lv_icmp_ge (tgt := 65) hx hb (show decode cX8_init 49 = .ok (.if_icmp .ge 16, 3) by decide +kernel) (by decide) (fun h9 => absurd h9 (by decide)) (fun _ => ?_)
  refine lv_aload_n hx hb (show decode cX8_init 52 = .ok (.aload_n 0, 1) by decide +kernel) rfl (lv_at hl 1 rfl) ?_
  refine va_get (D := D) (ci := 8) (C := RX8) (T := TX8) (N := 3) hx hb hts uX8 hown hK hP 0 rfl rfl 2 (by decide) (hts _ k117) (fun _ h9 => h9) rfl (show decode cX8_init 53 = .ok (.getfield 26, 3) by decide +kernel) ?_
  refine lv_iload_n hx hb (show decode cX8_init 56 = .ok (.iload_n 3, 1) by decide +kernel) rfl (lv_at hl 0 rfl) ?_
  refine lv_iconst (v := -1) hx hb (show decode cX8_init 57 = .ok (.iconst (-1), 1) by decide +kernel) (by decide) ?_
  refine cx_iast (D := D) hx hb hK hP hD hS 8 7 (I := 1) rfl rfl (by unfold vp_in; decide) (by decide) (show decode cX8_init 58 = .ok (.iastore, 1) by decide +kernel) (fun H locs hP hD hS => ?_)
  rename_i z0 z1 z2 z3 z4
  clear z0 z1 z2 z3 z4
  replace hP : va_P D CLS ((h0, .inr (8, [.int 40, .ref q1, .ref q2])) :: (mwX q1 c1 b1 6 40 (lgt [q1 + 1 + 0, q1 + 1 + 1, q1 + 1 + 2, q1 + 1 + 3, q1 + 1 + 4, q1 + 1 + 5]) ++ [(q2, .inl (c2, 6, .inl (upd (upd (fun _ => 0) 0 (-1)) 1 (-1))))]) : va_W) H := hP
  replace hD : va_D A ((h0, .inr (8, [.int 40, .ref q1, .ref q2])) :: (mwX q1 c1 b1 6 40 (lgt [q1 + 1 + 0, q1 + 1 + 1, q1 + 1 + 2, q1 + 1 + 3, q1 + 1 + 4, q1 + 1 + 5]) ++ [(q2, .inl (c2, 6, .inl (upd (upd (fun _ => 0) 0 (-1)) 1 (-1))))]) : va_W) := hD
  refine W.eq (g2 := F0 m 59 ls []) rfl ?_
  refine lv_iinc (k := 0) (v := 2) (lv' := [(3, .int 2), (0, .ref h0), (1, .int 6), (2, .int 40)]) hx hb (show decode cX8_init 59 = .ok (.iinc 3 1, 3) by decide +kernel) hl rfl (by decide) (by decide) rfl (fun ls hl => ?_)
  rename_i z0 z1
  clear z0 z1
  refine lv_goto (tgt := 43) hx hb (show decode cX8_init 62 = .ok (.goto (-19), 3) by decide +kernel) (by decide) ?_
  refine lv_iload_n hx hb (show decode cX8_init 43 = .ok (.iload_n 3, 1) by decide +kernel) rfl (lv_at hl 0 rfl) ?_
  refine lv_aload_n hx hb (show decode cX8_init 44 = .ok (.aload_n 0, 1) by decide +kernel) rfl (lv_at hl 1 rfl) ?_
  refine va_get (D := D) (ci := 8) (C := RX8) (T := TX8) (N := 3) hx hb hts uX8 hown hK hP 0 rfl rfl 2 (by decide) (hts _ k117) (fun _ h9 => h9) rfl (show decode cX8_init 45 = .ok (.getfield 26, 3) by decide +kernel) ?_
  refine va_alen (D := D) (v := 6) hx hb hK hP 8 7 rfl rfl (by decide) (show decode cX8_init 48 = .ok (.arraylength, 1) by decide +kernel) ?_
  refine lv_icmp_ge (tgt := 65) hx hb (show decode cX8_init 49 = .ok (.if_icmp .ge 16, 3) by decide +kernel) (by decide) (fun h9 => absurd h9 (by decide)) (fun _ => ?_)
  refine lv_aload_n hx hb (show decode cX8_init 52 = .ok (.aload_n 0, 1) by decide +kernel) rfl (lv_at hl 1 rfl) ?_
  refine va_get (D := D) (ci := 8) (C := RX8) (T := TX8) (N := 3) hx hb hts uX8 hown hK hP 0 rfl rfl 2 (by decide) (hts _ k117) (fun _ h9 => h9) rfl (show decode cX8_init 53 = .ok (.getfield 26, 3) by decide +kernel) ?_
  refine lv_iload_n hx hb (show decode cX8_init 56 = .ok (.iload_n 3, 1) by decide +kernel) rfl (lv_at hl 0 rfl) ?_
  refine lv_iconst (v := -1) hx hb (show decode cX8_init 57 = .ok (.iconst (-1), 1) by decide +kernel) (by decide) ?_
  refine cx_iast (D := D) hx hb hK hP hD hS 8 7 (I := 2) rfl rfl (by unfold vp_in; decide) (by decide) (show decode cX8_init 58 = .ok (.iastore, 1) by decide +kernel) (fun H locs hP hD hS => ?_)
  rename_i z0 z1 z2 z3 z4
  clear z0 z1 z2 z3 z4
  replace hP : va_P D CLS ((h0, .inr (8, [.int 40, .ref q1, .ref q2])) :: (mwX q1 c1 b1 6 40 (lgt [q1 + 1 + 0, q1 + 1 + 1, q1 + 1 + 2, q1 + 1 + 3, q1 + 1 + 4, q1 + 1 + 5]) ++ [(q2, .inl (c2, 6, .inl (upd (upd (upd (fun _ => 0) 0 (-1)) 1 (-1)) 2 (-1))))]) : va_W) H := hP
  replace hD : va_D A ((h0, .inr (8, [.int 40, .ref q1, .ref q2])) :: (mwX q1 c1 b1 6 40 (lgt [q1 + 1 + 0, q1 + 1 + 1, q1 + 1 + 2, q1 + 1 + 3, q1 + 1 + 4, q1 + 1 + 5]) ++ [(q2, .inl (c2, 6, .inl (upd (upd (upd (fun _ => 0) 0 (-1)) 1 (-1)) 2 (-1))))]) : va_W) := hD
  refine W.eq (g2 := F0 m 59 ls []) rfl ?_
  refine lv_iinc (k := 0) (v := 3) (lv' := [(3, .int 3), (0, .ref h0), (1, .int 6), (2, .int 40)]) hx hb (show decode cX8_init 59 = .ok (.iinc 3 1, 3) by decide +kernel) hl rfl (by decide) (by decide) rfl (fun ls hl => ?_)
  rename_i z0 z1
  clear z0 z1
  refine lv_goto (tgt := 43) hx hb (show decode cX8_init 62 = .ok (.goto (-19), 3) by decide +kernel) (by decide) ?_
  refine lv_iload_n hx hb (show decode cX8_init 43 = .ok (.iload_n 3, 1) by decide +kernel) rfl (lv_at hl 0 rfl) ?_
  refine lv_aload_n hx hb (show decode cX8_init 44 = .ok (.aload_n 0, 1) by decide +kernel) rfl (lv_at hl 1 rfl) ?_
  refine va_get (D := D) (ci := 8) (C := RX8) (T := TX8) (N := 3) hx hb hts uX8 hown hK hP 0 rfl rfl 2 (by decide) (hts _ k117) (fun _ h9 => h9) rfl (show decode cX8_init 45 = .ok (.getfield 26, 3) by decide +kernel) ?_
  refine va_alen (D := D) (v := 6) hx hb hK hP 8 7 rfl rfl (by decide) (show decode cX8_init 48 = .ok (.arraylength, 1) by decide +kernel) ?_
  refine lv_icmp_ge (tgt := 65) hx hb (show decode cX8_init 49 = .ok (.if_icmp .ge 16, 3) by decide +kernel) (by decide) (fun h9 => absurd h9 (by decide)) (fun _ => ?_)
  refine lv_aload_n hx hb (show decode cX8_init 52 = .ok (.aload_n 0, 1) by decide +kernel) rfl (lv_at hl 1 rfl) ?_
  refine va_get (D := D) (ci := 8) (C := RX8) (T := TX8) (N := 3) hx hb hts uX8 hown hK hP 0 rfl rfl 2 (by decide) (hts _ k117) (fun _ h9 => h9) rfl (show decode cX8_init 53 = .ok (.getfield 26, 3) by decide +kernel) ?_
  refine lv_iload_n hx hb (show decode cX8_init 56 = .ok (.iload_n 3, 1) by decide +kernel) rfl (lv_at hl 0 rfl) ?_
  refine lv_iconst (v := -1) hx hb (show decode cX8_init 57 = .ok (.iconst (-1), 1) by decide +kernel) (by decide) ?_
  refine cx_iast (D := D) hx hb hK hP hD hS 8 7 (I := 3) rfl rfl (by unfold vp_in; decide) (by decide) (show decode cX8_init 58 = .ok (.iastore, 1) by decide +kernel) (fun H locs hP hD hS => ?_)
  rename_i z0 z1 z2 z3 z4
  clear z0 z1 z2 z3 z4
  replace hP : va_P D CLS ((h0, .inr (8, [.int 40, .ref q1, .ref q2])) :: (mwX q1 c1 b1 6 40 (lgt [q1 + 1 + 0, q1 + 1 + 1, q1 + 1 + 2, q1 + 1 + 3, q1 + 1 + 4, q1 + 1 + 5]) ++ [(q2, .inl (c2, 6, .inl (upd (upd (upd (upd (fun _ => 0) 0 (-1)) 1 (-1)) 2 (-1)) 3 (-1))))]) : va_W) H := hP
  replace hD : va_D A ((h0, .inr (8, [.int 40, .ref q1, .ref q2])) :: (mwX q1 c1 b1 6 40 (lgt [q1 + 1 + 0, q1 + 1 + 1, q1 + 1 + 2, q1 + 1 + 3, q1 + 1 + 4, q1 + 1 + 5]) ++ [(q2, .inl (c2, 6, .inl (upd (upd (upd (upd (fun _ => 0) 0 (-1)) 1 (-1)) 2 (-1)) 3 (-1))))]) : va_W) := hD
  refine W.eq (g2 := F0 m 59 ls []) rfl ?_
  refine lv_iinc (k := 0) (v := 4) (lv' := [(3, .int 4), (0, .ref h0), (1, .int 6), (2, .int 40)]) hx hb (show decode cX8_init 59 = .ok (.iinc 3 1, 3) by decide +kernel) hl rfl (by decide) (by decide) rfl (fun ls hl => ?_)
  rename_i z0 z1
  clear z0 z1
  refine lv_goto (tgt := 43) hx hb (show decode cX8_init 62 = .ok (.goto (-19), 3) by decide +kernel) (by decide) ?_
  refine lv_iload_n hx hb (show decode cX8_init 43 = .ok (.iload_n 3, 1) by decide +kernel) rfl (lv_at hl 0 rfl) ?_
  refine lv_aload_n hx hb (show decode cX8_init 44 = .ok (.aload_n 0, 1) by decide +kernel) rfl (lv_at hl 1 rfl) ?_
  refine va_get (D := D) (ci := 8) (C := RX8) (T := TX8) (N := 3) hx hb hts uX8 hown hK hP 0 rfl rfl 2 (by decide) (hts _ k117) (fun _ h9 => h9) rfl (show decode cX8_init 45 = .ok (.getfield 26, 3) by decide +kernel) ?_
  refine va_alen (D := D) (v := 6) hx hb hK hP 8 7 rfl rfl (by decide) (show decode cX8_init 48 = .ok (.arraylength, 1) by decide +kernel) ?_
  refine lv_icmp_ge (tgt := 65) hx hb (show decode cX8_init 49 = .ok (.if_icmp .ge 16, 3) by decide +kernel) (by decide) (fun h9 => absurd h9 (by decide)) (fun _ => ?_)
  refine lv_aload_n hx hb (show decode cX8_init 52 = .ok (.aload_n 0, 1) by decide +kernel) rfl (lv_at hl 1 rfl) ?_
  refine va_get (D := D) (ci := 8) (C := RX8) (T := TX8) (N := 3) hx hb hts uX8 hown hK hP 0 rfl rfl 2 (by decide) (hts _ k117) (fun _ h9 => h9) rfl (show decode cX8_init 53 = .ok (.getfield 26, 3) by decide +kernel) ?_
  refine lv_iload_n hx hb (show decode cX8_init 56 = .ok (.iload_n 3, 1) by decide +kernel) rfl (lv_at hl 0 rfl) ?_
  refine lv_iconst (v := -1) hx hb (show decode cX8_init 57 = .ok (.iconst (-1), 1) by decide +kernel) (by decide) ?_
  refine cx_iast (D := D) hx hb hK hP hD hS 8 7 (I := 4) rfl rfl (by unfold vp_in; decide) (by decide) (show decode cX8_init 58 = .ok (.iastore, 1) by decide +kernel) (fun H locs hP hD hS => ?_)
  rename_i z0 z1 z2 z3 z4
  clear z0 z1 z2 z3 z4
  replace hP : va_P D CLS ((h0, .inr (8, [.int 40, .ref q1, .ref q2])) :: (mwX q1 c1 b1 6 40 (lgt [q1 + 1 + 0, q1 + 1 + 1, q1 + 1 + 2, q1 + 1 + 3, q1 + 1 + 4, q1 + 1 + 5]) ++ [(q2, .inl (c2, 6, .inl (upd (upd (upd (upd (upd (fun _ => 0) 0 (-1)) 1 (-1)) 2 (-1)) 3 (-1)) 4 (-1))))]) : va_W) H := hP
  replace hD : va_D A ((h0, .inr (8, [.int 40, .ref q1, .ref q2])) :: (mwX q1 c1 b1 6 40 (lgt [q1 + 1 + 0, q1 + 1 + 1, q1 + 1 + 2, q1 + 1 + 3, q1 + 1 + 4, q1 + 1 + 5]) ++ [(q2, .inl (c2, 6, .inl (upd (upd (upd (upd (upd (fun _ => 0) 0 (-1)) 1 (-1)) 2 (-1)) 3 (-1)) 4 (-1))))]) : va_W) := hD
  refine W.eq (g2 := F0 m 59 ls []) rfl ?_
  refine lv_iinc (k := 0) (v := 5) (lv' := [(3, .int 5), (0, .ref h0), (1, .int 6), (2, .int 40)]) hx hb (show decode cX8_init 59 = .ok (.iinc 3 1, 3) by decide +kernel) hl rfl (by decide) (by decide) rfl (fun ls hl => ?_)
  rename_i z0 z1
  clear z0 z1
  refine lv_goto (tgt := 43) hx hb (show decode cX8_init 62 = .ok (.goto (-19), 3) by decide +kernel) (by decide) ?_
  refine lv_iload_n hx hb (show decode cX8_init 43 = .ok (.iload_n 3, 1) by decide +kernel) rfl (lv_at hl 0 rfl) ?_
  refine lv_aload_n hx hb (show decode cX8_init 44 = .ok (.aload_n 0, 1) by decide +kernel) rfl (lv_at hl 1 rfl) ?_
  refine va_get (D := D) (ci := 8) (C := RX8) (T := TX8) (N := 3) hx hb hts uX8 hown hK hP 0 rfl rfl 2 (by decide) (hts _ k117) (fun _ h9 => h9) rfl (show decode cX8_init 45 = .ok (.getfield 26, 3) by decide +kernel) ?_
  refine va_alen (D := D) (v := 6) hx hb hK hP 8 7 rfl rfl (by decide) (show decode cX8_init 48 = .ok (.arraylength, 1) by decide +kernel) ?_
  refine lv_icmp_ge (tgt := 65) hx hb (show decode cX8_init 49 = .ok (.if_icmp .ge 16, 3) by decide +kernel) (by decide) (fun h9 => absurd h9 (by decide)) (fun _ => ?_)
  refine lv_aload_n hx hb (show decode cX8_init 52 = .ok (.aload_n 0, 1) by decide +kernel) rfl (lv_at hl 1 rfl) ?_
  refine va_get (D := D) (ci := 8) (C := RX8) (T := TX8) (N := 3) hx hb hts uX8 hown hK hP 0 rfl rfl 2 (by decide) (hts _ k117) (fun _ h9 => h9) rfl (show decode cX8_init 53 = .ok (.getfield 26, 3) by decide +kernel) ?_
  refine lv_iload_n hx hb (show decode cX8_init 56 = .ok (.iload_n 3, 1) by decide +kernel) rfl (lv_at hl 0 rfl) ?_
  refine lv_iconst (v := -1) hx hb (show decode cX8_init 57 = .ok (.iconst (-1), 1) by decide +kernel) (by decide) ?_
  refine cx_iast (D := D) hx hb hK hP hD hS 8 7 (I := 5) rfl rfl (by unfold vp_in; decide) (by decide) (show decode cX8_init 58 = .ok (.iastore, 1) by decide +kernel) (fun H locs hP hD hS => ?_)
  rename_i z0 z1 z2 z3 z4
  clear z0 z1 z2 z3 z4
  replace hP : va_P D CLS ((h0, .inr (8, [.int 40, .ref q1, .ref q2])) :: (mwX q1 c1 b1 6 40 (lgt [q1 + 1 + 0, q1 + 1 + 1, q1 + 1 + 2, q1 + 1 + 3, q1 + 1 + 4, q1 + 1 + 5]) ++ [(q2, .inl (c2, 6, .inl (upd (upd (upd (upd (upd (upd (fun _ => 0) 0 (-1)) 1 (-1)) 2 (-1)) 3 (-1)) 4 (-1)) 5 (-1))))]) : va_W) H := hP
  replace hD : va_D A ((h0, .inr (8, [.int 40, .ref q1, .ref q2])) :: (mwX q1 c1 b1 6 40 (lgt [q1 + 1 + 0, q1 + 1 + 1, q1 + 1 + 2, q1 + 1 + 3, q1 + 1 + 4, q1 + 1 + 5]) ++ [(q2, .inl (c2, 6, .inl (upd (upd (upd (upd (upd (upd (fun _ => 0) 0 (-1)) 1 (-1)) 2 (-1)) 3 (-1)) 4 (-1)) 5 (-1))))]) : va_W) := hD
  refine W.eq (g2 := F0 m 59 ls []) rfl ?_
  refine lv_iinc (k := 0) (v := 6) (lv' := [(3, .int 6), (0, .ref h0), (1, .int 6), (2, .int 40)]) hx hb (show decode cX8_init 59 = .ok (.iinc 3 1, 3) by decide +kernel) hl rfl (by decide) (by decide) rfl (fun ls hl => ?_)
  rename_i z0 z1
  clear z0 z1
  refine lv_goto (tgt := 43) hx hb (show decode cX8_init 62 = .ok (.goto (-19), 3) by decide +kernel) (by decide) ?_
  refine lv_iload_n hx hb (show decode cX8_init 43 = .ok (.iload_n 3, 1) by decide +kernel) rfl (lv_at hl 0 rfl) ?_
  refine lv_aload_n hx hb (show decode cX8_init 44 = .ok (.aload_n 0, 1) by decide +kernel) rfl (lv_at hl 1 rfl) ?_
  refine va_get (D := D) (ci := 8) (C := RX8) (T := TX8) (N := 3) hx hb hts uX8 hown hK hP 0 rfl rfl 2 (by decide) (hts _ k117) (fun _ h9 => h9) rfl (show decode cX8_init 45 = .ok (.getfield 26, 3) by decide +kernel) ?_
  refine va_alen (D := D) (v := 6) hx hb hK hP 8 7 rfl rfl (by decide) (show decode cX8_init 48 = .ok (.arraylength, 1) by decide +kernel) ?_
  refine lv_icmp_ge (tgt := 65) hx hb (show decode cX8_init 49 = .ok (.if_icmp .ge 16, 3) by decide +kernel) (by decide) (fun _ => ?_) (fun h9 => absurd (by decide) h9)
  obtain ⟨L, hL⟩ : ∃ L : LAM, L = fun k => bif Nat.ble k 0 then (h0, D.1 0) else bif Nat.ble k 1 then (q1, c1) else bif Nat.ble k 7 then (q1 + 1 + (k - 2), b1) else bif Nat.ble k 8 then (q2, c2) else (0, D.1 0) := ⟨_, rfl⟩
  have hP9 : va_P D CLS (w8a L (lgt [(L 2).1, (L 3).1, (L 4).1, (L 5).1, (L 6).1, (L 7).1])) H := by rw [hL]; exact hP
  have hD9 : va_D A (w8a L (lgt [(L 2).1, (L 3).1, (L 4).1, (L 5).1, (L 6).1, (L 7).1])) := by rw [hL]; exact hD
  have hK9 : va_K D CLS (kC8a L) s := by rw [hL]; exact hK
  refine W.widen (k := 8) (n := 252) (Nat.le_of_ble_eq_true rfl) (Nat.le_of_ble_eq_true rfl) ?_
  exact W.vret hx hb hr (fun t ht hW => ⟨⟨L, rfl, by rw [hL]; rfl, by rw [ht]; exact hP9, va_K.moved hW.alike hK9, hD9⟩, hS.F ht⟩) hS.2.2 (show decode cX8_init 65 = .ok (.return_, 1) by decide +kernel)
def w8b (L : LAM) (r0 : Nat → Option Nat) : va_W := ((L 0).1, .inr (8, [.int 60, .ref (L 1).1, .ref (L 6).1])) :: ((((L 1).1, .inl ((L 1).2, 4, .inr (.inr (.inr (.inr r0))))) :: [((L 2).1, .inl ((L 2).2, 60, .inl (fun _ => 0))), ((L 3).1, .inl ((L 3).2, 60, .inl (fun _ => 0))), ((L 4).1, .inl ((L 4).2, 60, .inl (fun _ => 0))), ((L 5).1, .inl ((L 5).2, 60, .inl (fun _ => 0)))]) ++ [((L 6).1, .inl ((L 6).2, 4, .inl (upd (upd (upd (upd (fun _ => 0) 0 (-1)) 1 (-1)) 2 (-1)) 3 (-1))))])
def kC8b (L : LAM) : List (ClassId × FieldType) := [] ++ (((L 1).2, .array .int) :: [((L 2).2, .int), ((L 3).2, .int), ((L 4).2, .int), ((L 5).2, .int)]) ++ [((L 6).2, .int)]
set_option maxHeartbeats 4000000 in
set_option maxRecDepth 100000 in
theorem cn8b (l : Launch) (D : va_G) (h0 sz : Nat) : Met l yX8_init (.code yX8_init cX8_init 4 none :: GW) ({ frames := 3, cells := 6, slots := 248, locals := 200 }) (va_Pc [.ref h0, .int 4, .int 60] (fun U => U.heap.size = sz ∧ va_P D CLS [(h0, .inr (8, [.int 0, .null, .null]))] U.heap ∧ va_K D CLS [] U ∧ va_D (fun _ => True) [(h0, .inr (8, [.int 0, .null, .null]))] ∧ XW U)) (va_Qv (fun L : LAM => (L 0).1 = h0) (fun L U => va_P D CLS (w8b L (lgt [(L 2).1, (L 3).1, (L 4).1, (L 5).1])) U.heap ∧ va_K D CLS (kC8b L) U ∧ va_D (va_A [(h0, .inr (8, [.int 0, .null, .null]))] sz) (w8b L (lgt [(L 2).1, (L 3).1, (L 4).1, (L 5).1]))) (va_A [(h0, .inr (8, [.int 0, .null, .null]))] sz)) 6 248 (va_A [(h0, .inr (8, [.int 0, .null, .null]))] sz) := by
  refine Met.ofW (cc := cX8_init) (maxL := 4) (ret := none) (by decide) rfl ?_
  intro p e s m args below meth c s₁ B hml hv
  obtain ⟨rfl, hsz, hP, hK, hD0, hXW⟩ := hv
  have hx := B.exec
  have hb := B.bytes
  have hr := B.returns
  have hts := atoms_spec (ws := .code yX8_init cX8_init 4 none :: GW) B.pre
  have hts := fun w hw => hts w (List.mem_cons_of_mem _ hw)
  have hown : s.vm.findClass RX8 = some m.cls := findClass_of_methodNamed B.named
  have hlocks := B.notSynchronized
  have hin : meth.name = "<init>" := (name_of_methodNamed B.named B.method).1
  subst hsz
  have hD := hD0.self (sz := s.heap.size)
  generalize hAe : va_A [(h0, .inr (8, [.int 0, .null, .null]))] s.heap.size = A at hD ⊢
  have hA : ∀ q : Nat, s.heap.size ≤ q → A q := fun q h => by rw [← hAe]; exact Or.inr h
  have hS : va_S A s.heap s.heap [] := va_S.rf
  have hl := lv_entry ([.ref h0, .int 4, .int 60]) (n := 4) (Nat.le_of_ble_eq_true rfl)
  rw [lg_entry_eq]
  generalize (lg_sl ([.ref h0, .int 4, .int 60]) ++ List.replicate (4 - (lg_sl ([.ref h0, .int 4, .int 60])).length) Slot.unset).toArray = ls at hl ⊢
  have hl : lv_has ls 4 [(0, .ref h0), (1, .int 4), (2, .int 60)] := hl
  skip
  refine lv_aload_n hx hb (show decode cX8_init 0 = .ok (.aload_n 0, 1) by decide +kernel) rfl (lv_at hl 0 rfl) ?_
  refine W.objInit hx hb hown (hts _ k108) (hts _ k101) (hts _ k102) rfl (by rw [hml]; exact hl.1) rfl (show decode cX8_init 1 = .ok (.invokespecial 3, 3) by decide +kernel) (Nat.le_of_ble_eq_true rfl) (Nat.le_of_ble_eq_true rfl) ?_
  refine W.eq (g2 := F0 m 4 ls []) rfl ?_
  refine lv_aload_n hx hb (show decode cX8_init 4 = .ok (.aload_n 0, 1) by decide +kernel) rfl (lv_at hl 0 rfl) ?_
  refine lv_iconst (v := 0) hx hb (show decode cX8_init 5 = .ok (.iconst 0, 1) by decide +kernel) (by decide) ?_
  refine lv_iload_n hx hb (show decode cX8_init 6 = .ok (.iload_n 2, 1) by decide +kernel) rfl (lv_at hl 2 rfl) ?_
  refine va_calli (va_runS (As := [.int 0, .int 60]) (rest := [.ref h0]) ⟨hx, hb, hml, hown, hts⟩ (cnmax l 0 60) ⟨callB_of 2 hts (gw_in k111) rfl rfl rfl (hts _ g83) (hts _ k109) (by decide +kernel) ⟨(Nat.le_of_ble_eq_true rfl), (Nat.le_of_ble_eq_true rfl)⟩, hts _ k110⟩ ⟨fun a U g mk q => q, fun U hU hW => ⟨rfl, trivial⟩⟩ rfl rfl hl.1 rfl (lv_room (Nat.le_of_ble_eq_true rfl)) (show decode cX8_init 7 = .ok (.invokestatic 9, 3) by decide +kernel) ⟨(Nat.le_of_ble_eq_true rfl), (Nat.le_of_ble_eq_true rfl)⟩) hS (fun q _ h => h.elim) (fun q h => h.elim) (fun r u t H1 locs ht hvm hw hB hz1 hk1 hS => ?_)
  have hw : r = 60 := hw.trans (by decide)
  subst hw
  replace hP := hP.kept (H1 := H1) (fun k q9 hq => hk1 q9.1 (hP k q9 hq).lt (fun h => h))
  clear hk1 hz1 ht hvm hB
  rename_i z0
  clear z0
  clear t u
  generalize H1 = H at hP hS ⊢
  refine va_putF (D := D) (ci := 8) (v := .int 60) (ty := .int) (C := RX8) (T := TX8) (N := 3) hx hb hts uX8 tyX8 tyX8_ok nmX8 hown hK hP hD hS 0 rfl rfl 0 (by decide) (hts _ k114) (fun _ h9 => h9) rfl hin rfl (by decide +kernel) rfl rfl (Nat.le_of_ble_eq_true rfl) (show decode cX8_init 10 = .ok (.putfield 15, 3) by decide +kernel) (fun H locs hP hD hS => ?_)
  rename_i z0 z1 z2 z3 z4
  clear z0 z1 z2 z3 z4
  replace hP : va_P D CLS ((h0, .inr (8, [.int 60, .null, .null])) :: [] : va_W) H := hP
  replace hD : va_D A ((h0, .inr (8, [.int 60, .null, .null])) :: [] : va_W) := hD
  refine W.eq (g2 := F0 m 13 ls []) rfl ?_
  refine lv_aload_n hx hb (show decode cX8_init 13 = .ok (.aload_n 0, 1) by decide +kernel) rfl (lv_at hl 0 rfl) ?_
  refine lv_iconst (v := 0) hx hb (show decode cX8_init 14 = .ok (.iconst 0, 1) by decide +kernel) (by decide) ?_
  refine lv_iload_n hx hb (show decode cX8_init 15 = .ok (.iload_n 1, 1) by decide +kernel) rfl (lv_at hl 1 rfl) ?_
  refine va_calli (va_runS (As := [.int 0, .int 4]) (rest := [.ref h0]) ⟨hx, hb, hml, hown, hts⟩ (cnmax l 0 4) ⟨callB_of 2 hts (gw_in k111) rfl rfl rfl (hts _ g83) (hts _ k109) (by decide +kernel) ⟨(Nat.le_of_ble_eq_true rfl), (Nat.le_of_ble_eq_true rfl)⟩, hts _ k110⟩ ⟨fun a U g mk q => q, fun U hU hW => ⟨rfl, trivial⟩⟩ rfl rfl hl.1 rfl (lv_room (Nat.le_of_ble_eq_true rfl)) (show decode cX8_init 16 = .ok (.invokestatic 9, 3) by decide +kernel) ⟨(Nat.le_of_ble_eq_true rfl), (Nat.le_of_ble_eq_true rfl)⟩) hS (fun q _ h => h.elim) (fun q h => h.elim) (fun r u t H1 locs ht hvm hw hB hz1 hk1 hS => ?_)
  have hw : r = 4 := hw.trans (by decide)
  subst hw
  replace hP := hP.kept (H1 := H1) (fun k q9 hq => hk1 q9.1 (hP k q9 hq).lt (fun h => h))
  clear hk1 hz1 ht hvm hB
  rename_i z0 z1
  clear z0 z1
  clear H
  clear t u
  generalize H1 = H at hP hS ⊢
  refine lv_aload_n hx hb (show decode cX8_init 19 = .ok (.aload_n 0, 1) by decide +kernel) rfl (lv_at hl 0 rfl) ?_
  refine va_get (D := D) (ci := 8) (C := RX8) (T := TX8) (N := 3) hx hb hts uX8 hown hK hP 0 rfl rfl 0 (by decide) (hts _ k114) (fun _ h9 => h9) rfl (show decode cX8_init 20 = .ok (.getfield 15, 3) by decide +kernel) ?_
  refine va_mna (D := D) hx hb hown (hts _ k112) hXW.1 (hts _ k125) hK hP hD hS hA (N := 4) (K := 60) (by decide) (by decide) (by decide) (by decide) (by decide) (by decide) (Nat.le_of_ble_eq_true rfl) (Nat.le_of_ble_eq_true rfl) (show decode cX8_init 23 = .ok (.multianewarray 21 2, 4) by decide +kernel) (fun q1 c1 b1 H locs hK hP hD hS => ?_)
  rename_i z0 z1 z2 z3 z4 z5
  clear z0 z1 z2 z3 z4 z5
  refine W.widen (k := 5) (n := 244) (Nat.le_of_ble_eq_true rfl) (Nat.le_of_ble_eq_true rfl) ?_
  replace hP : va_P D CLS ((h0, .inr (8, [.int 60, .null, .null])) :: (mwX q1 c1 b1 4 60 (orF q1 4)) : va_W) H := hP
  replace hD : va_D A ((h0, .inr (8, [.int 60, .null, .null])) :: (mwX q1 c1 b1 4 60 (orF q1 4)) : va_W) := hD
  rw [orF_4] at hP hD
  replace hK : va_K D CLS ([] ++ mkC c1 b1 4) s := hK
  refine va_putF (D := D) (ci := 8) (v := .ref q1) (ty := .array (.array .int)) (C := RX8) (T := TX8) (N := 3) hx hb hts uX8 tyX8 tyX8_ok nmX8 hown hK hP hD hS 0 rfl rfl 1 (by decide) (hts _ k116) (fun _ h9 => h9) rfl hin rfl (by decide +kernel) rfl rfl (Nat.le_of_ble_eq_true rfl) (show decode cX8_init 27 = .ok (.putfield 23, 3) by decide +kernel) (fun H locs hP hD hS => ?_)
  rename_i z0 z1 z2 z3 z4
  clear z0 z1 z2 z3 z4
  replace hP : va_P D CLS ((h0, .inr (8, [.int 60, .ref q1, .null])) :: (mwX q1 c1 b1 4 60 (lgt [q1 + 1 + 0, q1 + 1 + 1, q1 + 1 + 2, q1 + 1 + 3])) : va_W) H := hP
  replace hD : va_D A ((h0, .inr (8, [.int 60, .ref q1, .null])) :: (mwX q1 c1 b1 4 60 (lgt [q1 + 1 + 0, q1 + 1 + 1, q1 + 1 + 2, q1 + 1 + 3])) : va_W) := hD
  refine W.eq (g2 := F0 m 30 ls []) rfl ?_
  refine lv_aload_n hx hb (show decode cX8_init 30 = .ok (.aload_n 0, 1) by decide +kernel) rfl (lv_at hl 0 rfl) ?_
  refine lv_iconst (v := 0) hx hb (show decode cX8_init 31 = .ok (.iconst 0, 1) by decide +kernel) (by decide) ?_
  refine lv_iload_n hx hb (show decode cX8_init 32 = .ok (.iload_n 1, 1) by decide +kernel) rfl (lv_at hl 1 rfl) ?_
  refine va_calli (va_runS (As := [.int 0, .int 4]) (rest := [.ref h0]) ⟨hx, hb, hml, hown, hts⟩ (cnmax l 0 4) ⟨callB_of 2 hts (gw_in k111) rfl rfl rfl (hts _ g83) (hts _ k109) (by decide +kernel) ⟨(Nat.le_of_ble_eq_true rfl), (Nat.le_of_ble_eq_true rfl)⟩, hts _ k110⟩ ⟨fun a U g mk q => q, fun U hU hW => ⟨rfl, trivial⟩⟩ rfl rfl hl.1 rfl (lv_room (Nat.le_of_ble_eq_true rfl)) (show decode cX8_init 33 = .ok (.invokestatic 9, 3) by decide +kernel) ⟨(Nat.le_of_ble_eq_true rfl), (Nat.le_of_ble_eq_true rfl)⟩) hS (fun q _ h => h.elim) (fun q h => h.elim) (fun r u t H1 locs ht hvm hw hB hz1 hk1 hS => ?_)
  have hw : r = 4 := hw.trans (by decide)
  subst hw
  replace hP := hP.kept (H1 := H1) (fun k q9 hq => hk1 q9.1 (hP k q9 hq).lt (fun h => h))
  clear hk1 hz1 ht hvm hB
  rename_i z0 z1
  clear z0 z1
  clear H
  clear t u
  generalize H1 = H at hP hS ⊢
  refine va_newa (D := D) (atype := .int) (a0 := (4, .inl (fun _ => 0))) hx hb (hts _ k125) rfl hK hP hD hS hA (fun _ => rfl) (by decide) (by decide) (by decide) (Nat.le_of_ble_eq_true rfl) (Nat.le_of_ble_eq_true rfl) (show decode cX8_init 36 = .ok (.newarray .int, 2) by decide +kernel) (fun q2 c2 H hK hP hD hS => ?_)
  rename_i z0 z1 z2 z3 z4
  clear z0 z1 z2 z3 z4
  refine W.widen (k := 6) (n := 248) (Nat.le_of_ble_eq_true rfl) (Nat.le_of_ble_eq_true rfl) ?_
  replace hP : va_P D CLS ((h0, .inr (8, [.int 60, .ref q1, .null])) :: (mwX q1 c1 b1 4 60 (lgt [q1 + 1 + 0, q1 + 1 + 1, q1 + 1 + 2, q1 + 1 + 3]) ++ [(q2, .inl (c2, 4, .inl (fun _ => 0)))]) : va_W) H := hP
  replace hD : va_D A ((h0, .inr (8, [.int 60, .ref q1, .null])) :: (mwX q1 c1 b1 4 60 (lgt [q1 + 1 + 0, q1 + 1 + 1, q1 + 1 + 2, q1 + 1 + 3]) ++ [(q2, .inl (c2, 4, .inl (fun _ => 0)))]) : va_W) := hD
  replace hK : va_K D CLS ([] ++ mkC c1 b1 4 ++ [(c2, .int)]) s := hK
  refine va_putF (D := D) (ci := 8) (v := .ref q2) (ty := .array .int) (C := RX8) (T := TX8) (N := 3) hx hb hts uX8 tyX8 tyX8_ok nmX8 hown hK hP hD hS 0 rfl rfl 2 (by decide) (hts _ k117) (fun _ h9 => h9) rfl hin rfl (by decide +kernel) rfl rfl (Nat.le_of_ble_eq_true rfl) (show decode cX8_init 38 = .ok (.putfield 26, 3) by decide +kernel) (fun H locs hP hD hS => ?_)
  rename_i z0 z1 z2 z3 z4
  clear z0 z1 z2 z3 z4
  replace hP : va_P D CLS ((h0, .inr (8, [.int 60, .ref q1, .ref q2])) :: (mwX q1 c1 b1 4 60 (lgt [q1 + 1 + 0, q1 + 1 + 1, q1 + 1 + 2, q1 + 1 + 3]) ++ [(q2, .inl (c2, 4, .inl (fun _ => 0)))]) : va_W) H := hP
  replace hD : va_D A ((h0, .inr (8, [.int 60, .ref q1, .ref q2])) :: (mwX q1 c1 b1 4 60 (lgt [q1 + 1 + 0, q1 + 1 + 1, q1 + 1 + 2, q1 + 1 + 3]) ++ [(q2, .inl (c2, 4, .inl (fun _ => 0)))]) : va_W) := hD
  refine W.eq (g2 := F0 m 41 ls []) rfl ?_
  refine lv_iconst (v := 0) hx hb (show decode cX8_init 41 = .ok (.iconst 0, 1) by decide +kernel) (by decide) ?_
  refine lv_istore_n (lv' := [(3, .int 0), (0, .ref h0), (1, .int 4), (2, .int 60)]) hx hb (show decode cX8_init 42 = .ok (.istore_n 3, 1) by decide +kernel) rfl hl (by decide) rfl (fun ls hl => ?_)
  rename_i z0 z1
  clear z0 z1
  refine lv_iload_n hx hb (show decode cX8_init 43 = .ok (.iload_n 3, 1) by decide +kernel) rfl (lv_at hl 0 rfl) ?_
  refine lv_aload_n hx hb (show decode cX8_init 44 = .ok (.aload_n 0, 1) by decide +kernel) rfl (lv_at hl 1 rfl) ?_
  refine va_get (D := D) (ci := 8) (C := RX8) (T := TX8) (N := 3) hx hb hts uX8 hown hK hP 0 rfl rfl 2 (by decide) (hts _ k117) (fun _ h9 => h9) rfl (show decode cX8_init 45 = .ok (.getfield 26, 3) by decide +kernel) ?_
  refine va_alen (D := D) (v := 4) hx hb hK hP 6 5 rfl rfl (by decide) (show decode cX8_init 48 = .ok (.arraylength, 1) by decide +kernel) ?_
  refine lv_icmp_ge (tgt := 65) hx hb (show decode cX8_init 49 = .ok (.if_icmp .ge 16, 3) by decide +kernel) (by decide) (fun h9 => absurd h9 (by decide)) (fun _ => ?_)
  refine lv_aload_n hx hb (show decode cX8_init 52 = .ok (.aload_n 0, 1) by decide +kernel) rfl (lv_at hl 1 rfl) ?_
  refine va_get (D := D) (ci := 8) (C := RX8) (T := TX8) (N := 3) hx hb hts uX8 hown hK hP 0 rfl rfl 2 (by decide) (hts _ k117) (fun _ h9 => h9) rfl (show decode cX8_init 53 = .ok (.getfield 26, 3) by decide +kernel) ?_
  refine lv_iload_n hx hb (show decode cX8_init 56 = .ok (.iload_n 3, 1) by decide +kernel) rfl (lv_at hl 0 rfl) ?_
  refine lv_iconst (v := -1) hx hb (show decode cX8_init 57 = .ok (.iconst (-1), 1) by decide +kernel) (by decide) ?_
  refine cx_iast (D := D) hx hb hK hP hD hS 6 5 (I := 0) rfl rfl (by unfold vp_in; decide) (by decide) (show decode cX8_init 58 = .ok (.iastore, 1) by decide +kernel) (fun H locs hP hD hS => ?_)
  rename_i z0 z1 z2 z3 z4
  clear z0 z1 z2 z3 z4
  replace hP : va_P D CLS ((h0, .inr (8, [.int 60, .ref q1, .ref q2])) :: (mwX q1 c1 b1 4 60 (lgt [q1 + 1 + 0, q1 + 1 + 1, q1 + 1 + 2, q1 + 1 + 3]) ++ [(q2, .inl (c2, 4, .inl (upd (fun _ => 0) 0 (-1))))]) : va_W) H := hP
  replace hD : va_D A ((h0, .inr (8, [.int 60, .ref q1, .ref q2])) :: (mwX q1 c1 b1 4 60 (lgt [q1 + 1 + 0, q1 + 1 + 1, q1 + 1 + 2, q1 + 1 + 3]) ++ [(q2, .inl (c2, 4, .inl (upd (fun _ => 0) 0 (-1))))]) : va_W) := hD
  refine W.eq (g2 := F0 m 59 ls []) rfl ?_
  refine lv_iinc (k := 0) (v := 1) (lv' := [(3, .int 1), (0, .ref h0), (1, .int 4), (2, .int 60)]) hx hb (show decode cX8_init 59 = .ok (.iinc 3 1, 3) by decide +kernel) hl rfl (by decide) (by decide) rfl (fun ls hl => ?_)
  rename_i z0 z1
  clear z0 z1
  refine lv_goto (tgt := 43) hx hb (show decode cX8_init 62 = .ok (.goto (-19), 3) by decide +kernel) (by decide) ?_
  refine lv_iload_n hx hb (show decode cX8_init 43 = .ok (.iload_n 3, 1) by decide +kernel) rfl (lv_at hl 0 rfl) ?_
  refine lv_aload_n hx hb (show decode cX8_init 44 = .ok (.aload_n 0, 1) by decide +kernel) rfl (lv_at hl 1 rfl) ?_
  refine va_get (D := D) (ci := 8) (C := RX8) (T := TX8) (N := 3) hx hb hts uX8 hown hK hP 0 rfl rfl 2 (by decide) (hts _ k117) (fun _ h9 => h9) rfl (show decode cX8_init 45 = .ok (.getfield 26, 3) by decide +kernel) ?_
  refine va_alen (D := D) (v := 4) hx hb hK hP 6 5 rfl rfl (by decide) (show decode cX8_init 48 = .ok (.arraylength, 1) by decide +kernel) ?_
  refine lv_icmp_ge (tgt := 65) hx hb (show decode cX8_init 49 = .ok (.if_icmp .ge 16, 3) by decide +kernel) (by decide) (fun h9 => absurd h9 (by decide)) (fun _ => ?_)
  refine lv_aload_n hx hb (show decode cX8_init 52 = .ok (.aload_n 0, 1) by decide +kernel) rfl (lv_at hl 1 rfl) ?_
  refine va_get (D := D) (ci := 8) (C := RX8) (T := TX8) (N := 3) hx hb hts uX8 hown hK hP 0 rfl rfl 2 (by decide) (hts _ k117) (fun _ h9 => h9) rfl (show decode cX8_init 53 = .ok (.getfield 26, 3) by decide +kernel) ?_
  refine lv_iload_n hx hb (show decode cX8_init 56 = .ok (.iload_n 3, 1) by decide +kernel) rfl (lv_at hl 0 rfl) ?_
  refine lv_iconst (v := -1) hx hb (show decode cX8_init 57 = .ok (.iconst (-1), 1) by decide +kernel) (by decide) ?_
  refine cx_iast (D := D) hx hb hK hP hD hS 6 5 (I := 1) rfl rfl (by unfold vp_in; decide) (by decide) (show decode cX8_init 58 = .ok (.iastore, 1) by decide +kernel) (fun H locs hP hD hS => ?_)
  rename_i z0 z1 z2 z3 z4
  clear z0 z1 z2 z3 z4
  replace hP : va_P D CLS ((h0, .inr (8, [.int 60, .ref q1, .ref q2])) :: (mwX q1 c1 b1 4 60 (lgt [q1 + 1 + 0, q1 + 1 + 1, q1 + 1 + 2, q1 + 1 + 3]) ++ [(q2, .inl (c2, 4, .inl (upd (upd (fun _ => 0) 0 (-1)) 1 (-1))))]) : va_W) H := hP
  replace hD : va_D A ((h0, .inr (8, [.int 60, .ref q1, .ref q2])) :: (mwX q1 c1 b1 4 60 (lgt [q1 + 1 + 0, q1 + 1 + 1, q1 + 1 + 2, q1 + 1 + 3]) ++ [(q2, .inl (c2, 4, .inl (upd (upd (fun _ => 0) 0 (-1)) 1 (-1))))]) : va_W) := hD
  refine W.eq (g2 := F0 m 59 ls []) rfl ?_
  refine lv_iinc (k := 0) (v := 2) (lv' := [(3, .int 2), (0, .ref h0), (1, .int 4), (2, .int 60)]) hx hb (show decode cX8_init 59 = .ok (.iinc 3 1, 3) by decide +kernel) hl rfl (by decide) (by decide) rfl (fun ls hl => ?_)
  rename_i z0 z1
  clear z0 z1
  refine lv_goto (tgt := 43) hx hb (show decode cX8_init 62 = .ok (.goto (-19), 3) by decide +kernel) (by decide) ?_
  refine lv_iload_n hx hb (show decode cX8_init 43 = .ok (.iload_n 3, 1) by decide +kernel) rfl (lv_at hl 0 rfl) ?_
  refine lv_aload_n hx hb (show decode cX8_init 44 = .ok (.aload_n 0, 1) by decide +kernel) rfl (lv_at hl 1 rfl) ?_
  refine va_get (D := D) (ci := 8) (C := RX8) (T := TX8) (N := 3) hx hb hts uX8 hown hK hP 0 rfl rfl 2 (by decide) (hts _ k117) (fun _ h9 => h9) rfl (show decode cX8_init 45 = .ok (.getfield 26, 3) by decide +kernel) ?_
  refine va_alen (D := D) (v := 4) hx hb hK hP 6 5 rfl rfl (by decide) (show decode cX8_init 48 = .ok (.arraylength, 1) by decide +kernel) ?_
  refine lv_icmp_ge (tgt := 65) hx hb (show decode cX8_init 49 = .ok (.if_icmp .ge 16, 3) by decide +kernel) (by decide) (fun h9 => absurd h9 (by decide)) (fun _ => ?_)
  refine lv_aload_n hx hb (show decode cX8_init 52 = .ok (.aload_n 0, 1) by decide +kernel) rfl (lv_at hl 1 rfl) ?_
  refine va_get (D := D) (ci := 8) (C := RX8) (T := TX8) (N := 3) hx hb hts uX8 hown hK hP 0 rfl rfl 2 (by decide) (hts _ k117) (fun _ h9 => h9) rfl (show decode cX8_init 53 = .ok (.getfield 26, 3) by decide +kernel) ?_
  refine lv_iload_n hx hb (show decode cX8_init 56 = .ok (.iload_n 3, 1) by decide +kernel) rfl (lv_at hl 0 rfl) ?_
  refine lv_iconst (v := -1) hx hb (show decode cX8_init 57 = .ok (.iconst (-1), 1) by decide +kernel) (by decide) ?_
  refine cx_iast (D := D) hx hb hK hP hD hS 6 5 (I := 2) rfl rfl (by unfold vp_in; decide) (by decide) (show decode cX8_init 58 = .ok (.iastore, 1) by decide +kernel) (fun H locs hP hD hS => ?_)
  rename_i z0 z1 z2 z3 z4
  clear z0 z1 z2 z3 z4
  replace hP : va_P D CLS ((h0, .inr (8, [.int 60, .ref q1, .ref q2])) :: (mwX q1 c1 b1 4 60 (lgt [q1 + 1 + 0, q1 + 1 + 1, q1 + 1 + 2, q1 + 1 + 3]) ++ [(q2, .inl (c2, 4, .inl (upd (upd (upd (fun _ => 0) 0 (-1)) 1 (-1)) 2 (-1))))]) : va_W) H := hP
  replace hD : va_D A ((h0, .inr (8, [.int 60, .ref q1, .ref q2])) :: (mwX q1 c1 b1 4 60 (lgt [q1 + 1 + 0, q1 + 1 + 1, q1 + 1 + 2, q1 + 1 + 3]) ++ [(q2, .inl (c2, 4, .inl (upd (upd (upd (fun _ => 0) 0 (-1)) 1 (-1)) 2 (-1))))]) : va_W) := hD
  refine W.eq (g2 := F0 m 59 ls []) rfl ?_
  refine lv_iinc (k := 0) (v := 3) (lv' := [(3, .int 3), (0, .ref h0), (1, .int 4), (2, .int 60)]) hx hb (show decode cX8_init 59 = .ok (.iinc 3 1, 3) by decide +kernel) hl rfl (by decide) (by decide) rfl (fun ls hl => ?_)
  rename_i z0 z1
  clear z0 z1
  refine lv_goto (tgt := 43) hx hb (show decode cX8_init 62 = .ok (.goto (-19), 3) by decide +kernel) (by decide) ?_
  refine lv_iload_n hx hb (show decode cX8_init 43 = .ok (.iload_n 3, 1) by decide +kernel) rfl (lv_at hl 0 rfl) ?_
  refine lv_aload_n hx hb (show decode cX8_init 44 = .ok (.aload_n 0, 1) by decide +kernel) rfl (lv_at hl 1 rfl) ?_
  refine va_get (D := D) (ci := 8) (C := RX8) (T := TX8) (N := 3) hx hb hts uX8 hown hK hP 0 rfl rfl 2 (by decide) (hts _ k117) (fun _ h9 => h9) rfl (show decode cX8_init 45 = .ok (.getfield 26, 3) by decide +kernel) ?_
  refine va_alen (D := D) (v := 4) hx hb hK hP 6 5 rfl rfl (by decide) (show decode cX8_init 48 = .ok (.arraylength, 1) by decide +kernel) ?_
  refine lv_icmp_ge (tgt := 65) hx hb (show decode cX8_init 49 = .ok (.if_icmp .ge 16, 3) by decide +kernel) (by decide) (fun h9 => absurd h9 (by decide)) (fun _ => ?_)
  refine lv_aload_n hx hb (show decode cX8_init 52 = .ok (.aload_n 0, 1) by decide +kernel) rfl (lv_at hl 1 rfl) ?_
  refine va_get (D := D) (ci := 8) (C := RX8) (T := TX8) (N := 3) hx hb hts uX8 hown hK hP 0 rfl rfl 2 (by decide) (hts _ k117) (fun _ h9 => h9) rfl (show decode cX8_init 53 = .ok (.getfield 26, 3) by decide +kernel) ?_
  refine lv_iload_n hx hb (show decode cX8_init 56 = .ok (.iload_n 3, 1) by decide +kernel) rfl (lv_at hl 0 rfl) ?_
  refine lv_iconst (v := -1) hx hb (show decode cX8_init 57 = .ok (.iconst (-1), 1) by decide +kernel) (by decide) ?_
  refine cx_iast (D := D) hx hb hK hP hD hS 6 5 (I := 3) rfl rfl (by unfold vp_in; decide) (by decide) (show decode cX8_init 58 = .ok (.iastore, 1) by decide +kernel) (fun H locs hP hD hS => ?_)
  rename_i z0 z1 z2 z3 z4
  clear z0 z1 z2 z3 z4
  replace hP : va_P D CLS ((h0, .inr (8, [.int 60, .ref q1, .ref q2])) :: (mwX q1 c1 b1 4 60 (lgt [q1 + 1 + 0, q1 + 1 + 1, q1 + 1 + 2, q1 + 1 + 3]) ++ [(q2, .inl (c2, 4, .inl (upd (upd (upd (upd (fun _ => 0) 0 (-1)) 1 (-1)) 2 (-1)) 3 (-1))))]) : va_W) H := hP
  replace hD : va_D A ((h0, .inr (8, [.int 60, .ref q1, .ref q2])) :: (mwX q1 c1 b1 4 60 (lgt [q1 + 1 + 0, q1 + 1 + 1, q1 + 1 + 2, q1 + 1 + 3]) ++ [(q2, .inl (c2, 4, .inl (upd (upd (upd (upd (fun _ => 0) 0 (-1)) 1 (-1)) 2 (-1)) 3 (-1))))]) : va_W) := hD
  refine W.eq (g2 := F0 m 59 ls []) rfl ?_
  refine lv_iinc (k := 0) (v := 4) (lv' := [(3, .int 4), (0, .ref h0), (1, .int 4), (2, .int 60)]) hx hb (show decode cX8_init 59 = .ok (.iinc 3 1, 3) by decide +kernel) hl rfl (by decide) (by decide) rfl (fun ls hl => ?_)
  rename_i z0 z1
  clear z0 z1
  refine lv_goto (tgt := 43) hx hb (show decode cX8_init 62 = .ok (.goto (-19), 3) by decide +kernel) (by decide) ?_
  refine lv_iload_n hx hb (show decode cX8_init 43 = .ok (.iload_n 3, 1) by decide +kernel) rfl (lv_at hl 0 rfl) ?_
  refine lv_aload_n hx hb (show decode cX8_init 44 = .ok (.aload_n 0, 1) by decide +kernel) rfl (lv_at hl 1 rfl) ?_
  refine va_get (D := D) (ci := 8) (C := RX8) (T := TX8) (N := 3) hx hb hts uX8 hown hK hP 0 rfl rfl 2 (by decide) (hts _ k117) (fun _ h9 => h9) rfl (show decode cX8_init 45 = .ok (.getfield 26, 3) by decide +kernel) ?_
  refine va_alen (D := D) (v := 4) hx hb hK hP 6 5 rfl rfl (by decide) (show decode cX8_init 48 = .ok (.arraylength, 1) by decide +kernel) ?_
  refine lv_icmp_ge (tgt := 65) hx hb (show decode cX8_init 49 = .ok (.if_icmp .ge 16, 3) by decide +kernel) (by decide) (fun _ => ?_) (fun h9 => absurd (by decide) h9)
  obtain ⟨L, hL⟩ : ∃ L : LAM, L = fun k => bif Nat.ble k 0 then (h0, D.1 0) else bif Nat.ble k 1 then (q1, c1) else bif Nat.ble k 5 then (q1 + 1 + (k - 2), b1) else bif Nat.ble k 6 then (q2, c2) else (0, D.1 0) := ⟨_, rfl⟩
  have hP9 : va_P D CLS (w8b L (lgt [(L 2).1, (L 3).1, (L 4).1, (L 5).1])) H := by rw [hL]; exact hP
  have hD9 : va_D A (w8b L (lgt [(L 2).1, (L 3).1, (L 4).1, (L 5).1])) := by rw [hL]; exact hD
  have hK9 : va_K D CLS (kC8b L) s := by rw [hL]; exact hK
  refine W.widen (k := 6) (n := 248) (Nat.le_of_ble_eq_true rfl) (Nat.le_of_ble_eq_true rfl) ?_
  exact W.vret hx hb hr (fun t ht hW => ⟨⟨L, rfl, by rw [hL]; rfl, by rw [ht]; exact hP9, va_K.moved hW.alike hK9, hD9⟩, hS.F ht⟩) hS.2.2 (show decode cX8_init 65 = .ok (.return_, 1) by decide +kernel)
def w5 (L : LAM) (r0 : Nat → Option Nat) : va_W := ((L 0).1, .inr (5, [.ref (L 1).1, .ref (L 2).1, .int 0, .int 0, .int 0, .int 0, .int 0, .int 0, .ref (L 3).1, .ref (L 4).1])) :: ([((L 1).1, .inl ((L 1).2, 4, .inl (fun _ => 0)))] ++ [((L 2).1, .inl ((L 2).2, 4, .inl (fun _ => 0)))] ++ [((L 3).1, .inl ((L 3).2, 4, .inl (fun _ => 0)))] ++ w0 (fun k => L (4 + k)) r0)
def kC5 (L : LAM) : List (ClassId × FieldType) := [] ++ [((L 1).2, .int)] ++ [((L 2).2, .int)] ++ [((L 3).2, .int)] ++ kC0 (fun k => L (4 + k))
set_option maxHeartbeats 4000000 in
set_option maxRecDepth 100000 in
theorem cn5 (l : Launch) (D : va_G) (h0 sz : Nat) : Met l yX5_init (.code yX5_init cX5_init 1 none :: GW) ({ frames := 3, cells := 12, slots := 69, locals := 200 }) (va_Pc [.ref h0] (fun U => U.heap.size = sz ∧ va_P D CLS [(h0, .inr (5, [.null, .null, .int 0, .int 0, .int 0, .int 0, .int 0, .int 0, .null, .null]))] U.heap ∧ va_K D CLS [] U ∧ va_D (fun _ => True) [(h0, .inr (5, [.null, .null, .int 0, .int 0, .int 0, .int 0, .int 0, .int 0, .null, .null]))] ∧ XW U)) (va_Qv (fun L : LAM => (L 0).1 = h0) (fun L U => va_P D CLS (w5 L (lgt [(L 7).1, (L 8).1, (L 9).1, (L 10).1, (L 11).1])) U.heap ∧ va_K D CLS (kC5 L) U ∧ va_D (va_A [(h0, .inr (5, [.null, .null, .int 0, .int 0, .int 0, .int 0, .int 0, .int 0, .null, .null]))] sz) (w5 L (lgt [(L 7).1, (L 8).1, (L 9).1, (L 10).1, (L 11).1]))) (va_A [(h0, .inr (5, [.null, .null, .int 0, .int 0, .int 0, .int 0, .int 0, .int 0, .null, .null]))] sz)) 12 69 (va_A [(h0, .inr (5, [.null, .null, .int 0, .int 0, .int 0, .int 0, .int 0, .int 0, .null, .null]))] sz) := by
  refine Met.ofW (cc := cX5_init) (maxL := 1) (ret := none) (by decide) rfl ?_
  intro p e s m args below meth c s₁ B hml hv
  obtain ⟨rfl, hsz, hP, hK, hD0, hXW⟩ := hv
  have hx := B.exec
  have hb := B.bytes
  have hr := B.returns
  have hts := atoms_spec (ws := .code yX5_init cX5_init 1 none :: GW) B.pre
  have hts := fun w hw => hts w (List.mem_cons_of_mem _ hw)
  have hown : s.vm.findClass RX5 = some m.cls := findClass_of_methodNamed B.named
  have hlocks := B.notSynchronized
  have hin : meth.name = "<init>" := (name_of_methodNamed B.named B.method).1
  subst hsz
  have hD := hD0.self (sz := s.heap.size)
  generalize hAe : va_A [(h0, .inr (5, [.null, .null, .int 0, .int 0, .int 0, .int 0, .int 0, .int 0, .null, .null]))] s.heap.size = A at hD ⊢
  have hA : ∀ q : Nat, s.heap.size ≤ q → A q := fun q h => by rw [← hAe]; exact Or.inr h
  have hS : va_S A s.heap s.heap [] := va_S.rf
  have hl := lv_entry ([.ref h0]) (n := 1) (Nat.le_of_ble_eq_true rfl)
  rw [lg_entry_eq]
  generalize (lg_sl ([.ref h0]) ++ List.replicate (1 - (lg_sl ([.ref h0])).length) Slot.unset).toArray = ls at hl ⊢
  have hl : lv_has ls 1 [(0, .ref h0)] := hl
  skip
  refine lv_aload_n hx hb (show decode cX5_init 0 = .ok (.aload_n 0, 1) by decide +kernel) rfl (lv_at hl 0 rfl) ?_
  refine W.objInit hx hb hown (hts _ k239) (hts _ k101) (hts _ k102) rfl (by rw [hml]; exact hl.1) rfl (show decode cX5_init 1 = .ok (.invokespecial 3, 3) by decide +kernel) (Nat.le_of_ble_eq_true rfl) (Nat.le_of_ble_eq_true rfl) ?_
  refine W.eq (g2 := F0 m 4 ls []) rfl ?_
  refine lv_aload_n hx hb (show decode cX5_init 4 = .ok (.aload_n 0, 1) by decide +kernel) rfl (lv_at hl 0 rfl) ?_
  refine lv_iconst (v := 4) hx hb (show decode cX5_init 5 = .ok (.iconst 4, 1) by decide +kernel) (by decide) ?_
  refine va_newa (D := D) (atype := .int) (a0 := (4, .inl (fun _ => 0))) hx hb (hts _ k125) rfl hK hP hD hS hA (fun _ => rfl) (by decide) (by decide) (by decide) (Nat.le_of_ble_eq_true rfl) (Nat.le_of_ble_eq_true rfl) (show decode cX5_init 6 = .ok (.newarray .int, 2) by decide +kernel) (fun q1 c1 H hK hP hD hS => ?_)
  rename_i z0 z1 z2 z3
  clear z0 z1 z2 z3
  refine W.widen (k := 1) (n := 4) (Nat.le_of_ble_eq_true rfl) (Nat.le_of_ble_eq_true rfl) ?_
  replace hP : va_P D CLS ((h0, .inr (5, [.null, .null, .int 0, .int 0, .int 0, .int 0, .int 0, .int 0, .null, .null])) :: ([(q1, .inl (c1, 4, .inl (fun _ => 0)))]) : va_W) H := hP
  replace hD : va_D A ((h0, .inr (5, [.null, .null, .int 0, .int 0, .int 0, .int 0, .int 0, .int 0, .null, .null])) :: ([(q1, .inl (c1, 4, .inl (fun _ => 0)))]) : va_W) := hD
  replace hK : va_K D CLS ([] ++ [(c1, .int)]) s := hK
  refine va_putF (D := D) (ci := 5) (v := .ref q1) (ty := .array .int) (C := RX5) (T := TX5) (N := 10) hx hb hts uX5 tyX5 tyX5_ok nmX5 hown hK hP hD hS 0 rfl rfl 0 (by decide) (hts _ k242) (fun _ h9 => h9) rfl hin rfl (by decide +kernel) rfl rfl (Nat.le_of_ble_eq_true rfl) (show decode cX5_init 8 = .ok (.putfield 9, 3) by decide +kernel) (fun H locs hP hD hS => ?_)
  rename_i z0 z1 z2 z3
  clear z0 z1 z2 z3
  replace hP : va_P D CLS ((h0, .inr (5, [.ref q1, .null, .int 0, .int 0, .int 0, .int 0, .int 0, .int 0, .null, .null])) :: ([(q1, .inl (c1, 4, .inl (fun _ => 0)))]) : va_W) H := hP
  replace hD : va_D A ((h0, .inr (5, [.ref q1, .null, .int 0, .int 0, .int 0, .int 0, .int 0, .int 0, .null, .null])) :: ([(q1, .inl (c1, 4, .inl (fun _ => 0)))]) : va_W) := hD
  refine W.eq (g2 := F0 m 11 ls []) rfl ?_
  refine lv_aload_n hx hb (show decode cX5_init 11 = .ok (.aload_n 0, 1) by decide +kernel) rfl (lv_at hl 0 rfl) ?_
  refine lv_iconst (v := 4) hx hb (show decode cX5_init 12 = .ok (.iconst 4, 1) by decide +kernel) (by decide) ?_
  refine va_newa (D := D) (atype := .int) (a0 := (4, .inl (fun _ => 0))) hx hb (hts _ k125) rfl hK hP hD hS hA (fun _ => rfl) (by decide) (by decide) (by decide) (Nat.le_of_ble_eq_true rfl) (Nat.le_of_ble_eq_true rfl) (show decode cX5_init 13 = .ok (.newarray .int, 2) by decide +kernel) (fun q2 c2 H hK hP hD hS => ?_)
  rename_i z0 z1 z2 z3 z4
  clear z0 z1 z2 z3 z4
  refine W.widen (k := 2) (n := 8) (Nat.le_of_ble_eq_true rfl) (Nat.le_of_ble_eq_true rfl) ?_
  replace hP : va_P D CLS ((h0, .inr (5, [.ref q1, .null, .int 0, .int 0, .int 0, .int 0, .int 0, .int 0, .null, .null])) :: ([(q1, .inl (c1, 4, .inl (fun _ => 0)))] ++ [(q2, .inl (c2, 4, .inl (fun _ => 0)))]) : va_W) H := hP
  replace hD : va_D A ((h0, .inr (5, [.ref q1, .null, .int 0, .int 0, .int 0, .int 0, .int 0, .int 0, .null, .null])) :: ([(q1, .inl (c1, 4, .inl (fun _ => 0)))] ++ [(q2, .inl (c2, 4, .inl (fun _ => 0)))]) : va_W) := hD
  replace hK : va_K D CLS ([] ++ [(c1, .int)] ++ [(c2, .int)]) s := hK
  refine va_putF (D := D) (ci := 5) (v := .ref q2) (ty := .array .int) (C := RX5) (T := TX5) (N := 10) hx hb hts uX5 tyX5 tyX5_ok nmX5 hown hK hP hD hS 0 rfl rfl 1 (by decide) (hts _ k244) (fun _ h9 => h9) rfl hin rfl (by decide +kernel) rfl rfl (Nat.le_of_ble_eq_true rfl) (show decode cX5_init 15 = .ok (.putfield 15, 3) by decide +kernel) (fun H locs hP hD hS => ?_)
  rename_i z0 z1 z2 z3 z4
  clear z0 z1 z2 z3 z4
  replace hP : va_P D CLS ((h0, .inr (5, [.ref q1, .ref q2, .int 0, .int 0, .int 0, .int 0, .int 0, .int 0, .null, .null])) :: ([(q1, .inl (c1, 4, .inl (fun _ => 0)))] ++ [(q2, .inl (c2, 4, .inl (fun _ => 0)))]) : va_W) H := hP
  replace hD : va_D A ((h0, .inr (5, [.ref q1, .ref q2, .int 0, .int 0, .int 0, .int 0, .int 0, .int 0, .null, .null])) :: ([(q1, .inl (c1, 4, .inl (fun _ => 0)))] ++ [(q2, .inl (c2, 4, .inl (fun _ => 0)))]) : va_W) := hD
  refine W.eq (g2 := F0 m 18 ls []) rfl ?_
  refine lv_aload_n hx hb (show decode cX5_init 18 = .ok (.aload_n 0, 1) by decide +kernel) rfl (lv_at hl 0 rfl) ?_
  refine lv_iconst (v := 0) hx hb (show decode cX5_init 19 = .ok (.iconst 0, 1) by decide +kernel) (by decide) ?_
  refine va_put (D := D) (ci := 5) (v := .int 0) (ty := .int) (C := RX5) (T := TX5) (N := 10) hx hb hts uX5 tyX5 tyX5_ok nmX5 hown hK hP hD hS 0 rfl rfl 2 (by decide) (hts _ k246) (fun _ h9 => h9) rfl (by decide +kernel) rfl rfl (Nat.le_of_ble_eq_true rfl) (show decode cX5_init 20 = .ok (.putfield 18, 3) by decide +kernel) (fun H locs hP hD hS => ?_)
  rename_i z0 z1 z2 z3 z4
  clear z0 z1 z2 z3 z4
  replace hP : va_P D CLS ((h0, .inr (5, [.ref q1, .ref q2, .int 0, .int 0, .int 0, .int 0, .int 0, .int 0, .null, .null])) :: ([(q1, .inl (c1, 4, .inl (fun _ => 0)))] ++ [(q2, .inl (c2, 4, .inl (fun _ => 0)))]) : va_W) H := hP
  replace hD : va_D A ((h0, .inr (5, [.ref q1, .ref q2, .int 0, .int 0, .int 0, .int 0, .int 0, .int 0, .null, .null])) :: ([(q1, .inl (c1, 4, .inl (fun _ => 0)))] ++ [(q2, .inl (c2, 4, .inl (fun _ => 0)))]) : va_W) := hD
  refine W.eq (g2 := F0 m 23 ls []) rfl ?_
  refine lv_aload_n hx hb (show decode cX5_init 23 = .ok (.aload_n 0, 1) by decide +kernel) rfl (lv_at hl 0 rfl) ?_
  refine lv_iconst (v := 0) hx hb (show decode cX5_init 24 = .ok (.iconst 0, 1) by decide +kernel) (by decide) ?_
  refine va_put (D := D) (ci := 5) (v := .int 0) (ty := .int) (C := RX5) (T := TX5) (N := 10) hx hb hts uX5 tyX5 tyX5_ok nmX5 hown hK hP hD hS 0 rfl rfl 3 (by decide) (hts _ k248) (fun _ h9 => h9) rfl (by decide +kernel) rfl rfl (Nat.le_of_ble_eq_true rfl) (show decode cX5_init 25 = .ok (.putfield 22, 3) by decide +kernel) (fun H locs hP hD hS => ?_)
  rename_i z0 z1 z2 z3 z4
  clear z0 z1 z2 z3 z4
  replace hP : va_P D CLS ((h0, .inr (5, [.ref q1, .ref q2, .int 0, .int 0, .int 0, .int 0, .int 0, .int 0, .null, .null])) :: ([(q1, .inl (c1, 4, .inl (fun _ => 0)))] ++ [(q2, .inl (c2, 4, .inl (fun _ => 0)))]) : va_W) H := hP
  replace hD : va_D A ((h0, .inr (5, [.ref q1, .ref q2, .int 0, .int 0, .int 0, .int 0, .int 0, .int 0, .null, .null])) :: ([(q1, .inl (c1, 4, .inl (fun _ => 0)))] ++ [(q2, .inl (c2, 4, .inl (fun _ => 0)))]) : va_W) := hD
  refine W.eq (g2 := F0 m 28 ls []) rfl ?_
  refine lv_aload_n hx hb (show decode cX5_init 28 = .ok (.aload_n 0, 1) by decide +kernel) rfl (lv_at hl 0 rfl) ?_
  refine lv_iconst (v := 0) hx hb (show decode cX5_init 29 = .ok (.iconst 0, 1) by decide +kernel) (by decide) ?_
  refine va_put (D := D) (ci := 5) (v := .int 0) (ty := .int) (C := RX5) (T := TX5) (N := 10) hx hb hts uX5 tyX5 tyX5_ok nmX5 hown hK hP hD hS 0 rfl rfl 4 (by decide) (hts _ k250) (fun _ h9 => h9) rfl (by decide +kernel) rfl rfl (Nat.le_of_ble_eq_true rfl) (show decode cX5_init 30 = .ok (.putfield 25, 3) by decide +kernel) (fun H locs hP hD hS => ?_)
  rename_i z0 z1 z2 z3 z4
  clear z0 z1 z2 z3 z4
  replace hP : va_P D CLS ((h0, .inr (5, [.ref q1, .ref q2, .int 0, .int 0, .int 0, .int 0, .int 0, .int 0, .null, .null])) :: ([(q1, .inl (c1, 4, .inl (fun _ => 0)))] ++ [(q2, .inl (c2, 4, .inl (fun _ => 0)))]) : va_W) H := hP
  replace hD : va_D A ((h0, .inr (5, [.ref q1, .ref q2, .int 0, .int 0, .int 0, .int 0, .int 0, .int 0, .null, .null])) :: ([(q1, .inl (c1, 4, .inl (fun _ => 0)))] ++ [(q2, .inl (c2, 4, .inl (fun _ => 0)))]) : va_W) := hD
  refine W.eq (g2 := F0 m 33 ls []) rfl ?_
  refine lv_aload_n hx hb (show decode cX5_init 33 = .ok (.aload_n 0, 1) by decide +kernel) rfl (lv_at hl 0 rfl) ?_
  refine lv_iconst (v := 0) hx hb (show decode cX5_init 34 = .ok (.iconst 0, 1) by decide +kernel) (by decide) ?_
  refine va_put (D := D) (ci := 5) (v := .int 0) (ty := .int) (C := RX5) (T := TX5) (N := 10) hx hb hts uX5 tyX5 tyX5_ok nmX5 hown hK hP hD hS 0 rfl rfl 5 (by decide) (hts _ k252) (fun _ h9 => h9) rfl (by decide +kernel) rfl rfl (Nat.le_of_ble_eq_true rfl) (show decode cX5_init 35 = .ok (.putfield 28, 3) by decide +kernel) (fun H locs hP hD hS => ?_)
  rename_i z0 z1 z2 z3 z4
  clear z0 z1 z2 z3 z4
  replace hP : va_P D CLS ((h0, .inr (5, [.ref q1, .ref q2, .int 0, .int 0, .int 0, .int 0, .int 0, .int 0, .null, .null])) :: ([(q1, .inl (c1, 4, .inl (fun _ => 0)))] ++ [(q2, .inl (c2, 4, .inl (fun _ => 0)))]) : va_W) H := hP
  replace hD : va_D A ((h0, .inr (5, [.ref q1, .ref q2, .int 0, .int 0, .int 0, .int 0, .int 0, .int 0, .null, .null])) :: ([(q1, .inl (c1, 4, .inl (fun _ => 0)))] ++ [(q2, .inl (c2, 4, .inl (fun _ => 0)))]) : va_W) := hD
  refine W.eq (g2 := F0 m 38 ls []) rfl ?_
  refine lv_aload_n hx hb (show decode cX5_init 38 = .ok (.aload_n 0, 1) by decide +kernel) rfl (lv_at hl 0 rfl) ?_
  refine lv_iconst (v := 0) hx hb (show decode cX5_init 39 = .ok (.iconst 0, 1) by decide +kernel) (by decide) ?_
  refine va_put (D := D) (ci := 5) (v := .int 0) (ty := .int) (C := RX5) (T := TX5) (N := 10) hx hb hts uX5 tyX5 tyX5_ok nmX5 hown hK hP hD hS 0 rfl rfl 6 (by decide) (hts _ k254) (fun _ h9 => h9) rfl (by decide +kernel) rfl rfl (Nat.le_of_ble_eq_true rfl) (show decode cX5_init 40 = .ok (.putfield 31, 3) by decide +kernel) (fun H locs hP hD hS => ?_)
  rename_i z0 z1 z2 z3 z4
  clear z0 z1 z2 z3 z4
  replace hP : va_P D CLS ((h0, .inr (5, [.ref q1, .ref q2, .int 0, .int 0, .int 0, .int 0, .int 0, .int 0, .null, .null])) :: ([(q1, .inl (c1, 4, .inl (fun _ => 0)))] ++ [(q2, .inl (c2, 4, .inl (fun _ => 0)))]) : va_W) H := hP
  replace hD : va_D A ((h0, .inr (5, [.ref q1, .ref q2, .int 0, .int 0, .int 0, .int 0, .int 0, .int 0, .null, .null])) :: ([(q1, .inl (c1, 4, .inl (fun _ => 0)))] ++ [(q2, .inl (c2, 4, .inl (fun _ => 0)))]) : va_W) := hD
  refine W.eq (g2 := F0 m 43 ls []) rfl ?_
  refine lv_aload_n hx hb (show decode cX5_init 43 = .ok (.aload_n 0, 1) by decide +kernel) rfl (lv_at hl 0 rfl) ?_
  refine lv_iconst (v := 0) hx hb (show decode cX5_init 44 = .ok (.iconst 0, 1) by decide +kernel) (by decide) ?_
  refine va_put (D := D) (ci := 5) (v := .int 0) (ty := .int) (C := RX5) (T := TX5) (N := 10) hx hb hts uX5 tyX5 tyX5_ok nmX5 hown hK hP hD hS 0 rfl rfl 7 (by decide) (hts _ k256) (fun _ h9 => h9) rfl (by decide +kernel) rfl rfl (Nat.le_of_ble_eq_true rfl) (show decode cX5_init 45 = .ok (.putfield 34, 3) by decide +kernel) (fun H locs hP hD hS => ?_)
  rename_i z0 z1 z2 z3 z4
  clear z0 z1 z2 z3 z4
  replace hP : va_P D CLS ((h0, .inr (5, [.ref q1, .ref q2, .int 0, .int 0, .int 0, .int 0, .int 0, .int 0, .null, .null])) :: ([(q1, .inl (c1, 4, .inl (fun _ => 0)))] ++ [(q2, .inl (c2, 4, .inl (fun _ => 0)))]) : va_W) H := hP
  replace hD : va_D A ((h0, .inr (5, [.ref q1, .ref q2, .int 0, .int 0, .int 0, .int 0, .int 0, .int 0, .null, .null])) :: ([(q1, .inl (c1, 4, .inl (fun _ => 0)))] ++ [(q2, .inl (c2, 4, .inl (fun _ => 0)))]) : va_W) := hD
  refine W.eq (g2 := F0 m 48 ls []) rfl ?_
  refine lv_aload_n hx hb (show decode cX5_init 48 = .ok (.aload_n 0, 1) by decide +kernel) rfl (lv_at hl 0 rfl) ?_
  refine lv_iconst (v := 4) hx hb (show decode cX5_init 49 = .ok (.iconst 4, 1) by decide +kernel) (by decide) ?_
  refine va_newa (D := D) (atype := .int) (a0 := (4, .inl (fun _ => 0))) hx hb (hts _ k125) rfl hK hP hD hS hA (fun _ => rfl) (by decide) (by decide) (by decide) (Nat.le_of_ble_eq_true rfl) (Nat.le_of_ble_eq_true rfl) (show decode cX5_init 50 = .ok (.newarray .int, 2) by decide +kernel) (fun q3 c3 H hK hP hD hS => ?_)
  rename_i z0 z1 z2 z3 z4
  clear z0 z1 z2 z3 z4
  refine W.widen (k := 3) (n := 12) (Nat.le_of_ble_eq_true rfl) (Nat.le_of_ble_eq_true rfl) ?_
  replace hP : va_P D CLS ((h0, .inr (5, [.ref q1, .ref q2, .int 0, .int 0, .int 0, .int 0, .int 0, .int 0, .null, .null])) :: ([(q1, .inl (c1, 4, .inl (fun _ => 0)))] ++ [(q2, .inl (c2, 4, .inl (fun _ => 0)))] ++ [(q3, .inl (c3, 4, .inl (fun _ => 0)))]) : va_W) H := hP
  replace hD : va_D A ((h0, .inr (5, [.ref q1, .ref q2, .int 0, .int 0, .int 0, .int 0, .int 0, .int 0, .null, .null])) :: ([(q1, .inl (c1, 4, .inl (fun _ => 0)))] ++ [(q2, .inl (c2, 4, .inl (fun _ => 0)))] ++ [(q3, .inl (c3, 4, .inl (fun _ => 0)))]) : va_W) := hD
  replace hK : va_K D CLS ([] ++ [(c1, .int)] ++ [(c2, .int)] ++ [(c3, .int)]) s := hK
  refine va_putF (D := D) (ci := 5) (v := .ref q3) (ty := .array .int) (C := RX5) (T := TX5) (N := 10) hx hb hts uX5 tyX5 tyX5_ok nmX5 hown hK hP hD hS 0 rfl rfl 8 (by decide) (hts _ k257) (fun _ h9 => h9) rfl hin rfl (by decide +kernel) rfl rfl (Nat.le_of_ble_eq_true rfl) (show decode cX5_init 52 = .ok (.putfield 37, 3) by decide +kernel) (fun H locs hP hD hS => ?_)
  rename_i z0 z1 z2 z3 z4
  clear z0 z1 z2 z3 z4
  replace hP : va_P D CLS ((h0, .inr (5, [.ref q1, .ref q2, .int 0, .int 0, .int 0, .int 0, .int 0, .int 0, .ref q3, .null])) :: ([(q1, .inl (c1, 4, .inl (fun _ => 0)))] ++ [(q2, .inl (c2, 4, .inl (fun _ => 0)))] ++ [(q3, .inl (c3, 4, .inl (fun _ => 0)))]) : va_W) H := hP
  replace hD : va_D A ((h0, .inr (5, [.ref q1, .ref q2, .int 0, .int 0, .int 0, .int 0, .int 0, .int 0, .ref q3, .null])) :: ([(q1, .inl (c1, 4, .inl (fun _ => 0)))] ++ [(q2, .inl (c2, 4, .inl (fun _ => 0)))] ++ [(q3, .inl (c3, 4, .inl (fun _ => 0)))]) : va_W) := hD
  refine W.eq (g2 := F0 m 55 ls []) rfl ?_
  refine lv_aload_n hx hb (show decode cX5_init 55 = .ok (.aload_n 0, 1) by decide +kernel) rfl (lv_at hl 0 rfl) ?_
  refine va_new (D := D) (ci := 0) (fs := [.int 0, .int 0, .int 0, .int 0, .int 0, .null, .int 0, .null, .null]) (C := RX0) (T := TX0) (N := 9) hx hb hts uX0 tyX0 tyX0_ok hown (hts _ k240) (hts _ k189) (hts _ g87) hK hP hD hS hA rfl dfX0 (Nat.le_of_ble_eq_true rfl) (Nat.le_of_ble_eq_true rfl) (show decode cX5_init 56 = .ok (.new 40, 3) by decide +kernel) (fun q4 H hP hD hS => ?_)
  rename_i z0 z1 z2 z3
  clear z0 z1 z2 z3
  refine W.widen (k := 4) (n := 21) (Nat.le_of_ble_eq_true rfl) (Nat.le_of_ble_eq_true rfl) ?_
  refine lv_dup hx hb (show decode cX5_init 59 = .ok (.dup, 1) by decide +kernel) rfl ?_
  have hFc := vfree hD hS hA
  refine va_callv (va_runIN (As := []) (rest := [.ref q4, .ref h0]) ⟨hx, hb, hml, hown, hts⟩ (cn0 l D q4 H.size) ⟨va_cnB 0 hts (gw_in k192) rfl rfl rfl (hXW.2.2.2.2.2.2.2.2.2.1) (hts _ g87) (by decide +kernel) ⟨(Nat.le_of_ble_eq_true rfl), (Nat.le_of_ble_eq_true rfl)⟩, rfl, hts _ k191⟩ ⟨fun a U g mk q => by obtain ⟨q0, q1, qP, qK, qD, qX⟩ := q; exact ⟨q0, q1, qP, va_K.moved (u := U) (U := U.calling g mk a) (Vm.Alike.refl U.vm) qK, qD, qX.call⟩, fun U hU hW => ⟨rfl, by rw [hU], by rw [hU]; exact vP_r hP, va_K.moved hW.alike (hK.sub (tys' := []) [] rfl), (vD_r hD).weaken (fun _ _ _ _ => trivial), hXW.warm hW⟩⟩ rfl rfl hl.1 rfl (lv_room (Nat.le_of_ble_eq_true rfl)) (show decode cX5_init 60 = .ok (.invokespecial 42, 3) by decide +kernel) ⟨(Nat.le_of_ble_eq_true rfl), (Nat.le_of_ble_eq_true rfl)⟩) hS (fun q _ h => hFc q h) hFc (fun L4 t H1 locs ht hvm hw hB hz1 hk1 hS => ?_)
  obtain ⟨hP1, hK1, hD1⟩ := hB
  rw [ht] at hP1
  replace hK1 := va_K.moved hvm.symm hK1
  replace hP := vjoin hP hD hk1 hFc hP1 hD1
  clear hD
  obtain ⟨hP, hD⟩ := hP
  replace hK := hK.app hK1
  clear hP1 hK1 hD1 hk1 hz1 hFc ht hvm
  rename_i z0 z1
  clear z0 z1
  clear H
  clear t
  generalize H1 = H at hP hS ⊢
  refine W.widen (k := 12) (n := 69) (Nat.le_of_ble_eq_true rfl) (Nat.le_of_ble_eq_true rfl) ?_
  rw [← hw]
  clear hw
  replace hP : va_P D CLS ((h0, .inr (5, [.ref q1, .ref q2, .int 0, .int 0, .int 0, .int 0, .int 0, .int 0, .ref q3, .null])) :: ([(q1, .inl (c1, 4, .inl (fun _ => 0)))] ++ [(q2, .inl (c2, 4, .inl (fun _ => 0)))] ++ [(q3, .inl (c3, 4, .inl (fun _ => 0)))] ++ w0 L4 (lgt [(L4 3).1, (L4 4).1, (L4 5).1, (L4 6).1, (L4 7).1])) : va_W) H := hP
  replace hD : va_D A ((h0, .inr (5, [.ref q1, .ref q2, .int 0, .int 0, .int 0, .int 0, .int 0, .int 0, .ref q3, .null])) :: ([(q1, .inl (c1, 4, .inl (fun _ => 0)))] ++ [(q2, .inl (c2, 4, .inl (fun _ => 0)))] ++ [(q3, .inl (c3, 4, .inl (fun _ => 0)))] ++ w0 L4 (lgt [(L4 3).1, (L4 4).1, (L4 5).1, (L4 6).1, (L4 7).1])) : va_W) := hD
  replace hK : va_K D CLS ([] ++ [(c1, .int)] ++ [(c2, .int)] ++ [(c3, .int)] ++ kC0 L4) s := hK
  refine va_putF (D := D) (ci := 5) (v := .ref (L4 0).1) (ty := .object "RiverDays$Aside") (C := RX5) (T := TX5) (N := 10) hx hb hts uX5 tyX5 tyX5_ok nmX5 hown hK hP hD hS 0 rfl rfl 9 (by decide) (hts _ k258) (fun _ h9 => h9) rfl hin rfl (by decide +kernel) rfl rfl (Nat.le_of_ble_eq_true rfl) (show decode cX5_init 63 = .ok (.putfield 43, 3) by decide +kernel) (fun H locs hP hD hS => ?_)
  rename_i z0 z1 z2 z3 z4
  clear z0 z1 z2 z3 z4
  replace hP : va_P D CLS ((h0, .inr (5, [.ref q1, .ref q2, .int 0, .int 0, .int 0, .int 0, .int 0, .int 0, .ref q3, .ref (L4 0).1])) :: ([(q1, .inl (c1, 4, .inl (fun _ => 0)))] ++ [(q2, .inl (c2, 4, .inl (fun _ => 0)))] ++ [(q3, .inl (c3, 4, .inl (fun _ => 0)))] ++ w0 L4 (lgt [(L4 3).1, (L4 4).1, (L4 5).1, (L4 6).1, (L4 7).1])) : va_W) H := hP
  replace hD : va_D A ((h0, .inr (5, [.ref q1, .ref q2, .int 0, .int 0, .int 0, .int 0, .int 0, .int 0, .ref q3, .ref (L4 0).1])) :: ([(q1, .inl (c1, 4, .inl (fun _ => 0)))] ++ [(q2, .inl (c2, 4, .inl (fun _ => 0)))] ++ [(q3, .inl (c3, 4, .inl (fun _ => 0)))] ++ w0 L4 (lgt [(L4 3).1, (L4 4).1, (L4 5).1, (L4 6).1, (L4 7).1])) : va_W) := hD
  refine W.eq (g2 := F0 m 66 ls []) rfl ?_
  obtain ⟨L, hL⟩ : ∃ L : LAM, L = fun k => bif Nat.ble k 0 then (h0, D.1 0) else bif Nat.ble k 1 then (q1, c1) else bif Nat.ble k 2 then (q2, c2) else bif Nat.ble k 3 then (q3, c3) else bif Nat.ble k 12 then L4 (k - 4) else (0, D.1 0) := ⟨_, rfl⟩
  have hP9 : va_P D CLS (w5 L (lgt [(L 7).1, (L 8).1, (L 9).1, (L 10).1, (L 11).1])) H := by rw [hL]; exact hP
  have hD9 : va_D A (w5 L (lgt [(L 7).1, (L 8).1, (L 9).1, (L 10).1, (L 11).1])) := by rw [hL]; exact hD
  have hK9 : va_K D CLS (kC5 L) s := by rw [hL]; exact hK
  refine W.widen (k := 12) (n := 69) (Nat.le_of_ble_eq_true rfl) (Nat.le_of_ble_eq_true rfl) ?_
  exact W.vret hx hb hr (fun t ht hW => ⟨⟨L, rfl, by rw [hL]; rfl, by rw [ht]; exact hP9, va_K.moved hW.alike hK9, hD9⟩, hS.F ht⟩) hS.2.2 (show decode cX5_init 66 = .ok (.return_, 1) by decide +kernel)
def w1 (L : LAM) (r0 : Nat → Option Nat) : va_W := ((L 0).1, .inr (1, [.ref (L 1).1, .long 0, .long 0, .long 1, .int 0, .int 0, .int 0, .ref (L 2).1])) :: ([((L 1).1, .inl ((L 1).2, 4, .inl (fun _ => 0)))] ++ w0 (fun k => L (2 + k)) r0)
def kC1 (L : LAM) : List (ClassId × FieldType) := [] ++ [((L 1).2, .int)] ++ kC0 (fun k => L (2 + k))
set_option maxHeartbeats 4000000 in
set_option maxRecDepth 100000 in
theorem cn1 (l : Launch) (D : va_G) (h0 sz : Nat) : Met l yX1_init (.code yX1_init cX1_init 1 none :: GW) ({ frames := 3, cells := 10, slots := 61, locals := 200 }) (va_Pc [.ref h0] (fun U => U.heap.size = sz ∧ va_P D CLS [(h0, .inr (1, [.null, .long 0, .long 0, .long 0, .int 0, .int 0, .int 0, .null]))] U.heap ∧ va_K D CLS [] U ∧ va_D (fun _ => True) [(h0, .inr (1, [.null, .long 0, .long 0, .long 0, .int 0, .int 0, .int 0, .null]))] ∧ XW U)) (va_Qv (fun L : LAM => (L 0).1 = h0) (fun L U => va_P D CLS (w1 L (lgt [(L 5).1, (L 6).1, (L 7).1, (L 8).1, (L 9).1])) U.heap ∧ va_K D CLS (kC1 L) U ∧ va_D (va_A [(h0, .inr (1, [.null, .long 0, .long 0, .long 0, .int 0, .int 0, .int 0, .null]))] sz) (w1 L (lgt [(L 5).1, (L 6).1, (L 7).1, (L 8).1, (L 9).1]))) (va_A [(h0, .inr (1, [.null, .long 0, .long 0, .long 0, .int 0, .int 0, .int 0, .null]))] sz)) 10 61 (va_A [(h0, .inr (1, [.null, .long 0, .long 0, .long 0, .int 0, .int 0, .int 0, .null]))] sz) := by
  refine Met.ofW (cc := cX1_init) (maxL := 1) (ret := none) (by decide) rfl ?_
  intro p e s m args below meth c s₁ B hml hv
  obtain ⟨rfl, hsz, hP, hK, hD0, hXW⟩ := hv
  have hx := B.exec
  have hb := B.bytes
  have hr := B.returns
  have hts := atoms_spec (ws := .code yX1_init cX1_init 1 none :: GW) B.pre
  have hts := fun w hw => hts w (List.mem_cons_of_mem _ hw)
  have hown : s.vm.findClass RX1 = some m.cls := findClass_of_methodNamed B.named
  have hlocks := B.notSynchronized
  have hin : meth.name = "<init>" := (name_of_methodNamed B.named B.method).1
  subst hsz
  have hD := hD0.self (sz := s.heap.size)
  generalize hAe : va_A [(h0, .inr (1, [.null, .long 0, .long 0, .long 0, .int 0, .int 0, .int 0, .null]))] s.heap.size = A at hD ⊢
  have hA : ∀ q : Nat, s.heap.size ≤ q → A q := fun q h => by rw [← hAe]; exact Or.inr h
  have hS : va_S A s.heap s.heap [] := va_S.rf
  have hl := lv_entry ([.ref h0]) (n := 1) (Nat.le_of_ble_eq_true rfl)
  rw [lg_entry_eq]
  generalize (lg_sl ([.ref h0]) ++ List.replicate (1 - (lg_sl ([.ref h0])).length) Slot.unset).toArray = ls at hl ⊢
  have hl : lv_has ls 1 [(0, .ref h0)] := hl
  skip
  refine lv_aload_n hx hb (show decode cX1_init 0 = .ok (.aload_n 0, 1) by decide +kernel) rfl (lv_at hl 0 rfl) ?_
  refine W.objInit hx hb hown (hts _ k285) (hts _ k101) (hts _ k102) rfl (by rw [hml]; exact hl.1) rfl (show decode cX1_init 1 = .ok (.invokespecial 3, 3) by decide +kernel) (Nat.le_of_ble_eq_true rfl) (Nat.le_of_ble_eq_true rfl) ?_
  refine W.eq (g2 := F0 m 4 ls []) rfl ?_
  refine lv_aload_n hx hb (show decode cX1_init 4 = .ok (.aload_n 0, 1) by decide +kernel) rfl (lv_at hl 0 rfl) ?_
  refine lv_iconst (v := 4) hx hb (show decode cX1_init 5 = .ok (.iconst 4, 1) by decide +kernel) (by decide) ?_
  refine va_newa (D := D) (atype := .int) (a0 := (4, .inl (fun _ => 0))) hx hb (hts _ k125) rfl hK hP hD hS hA (fun _ => rfl) (by decide) (by decide) (by decide) (Nat.le_of_ble_eq_true rfl) (Nat.le_of_ble_eq_true rfl) (show decode cX1_init 6 = .ok (.newarray .int, 2) by decide +kernel) (fun q1 c1 H hK hP hD hS => ?_)
  rename_i z0 z1 z2 z3
  clear z0 z1 z2 z3
  refine W.widen (k := 1) (n := 4) (Nat.le_of_ble_eq_true rfl) (Nat.le_of_ble_eq_true rfl) ?_
  replace hP : va_P D CLS ((h0, .inr (1, [.null, .long 0, .long 0, .long 0, .int 0, .int 0, .int 0, .null])) :: ([(q1, .inl (c1, 4, .inl (fun _ => 0)))]) : va_W) H := hP
  replace hD : va_D A ((h0, .inr (1, [.null, .long 0, .long 0, .long 0, .int 0, .int 0, .int 0, .null])) :: ([(q1, .inl (c1, 4, .inl (fun _ => 0)))]) : va_W) := hD
  replace hK : va_K D CLS ([] ++ [(c1, .int)]) s := hK
  refine va_putF (D := D) (ci := 1) (v := .ref q1) (ty := .array .int) (C := RX1) (T := TX1) (N := 8) hx hb hts uX1 tyX1 tyX1_ok nmX1 hown hK hP hD hS 0 rfl rfl 0 (by decide) (hts _ k288) (fun _ h9 => h9) rfl hin rfl (by decide +kernel) rfl rfl (Nat.le_of_ble_eq_true rfl) (show decode cX1_init 8 = .ok (.putfield 9, 3) by decide +kernel) (fun H locs hP hD hS => ?_)
  rename_i z0 z1 z2 z3
  clear z0 z1 z2 z3
  replace hP : va_P D CLS ((h0, .inr (1, [.ref q1, .long 0, .long 0, .long 0, .int 0, .int 0, .int 0, .null])) :: ([(q1, .inl (c1, 4, .inl (fun _ => 0)))]) : va_W) H := hP
  replace hD : va_D A ((h0, .inr (1, [.ref q1, .long 0, .long 0, .long 0, .int 0, .int 0, .int 0, .null])) :: ([(q1, .inl (c1, 4, .inl (fun _ => 0)))]) : va_W) := hD
  refine W.eq (g2 := F0 m 11 ls []) rfl ?_
  refine lv_aload_n hx hb (show decode cX1_init 11 = .ok (.aload_n 0, 1) by decide +kernel) rfl (lv_at hl 0 rfl) ?_
  refine lv_lconst (v := 0) hx hb (show decode cX1_init 12 = .ok (.lconst 0, 1) by decide +kernel) (by decide) ?_
  refine va_put (D := D) (ci := 1) (v := .long 0) (ty := .long) (C := RX1) (T := TX1) (N := 8) hx hb hts uX1 tyX1 tyX1_ok nmX1 hown hK hP hD hS 0 rfl rfl 1 (by decide) (hts _ k290) (fun _ h9 => h9) rfl (by decide +kernel) rfl rfl (Nat.le_of_ble_eq_true rfl) (show decode cX1_init 13 = .ok (.putfield 15, 3) by decide +kernel) (fun H locs hP hD hS => ?_)
  rename_i z0 z1 z2 z3 z4
  clear z0 z1 z2 z3 z4
  replace hP : va_P D CLS ((h0, .inr (1, [.ref q1, .long 0, .long 0, .long 0, .int 0, .int 0, .int 0, .null])) :: ([(q1, .inl (c1, 4, .inl (fun _ => 0)))]) : va_W) H := hP
  replace hD : va_D A ((h0, .inr (1, [.ref q1, .long 0, .long 0, .long 0, .int 0, .int 0, .int 0, .null])) :: ([(q1, .inl (c1, 4, .inl (fun _ => 0)))]) : va_W) := hD
  refine W.eq (g2 := F0 m 16 ls []) rfl ?_
  refine lv_aload_n hx hb (show decode cX1_init 16 = .ok (.aload_n 0, 1) by decide +kernel) rfl (lv_at hl 0 rfl) ?_
  refine lv_lconst (v := 0) hx hb (show decode cX1_init 17 = .ok (.lconst 0, 1) by decide +kernel) (by decide) ?_
  refine va_put (D := D) (ci := 1) (v := .long 0) (ty := .long) (C := RX1) (T := TX1) (N := 8) hx hb hts uX1 tyX1 tyX1_ok nmX1 hown hK hP hD hS 0 rfl rfl 2 (by decide) (hts _ k292) (fun _ h9 => h9) rfl (by decide +kernel) rfl rfl (Nat.le_of_ble_eq_true rfl) (show decode cX1_init 18 = .ok (.putfield 19, 3) by decide +kernel) (fun H locs hP hD hS => ?_)
  rename_i z0 z1 z2 z3 z4
  clear z0 z1 z2 z3 z4
  replace hP : va_P D CLS ((h0, .inr (1, [.ref q1, .long 0, .long 0, .long 0, .int 0, .int 0, .int 0, .null])) :: ([(q1, .inl (c1, 4, .inl (fun _ => 0)))]) : va_W) H := hP
  replace hD : va_D A ((h0, .inr (1, [.ref q1, .long 0, .long 0, .long 0, .int 0, .int 0, .int 0, .null])) :: ([(q1, .inl (c1, 4, .inl (fun _ => 0)))]) : va_W) := hD
  refine W.eq (g2 := F0 m 21 ls []) rfl ?_
  refine lv_aload_n hx hb (show decode cX1_init 21 = .ok (.aload_n 0, 1) by decide +kernel) rfl (lv_at hl 0 rfl) ?_
  refine lv_lconst (v := 1) hx hb (show decode cX1_init 22 = .ok (.lconst 1, 1) by decide +kernel) (by decide) ?_
  refine va_put (D := D) (ci := 1) (v := .long 1) (ty := .long) (C := RX1) (T := TX1) (N := 8) hx hb hts uX1 tyX1 tyX1_ok nmX1 hown hK hP hD hS 0 rfl rfl 3 (by decide) (hts _ k294) (fun _ h9 => h9) rfl (by decide +kernel) rfl rfl (Nat.le_of_ble_eq_true rfl) (show decode cX1_init 23 = .ok (.putfield 22, 3) by decide +kernel) (fun H locs hP hD hS => ?_)
  rename_i z0 z1 z2 z3 z4
  clear z0 z1 z2 z3 z4
  replace hP : va_P D CLS ((h0, .inr (1, [.ref q1, .long 0, .long 0, .long 1, .int 0, .int 0, .int 0, .null])) :: ([(q1, .inl (c1, 4, .inl (fun _ => 0)))]) : va_W) H := hP
  replace hD : va_D A ((h0, .inr (1, [.ref q1, .long 0, .long 0, .long 1, .int 0, .int 0, .int 0, .null])) :: ([(q1, .inl (c1, 4, .inl (fun _ => 0)))]) : va_W) := hD
  refine W.eq (g2 := F0 m 26 ls []) rfl ?_
  refine lv_aload_n hx hb (show decode cX1_init 26 = .ok (.aload_n 0, 1) by decide +kernel) rfl (lv_at hl 0 rfl) ?_
  refine lv_iconst (v := 0) hx hb (show decode cX1_init 27 = .ok (.iconst 0, 1) by decide +kernel) (by decide) ?_
  refine va_put (D := D) (ci := 1) (v := .int 0) (ty := .int) (C := RX1) (T := TX1) (N := 8) hx hb hts uX1 tyX1 tyX1_ok nmX1 hown hK hP hD hS 0 rfl rfl 4 (by decide) (hts _ k296) (fun _ h9 => h9) rfl (by decide +kernel) rfl rfl (Nat.le_of_ble_eq_true rfl) (show decode cX1_init 28 = .ok (.putfield 25, 3) by decide +kernel) (fun H locs hP hD hS => ?_)
  rename_i z0 z1 z2 z3 z4
  clear z0 z1 z2 z3 z4
  replace hP : va_P D CLS ((h0, .inr (1, [.ref q1, .long 0, .long 0, .long 1, .int 0, .int 0, .int 0, .null])) :: ([(q1, .inl (c1, 4, .inl (fun _ => 0)))]) : va_W) H := hP
  replace hD : va_D A ((h0, .inr (1, [.ref q1, .long 0, .long 0, .long 1, .int 0, .int 0, .int 0, .null])) :: ([(q1, .inl (c1, 4, .inl (fun _ => 0)))]) : va_W) := hD
  refine W.eq (g2 := F0 m 31 ls []) rfl ?_
  refine lv_aload_n hx hb (show decode cX1_init 31 = .ok (.aload_n 0, 1) by decide +kernel) rfl (lv_at hl 0 rfl) ?_
  refine lv_iconst (v := 0) hx hb (show decode cX1_init 32 = .ok (.iconst 0, 1) by decide +kernel) (by decide) ?_
  refine va_put (D := D) (ci := 1) (v := .int 0) (ty := .int) (C := RX1) (T := TX1) (N := 8) hx hb hts uX1 tyX1 tyX1_ok nmX1 hown hK hP hD hS 0 rfl rfl 5 (by decide) (hts _ k297) (fun _ h9 => h9) rfl (by decide +kernel) rfl rfl (Nat.le_of_ble_eq_true rfl) (show decode cX1_init 33 = .ok (.putfield 29, 3) by decide +kernel) (fun H locs hP hD hS => ?_)
  rename_i z0 z1 z2 z3 z4
  clear z0 z1 z2 z3 z4
  replace hP : va_P D CLS ((h0, .inr (1, [.ref q1, .long 0, .long 0, .long 1, .int 0, .int 0, .int 0, .null])) :: ([(q1, .inl (c1, 4, .inl (fun _ => 0)))]) : va_W) H := hP
  replace hD : va_D A ((h0, .inr (1, [.ref q1, .long 0, .long 0, .long 1, .int 0, .int 0, .int 0, .null])) :: ([(q1, .inl (c1, 4, .inl (fun _ => 0)))]) : va_W) := hD
  refine W.eq (g2 := F0 m 36 ls []) rfl ?_
  refine lv_aload_n hx hb (show decode cX1_init 36 = .ok (.aload_n 0, 1) by decide +kernel) rfl (lv_at hl 0 rfl) ?_
  refine lv_iconst (v := 0) hx hb (show decode cX1_init 37 = .ok (.iconst 0, 1) by decide +kernel) (by decide) ?_
  refine va_put (D := D) (ci := 1) (v := .int 0) (ty := .int) (C := RX1) (T := TX1) (N := 8) hx hb hts uX1 tyX1 tyX1_ok nmX1 hown hK hP hD hS 0 rfl rfl 6 (by decide) (hts _ k298) (fun _ h9 => h9) rfl (by decide +kernel) rfl rfl (Nat.le_of_ble_eq_true rfl) (show decode cX1_init 38 = .ok (.putfield 32, 3) by decide +kernel) (fun H locs hP hD hS => ?_)
  rename_i z0 z1 z2 z3 z4
  clear z0 z1 z2 z3 z4
  replace hP : va_P D CLS ((h0, .inr (1, [.ref q1, .long 0, .long 0, .long 1, .int 0, .int 0, .int 0, .null])) :: ([(q1, .inl (c1, 4, .inl (fun _ => 0)))]) : va_W) H := hP
  replace hD : va_D A ((h0, .inr (1, [.ref q1, .long 0, .long 0, .long 1, .int 0, .int 0, .int 0, .null])) :: ([(q1, .inl (c1, 4, .inl (fun _ => 0)))]) : va_W) := hD
  refine W.eq (g2 := F0 m 41 ls []) rfl ?_
  refine lv_aload_n hx hb (show decode cX1_init 41 = .ok (.aload_n 0, 1) by decide +kernel) rfl (lv_at hl 0 rfl) ?_
  refine va_new (D := D) (ci := 0) (fs := [.int 0, .int 0, .int 0, .int 0, .int 0, .null, .int 0, .null, .null]) (C := RX0) (T := TX0) (N := 9) hx hb hts uX0 tyX0 tyX0_ok hown (hts _ k286) (hts _ k189) (hts _ g87) hK hP hD hS hA rfl dfX0 (Nat.le_of_ble_eq_true rfl) (Nat.le_of_ble_eq_true rfl) (show decode cX1_init 42 = .ok (.new 35, 3) by decide +kernel) (fun q2 H hP hD hS => ?_)
  rename_i z0 z1 z2 z3
  clear z0 z1 z2 z3
  refine W.widen (k := 2) (n := 13) (Nat.le_of_ble_eq_true rfl) (Nat.le_of_ble_eq_true rfl) ?_
  refine lv_dup hx hb (show decode cX1_init 45 = .ok (.dup, 1) by decide +kernel) rfl ?_
  have hFc := vfree hD hS hA
  refine va_callv (va_runIN (As := []) (rest := [.ref q2, .ref h0]) ⟨hx, hb, hml, hown, hts⟩ (cn0 l D q2 H.size) ⟨va_cnB 0 hts (gw_in k192) rfl rfl rfl (hXW.2.2.2.2.2.2.2.2.2.2) (hts _ g87) (by decide +kernel) ⟨(Nat.le_of_ble_eq_true rfl), (Nat.le_of_ble_eq_true rfl)⟩, rfl, hts _ k191⟩ ⟨fun a U g mk q => by obtain ⟨q0, q1, qP, qK, qD, qX⟩ := q; exact ⟨q0, q1, qP, va_K.moved (u := U) (U := U.calling g mk a) (Vm.Alike.refl U.vm) qK, qD, qX.call⟩, fun U hU hW => ⟨rfl, by rw [hU], by rw [hU]; exact vP_r hP, va_K.moved hW.alike (hK.sub (tys' := []) [] rfl), (vD_r hD).weaken (fun _ _ _ _ => trivial), hXW.warm hW⟩⟩ rfl rfl hl.1 rfl (lv_room (Nat.le_of_ble_eq_true rfl)) (show decode cX1_init 46 = .ok (.invokespecial 37, 3) by decide +kernel) ⟨(Nat.le_of_ble_eq_true rfl), (Nat.le_of_ble_eq_true rfl)⟩) hS (fun q _ h => hFc q h) hFc (fun L2 t H1 locs ht hvm hw hB hz1 hk1 hS => ?_)
  obtain ⟨hP1, hK1, hD1⟩ := hB
  rw [ht] at hP1
  replace hK1 := va_K.moved hvm.symm hK1
  replace hP := vjoin hP hD hk1 hFc hP1 hD1
  clear hD
  obtain ⟨hP, hD⟩ := hP
  replace hK := hK.app hK1
  clear hP1 hK1 hD1 hk1 hz1 hFc ht hvm
  rename_i z0 z1
  clear z0 z1
  clear H
  clear t
  generalize H1 = H at hP hS ⊢
  refine W.widen (k := 10) (n := 61) (Nat.le_of_ble_eq_true rfl) (Nat.le_of_ble_eq_true rfl) ?_
  rw [← hw]
  clear hw
  replace hP : va_P D CLS ((h0, .inr (1, [.ref q1, .long 0, .long 0, .long 1, .int 0, .int 0, .int 0, .null])) :: ([(q1, .inl (c1, 4, .inl (fun _ => 0)))] ++ w0 L2 (lgt [(L2 3).1, (L2 4).1, (L2 5).1, (L2 6).1, (L2 7).1])) : va_W) H := hP
  replace hD : va_D A ((h0, .inr (1, [.ref q1, .long 0, .long 0, .long 1, .int 0, .int 0, .int 0, .null])) :: ([(q1, .inl (c1, 4, .inl (fun _ => 0)))] ++ w0 L2 (lgt [(L2 3).1, (L2 4).1, (L2 5).1, (L2 6).1, (L2 7).1])) : va_W) := hD
  replace hK : va_K D CLS ([] ++ [(c1, .int)] ++ kC0 L2) s := hK
  refine va_putF (D := D) (ci := 1) (v := .ref (L2 0).1) (ty := .object "RiverDays$Aside") (C := RX1) (T := TX1) (N := 8) hx hb hts uX1 tyX1 tyX1_ok nmX1 hown hK hP hD hS 0 rfl rfl 7 (by decide) (hts _ k299) (fun _ h9 => h9) rfl hin rfl (by decide +kernel) rfl rfl (Nat.le_of_ble_eq_true rfl) (show decode cX1_init 49 = .ok (.putfield 38, 3) by decide +kernel) (fun H locs hP hD hS => ?_)
  rename_i z0 z1 z2 z3 z4
  clear z0 z1 z2 z3 z4
  replace hP : va_P D CLS ((h0, .inr (1, [.ref q1, .long 0, .long 0, .long 1, .int 0, .int 0, .int 0, .ref (L2 0).1])) :: ([(q1, .inl (c1, 4, .inl (fun _ => 0)))] ++ w0 L2 (lgt [(L2 3).1, (L2 4).1, (L2 5).1, (L2 6).1, (L2 7).1])) : va_W) H := hP
  replace hD : va_D A ((h0, .inr (1, [.ref q1, .long 0, .long 0, .long 1, .int 0, .int 0, .int 0, .ref (L2 0).1])) :: ([(q1, .inl (c1, 4, .inl (fun _ => 0)))] ++ w0 L2 (lgt [(L2 3).1, (L2 4).1, (L2 5).1, (L2 6).1, (L2 7).1])) : va_W) := hD
  refine W.eq (g2 := F0 m 52 ls []) rfl ?_
  obtain ⟨L, hL⟩ : ∃ L : LAM, L = fun k => bif Nat.ble k 0 then (h0, D.1 0) else bif Nat.ble k 1 then (q1, c1) else bif Nat.ble k 10 then L2 (k - 2) else (0, D.1 0) := ⟨_, rfl⟩
  have hP9 : va_P D CLS (w1 L (lgt [(L 5).1, (L 6).1, (L 7).1, (L 8).1, (L 9).1])) H := by rw [hL]; exact hP
  have hD9 : va_D A (w1 L (lgt [(L 5).1, (L 6).1, (L 7).1, (L 8).1, (L 9).1])) := by rw [hL]; exact hD
  have hK9 : va_K D CLS (kC1 L) s := by rw [hL]; exact hK
  refine W.widen (k := 10) (n := 61) (Nat.le_of_ble_eq_true rfl) (Nat.le_of_ble_eq_true rfl) ?_
  exact W.vret hx hb hr (fun t ht hW => ⟨⟨L, rfl, by rw [hL]; rfl, by rw [ht]; exact hP9, va_K.moved hW.alike hK9, hD9⟩, hS.F ht⟩) hS.2.2 (show decode cX1_init 52 = .ok (.return_, 1) by decide +kernel)
