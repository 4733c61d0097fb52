/-! THE LAW FROM ITS ENTRY: the walk -/
set_option maxHeartbeats 4000000 in
set_option maxRecDepth 100000 in
/-- from the entry, for every script of at most 384 ints, the law comes to its end with true -/
theorem whole_start {p : Program} {e : Env} {s : State} {m : MethodId} {below : List Frame} {meth : Method} {c : Code} (l : Launch) {b L : Nat} {xs : Nat → Int32} (hL : L ≤ 384) (C0 : lw_At p s m meth c b L xs) : W p l e room_1 s m #[Value.ref b] below meth c s.heap [] 0 0 (lw_Z below #[Value.ref b] s) (entryFrame m ([Value.ref b] : List Value).toArray 4) := by
  obtain ⟨hx, hb, hr, hml, hown, hts0, hX, hbl, hlocks, hgv⟩ := id C0
  have hts : ∀ w ∈ GW, w.before #[Value.ref b] s = true := fun w hw => hts0 w (List.mem_filter.mp hw).1
  have hA : ∀ q : Nat, s.heap.size ≤ q → (fun q : Nat => s.heap.size ≤ q) q := fun _ h => h
  obtain ⟨cX0, jX0, nX0⟩ := u_known (C := RX0) (T := TX0) (N := 9) (n := 9) hts uX0 (hts _ u189)
  obtain ⟨cX1, jX1, nX1⟩ := u_known (C := RX1) (T := TX1) (N := 8) (n := 8) hts uX1 (hts _ u281)
  obtain ⟨cX2, jX2, nX2⟩ := u_known (C := RX2) (T := TX2) (N := 10) (n := 10) hts uX2 (hts _ u318)
  obtain ⟨cX3, jX3, nX3⟩ := u_known (C := RX3) (T := TX3) (N := 3) (n := 3) hts uX3 (hts _ u169)
  obtain ⟨cX4, jX4, nX4⟩ := u_known (C := RX4) (T := TX4) (N := 5) (n := 5) hts uX4 (hts _ u143)
  obtain ⟨cX5, jX5, nX5⟩ := u_known (C := RX5) (T := TX5) (N := 10) (n := 10) hts uX5 (hts _ u235)
  obtain ⟨cX7, jX7, nX7⟩ := u_known (C := RX7) (T := TX7) (N := 3) (n := 3) hts uX7 (hts _ u127)
  obtain ⟨cX8, jX8, nX8⟩ := u_known (C := RX8) (T := TX8) (N := 3) (n := 3) hts uX8 (hts _ u104)
  obtain ⟨cX9, jX9, nX9⟩ := u_known (C := RX9) (T := TX9) (N := 17) (n := 17) hts uX9 (hts _ u96)
  obtain ⟨cX10, jX10, nX10⟩ := u_known (C := RX10) (T := TX10) (N := 36) (n := 36) hts uX10 (hts _ u1005)
  have hXW : XW s := ⟨AOI.of (hts0 _ (List.mem_of_getElem? (i := 113) (by decide +kernel))), va_AO.of (hts0 _ (List.mem_of_getElem? (i := 187) (by decide +kernel))), va_tabs rfl rfl (hts0 _ (List.mem_of_getElem? (i := 128) (by decide +kernel))), va_tabs rfl rfl (hts0 _ (List.mem_of_getElem? (i := 144) (by decide +kernel))), va_tabs rfl rfl (hts0 _ (List.mem_of_getElem? (i := 170) (by decide +kernel))), va_tabs rfl rfl (hts0 _ (List.mem_of_getElem? (i := 190) (by decide +kernel))), va_tabs rfl rfl (hts0 _ (List.mem_of_getElem? (i := 236) (by decide +kernel))), va_tabs rfl rfl (hts0 _ (List.mem_of_getElem? (i := 282) (by decide +kernel))), va_tabs rfl rfl (hts0 _ (List.mem_of_getElem? (i := 319) (by decide +kernel))), va_tabs rfl rfl (hts0 _ (List.mem_of_getElem? (i := 241) (by decide +kernel))), va_tabs rfl rfl (hts0 _ (List.mem_of_getElem? (i := 287) (by decide +kernel)))⟩
  have hNW : NW s := ⟨va_tabs rfl rfl (hts0 _ (List.mem_of_getElem? (i := 651) (by decide +kernel))), va_tabs rfl rfl (hts0 _ (List.mem_of_getElem? (i := 759) (by decide +kernel)))⟩
  obtain ⟨D, hKc⟩ : ∃ D : va_G, ∀ (k : Nat) (q : vw_C), CLS[k]? = some q → u_Kn s q.1 q.2.1 q.2.2 (D.1 k) (D.2 k) := by
    refine ⟨(fun k => [cX0, cX1, cX2, cX3, cX4, cX5, cX7, cX7, cX8, cX9, cX10].getD k cX0, fun k => [jX0, jX1, jX2, jX3, jX4, jX5, jX7, jX7, jX8, jX9, jX10].getD k jX0), ?_⟩
    intro k q hq
    match k, hq with
    | 0, hq =>
      have e : (RX0, TX0, 9) = q := Option.some.inj hq
      subst e
      exact nX0
    | 1, hq =>
      have e : (RX1, TX1, 8) = q := Option.some.inj hq
      subst e
      exact nX1
    | 2, hq =>
      have e : (RX2, TX2, 10) = q := Option.some.inj hq
      subst e
      exact nX2
    | 3, hq =>
      have e : (RX3, TX3, 3) = q := Option.some.inj hq
      subst e
      exact nX3
    | 4, hq =>
      have e : (RX4, TX4, 5) = q := Option.some.inj hq
      subst e
      exact nX4
    | 5, hq =>
      have e : (RX5, TX5, 10) = q := Option.some.inj hq
      subst e
      exact nX5
    | 6, hq =>
      have e : (RX7, TX7, 3) = q := Option.some.inj hq
      subst e
      exact nX7
    | 7, hq =>
      have e : (RX7, TX7, 3) = q := Option.some.inj hq
      subst e
      exact nX7
    | 8, hq =>
      have e : (RX8, TX8, 3) = q := Option.some.inj hq
      subst e
      exact nX8
    | 9, hq =>
      have e : (RX9, TX9, 17) = q := Option.some.inj hq
      subst e
      exact nX9
    | 10, hq =>
      have e : (RX10, TX10, 36) = q := Option.some.inj hq
      subst e
      exact nX10
    | k + 11, hq => simp [CLS] at hq
  have hS : va_S (fun q : Nat => s.heap.size ≤ q) s.heap s.heap [] := va_S.rf
  have hK : va_K D CLS [] s := ⟨hKc, fun k q h => by simp at h⟩
  have hP : va_P D CLS [] s.heap := fun k q h => by simp at h
  have hD : va_D (fun q : Nat => s.heap.size ≤ q) [] := ⟨fun i j p q h => by simp at h, fun k q h => by simp at h⟩
  have hl := lv_entry ([.ref b]) (n := 4) (Nat.le_of_ble_eq_true rfl)
  rw [lg_entry_eq]
  generalize (lg_sl ([.ref b]) ++ List.replicate (4 - (lg_sl ([.ref b])).length) Slot.unset).toArray = ls at hl ⊢
  have hl : lv_has ls 4 [(0, .ref b)] := hl
  refine va_new (D := D) (ci := 9) (fs := [.null, .null, .null, .null, .null, .null, .null, .null, .null, .null, .null, .null, .null, .int 0, .int 0, .long 0, .long 0]) (C := RX9) (T := TX9) (N := 17) hx hb hts uX9 tyX9 tyX9_ok hown (hts _ u95) (hts _ u96) (hts _ g81) hK hP hD hS hA rfl dfX9 (Nat.le_of_ble_eq_true rfl) (Nat.le_of_ble_eq_true rfl) (show decode code 0 = .ok (.new 7, 3) by decide +kernel) (fun q9 H hP hD hS => ?_)
  refine W.widen (k := 1) (n := 17) (Nat.le_of_ble_eq_true rfl) (Nat.le_of_ble_eq_true rfl) ?_
  refine lv_dup hx hb (show decode code 3 = .ok (.dup, 1) by decide +kernel) rfl ?_
  have hFc := vfree hD hS hA
  refine va_callv (va_runI (As := []) (rest := [.ref q9]) ⟨hx, hb, hml, hown, hts⟩ (cn9 l D q9 H.size) ⟨callB_of 0 hts (gw_in u99) rfl rfl rfl (hts _ g81) (hts _ u97) (by decide +kernel) ⟨(Nat.le_of_ble_eq_true rfl), (Nat.le_of_ble_eq_true rfl)⟩, rfl, hts _ u98⟩ ⟨fun a U g mk q => by obtain ⟨q0, q1, qP, qK, qD, qX⟩ := q; exact ⟨q0, q1, qP, va_K.moved (u := U) (U := U.calling g mk a) (Vm.Alike.refl U.vm) qK, qD, qX.call⟩, fun U hU hW => ⟨rfl, by rw [hU], by rw [hU]; exact vP_r hP, va_K.moved hW.alike (hK.sub (tys' := []) [] rfl), (vD_r hD).weaken (fun _ _ _ _ => trivial), hXW.warm hW⟩⟩ rfl rfl hl.1 rfl (lv_room (Nat.le_of_ble_eq_true rfl)) (show decode code 4 = .ok (.invokespecial 9, 3) by decide +kernel) ⟨(Nat.le_of_ble_eq_true rfl), (Nat.le_of_ble_eq_true rfl)⟩) hS (fun q _ h => hFc q h) hFc (fun L9 t H1 locs ht hvm hw hB hz1 hk1 hS => ?_)
  obtain ⟨hP1, hK1, hD1⟩ := hB
  rw [ht] at hP1
  replace hK1 := va_K.moved hvm.symm hK1
  obtain ⟨hP, hD⟩ := vjoin hP hD hk1 hFc hP1 hD1
  replace hK := hK.app hK1
  clear hP1 hK1 hD1 hk1 hz1 hFc ht hvm
  generalize H1 = H at hP hS ⊢
  refine W.widen (k := 87) (n := 1271) (Nat.le_of_ble_eq_true rfl) (Nat.le_of_ble_eq_true rfl) ?_
  rw [← hw]
  clear hw
  replace hP : va_P D CLS (w9 L9 (lgt [(L9 3).1, (L9 4).1, (L9 5).1, (L9 6).1, (L9 7).1, (L9 8).1]) (lgt [(L9 12).1, (L9 13).1, (L9 14).1, (L9 15).1]) (lgt [(L9 29).1, (L9 32).1, (L9 35).1]) (lgt [(L9 42).1, (L9 43).1, (L9 44).1, (L9 45).1, (L9 46).1]) (lgt [(L9 55).1, (L9 56).1, (L9 57).1, (L9 58).1, (L9 59).1]) (lgt [(L9 66).1, (L9 67).1, (L9 68).1, (L9 69).1, (L9 70).1])) H := hP
  replace hD : va_D (fun q : Nat => s.heap.size ≤ q) (w9 L9 (lgt [(L9 3).1, (L9 4).1, (L9 5).1, (L9 6).1, (L9 7).1, (L9 8).1]) (lgt [(L9 12).1, (L9 13).1, (L9 14).1, (L9 15).1]) (lgt [(L9 29).1, (L9 32).1, (L9 35).1]) (lgt [(L9 42).1, (L9 43).1, (L9 44).1, (L9 45).1, (L9 46).1]) (lgt [(L9 55).1, (L9 56).1, (L9 57).1, (L9 58).1, (L9 59).1]) (lgt [(L9 66).1, (L9 67).1, (L9 68).1, (L9 69).1, (L9 70).1])) := hD
  replace hK : va_K D CLS (kC9 L9) s := hK
  refine lv_astore_n (lv' := [(1, .ref (L9 0).1), (0, .ref b)]) hx hb (show decode code 7 = .ok (.astore_n 1, 1) by decide +kernel) rfl hl (by decide) rfl (fun ls hl => ?_)
  refine va_new (D := D) (ci := 10) (fs := [.int 0, .null, .int 0, .long 0, .long 0, .null, .null, .null, .null, .null, .int 0, .null, .null, .null, .null, .null, .null, .null, .int 0, .null, .int 0, .int 0, .int 0, .null, .null, .int 0, .null, .null, .null, .null, .null, .int 0, .int 0, .null, .int 0, .long 0]) (C := RX10) (T := TX10) (N := 36) hx hb hts uX10 tyX10 tyX10_ok hown (hts _ u1004) (hts _ u1005) (hts _ g91) hK hP hD hS hA rfl dfX10 (Nat.le_of_ble_eq_true rfl) (Nat.le_of_ble_eq_true rfl) (show decode code 8 = .ok (.new 10, 3) by decide +kernel) (fun q10 H hP hD hS => ?_)
  refine W.widen (k := 88) (n := 1307) (Nat.le_of_ble_eq_true rfl) (Nat.le_of_ble_eq_true rfl) ?_
  refine lv_dup hx hb (show decode code 11 = .ok (.dup, 1) by decide +kernel) rfl ?_
  have hFc := vfree hD hS hA
  refine va_callv (va_runI (As := []) (rest := [.ref q10]) ⟨hx, hb, hml, hown, hts⟩ (cn10 l D q10 H.size) ⟨callB_of 0 hts (gw_in u1008) rfl rfl rfl (hts _ g91) (hts _ u1006) (by decide +kernel) ⟨(Nat.le_of_ble_eq_true rfl), (Nat.le_of_ble_eq_true rfl)⟩, rfl, hts _ u1007⟩ ⟨fun a U g mk q => by obtain ⟨q0, q1, qP, qK, qD, qX⟩ := q; exact ⟨q0, q1, qP, va_K.moved (u := U) (U := U.calling g mk a) (Vm.Alike.refl U.vm) qK, qD, qX.call⟩, fun U hU hW => ⟨rfl, by rw [hU], by rw [hU]; exact vP_r hP, va_K.moved hW.alike (hK.sub (tys' := []) [] rfl), (vD_r hD).weaken (fun _ _ _ _ => trivial), hXW.warm hW⟩⟩ rfl rfl hl.1 rfl (lv_room (Nat.le_of_ble_eq_true rfl)) (show decode code 12 = .ok (.invokespecial 12, 3) by decide +kernel) ⟨(Nat.le_of_ble_eq_true rfl), (Nat.le_of_ble_eq_true rfl)⟩) hS (fun q _ h => hFc q h) hFc (fun L10 t H1 locs ht hvm hw hB hz1 hk1 hS => ?_)
  obtain ⟨hP1, hK1, hD1⟩ := hB
  rw [ht] at hP1
  replace hK1 := va_K.moved hvm.symm hK1
  obtain ⟨hP, hD⟩ := vjoin hP hD hk1 hFc hP1 hD1
  replace hK := hK.app hK1
  clear hP1 hK1 hD1 hk1 hz1 hFc ht hvm
  generalize H1 = H at hP hS ⊢
  refine W.widen (k := 110) (n := 6371) (Nat.le_of_ble_eq_true rfl) (Nat.le_of_ble_eq_true rfl) ?_
  rw [← hw]
  clear hw
  replace hK : va_K D CLS (kC9 L9 ++ kC10 L10) s := hK
  rw [alltys] at hK
  replace hP : va_P D CLS (w9 L9 (lgt [(L9 3).1, (L9 4).1, (L9 5).1, (L9 6).1, (L9 7).1, (L9 8).1]) (lgt [(L9 12).1, (L9 13).1, (L9 14).1, (L9 15).1]) (lgt [(L9 29).1, (L9 32).1, (L9 35).1]) (lgt [(L9 42).1, (L9 43).1, (L9 44).1, (L9 45).1, (L9 46).1]) (lgt [(L9 55).1, (L9 56).1, (L9 57).1, (L9 58).1, (L9 59).1]) (lgt [(L9 66).1, (L9 67).1, (L9 68).1, (L9 69).1, (L9 70).1]) ++ w10 L10) H := hP
  replace hD : va_D (fun q : Nat => s.heap.size ≤ q) (w9 L9 (lgt [(L9 3).1, (L9 4).1, (L9 5).1, (L9 6).1, (L9 7).1, (L9 8).1]) (lgt [(L9 12).1, (L9 13).1, (L9 14).1, (L9 15).1]) (lgt [(L9 29).1, (L9 32).1, (L9 35).1]) (lgt [(L9 42).1, (L9 43).1, (L9 44).1, (L9 45).1, (L9 46).1]) (lgt [(L9 55).1, (L9 56).1, (L9 57).1, (L9 58).1, (L9 59).1]) (lgt [(L9 66).1, (L9 67).1, (L9 68).1, (L9 69).1, (L9 70).1]) ++ w10 L10) := hD
  rw [ref2 L9 L10, ref11 L9 L10, ref28 L9 L10, ref41 L9 L10, ref54 L9 L10, ref65 L9 L10] at hP hD
  refine lv_astore_n (lv' := [(2, .ref (L10 0).1), (1, .ref (L9 0).1), (0, .ref b)]) hx hb (show decode code 15 = .ok (.astore_n 2, 1) by decide +kernel) rfl hl (by decide) rfl (fun ls hl => ?_)
  refine lv_iconst (v := 0) hx hb (show decode code 16 = .ok (.iconst 0, 1) by decide +kernel) (by decide) ?_
  refine lv_istore_n (lv' := [(3, .int 0), (2, .ref (L10 0).1), (1, .ref (L9 0).1), (0, .ref b)]) hx hb (show decode code 17 = .ok (.istore_n 3, 1) by decide +kernel) rfl hl (by decide) rfl (fun ls hl => ?_)
  have hsub := wd_sub (allc L9 L10)
  exact law_loop (D := D) (a0 := (L9 0).1) (a87 := (L10 0).1) ⟨hx, hb, hml, hown, hts, hX, hbl, hL⟩ hr hlocks (L + 6) 0 (by omega) (by omega) (LJ L9 L10) I0 J0 H _ ⟨kd_of hK hNW, fun k q hk => hP k q (hsub k q hk), ⟨fun i j x y hi hj e => hD.1 i j x y (hsub i x hi) (hsub j y hj) e, fun k q hk => hD.2 k q (hsub k q hk)⟩, hS, rel0, rfl, rfl⟩ ls hl
