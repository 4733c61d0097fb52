/-! THE LAW'S LOOP -/
theorem lw_cmp {i L : Nat} (hi : i ≤ 390) (hL : L ≤ 384) : nI L - 6 < nI i ↔ ¬ i + 6 ≤ L := by
  by_cases h : 6 ≤ L
  · obtain ⟨k, rfl⟩ : ∃ k, L = k + 6 := ⟨L - 6, by omega⟩
    have e : nI (k + 6) - 6 = nI k := by
      show nI (k + 6) - nI 6 = nI k
      rw [← nI_add, Int32.add_sub_cancel]
    rw [e, nI_ltI (by omega) (by omega)]
    omega
  · constructor
    · intro _; omega
    · intro _
      have h2 : nI L - 6 < 0 := by
        rcases (show L = 0 ∨ L = 1 ∨ L = 2 ∨ L = 3 ∨ L = 4 ∨ L = 5 by omega) with e | e | e | e | e | e <;> rw [e] <;> decide
      exact Int32.lt_of_lt_of_le h2 (nI_pos' (by omega))
theorem law_head {p : Program} {l : Launch} {e : Env} {s : State} {m : MethodId} {below : List Frame} {meth : Method} {c : Code} {b L : Nat} {xs : Nat → Int32} {D : va_G} {a0 a87 : Nat} (C0 : LC p s m c b L xs) (hr : meth.sig.returnType = ret) (hlocks : meth.locks = false) {i : Nat} (h2 : i ≤ L + 6) {Λ : LAM} {I : Nat → Nat → Int32} {J : Nat → Nat → Int64} {H : Heap} {locs : List Loc} (hI : Inv s D a0 a87 Λ I J H locs) {ls : Array Slot} (hl : lv_has ls 4 [(3, .int (nI i)), (2, .ref a87), (1, .ref a0), (0, .ref b)]) (kk : i + 6 ≤ L → W p l e room_1 s m #[Value.ref b] below meth c H locs 110 6371 (lw_Z below #[Value.ref b] s) (F0 m 33 ls [.int (xs i &&& 63)])) : W p l e room_1 s m #[Value.ref b] below meth c H locs 110 6371 (lw_Z below #[Value.ref b] s) (F0 m 18 ls []) := by
  obtain ⟨hx, hb, hml, hown, hts, hX, hbl, hL⟩ := C0
  have hbA : ¬ (fun q : Nat => s.heap.size ≤ q) b := Nat.not_le.mpr hbl
  have hS := hI.2.2.2.1
  refine lv_iload_n hx hb (show decode code 18 = .ok (.iload_n 3, 1) by decide +kernel) rfl (lv_at hl 0 rfl) ?_
  refine lv_aload_n hx hb (show decode code 19 = .ok (.aload_n 0, 1) by decide +kernel) rfl (lv_at hl 3 rfl) ?_
  refine va_slen hx hb hX hbl hbA hS (show decode code 20 = .ok (.arraylength, 1) by decide +kernel) ?_
  refine lv_bipush (v := 6) hx hb (show decode code 21 = .ok (.bipush 6, 2) by decide +kernel) (by decide) ?_
  refine lv_isub hx hb (show decode code 23 = .ok (.isub, 1) by decide +kernel) ?_
  refine lv_icmp_gt (tgt := 1455) hx hb (show decode code 24 = .ok (.if_icmp .gt 1431, 3) by decide +kernel) (by decide) (fun _ => ?_) (fun h => ?_)
  · refine lv_iconst (v := 1) hx hb (show decode code 1455 = .ok (.iconst 1, 1) by decide +kernel) (by decide) ?_
    refine va_forget hS.2.2 ?_
    refine W.widen (k := 600000) (n := 7302250) (by decide) (by decide) ?_
    exact lw_ret hx hb hr hlocks (show decode code 1456 = .ok (.ireturn, 1) by decide +kernel)
  · have hi : i + 6 ≤ L := Decidable.byContradiction fun q => h ((lw_cmp (by omega) hL).mpr q)
    refine lv_aload_n hx hb (show decode code 27 = .ok (.aload_n 0, 1) by decide +kernel) rfl (lv_at hl 3 rfl) ?_
    refine lv_iload_n hx hb (show decode code 28 = .ok (.iload_n 3, 1) by decide +kernel) rfl (lv_at hl 0 rfl) ?_
    refine va_sld hx hb hX hbl hbA hS (nI_in (show i < L by omega) (by omega)) (show decode code 29 = .ok (.iaload, 1) by decide +kernel) ?_
    rw [nI_clamp (by omega)]
    refine lv_bipush (v := 63) hx hb (show decode code 30 = .ok (.bipush 63, 2) by decide +kernel) (by decide) ?_
    refine lv_iand hx hb (show decode code 32 = .ok (.iand, 1) by decide +kernel) ?_
    exact kk hi
set_option maxHeartbeats 4000000 in
set_option maxRecDepth 100000 in
theorem law_loop {p : Program} {l : Launch} {e : Env} {s : State} {m : MethodId} {below : List Frame} {meth : Method} {c : Code} {b L : Nat} {xs : Nat → Int32} {D : va_G} {a0 a87 : Nat} (C0 : LC p s m c b L xs) (hr : meth.sig.returnType = ret) (hlocks : meth.locks = false) : ∀ (n i : Nat), L + 6 ≤ i + n → i ≤ L + 6 → ∀ (Λ : LAM) (I : Nat → Nat → Int32) (J : Nat → Nat → Int64) (H : Heap) (locs : List Loc), Inv s D a0 a87 Λ I J H locs → ∀ (ls : Array Slot), lv_has ls 4 [(3, .int (nI i)), (2, .ref a87), (1, .ref a0), (0, .ref b)] → W p l e room_1 s m #[Value.ref b] below meth c H locs 110 6371 (lw_Z below #[Value.ref b] s) (F0 m 18 ls []) := by
  intro n
  induction n with
  | zero =>
    intro i h1 h2 Λ I J H locs hI ls hl
    exact law_head C0 hr hlocks h2 hI hl (fun h => absurd h (by omega))
  | succ n ih =>
    intro i h1 h2 Λ I J H locs hI ls hl
    refine law_head C0 hr hlocks h2 hI hl (fun hi => ?_)
    obtain ⟨hx, hb, -⟩ := id C0
    have kk : ∀ (Λ : LAM) (I : Nat → Nat → Int32) (J : Nat → Nat → Int64) (H : Heap) (locs : List Loc), Inv s D a0 a87 Λ I J H locs → W p l e room_1 s m #[Value.ref b] below meth c H locs 110 6371 (lw_Z below #[Value.ref b] s) (F0 m 1449 ls []) := fun Λ I J H locs hI => by
      refine lv_iinc (k := 0) (v := nI (i + 6)) (lv' := [(3, .int (nI (i + 6))), (2, .ref a87), (1, .ref a0), (0, .ref b)]) hx hb (show decode code 1449 = .ok (.iinc 3 6, 3) by decide +kernel) hl rfl (by rw [← nI_add, show Int32.ofInt 6 = nI 6 by decide]) (by decide) rfl (fun ls hl => ?_)
      refine lv_goto (tgt := 18) hx hb (show decode code 1452 = .ok (.goto (-1434), 3) by decide +kernel) (by decide) ?_
      exact ih (i + 6) (by omega) (by omega) Λ I J H locs hI ls hl
    generalize xs i &&& 63 = x
    have hdg : decode code 33 = .ok (.tableswitch 1416 0 43 #[191, 224, 267, 300, 323, 386, 409, 442, 485, 508, 531, 564, 597, 630, 663, 686, 709, 732, 755, 778, 791, 814, 837, 870, 903, 926, 959, 992, 1025, 1048, 1071, 1094, 1127, 1160, 1193, 1226, 1269, 1302, 1315, 1329, 1343, 1366, 1379, 1402], 191) := by decide +kernel
    by_cases hlt : x < 0
    · exact lv_tableOut (tgt := 1449) hx hb hdg (Or.inl (by have h := Int32.lt_iff_toInt_lt.mp hlt; rw [show (0 : Int32).toInt = 0 by decide] at h; exact h)) (by decide) (kk Λ I J H locs hI)
    · by_cases hle : x ≤ 43
      · obtain ⟨j, hj, rfl⟩ := nI_of2 (n := 43) (by decide) hlt hle
        rcases (show j = 0 ∨ j = 1 ∨ j = 2 ∨ j = 3 ∨ j = 4 ∨ j = 5 ∨ j = 6 ∨ j = 7 ∨ j = 8 ∨ j = 9 ∨ j = 10 ∨ j = 11 ∨ j = 12 ∨ j = 13 ∨ j = 14 ∨ j = 15 ∨ j = 16 ∨ j = 17 ∨ j = 18 ∨ j = 19 ∨ j = 20 ∨ j = 21 ∨ j = 22 ∨ j = 23 ∨ j = 24 ∨ j = 25 ∨ j = 26 ∨ j = 27 ∨ j = 28 ∨ j = 29 ∨ j = 30 ∨ j = 31 ∨ j = 32 ∨ j = 33 ∨ j = 34 ∨ j = 35 ∨ j = 36 ∨ j = 37 ∨ j = 38 ∨ j = 39 ∨ j = 40 ∨ j = 41 ∨ j = 42 ∨ j = 43 by omega) with rfl | rfl | rfl | rfl | rfl | rfl | rfl | rfl | rfl | rfl | rfl | rfl | rfl | rfl | rfl | rfl | rfl | rfl | rfl | rfl | rfl | rfl | rfl | rfl | rfl | rfl | rfl | rfl | rfl | rfl | rfl | rfl | rfl | rfl | rfl | rfl | rfl | rfl | rfl | rfl | rfl | rfl | rfl | rfl
        · exact lv_tableIn (off := 191) (tgt := 224) hx hb hdg (by decide +kernel) (by decide +kernel) (by decide +kernel) (by decide +kernel) (lc_row C0 hi hI hl kk)
        · exact lv_tableIn (off := 224) (tgt := 257) hx hb hdg (by decide +kernel) (by decide +kernel) (by decide +kernel) (by decide +kernel) (lc_lay C0 hi hI hl kk)
        · exact lv_tableIn (off := 267) (tgt := 300) hx hb hdg (by decide +kernel) (by decide +kernel) (by decide +kernel) (by decide +kernel) (lc_at C0 hi hI hl kk)
        · exact lv_tableIn (off := 300) (tgt := 333) hx hb hdg (by decide +kernel) (by decide +kernel) (by decide +kernel) (by decide +kernel) (lc_tear C0 hi hI hl kk)
        · exact lv_tableIn (off := 323) (tgt := 356) hx hb hdg (by decide +kernel) (by decide +kernel) (by decide +kernel) (by decide +kernel) (lc_copy C0 hi hI hl kk)
        · exact lv_tableIn (off := 386) (tgt := 419) hx hb hdg (by decide +kernel) (by decide +kernel) (by decide +kernel) (by decide +kernel) (lc_mean C0 hi hI hl kk)
        · exact lv_tableIn (off := 409) (tgt := 442) hx hb hdg (by decide +kernel) (by decide +kernel) (by decide +kernel) (by decide +kernel) (lc_text C0 hi hI hl kk)
        · exact lv_tableIn (off := 442) (tgt := 475) hx hb hdg (by decide +kernel) (by decide +kernel) (by decide +kernel) (by decide +kernel) (lc_put C0 hi hI hl kk)
        · exact lv_tableIn (off := 485) (tgt := 518) hx hb hdg (by decide +kernel) (by decide +kernel) (by decide +kernel) (by decide +kernel) (lc_fault C0 hi hI hl kk)
        · exact lv_tableIn (off := 508) (tgt := 541) hx hb hdg (by decide +kernel) (by decide +kernel) (by decide +kernel) (by decide +kernel) (lc_river C0 hi hI hl kk)
        · exact lv_tableIn (off := 531) (tgt := 564) hx hb hdg (by decide +kernel) (by decide +kernel) (by decide +kernel) (by decide +kernel) (lc_reach C0 hi hI hl kk)
        · exact lv_tableIn (off := 564) (tgt := 597) hx hb hdg (by decide +kernel) (by decide +kernel) (by decide +kernel) (by decide +kernel) (lc_mark C0 hi hI hl kk)
        · exact lv_tableIn (off := 597) (tgt := 630) hx hb hdg (by decide +kernel) (by decide +kernel) (by decide +kernel) (by decide +kernel) (lc_weekday C0 hi hI hl kk)
        · exact lv_tableIn (off := 630) (tgt := 663) hx hb hdg (by decide +kernel) (by decide +kernel) (by decide +kernel) (by decide +kernel) (lc_swap C0 hi hI hl kk)
        · exact lv_tableIn (off := 663) (tgt := 696) hx hb hdg (by decide +kernel) (by decide +kernel) (by decide +kernel) (by decide +kernel) (lc_owns C0 hi hI hl kk)
        · exact lv_tableIn (off := 686) (tgt := 719) hx hb hdg (by decide +kernel) (by decide +kernel) (by decide +kernel) (by decide +kernel) (lc_day C0 hi hI hl kk)
        · exact lv_tableIn (off := 709) (tgt := 742) hx hb hdg (by decide +kernel) (by decide +kernel) (by decide +kernel) (by decide +kernel) (lc_undo C0 hi hI hl kk)
        · exact lv_tableIn (off := 732) (tgt := 765) hx hb hdg (by decide +kernel) (by decide +kernel) (by decide +kernel) (by decide +kernel) (lc_keep C0 hi hI hl kk)
        · exact lv_tableIn (off := 755) (tgt := 788) hx hb hdg (by decide +kernel) (by decide +kernel) (by decide +kernel) (by decide +kernel) (lc_on C0 hi hI hl kk)
        · exact lv_tableIn (off := 778) (tgt := 811) hx hb hdg (by decide +kernel) (by decide +kernel) (by decide +kernel) (by decide +kernel) (lc_gates C0 hi hI hl kk)
        · exact lv_tableIn (off := 791) (tgt := 824) hx hb hdg (by decide +kernel) (by decide +kernel) (by decide +kernel) (by decide +kernel) (lc_runs C0 hi hI hl kk)
        · exact lv_tableIn (off := 814) (tgt := 847) hx hb hdg (by decide +kernel) (by decide +kernel) (by decide +kernel) (by decide +kernel) (lc_sea C0 hi hI hl kk)
        · exact lv_tableIn (off := 837) (tgt := 870) hx hb hdg (by decide +kernel) (by decide +kernel) (by decide +kernel) (by decide +kernel) (lc_water C0 hi hI hl kk)
        · exact lv_tableIn (off := 870) (tgt := 903) hx hb hdg (by decide +kernel) (by decide +kernel) (by decide +kernel) (by decide +kernel) (lc_share C0 hi hI hl kk)
        · exact lv_tableIn (off := 903) (tgt := 936) hx hb hdg (by decide +kernel) (by decide +kernel) (by decide +kernel) (by decide +kernel) (lc_grinds C0 hi hI hl kk)
        · exact lv_tableIn (off := 926) (tgt := 959) hx hb hdg (by decide +kernel) (by decide +kernel) (by decide +kernel) (by decide +kernel) (lc_best C0 hi hI hl kk)
        · exact lv_tableIn (off := 959) (tgt := 992) hx hb hdg (by decide +kernel) (by decide +kernel) (by decide +kernel) (by decide +kernel) (lc_all C0 hi hI hl kk)
        · exact lv_tableIn (off := 992) (tgt := 1025) hx hb hdg (by decide +kernel) (by decide +kernel) (by decide +kernel) (by decide +kernel) (lc_most C0 hi hI hl kk)
        · exact lv_tableIn (off := 1025) (tgt := 1058) hx hb hdg (by decide +kernel) (by decide +kernel) (by decide +kernel) (by decide +kernel) (lc_worth C0 hi hI hl kk)
        · exact lv_tableIn (off := 1048) (tgt := 1081) hx hb hdg (by decide +kernel) (by decide +kernel) (by decide +kernel) (by decide +kernel) (lc_duel C0 hi hI hl kk)
        · exact lv_tableIn (off := 1071) (tgt := 1104) hx hb hdg (by decide +kernel) (by decide +kernel) (by decide +kernel) (by decide +kernel) (lc_ways C0 hi hI hl kk)
        · exact lv_tableIn (off := 1094) (tgt := 1127) hx hb hdg (by decide +kernel) (by decide +kernel) (by decide +kernel) (by decide +kernel) (lc_first C0 hi hI hl kk)
        · exact lv_tableIn (off := 1127) (tgt := 1160) hx hb hdg (by decide +kernel) (by decide +kernel) (by decide +kernel) (by decide +kernel) (lc_kinds C0 hi hI hl kk)
        · exact lv_tableIn (off := 1160) (tgt := 1193) hx hb hdg (by decide +kernel) (by decide +kernel) (by decide +kernel) (by decide +kernel) (lc_measures C0 hi hI hl kk)
        · exact lv_tableIn (off := 1193) (tgt := 1226) hx hb hdg (by decide +kernel) (by decide +kernel) (by decide +kernel) (by decide +kernel) (lc_mid C0 hi hI hl kk)
        · exact lv_tableIn (off := 1226) (tgt := 1259) hx hb hdg (by decide +kernel) (by decide +kernel) (by decide +kernel) (by decide +kernel) (lc_odds C0 hi hI hl kk)
        · exact lv_tableIn (off := 1269) (tgt := 1302) hx hb hdg (by decide +kernel) (by decide +kernel) (by decide +kernel) (by decide +kernel) (lc_lots C0 hi hI hl kk)
        · exact lv_tableIn (off := 1302) (tgt := 1335) hx hb hdg (by decide +kernel) (by decide +kernel) (by decide +kernel) (by decide +kernel) (lc_asked C0 hi hI hl kk)
        · exact lv_tableIn (off := 1315) (tgt := 1348) hx hb hdg (by decide +kernel) (by decide +kernel) (by decide +kernel) (by decide +kernel) (lc_upper C0 hi hI hl kk)
        · exact lv_tableIn (off := 1329) (tgt := 1362) hx hb hdg (by decide +kernel) (by decide +kernel) (by decide +kernel) (by decide +kernel) (lc_lower C0 hi hI hl kk)
        · exact lv_tableIn (off := 1343) (tgt := 1376) hx hb hdg (by decide +kernel) (by decide +kernel) (by decide +kernel) (by decide +kernel) (lc_count C0 hi hI hl kk)
        · exact lv_tableIn (off := 1366) (tgt := 1399) hx hb hdg (by decide +kernel) (by decide +kernel) (by decide +kernel) (by decide +kernel) (lc_finding C0 hi hI hl kk)
        · exact lv_tableIn (off := 1379) (tgt := 1412) hx hb hdg (by decide +kernel) (by decide +kernel) (by decide +kernel) (by decide +kernel) (lc_findings C0 hi hI hl kk)
        · exact lv_tableIn (off := 1402) (tgt := 1435) hx hb hdg (by decide +kernel) (by decide +kernel) (by decide +kernel) (by decide +kernel) (lc_digest C0 hi hI hl kk)
      · refine lv_tableOut (tgt := 1449) hx hb hdg (Or.inr ?_) (by decide) (kk Λ I J H locs hI)
        have h := Int32.lt_iff_toInt_lt.mp (Int32.not_le.mp hle)
        rw [show (43 : Int32).toInt = 43 by decide] at h
        exact h
