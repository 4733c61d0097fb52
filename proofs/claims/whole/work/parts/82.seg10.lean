/-! the reference's constructor, by pieces over any world (written by p82.py) -/
section SEG10
variable {p : Program} {l : Launch} {e : Env} {R : Room} {s : State} {m : MethodId} {args : Array Value} {below : List Frame} {meth : Method} {c : Code} {H H0 : Heap} {locs : List Loc} {cells slots : Nat} {Q : State → Prop} {D : va_G} {tys : List (ClassId × FieldType)} {V : va_W} {A : Nat → Prop} {h0 : Nat} {ls : Array Slot} {fs : List Value}
set_option maxHeartbeats 4000000 in
theorem sg10_1 (hx : p.tables.exec = Jvm.exec) (hb : c.code = cX10_init) (hts : ∀ w ∈ GW, w.before args s = true) (hown : s.vm.findClass RX10 = some m.cls) (hin : meth.name = "<init>") (hlen : fs.length = 36) (hK : va_K D CLS tys s) (hP : va_P D CLS ((h0, .inr (10, fs)) :: V) H) (hD : va_D A ((h0, .inr (10, fs)) :: V)) (hS : va_S A H0 H locs) (hA : ∀ q, H0.size ≤ q → A q) (hl : lv_has ls 2 [(0, .ref h0)]) (hc : cells + 5 ≤ R.cells) (hs : slots + 296 ≤ R.slots)
    (kk : ∀ (q1 : Nat) (c1 : ClassId) (q2 : Nat) (c2 : ClassId) (q3 : Nat) (c3 : ClassId) (q4 : Nat) (c4 : ClassId) (q5 : Nat) (c5 : ClassId) (H1 : Heap) (locs1 : List Loc), va_K D CLS (tys ++ [(c1, .int)] ++ [(c2, .int)] ++ [(c3, .int)] ++ [(c4, .int)] ++ [(c5, .int)]) s → va_P D CLS ((h0, .inr (10, ((((((fs.set 1 (.ref q1)).set 4 (.long 1)).set 5 (.ref q2)).set 6 (.ref q3)).set 7 (.ref q4)).set 8 (.ref q5)))) :: (V ++ [(q1, .inl (c1, 6, .inl (fun _ => 0)))] ++ [(q2, .inl (c2, 6, .inl (fun _ => 0)))] ++ [(q3, .inl (c3, 240, .inl (fun _ => 0)))] ++ [(q4, .inl (c4, 40, .inl (fun _ => 0)))] ++ [(q5, .inl (c5, 4, .inl (fun _ => 0)))])) H1 → va_D A ((h0, .inr (10, ((((((fs.set 1 (.ref q1)).set 4 (.long 1)).set 5 (.ref q2)).set 6 (.ref q3)).set 7 (.ref q4)).set 8 (.ref q5)))) :: (V ++ [(q1, .inl (c1, 6, .inl (fun _ => 0)))] ++ [(q2, .inl (c2, 6, .inl (fun _ => 0)))] ++ [(q3, .inl (c3, 240, .inl (fun _ => 0)))] ++ [(q4, .inl (c4, 40, .inl (fun _ => 0)))] ++ [(q5, .inl (c5, 4, .inl (fun _ => 0)))])) → va_S A H0 H1 locs1 → W p l e R s m args below meth c H1 locs1 (cells + 5) (slots + 296) Q (F0 m 49 ls [])) : W p l e R s m args below meth c H locs cells slots Q (F0 m 4 ls []) := by
  refine lv_aload_n hx hb (show decode cX10_init 4 = .ok (.aload_n 0, 1) by decide +kernel) rfl (lv_at hl 0 rfl) ?_
  refine lv_bipush (v := 6) hx hb (show decode cX10_init 5 = .ok (.bipush 6, 2) by decide +kernel) (by decide +kernel) ?_
  refine blkA hx hb hts hown hin hlen hK hP hD hS hA (n := 6) (N := 6) (k := 1) (idx := 7) (nm := "findings") (by decide +kernel) (by decide +kernel) (by decide +kernel) (by decide +kernel) rfl k1011 (by omega) (by omega) (show decode cX10_init 7 = .ok (.newarray .int, 2) by decide +kernel) (show decode cX10_init 9 = .ok (.putfield 7, 3) by decide +kernel) (fun q1 c1 H locs hlen hK hP hD hS => ?_)
  refine W.widen (k := cells + 1) (n := slots + 6) (by omega) (by omega) ?_
  refine W.eq (g2 := F0 m 12 ls []) rfl ?_
  refine lv_aload_n hx hb (show decode cX10_init 12 = .ok (.aload_n 0, 1) by decide +kernel) rfl (lv_at hl 0 rfl) ?_
  refine lv_lconst (v := 1) hx hb (show decode cX10_init 13 = .ok (.lconst 1, 1) by decide +kernel) (by decide +kernel) ?_
  refine blkS hx hb hts hown hlen hK hP hD hS (k := 4) (idx := 13) (nm := "lower") (ds := "J") (v := .long 1) (ty := .long) (by decide +kernel) rfl k1014 (by decide +kernel) rfl rfl (show decode cX10_init 14 = .ok (.putfield 13, 3) by decide +kernel) (fun H locs hlen hP hD hS => ?_)
  refine W.eq (g2 := F0 m 17 ls []) rfl ?_
  refine lv_aload_n hx hb (show decode cX10_init 17 = .ok (.aload_n 0, 1) by decide +kernel) rfl (lv_at hl 0 rfl) ?_
  refine lv_bipush (v := 6) hx hb (show decode cX10_init 18 = .ok (.bipush 6, 2) by decide +kernel) (by decide +kernel) ?_
  refine blkA hx hb hts hown hin hlen hK hP hD hS hA (n := 6) (N := 6) (k := 5) (idx := 17) (nm := "sizes") (by decide +kernel) (by decide +kernel) (by decide +kernel) (by decide +kernel) rfl k1015 (by omega) (by omega) (show decode cX10_init 20 = .ok (.newarray .int, 2) by decide +kernel) (show decode cX10_init 22 = .ok (.putfield 17, 3) by decide +kernel) (fun q2 c2 H locs hlen hK hP hD hS => ?_)
  refine W.widen (k := cells + 2) (n := slots + 12) (by omega) (by omega) ?_
  refine W.eq (g2 := F0 m 25 ls []) rfl ?_
  refine lv_aload_n hx hb (show decode cX10_init 25 = .ok (.aload_n 0, 1) by decide +kernel) rfl (lv_at hl 0 rfl) ?_
  refine lv_sipush (v := 240) hx hb (show decode cX10_init 26 = .ok (.sipush 240, 3) by decide +kernel) (by decide +kernel) ?_
  refine blkA hx hb hts hown hin hlen hK hP hD hS hA (n := 240) (N := 240) (k := 6) (idx := 20) (nm := "rows") (by decide +kernel) (by decide +kernel) (by decide +kernel) (by decide +kernel) rfl k1016 (by omega) (by omega) (show decode cX10_init 29 = .ok (.newarray .int, 2) by decide +kernel) (show decode cX10_init 31 = .ok (.putfield 20, 3) by decide +kernel) (fun q3 c3 H locs hlen hK hP hD hS => ?_)
  refine W.widen (k := cells + 3) (n := slots + 252) (by omega) (by omega) ?_
  refine W.eq (g2 := F0 m 34 ls []) rfl ?_
  refine lv_aload_n hx hb (show decode cX10_init 34 = .ok (.aload_n 0, 1) by decide +kernel) rfl (lv_at hl 0 rfl) ?_
  refine lv_bipush (v := 40) hx hb (show decode cX10_init 35 = .ok (.bipush 40, 2) by decide +kernel) (by decide +kernel) ?_
  refine blkA hx hb hts hown hin hlen hK hP hD hS hA (n := 40) (N := 40) (k := 7) (idx := 23) (nm := "moving") (by decide +kernel) (by decide +kernel) (by decide +kernel) (by decide +kernel) rfl k1017 (by omega) (by omega) (show decode cX10_init 37 = .ok (.newarray .int, 2) by decide +kernel) (show decode cX10_init 39 = .ok (.putfield 23, 3) by decide +kernel) (fun q4 c4 H locs hlen hK hP hD hS => ?_)
  refine W.widen (k := cells + 4) (n := slots + 292) (by omega) (by omega) ?_
  refine W.eq (g2 := F0 m 42 ls []) rfl ?_
  refine lv_aload_n hx hb (show decode cX10_init 42 = .ok (.aload_n 0, 1) by decide +kernel) rfl (lv_at hl 0 rfl) ?_
  refine lv_iconst (v := 4) hx hb (show decode cX10_init 43 = .ok (.iconst 4, 1) by decide +kernel) (by decide +kernel) ?_
  refine blkA hx hb hts hown hin hlen hK hP hD hS hA (n := 4) (N := 4) (k := 8) (idx := 26) (nm := "lengths") (by decide +kernel) (by decide +kernel) (by decide +kernel) (by decide +kernel) rfl k1018 (by omega) (by omega) (show decode cX10_init 44 = .ok (.newarray .int, 2) by decide +kernel) (show decode cX10_init 46 = .ok (.putfield 26, 3) by decide +kernel) (fun q5 c5 H locs hlen hK hP hD hS => ?_)
  refine W.widen (k := cells + 5) (n := slots + 296) (by omega) (by omega) ?_
  refine W.eq (g2 := F0 m 49 ls []) rfl ?_
  exact kk q1 c1 q2 c2 q3 c3 q4 c4 q5 c5 H locs hK hP hD hS
set_option maxHeartbeats 4000000 in
theorem sg10_2 (hx : p.tables.exec = Jvm.exec) (hb : c.code = cX10_init) (hts : ∀ w ∈ GW, w.before args s = true) (hown : s.vm.findClass RX10 = some m.cls) (hin : meth.name = "<init>") (hlen : fs.length = 36) (hK : va_K D CLS tys s) (hP : va_P D CLS ((h0, .inr (10, fs)) :: V) H) (hD : va_D A ((h0, .inr (10, fs)) :: V)) (hS : va_S A H0 H locs) (hA : ∀ q, H0.size ≤ q → A q) (hl : lv_has ls 2 [(0, .ref h0)]) (hc : cells + 6 ≤ R.cells) (hs : slots + 272 ≤ R.slots)
    (kk : ∀ (q6 : Nat) (c6 : ClassId) (q7 : Nat) (c7 : ClassId) (q8 : Nat) (c8 : ClassId) (q9 : Nat) (c9 : ClassId) (q10 : Nat) (c10 : ClassId) (q11 : Nat) (c11 : ClassId) (H1 : Heap) (locs1 : List Loc), va_K D CLS (tys ++ [(c6, .int)] ++ [(c7, .int)] ++ [(c8, .int)] ++ [(c9, .int)] ++ [(c10, .int)] ++ [(c11, .int)]) s → va_P D CLS ((h0, .inr (10, ((((((fs.set 9 (.ref q6)).set 11 (.ref q7)).set 12 (.ref q8)).set 13 (.ref q9)).set 14 (.ref q10)).set 15 (.ref q11)))) :: (V ++ [(q6, .inl (c6, 240, .inl (fun _ => 0)))] ++ [(q7, .inl (c7, 7, .inl (fun _ => 0)))] ++ [(q8, .inl (c8, 7, .inl (fun _ => 0)))] ++ [(q9, .inl (c9, 6, .inl (fun _ => 0)))] ++ [(q10, .inl (c10, 6, .inl (fun _ => 0)))] ++ [(q11, .inl (c11, 6, .inl (fun _ => 0)))])) H1 → va_D A ((h0, .inr (10, ((((((fs.set 9 (.ref q6)).set 11 (.ref q7)).set 12 (.ref q8)).set 13 (.ref q9)).set 14 (.ref q10)).set 15 (.ref q11)))) :: (V ++ [(q6, .inl (c6, 240, .inl (fun _ => 0)))] ++ [(q7, .inl (c7, 7, .inl (fun _ => 0)))] ++ [(q8, .inl (c8, 7, .inl (fun _ => 0)))] ++ [(q9, .inl (c9, 6, .inl (fun _ => 0)))] ++ [(q10, .inl (c10, 6, .inl (fun _ => 0)))] ++ [(q11, .inl (c11, 6, .inl (fun _ => 0)))])) → va_S A H0 H1 locs1 → W p l e R s m args below meth c H1 locs1 (cells + 6) (slots + 272) Q (F0 m 98 ls [])) : W p l e R s m args below meth c H locs cells slots Q (F0 m 49 ls []) := by
  refine lv_aload_n hx hb (show decode cX10_init 49 = .ok (.aload_n 0, 1) by decide +kernel) rfl (lv_at hl 0 rfl) ?_
  refine lv_sipush (v := 240) hx hb (show decode cX10_init 50 = .ok (.sipush 240, 3) by decide +kernel) (by decide +kernel) ?_
  refine blkA hx hb hts hown hin hlen hK hP hD hS hA (n := 240) (N := 240) (k := 9) (idx := 29) (nm := "texts") (by decide +kernel) (by decide +kernel) (by decide +kernel) (by decide +kernel) rfl k1019 (by omega) (by omega) (show decode cX10_init 53 = .ok (.newarray .int, 2) by decide +kernel) (show decode cX10_init 55 = .ok (.putfield 29, 3) by decide +kernel) (fun q6 c6 H locs hlen hK hP hD hS => ?_)
  refine W.widen (k := cells + 1) (n := slots + 240) (by omega) (by omega) ?_
  refine W.eq (g2 := F0 m 58 ls []) rfl ?_
  refine lv_aload_n hx hb (show decode cX10_init 58 = .ok (.aload_n 0, 1) by decide +kernel) rfl (lv_at hl 0 rfl) ?_
  refine lv_bipush (v := 7) hx hb (show decode cX10_init 59 = .ok (.bipush 7, 2) by decide +kernel) (by decide +kernel) ?_
  refine blkA hx hb hts hown hin hlen hK hP hD hS hA (n := 7) (N := 7) (k := 11) (idx := 32) (nm := "rain") (by decide +kernel) (by decide +kernel) (by decide +kernel) (by decide +kernel) rfl k1021 (by omega) (by omega) (show decode cX10_init 61 = .ok (.newarray .int, 2) by decide +kernel) (show decode cX10_init 63 = .ok (.putfield 32, 3) by decide +kernel) (fun q7 c7 H locs hlen hK hP hD hS => ?_)
  refine W.widen (k := cells + 2) (n := slots + 247) (by omega) (by omega) ?_
  refine W.eq (g2 := F0 m 66 ls []) rfl ?_
  refine lv_aload_n hx hb (show decode cX10_init 66 = .ok (.aload_n 0, 1) by decide +kernel) rfl (lv_at hl 0 rfl) ?_
  refine lv_bipush (v := 7) hx hb (show decode cX10_init 67 = .ok (.bipush 7, 2) by decide +kernel) (by decide +kernel) ?_
  refine blkA hx hb hts hown hin hlen hK hP hD hS hA (n := 7) (N := 7) (k := 12) (idx := 35) (nm := "owner") (by decide +kernel) (by decide +kernel) (by decide +kernel) (by decide +kernel) rfl k1022 (by omega) (by omega) (show decode cX10_init 69 = .ok (.newarray .int, 2) by decide +kernel) (show decode cX10_init 71 = .ok (.putfield 35, 3) by decide +kernel) (fun q8 c8 H locs hlen hK hP hD hS => ?_)
  refine W.widen (k := cells + 3) (n := slots + 254) (by omega) (by omega) ?_
  refine W.eq (g2 := F0 m 74 ls []) rfl ?_
  refine lv_aload_n hx hb (show decode cX10_init 74 = .ok (.aload_n 0, 1) by decide +kernel) rfl (lv_at hl 0 rfl) ?_
  refine lv_bipush (v := 6) hx hb (show decode cX10_init 75 = .ok (.bipush 6, 2) by decide +kernel) (by decide +kernel) ?_
  refine blkA hx hb hts hown hin hlen hK hP hD hS hA (n := 6) (N := 6) (k := 13) (idx := 38) (nm := "kinds") (by decide +kernel) (by decide +kernel) (by decide +kernel) (by decide +kernel) rfl k1023 (by omega) (by omega) (show decode cX10_init 77 = .ok (.newarray .int, 2) by decide +kernel) (show decode cX10_init 79 = .ok (.putfield 38, 3) by decide +kernel) (fun q9 c9 H locs hlen hK hP hD hS => ?_)
  refine W.widen (k := cells + 4) (n := slots + 260) (by omega) (by omega) ?_
  refine W.eq (g2 := F0 m 82 ls []) rfl ?_
  refine lv_aload_n hx hb (show decode cX10_init 82 = .ok (.aload_n 0, 1) by decide +kernel) rfl (lv_at hl 0 rfl) ?_
  refine lv_bipush (v := 6) hx hb (show decode cX10_init 83 = .ok (.bipush 6, 2) by decide +kernel) (by decide +kernel) ?_
  refine blkA hx hb hts hown hin hlen hK hP hD hS hA (n := 6) (N := 6) (k := 14) (idx := 41) (nm := "measures") (by decide +kernel) (by decide +kernel) (by decide +kernel) (by decide +kernel) rfl k1024 (by omega) (by omega) (show decode cX10_init 85 = .ok (.newarray .int, 2) by decide +kernel) (show decode cX10_init 87 = .ok (.putfield 41, 3) by decide +kernel) (fun q10 c10 H locs hlen hK hP hD hS => ?_)
  refine W.widen (k := cells + 5) (n := slots + 266) (by omega) (by omega) ?_
  refine W.eq (g2 := F0 m 90 ls []) rfl ?_
  refine lv_aload_n hx hb (show decode cX10_init 90 = .ok (.aload_n 0, 1) by decide +kernel) rfl (lv_at hl 0 rfl) ?_
  refine lv_bipush (v := 6) hx hb (show decode cX10_init 91 = .ok (.bipush 6, 2) by decide +kernel) (by decide +kernel) ?_
  refine blkA hx hb hts hown hin hlen hK hP hD hS hA (n := 6) (N := 6) (k := 15) (idx := 44) (nm := "water") (by decide +kernel) (by decide +kernel) (by decide +kernel) (by decide +kernel) rfl k1025 (by omega) (by omega) (show decode cX10_init 93 = .ok (.newarray .int, 2) by decide +kernel) (show decode cX10_init 95 = .ok (.putfield 44, 3) by decide +kernel) (fun q11 c11 H locs hlen hK hP hD hS => ?_)
  refine W.widen (k := cells + 6) (n := slots + 272) (by omega) (by omega) ?_
  refine W.eq (g2 := F0 m 98 ls []) rfl ?_
  exact kk q6 c6 q7 c7 q8 c8 q9 c9 q10 c10 q11 c11 H locs hK hP hD hS
set_option maxHeartbeats 4000000 in
theorem sg10_3 (hx : p.tables.exec = Jvm.exec) (hb : c.code = cX10_init) (hts : ∀ w ∈ GW, w.before args s = true) (hown : s.vm.findClass RX10 = some m.cls) (hin : meth.name = "<init>") (hlen : fs.length = 36) (hK : va_K D CLS tys s) (hP : va_P D CLS ((h0, .inr (10, fs)) :: V) H) (hD : va_D A ((h0, .inr (10, fs)) :: V)) (hS : va_S A H0 H locs) (hA : ∀ q, H0.size ≤ q → A q) (hl : lv_has ls 2 [(0, .ref h0)]) (hc : cells + 6 ≤ R.cells) (hs : slots + 1131 ≤ R.slots)
    (kk : ∀ (q12 : Nat) (c12 : ClassId) (q13 : Nat) (c13 : ClassId) (q14 : Nat) (c14 : ClassId) (q15 : Nat) (c15 : ClassId) (q16 : Nat) (c16 : ClassId) (q17 : Nat) (c17 : ClassId) (H1 : Heap) (locs1 : List Loc), va_K D CLS (tys ++ [(c12, .int)] ++ [(c13, .int)] ++ [(c14, .int)] ++ [(c15, .int)] ++ [(c16, .int)] ++ [(c17, .int)]) s → va_P D CLS ((h0, .inr (10, ((((((fs.set 16 (.ref q12)).set 17 (.ref q13)).set 19 (.ref q14)).set 23 (.ref q15)).set 24 (.ref q16)).set 26 (.ref q17)))) :: (V ++ [(q12, .inl (c12, 6, .inl (fun _ => 0)))] ++ [(q13, .inl (c13, 6, .inl (fun _ => 0)))] ++ [(q14, .inl (c14, 7, .inl (fun _ => 0)))] ++ [(q15, .inl (c15, 14, .inl (fun _ => 0)))] ++ [(q16, .inl (c16, 18, .inl (fun _ => 0)))] ++ [(q17, .inl (c17, 1080, .inl (fun _ => 0)))])) H1 → va_D A ((h0, .inr (10, ((((((fs.set 16 (.ref q12)).set 17 (.ref q13)).set 19 (.ref q14)).set 23 (.ref q15)).set 24 (.ref q16)).set 26 (.ref q17)))) :: (V ++ [(q12, .inl (c12, 6, .inl (fun _ => 0)))] ++ [(q13, .inl (c13, 6, .inl (fun _ => 0)))] ++ [(q14, .inl (c14, 7, .inl (fun _ => 0)))] ++ [(q15, .inl (c15, 14, .inl (fun _ => 0)))] ++ [(q16, .inl (c16, 18, .inl (fun _ => 0)))] ++ [(q17, .inl (c17, 1080, .inl (fun _ => 0)))])) → va_S A H0 H1 locs1 → W p l e R s m args below meth c H1 locs1 (cells + 6) (slots + 1131) Q (F0 m 147 ls [])) : W p l e R s m args below meth c H locs cells slots Q (F0 m 98 ls []) := by
  refine lv_aload_n hx hb (show decode cX10_init 98 = .ok (.aload_n 0, 1) by decide +kernel) rfl (lv_at hl 0 rfl) ?_
  refine lv_bipush (v := 6) hx hb (show decode cX10_init 99 = .ok (.bipush 6, 2) by decide +kernel) (by decide +kernel) ?_
  refine blkA hx hb hts hown hin hlen hK hP hD hS hA (n := 6) (N := 6) (k := 16) (idx := 47) (nm := "ground") (by decide +kernel) (by decide +kernel) (by decide +kernel) (by decide +kernel) rfl k1026 (by omega) (by omega) (show decode cX10_init 101 = .ok (.newarray .int, 2) by decide +kernel) (show decode cX10_init 103 = .ok (.putfield 47, 3) by decide +kernel) (fun q12 c12 H locs hlen hK hP hD hS => ?_)
  refine W.widen (k := cells + 1) (n := slots + 6) (by omega) (by omega) ?_
  refine W.eq (g2 := F0 m 106 ls []) rfl ?_
  refine lv_aload_n hx hb (show decode cX10_init 106 = .ok (.aload_n 0, 1) by decide +kernel) rfl (lv_at hl 0 rfl) ?_
  refine lv_bipush (v := 6) hx hb (show decode cX10_init 107 = .ok (.bipush 6, 2) by decide +kernel) (by decide +kernel) ?_
  refine blkA hx hb hts hown hin hlen hK hP hD hS hA (n := 6) (N := 6) (k := 17) (idx := 50) (nm := "ran") (by decide +kernel) (by decide +kernel) (by decide +kernel) (by decide +kernel) rfl k1027 (by omega) (by omega) (show decode cX10_init 109 = .ok (.newarray .int, 2) by decide +kernel) (show decode cX10_init 111 = .ok (.putfield 50, 3) by decide +kernel) (fun q13 c13 H locs hlen hK hP hD hS => ?_)
  refine W.widen (k := cells + 2) (n := slots + 12) (by omega) (by omega) ?_
  refine W.eq (g2 := F0 m 114 ls []) rfl ?_
  refine lv_aload_n hx hb (show decode cX10_init 114 = .ok (.aload_n 0, 1) by decide +kernel) rfl (lv_at hl 0 rfl) ?_
  refine lv_bipush (v := 7) hx hb (show decode cX10_init 115 = .ok (.bipush 7, 2) by decide +kernel) (by decide +kernel) ?_
  refine blkA hx hb hts hown hin hlen hK hP hD hS hA (n := 7) (N := 7) (k := 19) (idx := 53) (nm := "owned") (by decide +kernel) (by decide +kernel) (by decide +kernel) (by decide +kernel) rfl k1029 (by omega) (by omega) (show decode cX10_init 117 = .ok (.newarray .int, 2) by decide +kernel) (show decode cX10_init 119 = .ok (.putfield 53, 3) by decide +kernel) (fun q14 c14 H locs hlen hK hP hD hS => ?_)
  refine W.widen (k := cells + 3) (n := slots + 19) (by omega) (by omega) ?_
  refine W.eq (g2 := F0 m 122 ls []) rfl ?_
  refine lv_aload_n hx hb (show decode cX10_init 122 = .ok (.aload_n 0, 1) by decide +kernel) rfl (lv_at hl 0 rfl) ?_
  refine lv_bipush (v := 14) hx hb (show decode cX10_init 123 = .ok (.bipush 14, 2) by decide +kernel) (by decide +kernel) ?_
  refine blkA hx hb hts hown hin hlen hK hP hD hS hA (n := 14) (N := 14) (k := 23) (idx := 56) (nm := "readWeek") (by decide +kernel) (by decide +kernel) (by decide +kernel) (by decide +kernel) rfl k1033 (by omega) (by omega) (show decode cX10_init 125 = .ok (.newarray .int, 2) by decide +kernel) (show decode cX10_init 127 = .ok (.putfield 56, 3) by decide +kernel) (fun q15 c15 H locs hlen hK hP hD hS => ?_)
  refine W.widen (k := cells + 4) (n := slots + 33) (by omega) (by omega) ?_
  refine W.eq (g2 := F0 m 130 ls []) rfl ?_
  refine lv_aload_n hx hb (show decode cX10_init 130 = .ok (.aload_n 0, 1) by decide +kernel) rfl (lv_at hl 0 rfl) ?_
  refine lv_bipush (v := 18) hx hb (show decode cX10_init 131 = .ok (.bipush 18, 2) by decide +kernel) (by decide +kernel) ?_
  refine blkA hx hb hts hown hin hlen hK hP hD hS hA (n := 18) (N := 18) (k := 24) (idx := 59) (nm := "readReach") (by decide +kernel) (by decide +kernel) (by decide +kernel) (by decide +kernel) rfl k1034 (by omega) (by omega) (show decode cX10_init 133 = .ok (.newarray .int, 2) by decide +kernel) (show decode cX10_init 135 = .ok (.putfield 59, 3) by decide +kernel) (fun q16 c16 H locs hlen hK hP hD hS => ?_)
  refine W.widen (k := cells + 5) (n := slots + 51) (by omega) (by omega) ?_
  refine W.eq (g2 := F0 m 138 ls []) rfl ?_
  refine lv_aload_n hx hb (show decode cX10_init 138 = .ok (.aload_n 0, 1) by decide +kernel) rfl (lv_at hl 0 rfl) ?_
  refine lv_sipush (v := 1080) hx hb (show decode cX10_init 139 = .ok (.sipush 1080, 3) by decide +kernel) (by decide +kernel) ?_
  refine blkA hx hb hts hown hin hlen hK hP hD hS hA (n := 1080) (N := 1080) (k := 26) (idx := 62) (nm := "notes") (by decide +kernel) (by decide +kernel) (by decide +kernel) (by decide +kernel) rfl k1036 (by omega) (by omega) (show decode cX10_init 142 = .ok (.newarray .int, 2) by decide +kernel) (show decode cX10_init 144 = .ok (.putfield 62, 3) by decide +kernel) (fun q17 c17 H locs hlen hK hP hD hS => ?_)
  refine W.widen (k := cells + 6) (n := slots + 1131) (by omega) (by omega) ?_
  refine W.eq (g2 := F0 m 147 ls []) rfl ?_
  exact kk q12 c12 q13 c13 q14 c14 q15 c15 q16 c16 q17 c17 H locs hK hP hD hS
set_option maxHeartbeats 4000000 in
theorem sg10_4 (hx : p.tables.exec = Jvm.exec) (hb : c.code = cX10_init) (hts : ∀ w ∈ GW, w.before args s = true) (hown : s.vm.findClass RX10 = some m.cls) (hin : meth.name = "<init>") (hlen : fs.length = 36) (hK : va_K D CLS tys s) (hP : va_P D CLS ((h0, .inr (10, fs)) :: V) H) (hD : va_D A ((h0, .inr (10, fs)) :: V)) (hS : va_S A H0 H locs) (hA : ∀ q, H0.size ≤ q → A q) (hl : lv_has ls 2 [(0, .ref h0)]) (hc : cells + 5 ≤ R.cells) (hs : slots + 3365 ≤ R.slots)
    (kk : ∀ (q18 : Nat) (c18 : ClassId) (q19 : Nat) (c19 : ClassId) (q20 : Nat) (c20 : ClassId) (q21 : Nat) (c21 : ClassId) (q22 : Nat) (c22 : ClassId) (H1 : Heap) (locs1 : List Loc), va_K D CLS (tys ++ [(c18, .int)] ++ [(c19, .int)] ++ [(c20, .int)] ++ [(c21, .int)] ++ [(c22, .int)]) s → va_P D CLS ((h0, .inr (10, ((((((fs.set 27 (.ref q18)).set 28 (.ref q19)).set 29 (.ref q20)).set 30 (.ref q21)).set 32 (.int (-9))).set 33 (.ref q22)))) :: (V ++ [(q18, .inl (c18, 3, .inl (fun _ => 0)))] ++ [(q19, .inl (c19, 3321, .inl (fun _ => 0)))] ++ [(q20, .inl (c20, 27, .inl (fun _ => 0)))] ++ [(q21, .inl (c21, 6, .inl (fun _ => 0)))] ++ [(q22, .inl (c22, 8, .inl (fun _ => 0)))])) H1 → va_D A ((h0, .inr (10, ((((((fs.set 27 (.ref q18)).set 28 (.ref q19)).set 29 (.ref q20)).set 30 (.ref q21)).set 32 (.int (-9))).set 33 (.ref q22)))) :: (V ++ [(q18, .inl (c18, 3, .inl (fun _ => 0)))] ++ [(q19, .inl (c19, 3321, .inl (fun _ => 0)))] ++ [(q20, .inl (c20, 27, .inl (fun _ => 0)))] ++ [(q21, .inl (c21, 6, .inl (fun _ => 0)))] ++ [(q22, .inl (c22, 8, .inl (fun _ => 0)))])) → va_S A H0 H1 locs1 → W p l e R s m args below meth c H1 locs1 (cells + 5) (slots + 3365) Q (F0 m 193 ls [])) : W p l e R s m args below meth c H locs cells slots Q (F0 m 147 ls []) := by
  refine lv_aload_n hx hb (show decode cX10_init 147 = .ok (.aload_n 0, 1) by decide +kernel) rfl (lv_at hl 0 rfl) ?_
  refine lv_iconst (v := 3) hx hb (show decode cX10_init 148 = .ok (.iconst 3, 1) by decide +kernel) (by decide +kernel) ?_
  refine blkA hx hb hts hown hin hlen hK hP hD hS hA (n := 3) (N := 3) (k := 27) (idx := 65) (nm := "isThere") (by decide +kernel) (by decide +kernel) (by decide +kernel) (by decide +kernel) rfl k1037 (by omega) (by omega) (show decode cX10_init 149 = .ok (.newarray .int, 2) by decide +kernel) (show decode cX10_init 151 = .ok (.putfield 65, 3) by decide +kernel) (fun q18 c18 H locs hlen hK hP hD hS => ?_)
  refine W.widen (k := cells + 1) (n := slots + 3) (by omega) (by omega) ?_
  refine W.eq (g2 := F0 m 154 ls []) rfl ?_
  refine lv_aload_n hx hb (show decode cX10_init 154 = .ok (.aload_n 0, 1) by decide +kernel) rfl (lv_at hl 0 rfl) ?_
  refine lv_sipush (v := 3321) hx hb (show decode cX10_init 155 = .ok (.sipush 3321, 3) by decide +kernel) (by decide +kernel) ?_
  refine blkA hx hb hts hown hin hlen hK hP hD hS hA (n := 3321) (N := 3321) (k := 28) (idx := 68) (nm := "images") (by decide +kernel) (by decide +kernel) (by decide +kernel) (by decide +kernel) rfl k1038 (by omega) (by omega) (show decode cX10_init 158 = .ok (.newarray .int, 2) by decide +kernel) (show decode cX10_init 160 = .ok (.putfield 68, 3) by decide +kernel) (fun q19 c19 H locs hlen hK hP hD hS => ?_)
  refine W.widen (k := cells + 2) (n := slots + 3324) (by omega) (by omega) ?_
  refine W.eq (g2 := F0 m 163 ls []) rfl ?_
  refine lv_aload_n hx hb (show decode cX10_init 163 = .ok (.aload_n 0, 1) by decide +kernel) rfl (lv_at hl 0 rfl) ?_
  refine lv_bipush (v := 27) hx hb (show decode cX10_init 164 = .ok (.bipush 27, 2) by decide +kernel) (by decide +kernel) ?_
  refine blkA hx hb hts hown hin hlen hK hP hD hS hA (n := 27) (N := 27) (k := 29) (idx := 71) (nm := "aside") (by decide +kernel) (by decide +kernel) (by decide +kernel) (by decide +kernel) rfl k1039 (by omega) (by omega) (show decode cX10_init 166 = .ok (.newarray .int, 2) by decide +kernel) (show decode cX10_init 168 = .ok (.putfield 71, 3) by decide +kernel) (fun q20 c20 H locs hlen hK hP hD hS => ?_)
  refine W.widen (k := cells + 3) (n := slots + 3351) (by omega) (by omega) ?_
  refine W.eq (g2 := F0 m 171 ls []) rfl ?_
  refine lv_aload_n hx hb (show decode cX10_init 171 = .ok (.aload_n 0, 1) by decide +kernel) rfl (lv_at hl 0 rfl) ?_
  refine lv_bipush (v := 6) hx hb (show decode cX10_init 172 = .ok (.bipush 6, 2) by decide +kernel) (by decide +kernel) ?_
  refine blkA hx hb hts hown hin hlen hK hP hD hS hA (n := 6) (N := 6) (k := 30) (idx := 74) (nm := "flow") (by decide +kernel) (by decide +kernel) (by decide +kernel) (by decide +kernel) rfl k1040 (by omega) (by omega) (show decode cX10_init 174 = .ok (.newarray .int, 2) by decide +kernel) (show decode cX10_init 176 = .ok (.putfield 74, 3) by decide +kernel) (fun q21 c21 H locs hlen hK hP hD hS => ?_)
  refine W.widen (k := cells + 4) (n := slots + 3357) (by omega) (by omega) ?_
  refine W.eq (g2 := F0 m 179 ls []) rfl ?_
  refine lv_aload_n hx hb (show decode cX10_init 179 = .ok (.aload_n 0, 1) by decide +kernel) rfl (lv_at hl 0 rfl) ?_
  refine lv_bipush (v := -9) hx hb (show decode cX10_init 180 = .ok (.bipush (-9), 2) by decide +kernel) (by decide +kernel) ?_
  refine blkS hx hb hts hown hlen hK hP hD hS (k := 32) (idx := 77) (nm := "dry") (ds := "I") (v := .int (-9)) (ty := .int) (by decide +kernel) rfl k1042 (by decide +kernel) rfl rfl (show decode cX10_init 182 = .ok (.putfield 77, 3) by decide +kernel) (fun H locs hlen hP hD hS => ?_)
  refine W.eq (g2 := F0 m 185 ls []) rfl ?_
  refine lv_aload_n hx hb (show decode cX10_init 185 = .ok (.aload_n 0, 1) by decide +kernel) rfl (lv_at hl 0 rfl) ?_
  refine lv_bipush (v := 8) hx hb (show decode cX10_init 186 = .ok (.bipush 8, 2) by decide +kernel) (by decide +kernel) ?_
  refine blkA hx hb hts hown hin hlen hK hP hD hS hA (n := 8) (N := 8) (k := 33) (idx := 81) (nm := "sets") (by decide +kernel) (by decide +kernel) (by decide +kernel) (by decide +kernel) rfl k1043 (by omega) (by omega) (show decode cX10_init 188 = .ok (.newarray .int, 2) by decide +kernel) (show decode cX10_init 190 = .ok (.putfield 81, 3) by decide +kernel) (fun q22 c22 H locs hlen hK hP hD hS => ?_)
  refine W.widen (k := cells + 5) (n := slots + 3365) (by omega) (by omega) ?_
  refine W.eq (g2 := F0 m 193 ls []) rfl ?_
  exact kk q18 c18 q19 c19 q20 c20 q21 c21 q22 c22 H locs hK hP hD hS
end SEG10
