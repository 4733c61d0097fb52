/-! the reference's constructor -/
section BLK
variable {p : Program} {l : Launch} {e : Env} {R : Room} {s : State} {m : MethodId} {args : Array Value} {below : List Frame} {meth : Method} {c : Code} {H H0 : Heap} {locs : List Loc} {cells slots : Nat} {Q : State → Prop} {cc : ByteArray} {D : va_G} {tys : List (ClassId × FieldType)} {V : va_W} {A : Nat → Prop} {pc h0 : Nat} {ls : Array Slot} {fs : List Value}
theorem blkA (hx : p.tables.exec = Jvm.exec) (hb : c.code = cc) (hts : ∀ w ∈ GW, w.before args s = true) (hown : s.vm.findClass RX10 = some m.cls) (hin : meth.name = "<init>") (hlen : fs.length = 36) (hK : va_K D CLS tys s) (hP : va_P D CLS ((h0, .inr (10, fs)) :: V) H) (hD : va_D A ((h0, .inr (10, fs)) :: V)) (hS : va_S A H0 H locs) (hA : ∀ q, H0.size ≤ q → A q) {n : Int32} {N k idx : Nat} {nm : String} (hn : ¬ n < 0) (hN : n.toNatClampNeg = N) (hNb : N ≤ 10000) (hk : k < 36) (hT : TX10 k = (RX10, nm, "[I", true)) (hlink : Cond.fieldLink RX10 idx RX10 nm "[I" ∈ GW) (hcells : cells + 1 ≤ R.cells) (hslots : slots + N ≤ R.slots) (d1 : decode cc pc = .ok (.newarray .int, 2)) (d2 : decode cc (pc + 2) = .ok (.putfield idx, 3))
    (kk : ∀ (q : Nat) (cA : ClassId) (H1 : Heap) (locs1 : List Loc), (fs.set k (.ref q)).length = 36 → va_K D CLS (tys ++ [(cA, .int)]) s → va_P D CLS ((h0, .inr (10, fs.set k (.ref q))) :: (V ++ [(q, .inl (cA, N, .inl (fun _ => 0)))])) H1 → va_D A ((h0, .inr (10, fs.set k (.ref q))) :: (V ++ [(q, .inl (cA, N, .inl (fun _ => 0)))])) → va_S A H0 H1 locs1 → W p l e R s m args below meth c H1 locs1 (cells + 1) (slots + N) Q (F0 m (pc + 2 + 3) ls [])) : W p l e R s m args below meth c H locs cells slots Q (F0 m pc ls [.int n, .ref h0]) := by
  refine va_newa (D := D) (atype := .int) (a0 := (N, .inl (fun _ => 0))) hx hb (hts _ k125) rfl hK hP hD hS hA (fun _ => rfl) hn hN (by show N * 4 ≤ 536870912; omega) hcells hslots d1 (fun q cA H hK hP hD hS => ?_)
  refine va_putF (D := D) (ci := 10) (v := .ref q) (ty := .array .int) (C := RX10) (T := TX10) (N := 36) (ref := RX10) hx hb hts uX10 tyX10 tyX10_ok nmX10 hown hK hP hD hS 0 rfl rfl k hk (by rw [hT]; exact hts _ hlink) (fun _ h9 => by rw [hT] at h9; rw [hT]; exact h9) (by rw [hT]) hin (by rw [hT]) (by rw [hT]; show parseFieldDescriptor "[I" = some (.array .int); decide +kernel) rfl rfl (by rw [hlen]; exact hk) d2 (fun H locs hP hD hS => ?_)
  exact kk q cA H locs (by rw [List.length_set]; exact hlen) hK hP hD hS
theorem blkS (hx : p.tables.exec = Jvm.exec) (hb : c.code = cc) (hts : ∀ w ∈ GW, w.before args s = true) (hown : s.vm.findClass RX10 = some m.cls) (hlen : fs.length = 36) (hK : va_K D CLS tys s) (hP : va_P D CLS ((h0, .inr (10, fs)) :: V) H) (hD : va_D A ((h0, .inr (10, fs)) :: V)) (hS : va_S A H0 H locs) {k idx : Nat} {nm ds : String} {v : Value} {ty : FieldType} (hk : k < 36) (hT : TX10 k = (RX10, nm, ds, false)) (hlink : Cond.fieldLink RX10 idx RX10 nm ds ∈ GW) (hd : parseFieldDescriptor ds = some ty) (hn : narrow ty v = v) (hf : fits ty v = true) (d1 : decode cc pc = .ok (.putfield idx, 3))
    (kk : ∀ (H1 : Heap) (locs1 : List Loc), (fs.set k v).length = 36 → va_P D CLS ((h0, .inr (10, fs.set k v)) :: V) H1 → va_D A ((h0, .inr (10, fs.set k v)) :: V) → va_S A H0 H1 locs1 → W p l e R s m args below meth c H1 locs1 cells slots Q (F0 m (pc + 3) ls [])) : W p l e R s m args below meth c H locs cells slots Q (F0 m pc ls [v, .ref h0]) := by
  refine va_put (D := D) (ci := 10) (v := v) (ty := ty) (C := RX10) (T := TX10) (N := 36) (ref := RX10) hx hb hts uX10 tyX10 tyX10_ok nmX10 hown hK hP hD hS 0 rfl rfl k hk (by rw [hT]; exact hts _ hlink) (fun _ h9 => by rw [hT] at h9; rw [hT]; exact h9) (by rw [hT]) (by rw [hT]; exact hd) hn hf (by rw [hlen]; exact hk) d1 (fun H locs hP hD hS => ?_)
  exact kk H locs (by rw [List.length_set]; exact hlen) hP hD hS
end BLK
abbrev ar (q : Nat) (c : ClassId) (n : Nat) : va_W := [(q, .inl (c, n, .inl (fun _ => 0)))]
abbrev arf (q : Nat) (c : ClassId) (n : Nat) (f : Nat → Int32) : va_W := [(q, .inl (c, n, .inl f))]
abbrev wap (a b : va_W) : va_W := a ++ b
abbrev kap (a b : List (ClassId × FieldType)) : List (ClassId × FieldType) := a ++ b
theorem k1009 : Cond.methodLink RX10 1 Lib.objectInit ∈ GW := gwp 1009 (by decide +kernel) (by decide +kernel)
theorem k1011 : Cond.fieldLink RX10 7 RX10 "findings" "[I" ∈ GW := gwp 1011 (by decide +kernel) (by decide +kernel)
theorem k1014 : Cond.fieldLink RX10 13 RX10 "lower" "J" ∈ GW := gwp 1014 (by decide +kernel) (by decide +kernel)
theorem k1015 : Cond.fieldLink RX10 17 "RiverDaysModel" "sizes" "[I" ∈ GW := gwp 1015 (by decide +kernel) (by decide +kernel)
theorem k1016 : Cond.fieldLink RX10 20 RX10 "rows" "[I" ∈ GW := gwp 1016 (by decide +kernel) (by decide +kernel)
theorem k1017 : Cond.fieldLink RX10 23 RX10 "moving" "[I" ∈ GW := gwp 1017 (by decide +kernel) (by decide +kernel)
theorem k1018 : Cond.fieldLink RX10 26 "RiverDaysModel" "lengths" "[I" ∈ GW := gwp 1018 (by decide +kernel) (by decide +kernel)
theorem k1019 : Cond.fieldLink RX10 29 RX10 "texts" "[I" ∈ GW := gwp 1019 (by decide +kernel) (by decide +kernel)
theorem k1021 : Cond.fieldLink RX10 32 RX10 "rain" "[I" ∈ GW := gwp 1021 (by decide +kernel) (by decide +kernel)
theorem k1022 : Cond.fieldLink RX10 35 RX10 "owner" "[I" ∈ GW := gwp 1022 (by decide +kernel) (by decide +kernel)
theorem k1023 : Cond.fieldLink RX10 38 RX10 "kinds" "[I" ∈ GW := gwp 1023 (by decide +kernel) (by decide +kernel)
theorem k1024 : Cond.fieldLink RX10 41 RX10 "measures" "[I" ∈ GW := gwp 1024 (by decide +kernel) (by decide +kernel)
theorem k1025 : Cond.fieldLink RX10 44 RX10 "water" "[I" ∈ GW := gwp 1025 (by decide +kernel) (by decide +kernel)
theorem k1026 : Cond.fieldLink RX10 47 RX10 "ground" "[I" ∈ GW := gwp 1026 (by decide +kernel) (by decide +kernel)
theorem k1027 : Cond.fieldLink RX10 50 RX10 "ran" "[I" ∈ GW := gwp 1027 (by decide +kernel) (by decide +kernel)
theorem k1029 : Cond.fieldLink RX10 53 RX10 "owned" "[I" ∈ GW := gwp 1029 (by decide +kernel) (by decide +kernel)
theorem k1033 : Cond.fieldLink RX10 56 RX10 "readWeek" "[I" ∈ GW := gwp 1033 (by decide +kernel) (by decide +kernel)
theorem k1034 : Cond.fieldLink RX10 59 RX10 "readReach" "[I" ∈ GW := gwp 1034 (by decide +kernel) (by decide +kernel)
theorem k1036 : Cond.fieldLink RX10 62 RX10 "notes" "[I" ∈ GW := gwp 1036 (by decide +kernel) (by decide +kernel)
theorem k1037 : Cond.fieldLink RX10 65 RX10 "isThere" "[I" ∈ GW := gwp 1037 (by decide +kernel) (by decide +kernel)
theorem k1038 : Cond.fieldLink RX10 68 RX10 "images" "[I" ∈ GW := gwp 1038 (by decide +kernel) (by decide +kernel)
theorem k1039 : Cond.fieldLink RX10 71 RX10 "aside" "[I" ∈ GW := gwp 1039 (by decide +kernel) (by decide +kernel)
theorem k1040 : Cond.fieldLink RX10 74 RX10 "flow" "[I" ∈ GW := gwp 1040 (by decide +kernel) (by decide +kernel)
theorem k1042 : Cond.fieldLink RX10 77 RX10 "dry" "I" ∈ GW := gwp 1042 (by decide +kernel) (by decide +kernel)
theorem k1043 : Cond.fieldLink RX10 81 RX10 "sets" "[I" ∈ GW := gwp 1043 (by decide +kernel) (by decide +kernel)
section LPS
variable {p : Program} {l : Launch} {e : Env} {R : Room} {s : State} {m : MethodId} {args : Array Value} {below : List Frame} {meth : Method} {c : Code} {H H0 : Heap} {locs : List Loc} {cells slots : Nat} {Q : State → Prop} {D : va_G} {tys : List (ClassId × FieldType)} {V : va_W} {A : Nat → Prop} {h0 : Nat} {ls : Array Slot} {fs : List Value}
theorem turn1 (hx : p.tables.exec = Jvm.exec) (hb : c.code = cX10_init) (hts : ∀ w ∈ GW, w.before args s = true) (hown : s.vm.findClass RX10 = some m.cls) (hK : va_K D CLS tys s) (hP : va_P D CLS ((h0, .inr (10, fs)) :: V) H) (hD : va_D A ((h0, .inr (10, fs)) :: V)) (hS : va_S A H0 H locs) {q : Nat} {cA : ClassId} {f : Nat → Int32} (hf : fs[5]? = some (.ref q)) (hV : V[1]? = some (q, .inl (cA, 6, .inl f))) (ht : tys[1]? = some (cA, .int)) {I J : Int32} {i : Nat} (hI : ¬ 6 ≤ I) (hin : vp_in I 6) (hi : I.toNatClampNeg = i) (hJ : I + Int32.ofInt 1 = J) (hl : lv_has ls 2 [(1, .int I), (0, .ref h0)])
    (kk : ∀ (H1 : Heap) (locs1 : List Loc) (ls1 : Array Slot), va_P D CLS ((h0, .inr (10, fs)) :: V.set 1 (q, .inl (cA, 6, .inl (upd f i (-9))))) H1 → va_D A ((h0, .inr (10, fs)) :: V.set 1 (q, .inl (cA, 6, .inl (upd f i (-9))))) → va_S A H0 H1 locs1 → lv_has ls1 2 [(1, .int J), (0, .ref h0)] → W p l e R s m args below meth c H1 locs1 cells slots Q (F0 m 195 ls1 [])) : W p l e R s m args below meth c H locs cells slots Q (F0 m 195 ls []) := by
  refine lv_iload_n hx hb (show decode cX10_init 195 = .ok (.iload_n 1, 1) by decide +kernel) rfl (lv_at hl 0 rfl) ?_
  refine lv_bipush (v := 6) hx hb (show decode cX10_init 196 = .ok (.bipush 6, 2) by decide +kernel) (by decide) ?_
  refine lv_icmp_ge (tgt := 215) hx hb (show decode cX10_init 198 = .ok (.if_icmp .ge 17, 3) by decide +kernel) (by decide) (fun h9 => absurd h9 hI) (fun _ => ?_)
  refine lv_aload_n hx hb (show decode cX10_init 201 = .ok (.aload_n 0, 1) by decide +kernel) rfl (lv_at hl 1 rfl) ?_
  refine va_get (D := D) (ci := 10) (C := RX10) (T := TX10) (N := 36) hx hb hts uX10 hown hK hP 0 rfl rfl 5 (by decide) (hts _ k1015) (fun _ h9 => h9) hf (show decode cX10_init 202 = .ok (.getfield 17, 3) by decide +kernel) ?_
  refine lv_iload_n hx hb (show decode cX10_init 205 = .ok (.iload_n 1, 1) by decide +kernel) rfl (lv_at hl 0 rfl) ?_
  refine lv_bipush (v := -9) hx hb (show decode cX10_init 206 = .ok (.bipush (-9), 2) by decide +kernel) (by decide) ?_
  refine cx_iast (D := D) hx hb hK hP hD hS 2 1 (I := i) hV ht hin hi (show decode cX10_init 208 = .ok (.iastore, 1) by decide +kernel) (fun H locs hP hD hS => ?_)
  refine W.eq (g2 := F0 m 209 ls []) rfl ?_
  refine lv_iinc (k := 0) (v := J) (lv' := [(1, .int J), (0, .ref h0)]) hx hb (show decode cX10_init 209 = .ok (.iinc 1 1, 3) by decide +kernel) hl rfl hJ (by decide) rfl (fun ls hl => ?_)
  refine lv_goto (tgt := 195) hx hb (show decode cX10_init 212 = .ok (.goto (-17), 3) by decide +kernel) (by decide) ?_
  exact kk H locs ls hP hD hS hl
theorem loop1 (hx : p.tables.exec = Jvm.exec) (hb : c.code = cX10_init) (hts : ∀ w ∈ GW, w.before args s = true) (hown : s.vm.findClass RX10 = some m.cls) (hK : va_K D CLS tys s) (hP : va_P D CLS ((h0, .inr (10, fs)) :: V) H) (hD : va_D A ((h0, .inr (10, fs)) :: V)) (hS : va_S A H0 H locs) {q : Nat} {cA : ClassId} {f : Nat → Int32} (hf : fs[5]? = some (.ref q)) (hV : V[1]? = some (q, .inl (cA, 6, .inl f))) (ht : tys[1]? = some (cA, .int)) (hl : lv_has ls 2 [(0, .ref h0)])
    (kk : ∀ (H1 : Heap) (locs1 : List Loc) (ls1 : Array Slot), va_P D CLS ((h0, .inr (10, fs)) :: V.set 1 (q, .inl (cA, 6, .inl (upd (upd (upd (upd (upd (upd f 0 (-9)) 1 (-9)) 2 (-9)) 3 (-9)) 4 (-9)) 5 (-9))))) H1 → va_D A ((h0, .inr (10, fs)) :: V.set 1 (q, .inl (cA, 6, .inl (upd (upd (upd (upd (upd (upd f 0 (-9)) 1 (-9)) 2 (-9)) 3 (-9)) 4 (-9)) 5 (-9))))) → va_S A H0 H1 locs1 → lv_has ls1 2 [(1, .int 6), (0, .ref h0)] → W p l e R s m args below meth c H1 locs1 cells slots Q (F0 m 215 ls1 [])) : W p l e R s m args below meth c H locs cells slots Q (F0 m 193 ls []) := by
  have hlt : 1 < V.length := (List.getElem?_eq_some_iff.mp hV).1
  have hg : ∀ x, (V.set 1 x)[1]? = some x := fun x => List.getElem?_set_self hlt
  refine lv_iconst (v := 0) hx hb (show decode cX10_init 193 = .ok (.iconst 0, 1) by decide +kernel) (by decide) ?_
  refine lv_istore_n (lv' := [(1, .int 0), (0, .ref h0)]) hx hb (show decode cX10_init 194 = .ok (.istore_n 1, 1) by decide +kernel) rfl hl (by decide) rfl (fun ls hl => ?_)
  refine turn1 hx hb hts hown hK hP hD hS hf hV ht (I := 0) (J := 1) (i := 0) (by decide) (by unfold vp_in; decide) (by decide) (by decide) hl (fun H locs ls hP hD hS hl => ?_)
  refine turn1 hx hb hts hown hK hP hD hS hf (hg _) ht (I := 1) (J := 2) (i := 1) (by decide) (by unfold vp_in; decide) (by decide) (by decide) hl (fun H locs ls hP hD hS hl => ?_)
  rw [List.set_set] at hP hD
  refine turn1 hx hb hts hown hK hP hD hS hf (hg _) ht (I := 2) (J := 3) (i := 2) (by decide) (by unfold vp_in; decide) (by decide) (by decide) hl (fun H locs ls hP hD hS hl => ?_)
  rw [List.set_set] at hP hD
  refine turn1 hx hb hts hown hK hP hD hS hf (hg _) ht (I := 3) (J := 4) (i := 3) (by decide) (by unfold vp_in; decide) (by decide) (by decide) hl (fun H locs ls hP hD hS hl => ?_)
  rw [List.set_set] at hP hD
  refine turn1 hx hb hts hown hK hP hD hS hf (hg _) ht (I := 4) (J := 5) (i := 4) (by decide) (by unfold vp_in; decide) (by decide) (by decide) hl (fun H locs ls hP hD hS hl => ?_)
  rw [List.set_set] at hP hD
  refine turn1 hx hb hts hown hK hP hD hS hf (hg _) ht (I := 5) (J := 6) (i := 5) (by decide) (by unfold vp_in; decide) (by decide) (by decide) hl (fun H locs ls hP hD hS hl => ?_)
  rw [List.set_set] at hP hD
  refine lv_iload_n hx hb (show decode cX10_init 195 = .ok (.iload_n 1, 1) by decide +kernel) rfl (lv_at hl 0 rfl) ?_
  refine lv_bipush (v := 6) hx hb (show decode cX10_init 196 = .ok (.bipush 6, 2) by decide +kernel) (by decide) ?_
  refine lv_icmp_ge (tgt := 215) hx hb (show decode cX10_init 198 = .ok (.if_icmp .ge 17, 3) by decide +kernel) (by decide) (fun _ => ?_) (fun h9 => absurd (by decide) h9)
  exact kk H locs ls hP hD hS hl
theorem turn2 (hx : p.tables.exec = Jvm.exec) (hb : c.code = cX10_init) (hts : ∀ w ∈ GW, w.before args s = true) (hown : s.vm.findClass RX10 = some m.cls) (hK : va_K D CLS tys s) (hP : va_P D CLS ((h0, .inr (10, fs)) :: V) H) (hD : va_D A ((h0, .inr (10, fs)) :: V)) (hS : va_S A H0 H locs) {q : Nat} {cA : ClassId} {f : Nat → Int32} (hf : fs[8]? = some (.ref q)) (hV : V[4]? = some (q, .inl (cA, 4, .inl f))) (ht : tys[4]? = some (cA, .int)) {I J : Int32} {i : Nat} (hI : ¬ 4 ≤ I) (hin : vp_in I 4) (hi : I.toNatClampNeg = i) (hJ : I + Int32.ofInt 1 = J) (hl : lv_has ls 2 [(1, .int I), (0, .ref h0)])
    (kk : ∀ (H1 : Heap) (locs1 : List Loc) (ls1 : Array Slot), va_P D CLS ((h0, .inr (10, fs)) :: V.set 4 (q, .inl (cA, 4, .inl (upd f i (-9))))) H1 → va_D A ((h0, .inr (10, fs)) :: V.set 4 (q, .inl (cA, 4, .inl (upd f i (-9))))) → va_S A H0 H1 locs1 → lv_has ls1 2 [(1, .int J), (0, .ref h0)] → W p l e R s m args below meth c H1 locs1 cells slots Q (F0 m 217 ls1 [])) : W p l e R s m args below meth c H locs cells slots Q (F0 m 217 ls []) := by
  refine lv_iload_n hx hb (show decode cX10_init 217 = .ok (.iload_n 1, 1) by decide +kernel) rfl (lv_at hl 0 rfl) ?_
  refine lv_iconst (v := 4) hx hb (show decode cX10_init 218 = .ok (.iconst 4, 1) by decide +kernel) (by decide) ?_
  refine lv_icmp_ge (tgt := 236) hx hb (show decode cX10_init 219 = .ok (.if_icmp .ge 17, 3) by decide +kernel) (by decide) (fun h9 => absurd h9 hI) (fun _ => ?_)
  refine lv_aload_n hx hb (show decode cX10_init 222 = .ok (.aload_n 0, 1) by decide +kernel) rfl (lv_at hl 1 rfl) ?_
  refine va_get (D := D) (ci := 10) (C := RX10) (T := TX10) (N := 36) hx hb hts uX10 hown hK hP 0 rfl rfl 8 (by decide) (hts _ k1018) (fun _ h9 => h9) hf (show decode cX10_init 223 = .ok (.getfield 26, 3) by decide +kernel) ?_
  refine lv_iload_n hx hb (show decode cX10_init 226 = .ok (.iload_n 1, 1) by decide +kernel) rfl (lv_at hl 0 rfl) ?_
  refine lv_bipush (v := -9) hx hb (show decode cX10_init 227 = .ok (.bipush (-9), 2) by decide +kernel) (by decide) ?_
  refine cx_iast (D := D) hx hb hK hP hD hS 5 4 (I := i) hV ht hin hi (show decode cX10_init 229 = .ok (.iastore, 1) by decide +kernel) (fun H locs hP hD hS => ?_)
  refine W.eq (g2 := F0 m 230 ls []) rfl ?_
  refine lv_iinc (k := 0) (v := J) (lv' := [(1, .int J), (0, .ref h0)]) hx hb (show decode cX10_init 230 = .ok (.iinc 1 1, 3) by decide +kernel) hl rfl hJ (by decide) rfl (fun ls hl => ?_)
  refine lv_goto (tgt := 217) hx hb (show decode cX10_init 233 = .ok (.goto (-16), 3) by decide +kernel) (by decide) ?_
  exact kk H locs ls hP hD hS hl
theorem loop2 (hx : p.tables.exec = Jvm.exec) (hb : c.code = cX10_init) (hts : ∀ w ∈ GW, w.before args s = true) (hown : s.vm.findClass RX10 = some m.cls) (hK : va_K D CLS tys s) (hP : va_P D CLS ((h0, .inr (10, fs)) :: V) H) (hD : va_D A ((h0, .inr (10, fs)) :: V)) (hS : va_S A H0 H locs) {q : Nat} {cA : ClassId} {f : Nat → Int32} (hf : fs[8]? = some (.ref q)) (hV : V[4]? = some (q, .inl (cA, 4, .inl f))) (ht : tys[4]? = some (cA, .int)) (hl : lv_has ls 2 [(1, .int 6), (0, .ref h0)])
    (kk : ∀ (H1 : Heap) (locs1 : List Loc) (ls1 : Array Slot), va_P D CLS ((h0, .inr (10, fs)) :: V.set 4 (q, .inl (cA, 4, .inl (upd (upd (upd (upd f 0 (-9)) 1 (-9)) 2 (-9)) 3 (-9))))) H1 → va_D A ((h0, .inr (10, fs)) :: V.set 4 (q, .inl (cA, 4, .inl (upd (upd (upd (upd f 0 (-9)) 1 (-9)) 2 (-9)) 3 (-9))))) → va_S A H0 H1 locs1 → lv_has ls1 2 [(1, .int 4), (0, .ref h0)] → W p l e R s m args below meth c H1 locs1 cells slots Q (F0 m 236 ls1 [])) : W p l e R s m args below meth c H locs cells slots Q (F0 m 215 ls []) := by
  have hlt : 4 < V.length := (List.getElem?_eq_some_iff.mp hV).1
  have hg : ∀ x, (V.set 4 x)[4]? = some x := fun x => List.getElem?_set_self hlt
  refine lv_iconst (v := 0) hx hb (show decode cX10_init 215 = .ok (.iconst 0, 1) by decide +kernel) (by decide) ?_
  refine lv_istore_n (lv' := [(1, .int 0), (0, .ref h0)]) hx hb (show decode cX10_init 216 = .ok (.istore_n 1, 1) by decide +kernel) rfl hl (by decide) rfl (fun ls hl => ?_)
  refine turn2 hx hb hts hown hK hP hD hS hf hV ht (I := 0) (J := 1) (i := 0) (by decide) (by unfold vp_in; decide) (by decide) (by decide) hl (fun H locs ls hP hD hS hl => ?_)
  refine turn2 hx hb hts hown hK hP hD hS hf (hg _) ht (I := 1) (J := 2) (i := 1) (by decide) (by unfold vp_in; decide) (by decide) (by decide) hl (fun H locs ls hP hD hS hl => ?_)
  rw [List.set_set] at hP hD
  refine turn2 hx hb hts hown hK hP hD hS hf (hg _) ht (I := 2) (J := 3) (i := 2) (by decide) (by unfold vp_in; decide) (by decide) (by decide) hl (fun H locs ls hP hD hS hl => ?_)
  rw [List.set_set] at hP hD
  refine turn2 hx hb hts hown hK hP hD hS hf (hg _) ht (I := 3) (J := 4) (i := 3) (by decide) (by unfold vp_in; decide) (by decide) (by decide) hl (fun H locs ls hP hD hS hl => ?_)
  rw [List.set_set] at hP hD
  refine lv_iload_n hx hb (show decode cX10_init 217 = .ok (.iload_n 1, 1) by decide +kernel) rfl (lv_at hl 0 rfl) ?_
  refine lv_iconst (v := 4) hx hb (show decode cX10_init 218 = .ok (.iconst 4, 1) by decide +kernel) (by decide) ?_
  refine lv_icmp_ge (tgt := 236) hx hb (show decode cX10_init 219 = .ok (.if_icmp .ge 17, 3) by decide +kernel) (by decide) (fun _ => ?_) (fun h9 => absurd (by decide) h9)
  exact kk H locs ls hP hD hS hl
end LPS
