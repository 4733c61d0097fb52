/-! THE CONSTRUCTORS (written by p72.py) -/
def mwX (q : Nat) (cA cI : ClassId) (N K : Nat) (r : Nat → Option Nat) : va_W := (q, .inl (cA, N, .inr (.inr (.inr (.inr r))))) :: (List.range N).map (fun j => (q + 1 + j, (.inl (cI, K, .inl (fun _ => 0)) : va_E)))
theorem orF_4 (q : Nat) : orF q 4 = lgt [q + 1 + 0, q + 1 + 1, q + 1 + 2, q + 1 + 3] := funext fun i => match i with
  | 0 => rfl
  | 1 => rfl
  | 2 => rfl
  | 3 => rfl
  | n + 4 => by
    show (if n + 4 < 4 then _ else _) = none
    rw [if_neg (by omega)]
theorem orF_5 (q : Nat) : orF q 5 = lgt [q + 1 + 0, q + 1 + 1, q + 1 + 2, q + 1 + 3, q + 1 + 4] := funext fun i => match i with
  | 0 => rfl
  | 1 => rfl
  | 2 => rfl
  | 3 => rfl
  | 4 => rfl
  | n + 5 => by
    show (if n + 5 < 5 then _ else _) = none
    rw [if_neg (by omega)]
theorem orF_6 (q : Nat) : orF q 6 = lgt [q + 1 + 0, q + 1 + 1, q + 1 + 2, q + 1 + 3, q + 1 + 4, q + 1 + 5] := funext fun i => match i with
  | 0 => rfl
  | 1 => rfl
  | 2 => rfl
  | 3 => rfl
  | 4 => rfl
  | 5 => rfl
  | n + 6 => by
    show (if n + 6 < 6 then _ else _) = none
    rw [if_neg (by omega)]
theorem vup3 (a b c : Nat) : va_up (va_up (va_up (fun _ => (none : Option Nat)) 0 (some a)) 1 (some b)) 2 (some c) = lgt [a, b, c] := funext fun i => match i with
  | 0 => rfl
  | 1 => rfl
  | 2 => rfl
  | n + 3 => by
    show (if n + 3 = 2 then _ else if n + 3 = 1 then _ else if n + 3 = 0 then _ else none) = none
    rw [if_neg (by omega), if_neg (by omega), if_neg (by omega)]
section NN
variable {p : Program} {l : Launch} {e : Env} {R : Room} {s : State} {m : MethodId} {args : Array Value} {below : List Frame} {meth : Method} {c : Code} {H H0 : Heap} {locs : List Loc} {cells slots : Nat} {Q : State → Prop} {cc : ByteArray} {D : va_G} {cl : List vw_C} {tys : List (ClassId × FieldType)} {ws : va_W} {A : Nat → Prop} {pc a : Nat} {ls : Array Slot} {rest : List Value}
theorem cx_astq (hexec : p.tables.exec = Jvm.exec) (hb : c.code = cc) (hK : va_K D cl tys s) (hP : va_P D cl ws H) (hD : va_D A ws) (hS : va_S A H0 H locs) (q0 t0 qk ci : Nat) {cA : ClassId} {r : vw_C} {n v I : Nat} {vs : List Value} {f : Nat → Option Nat} (ha : ws[q0]? = some (a, .inl (cA, n, .inr (.inr (.inr (.inr f)))))) (ht : tys[t0]? = some (cA, .object r.1)) (hv : ws[qk]? = some (v, .inr (ci, vs))) (hc : cl[ci]? = some r) {i : Int32} (hin : vp_in i n) (hi : i.toNatClampNeg = I) (hdg : decode cc pc = .ok (.aastore, 1))
    (kk : ∀ (H1 : Heap) (locs1 : List Loc), va_P D cl (ws.set q0 (a, .inl (cA, n, .inr (.inr (.inr (.inr (va_up f I (some v)))))))) H1 → va_D A (ws.set q0 (a, .inl (cA, n, .inr (.inr (.inr (.inr (va_up f I (some v)))))))) → va_S A H0 H1 locs1 → W p l e R s m args below meth c H1 locs1 cells slots Q (F0 m (pc + 1) ls rest)) : W p l e R s m args below meth c H locs cells slots Q (F0 m pc ls (.ref v :: .int i :: .ref a :: rest)) := by
  subst hi
  exact va_astq hexec hb hK hP hD hS q0 t0 qk ci ha ht hv hc hin hdg kk
theorem cx_iast (hexec : p.tables.exec = Jvm.exec) (hb : c.code = cc) (hK : va_K D cl tys s) (hP : va_P D cl ws H) (hD : va_D A ws) (hS : va_S A H0 H locs) (q0 t0 : Nat) {cA : ClassId} {n I : Nat} {f : Nat → Int32} (ha : ws[q0]? = some (a, .inl (cA, n, .inl f))) (ht : tys[t0]? = some (cA, .int)) {i : Int32} {x : Int32} (hin : vp_in i n) (hi : i.toNatClampNeg = I) (hdg : decode cc pc = .ok (.iastore, 1))
    (kk : ∀ (H1 : Heap) (locs1 : List Loc), va_P D cl (ws.set q0 (a, .inl (cA, n, .inl (upd f I x)))) H1 → va_D A (ws.set q0 (a, .inl (cA, n, .inl (upd f I x)))) → va_S A H0 H1 locs1 → W p l e R s m args below meth c H1 locs1 cells slots Q (F0 m (pc + 1) ls rest)) : W p l e R s m args below meth c H locs cells slots Q (F0 m pc ls (.int x :: .int i :: .ref a :: rest)) := by
  subst hi
  exact va_iast hexec hb hK hP hD hS q0 t0 ha ht hin hdg kk
end NN
/-- facts of the tables that the constructors lean on -/
def XW (U : State) : Prop := AOI U ∧ va_AO "RiverDays$Deeds" U ∧ va_Nw (.methodLinkNest RX9 23 yX7_init "RiverDays") U ∧ va_Nw (.methodLinkNest RX9 30 yX4_init "RiverDays") U ∧ va_Nw (.methodLinkNest RX9 37 yX3_init "RiverDays") U ∧ va_Nw (.methodLinkNest RX9 52 yX0_init "RiverDays") U ∧ va_Nw (.methodLinkNest RX9 59 yX5_init "RiverDays") U ∧ va_Nw (.methodLinkNest RX9 66 yX1_init "RiverDays") U ∧ va_Nw (.methodLinkNest RX9 77 yX2_init "RiverDays") U ∧ va_Nw (.methodLinkNest RX5 42 yX0_init "RiverDays") U ∧ va_Nw (.methodLinkNest RX1 37 yX0_init "RiverDays") U
theorem XW.warm {s U : State} (hW : s.WarmedH U.vm) (h : XW s) : XW U := by
  obtain ⟨a, b, n0, n1, n2, n3, n4, n5, n6, n7, n8⟩ := h
  exact ⟨a.moved hW.alike, b.moved hW.alike, va_Nw.warmM hW n0, va_Nw.warmM hW n1, va_Nw.warmM hW n2, va_Nw.warmM hW n3, va_Nw.warmM hW n4, va_Nw.warmM hW n5, va_Nw.warmM hW n6, va_Nw.warmM hW n7, va_Nw.warmM hW n8⟩
theorem XW.call {U : State} {g : JFrame} {mk : MethodId} {a : Array Value} (h : XW U) : XW (U.calling g mk a) := by
  obtain ⟨a, b, n0, n1, n2, n3, n4, n5, n6, n7, n8⟩ := h
  exact ⟨AOI.moved (u := U) (Vm.Alike.refl U.vm) a, va_AO.moved (u := U) (Vm.Alike.refl U.vm) b, va_Nw.same rfl rfl n0, va_Nw.same rfl rfl n1, va_Nw.same rfl rfl n2, va_Nw.same rfl rfl n3, va_Nw.same rfl rfl n4, va_Nw.same rfl rfl n5, va_Nw.same rfl rfl n6, va_Nw.same rfl rfl n7, va_Nw.same rfl rfl n8⟩
theorem dfX0 : ∀ j, j < 9 → defaultValue (tyX0 j) = vp_V [.int 0, .int 0, .int 0, .int 0, .int 0, .null, .int 0, .null, .null] j := fun j hj => by
  rcases (show j = 0 ∨ j = 1 ∨ j = 2 ∨ j = 3 ∨ j = 4 ∨ j = 5 ∨ j = 6 ∨ j = 7 ∨ j = 8 by omega) with rfl | rfl | rfl | rfl | rfl | rfl | rfl | rfl | rfl <;> rfl
theorem dfX1 : ∀ j, j < 8 → defaultValue (tyX1 j) = vp_V [.null, .long 0, .long 0, .long 0, .int 0, .int 0, .int 0, .null] j := fun j hj => by
  rcases (show j = 0 ∨ j = 1 ∨ j = 2 ∨ j = 3 ∨ j = 4 ∨ j = 5 ∨ j = 6 ∨ j = 7 by omega) with rfl | rfl | rfl | rfl | rfl | rfl | rfl | rfl <;> rfl
theorem dfX2 : ∀ j, j < 10 → defaultValue (tyX2 j) = vp_V [.int 0, .int 0, .int 0, .int 0, .null, .null, .null, .null, .null, .null] j := fun j hj => by
  rcases (show j = 0 ∨ j = 1 ∨ j = 2 ∨ j = 3 ∨ j = 4 ∨ j = 5 ∨ j = 6 ∨ j = 7 ∨ j = 8 ∨ j = 9 by omega) with rfl | rfl | rfl | rfl | rfl | rfl | rfl | rfl | rfl | rfl <;> rfl
theorem dfX3 : ∀ j, j < 3 → defaultValue (tyX3 j) = vp_V [.int 0, .null, .null] j := fun j hj => by
  rcases (show j = 0 ∨ j = 1 ∨ j = 2 by omega) with rfl | rfl | rfl <;> rfl
theorem dfX4 : ∀ j, j < 5 → defaultValue (tyX4 j) = vp_V [.null, .null, .null, .null, .null] j := fun j hj => by
  rcases (show j = 0 ∨ j = 1 ∨ j = 2 ∨ j = 3 ∨ j = 4 by omega) with rfl | rfl | rfl | rfl | rfl <;> rfl
theorem dfX5 : ∀ j, j < 10 → defaultValue (tyX5 j) = vp_V [.null, .null, .int 0, .int 0, .int 0, .int 0, .int 0, .int 0, .null, .null] j := fun j hj => by
  rcases (show j = 0 ∨ j = 1 ∨ j = 2 ∨ j = 3 ∨ j = 4 ∨ j = 5 ∨ j = 6 ∨ j = 7 ∨ j = 8 ∨ j = 9 by omega) with rfl | rfl | rfl | rfl | rfl | rfl | rfl | rfl | rfl | rfl <;> rfl
theorem dfX7 : ∀ j, j < 3 → defaultValue (tyX7 j) = vp_V [.null, .int 0, .int 0] j := fun j hj => by
  rcases (show j = 0 ∨ j = 1 ∨ j = 2 by omega) with rfl | rfl | rfl <;> rfl
theorem dfX8 : ∀ j, j < 3 → defaultValue (tyX8 j) = vp_V [.int 0, .null, .null] j := fun j hj => by
  rcases (show j = 0 ∨ j = 1 ∨ j = 2 by omega) with rfl | rfl | rfl <;> rfl
theorem dfX9 : ∀ j, j < 17 → defaultValue (tyX9 j) = vp_V [.null, .null, .null, .null, .null, .null, .null, .null, .null, .null, .null, .null, .null, .int 0, .int 0, .long 0, .long 0] j := fun j hj => by
  rcases (show j = 0 ∨ j = 1 ∨ j = 2 ∨ j = 3 ∨ j = 4 ∨ j = 5 ∨ j = 6 ∨ j = 7 ∨ j = 8 ∨ j = 9 ∨ j = 10 ∨ j = 11 ∨ j = 12 ∨ j = 13 ∨ j = 14 ∨ j = 15 ∨ j = 16 by omega) with rfl | rfl | rfl | rfl | rfl | rfl | rfl | rfl | rfl | rfl | rfl | rfl | rfl | rfl | rfl | rfl | rfl <;> rfl
theorem dfX10 : ∀ j, j < 36 → defaultValue (tyX10 j) = vp_V [.int 0, .null, .int 0, .long 0, .long 0, .null, .null, .null, .null, .null, .int 0, .null, .null, .null, .null, .null, .null, .null, .int 0, .null, .int 0, .int 0, .int 0, .null, .null, .int 0, .null, .null, .null, .null, .null, .int 0, .int 0, .null, .int 0, .long 0] j := fun j hj => by
  rcases (show j = 0 ∨ j = 1 ∨ j = 2 ∨ j = 3 ∨ j = 4 ∨ j = 5 ∨ j = 6 ∨ j = 7 ∨ j = 8 ∨ j = 9 ∨ j = 10 ∨ j = 11 ∨ j = 12 ∨ j = 13 ∨ j = 14 ∨ j = 15 ∨ j = 16 ∨ j = 17 ∨ j = 18 ∨ j = 19 ∨ j = 20 ∨ j = 21 ∨ j = 22 ∨ j = 23 ∨ j = 24 ∨ j = 25 ∨ j = 26 ∨ j = 27 ∨ j = 28 ∨ j = 29 ∨ j = 30 ∨ j = 31 ∨ j = 32 ∨ j = 33 ∨ j = 34 ∨ j = 35 by omega) with rfl | rfl | rfl | rfl | rfl | rfl | rfl | rfl | rfl | rfl | rfl | rfl | rfl | rfl | rfl | rfl | rfl | rfl | rfl | rfl | rfl | rfl | rfl | rfl | rfl | rfl | rfl | rfl | rfl | rfl | rfl | rfl | rfl | rfl | rfl | rfl <;> rfl
set_option maxHeartbeats 4000000 in
set_option maxRecDepth 100000 in
theorem cnmax (l : Launch) (x y : Int32) : Met l yJ9_max_7cf53 (.code yJ9_max_7cf53 cJ9_max_7cf53 2 (some .int) :: GW) ({ frames := 1, cells := 0, slots := 0, locals := 20 }) (va_Pc [.int x, .int y] (fun _ => True)) (va_Qi (fun r (_ : Unit) => r = if x < y then y else x) (fun _ _ => True) (fun _ => False)) 0 0 (fun _ => False) := by
  refine Met.ofWF (cc := cJ9_max_7cf53) (maxL := 2) (ret := some .int) (by decide +kernel) rfl ?_
  intro p e s m args below meth c s₁ B hml hv
  obtain ⟨rfl, -⟩ := hv
  have hx := B.exec
  have hb := B.bytes
  have hr := B.returns
  have hlocks := B.notSynchronized
  have hS : va_S (fun _ => False) s.heap s.heap [] := va_S.rf
  have hl := lv_entry ([.int x, .int y]) (n := 2) (Nat.le_of_ble_eq_true rfl)
  rw [lg_entry_eq]
  generalize (lg_sl ([.int x, .int y]) ++ List.replicate (2 - (lg_sl ([.int x, .int y])).length) Slot.unset).toArray = ls at hl ⊢
  have hl : lv_has ls 2 [(0, .int x), (1, .int y)] := hl
  refine lv_iload_n hx hb (show decode cJ9_max_7cf53 0 = .ok (.iload_n 0, 1) by decide +kernel) rfl (lv_at hl 0 rfl) ?_
  refine lv_iload_n hx hb (show decode cJ9_max_7cf53 1 = .ok (.iload_n 1, 1) by decide +kernel) rfl (lv_at hl 1 rfl) ?_
  refine lv_icmp_lt (tgt := 9) hx hb (show decode cJ9_max_7cf53 2 = .ok (.if_icmp .lt 7, 3) by decide +kernel) (by decide) (fun h => ?_) (fun h => ?_)
  · refine lv_iload_n hx hb (show decode cJ9_max_7cf53 9 = .ok (.iload_n 1, 1) by decide +kernel) rfl (lv_at hl 1 rfl) ?_
    exact W.iret hx hb hr (fun t ht hW => ⟨⟨y, (), rfl, (if_pos h).symm, trivial⟩, hS.F ht⟩) hS.2.2 (show decode cJ9_max_7cf53 10 = .ok (.ireturn, 1) by decide +kernel)
  · refine lv_iload_n hx hb (show decode cJ9_max_7cf53 5 = .ok (.iload_n 0, 1) by decide +kernel) rfl (lv_at hl 0 rfl) ?_
    refine lv_goto (tgt := 10) hx hb (show decode cJ9_max_7cf53 6 = .ok (.goto 4, 3) by decide +kernel) (by decide) ?_
    exact W.iret hx hb hr (fun t ht hW => ⟨⟨x, (), rfl, (if_neg h).symm, trivial⟩, hS.F ht⟩) hS.2.2 (show decode cJ9_max_7cf53 10 = .ok (.ireturn, 1) by decide +kernel)
theorem k101 : Cond.instanceMethod Lib.objectInit ∈ GW := gwp 101 (by decide +kernel) (by decide +kernel)
theorem k102 : Cond.code Lib.objectInit ⟨#[0xb1]⟩ 1 none ∈ GW := gwp 102 (by decide +kernel) (by decide +kernel)
theorem k125 : Cond.arrayClass .int ∈ GW := gwp 125 (by decide +kernel) (by decide +kernel)
theorem k131 : Cond.methodLink RX7 3 Lib.objectInit ∈ GW := gwp 131 (by decide +kernel) (by decide +kernel)
theorem k132 : Cond.fieldLink RX7 9 "RiverDays$Reader" "signs" "[I" ∈ GW := gwp 132 (by decide +kernel) (by decide +kernel)
theorem k133 : Cond.fieldLink RX7 15 "RiverDays$Reader" "size" "I" ∈ GW := gwp 133 (by decide +kernel) (by decide +kernel)
theorem k134 : Cond.fieldLink RX7 19 "RiverDays$Reader" "place" "I" ∈ GW := gwp 134 (by decide +kernel) (by decide +kernel)
theorem k147 : Cond.methodLink RX4 3 Lib.objectInit ∈ GW := gwp 147 (by decide +kernel) (by decide +kernel)
theorem k148 : Cond.fieldLink RX4 9 "RiverDays$Flow" "water" "[I" ∈ GW := gwp 148 (by decide +kernel) (by decide +kernel)
theorem k150 : Cond.fieldLink RX4 15 "RiverDays$Flow" "ground" "[I" ∈ GW := gwp 150 (by decide +kernel) (by decide +kernel)
theorem k152 : Cond.fieldLink RX4 18 "RiverDays$Flow" "ranInAll" "[I" ∈ GW := gwp 152 (by decide +kernel) (by decide +kernel)
theorem k154 : Cond.fieldLink RX4 21 "RiverDays$Flow" "seaOf" "[I" ∈ GW := gwp 154 (by decide +kernel) (by decide +kernel)
theorem k156 : Cond.fieldLink RX4 24 "RiverDays$Flow" "ran" "[I" ∈ GW := gwp 156 (by decide +kernel) (by decide +kernel)
theorem k173 : Cond.methodLink RX3 3 Lib.objectInit ∈ GW := gwp 173 (by decide +kernel) (by decide +kernel)
theorem k174 : Cond.fieldLink RX3 9 "RiverDays$Deeds" "size" "I" ∈ GW := gwp 174 (by decide +kernel) (by decide +kernel)
theorem k176 : Cond.fieldLink RX3 15 "RiverDays$Deeds" "shut" "[I" ∈ GW := gwp 176 (by decide +kernel) (by decide +kernel)
theorem k178 : Cond.fieldLink RX3 19 "RiverDays$Deeds" "village" "[I" ∈ GW := gwp 178 (by decide +kernel) (by decide +kernel)
theorem k193 : Cond.methodLink RX0 3 Lib.objectInit ∈ GW := gwp 193 (by decide +kernel) (by decide +kernel)
theorem k194 : Cond.classLink RX0 34 "[[I" ∈ GW := gwp 194 (by decide +kernel) (by decide +kernel)
theorem k195 : Cond.fieldLink RX0 9 "RiverDays$Aside" "dryWeekday" "I" ∈ GW := gwp 195 (by decide +kernel) (by decide +kernel)
theorem k197 : Cond.fieldLink RX0 15 "RiverDays$Aside" "sea" "I" ∈ GW := gwp 197 (by decide +kernel) (by decide +kernel)
theorem k201 : Cond.fieldLink RX0 18 "RiverDays$Aside" "grinding" "I" ∈ GW := gwp 201 (by decide +kernel) (by decide +kernel)
theorem k205 : Cond.fieldLink RX0 21 "RiverDays$Aside" "seaInAll" "I" ∈ GW := gwp 205 (by decide +kernel) (by decide +kernel)
theorem k207 : Cond.fieldLink RX0 24 "RiverDays$Aside" "groundInAll" "I" ∈ GW := gwp 207 (by decide +kernel) (by decide +kernel)
theorem k209 : Cond.fieldLink RX0 27 "RiverDays$Aside" "seaOf" "[I" ∈ GW := gwp 209 (by decide +kernel) (by decide +kernel)
theorem k211 : Cond.fieldLink RX0 31 "RiverDays$Aside" "today" "I" ∈ GW := gwp 211 (by decide +kernel) (by decide +kernel)
theorem k212 : Cond.fieldLink RX0 36 "RiverDays$Aside" "water" "[[I" ∈ GW := gwp 212 (by decide +kernel) (by decide +kernel)
theorem k213 : Cond.fieldLink RX0 39 "RiverDays$Aside" "ran" "[I" ∈ GW := gwp 213 (by decide +kernel) (by decide +kernel)
theorem k322 : Cond.methodLink RX2 3 Lib.objectInit ∈ GW := gwp 322 (by decide +kernel) (by decide +kernel)
theorem k323 : Cond.fieldLink RX2 9 "RiverDays$Course" "size" "I" ∈ GW := gwp 323 (by decide +kernel) (by decide +kernel)
theorem k326 : Cond.fieldLink RX2 15 "RiverDays$Course" "gateBits" "I" ∈ GW := gwp 326 (by decide +kernel) (by decide +kernel)
theorem k328 : Cond.fieldLink RX2 18 "RiverDays$Course" "millBits" "I" ∈ GW := gwp 328 (by decide +kernel) (by decide +kernel)
theorem k331 : Cond.fieldLink RX2 21 "RiverDays$Course" "setCount" "I" ∈ GW := gwp 331 (by decide +kernel) (by decide +kernel)
theorem k334 : Cond.fieldLink RX2 24 "RiverDays$Course" "kind" "[I" ∈ GW := gwp 334 (by decide +kernel) (by decide +kernel)
theorem k336 : Cond.fieldLink RX2 28 "RiverDays$Course" "measure" "[I" ∈ GW := gwp 336 (by decide +kernel) (by decide +kernel)
theorem k338 : Cond.fieldLink RX2 31 "RiverDays$Course" "spring" "[I" ∈ GW := gwp 338 (by decide +kernel) (by decide +kernel)
theorem k340 : Cond.fieldLink RX2 34 "RiverDays$Course" "rain" "[I" ∈ GW := gwp 340 (by decide +kernel) (by decide +kernel)
theorem k344 : Cond.fieldLink RX2 37 "RiverDays$Course" "owner" "[I" ∈ GW := gwp 344 (by decide +kernel) (by decide +kernel)
theorem k348 : Cond.fieldLink RX2 40 "RiverDays$Course" "sets" "[I" ∈ GW := gwp 348 (by decide +kernel) (by decide +kernel)
def w7 (L : LAM) : va_W := ((L 0).1, .inr (7, [.ref (L 1).1, .int 0, .int 0])) :: ([((L 1).1, .inl ((L 1).2, 60, .inl (fun _ => 0)))])
def kC7 (L : LAM) : List (ClassId × FieldType) := [] ++ [((L 1).2, .int)]
set_option maxHeartbeats 4000000 in
set_option maxRecDepth 100000 in
theorem cn7 (l : Launch) (D : va_G) (h0 sz : Nat) : Met l yX7_init (.code yX7_init cX7_init 1 none :: GW) ({ frames := 2, cells := 1, slots := 60, locals := 100 }) (va_Pc [.ref h0] (fun U => U.heap.size = sz ∧ va_P D CLS [(h0, .inr (7, [.null, .int 0, .int 0]))] U.heap ∧ va_K D CLS [] U ∧ va_D (fun _ => True) [(h0, .inr (7, [.null, .int 0, .int 0]))] ∧ XW U)) (va_Qv (fun L : LAM => (L 0).1 = h0) (fun L U => va_P D CLS (w7 L) U.heap ∧ va_K D CLS (kC7 L) U ∧ va_D (va_A [(h0, .inr (7, [.null, .int 0, .int 0]))] sz) (w7 L)) (va_A [(h0, .inr (7, [.null, .int 0, .int 0]))] sz)) 1 60 (va_A [(h0, .inr (7, [.null, .int 0, .int 0]))] sz) := by
  refine Met.ofW (cc := cX7_init) (maxL := 1) (ret := none) (by decide) rfl ?_
  intro p e s m args below meth c s₁ B hml hv
  obtain ⟨rfl, hsz, hP, hK, hD0, hXW⟩ := hv
  have hx := B.exec
  have hb := B.bytes
  have hr := B.returns
  have hts := atoms_spec (ws := .code yX7_init cX7_init 1 none :: GW) B.pre
  have hts := fun w hw => hts w (List.mem_cons_of_mem _ hw)
  have hown : s.vm.findClass RX7 = some m.cls := findClass_of_methodNamed B.named
  have hlocks := B.notSynchronized
  have hin : meth.name = "<init>" := (name_of_methodNamed B.named B.method).1
  subst hsz
  have hD := hD0.self (sz := s.heap.size)
  generalize hAe : va_A [(h0, .inr (7, [.null, .int 0, .int 0]))] s.heap.size = A at hD ⊢
  have hA : ∀ q : Nat, s.heap.size ≤ q → A q := fun q h => by rw [← hAe]; exact Or.inr h
  have hS : va_S A s.heap s.heap [] := va_S.rf
  have hl := lv_entry ([.ref h0]) (n := 1) (Nat.le_of_ble_eq_true rfl)
  rw [lg_entry_eq]
  generalize (lg_sl ([.ref h0]) ++ List.replicate (1 - (lg_sl ([.ref h0])).length) Slot.unset).toArray = ls at hl ⊢
  have hl : lv_has ls 1 [(0, .ref h0)] := hl
  skip
  refine lv_aload_n hx hb (show decode cX7_init 0 = .ok (.aload_n 0, 1) by decide +kernel) rfl (lv_at hl 0 rfl) ?_
  refine W.objInit hx hb hown (hts _ k131) (hts _ k101) (hts _ k102) rfl (by rw [hml]; exact hl.1) rfl (show decode cX7_init 1 = .ok (.invokespecial 3, 3) by decide +kernel) (Nat.le_of_ble_eq_true rfl) (Nat.le_of_ble_eq_true rfl) ?_
  refine W.eq (g2 := F0 m 4 ls []) rfl ?_
  refine lv_aload_n hx hb (show decode cX7_init 4 = .ok (.aload_n 0, 1) by decide +kernel) rfl (lv_at hl 0 rfl) ?_
  refine lv_bipush (v := 60) hx hb (show decode cX7_init 5 = .ok (.bipush 60, 2) by decide +kernel) (by decide) ?_
  refine va_newa (D := D) (atype := .int) (a0 := (60, .inl (fun _ => 0))) hx hb (hts _ k125) rfl hK hP hD hS hA (fun _ => rfl) (by decide) (by decide) (by decide) (Nat.le_of_ble_eq_true rfl) (Nat.le_of_ble_eq_true rfl) (show decode cX7_init 7 = .ok (.newarray .int, 2) by decide +kernel) (fun q1 c1 H hK hP hD hS => ?_)
  rename_i z0 z1 z2 z3
  clear z0 z1 z2 z3
  refine W.widen (k := 1) (n := 60) (Nat.le_of_ble_eq_true rfl) (Nat.le_of_ble_eq_true rfl) ?_
  replace hP : va_P D CLS ((h0, .inr (7, [.null, .int 0, .int 0])) :: ([(q1, .inl (c1, 60, .inl (fun _ => 0)))]) : va_W) H := hP
  replace hD : va_D A ((h0, .inr (7, [.null, .int 0, .int 0])) :: ([(q1, .inl (c1, 60, .inl (fun _ => 0)))]) : va_W) := hD
  replace hK : va_K D CLS ([] ++ [(c1, .int)]) s := hK
  refine va_putF (D := D) (ci := 7) (v := .ref q1) (ty := .array .int) (C := RX7) (T := TX7) (N := 3) hx hb hts uX7 tyX7 tyX7_ok nmX7 hown hK hP hD hS 0 rfl rfl 0 (by decide) (hts _ k132) (fun _ h9 => h9) rfl hin rfl (by decide +kernel) rfl rfl (Nat.le_of_ble_eq_true rfl) (show decode cX7_init 9 = .ok (.putfield 9, 3) by decide +kernel) (fun H locs hP hD hS => ?_)
  rename_i z0 z1 z2 z3
  clear z0 z1 z2 z3
  replace hP : va_P D CLS ((h0, .inr (7, [.ref q1, .int 0, .int 0])) :: ([(q1, .inl (c1, 60, .inl (fun _ => 0)))]) : va_W) H := hP
  replace hD : va_D A ((h0, .inr (7, [.ref q1, .int 0, .int 0])) :: ([(q1, .inl (c1, 60, .inl (fun _ => 0)))]) : va_W) := hD
  refine W.eq (g2 := F0 m 12 ls []) rfl ?_
  refine lv_aload_n hx hb (show decode cX7_init 12 = .ok (.aload_n 0, 1) by decide +kernel) rfl (lv_at hl 0 rfl) ?_
  refine lv_iconst (v := 0) hx hb (show decode cX7_init 13 = .ok (.iconst 0, 1) by decide +kernel) (by decide) ?_
  refine va_put (D := D) (ci := 7) (v := .int 0) (ty := .int) (C := RX7) (T := TX7) (N := 3) hx hb hts uX7 tyX7 tyX7_ok nmX7 hown hK hP hD hS 0 rfl rfl 1 (by decide) (hts _ k133) (fun _ h9 => h9) rfl (by decide +kernel) rfl rfl (Nat.le_of_ble_eq_true rfl) (show decode cX7_init 14 = .ok (.putfield 15, 3) by decide +kernel) (fun H locs hP hD hS => ?_)
  rename_i z0 z1 z2 z3 z4
  clear z0 z1 z2 z3 z4
  replace hP : va_P D CLS ((h0, .inr (7, [.ref q1, .int 0, .int 0])) :: ([(q1, .inl (c1, 60, .inl (fun _ => 0)))]) : va_W) H := hP
  replace hD : va_D A ((h0, .inr (7, [.ref q1, .int 0, .int 0])) :: ([(q1, .inl (c1, 60, .inl (fun _ => 0)))]) : va_W) := hD
  refine W.eq (g2 := F0 m 17 ls []) rfl ?_
  refine lv_aload_n hx hb (show decode cX7_init 17 = .ok (.aload_n 0, 1) by decide +kernel) rfl (lv_at hl 0 rfl) ?_
  refine lv_iconst (v := 0) hx hb (show decode cX7_init 18 = .ok (.iconst 0, 1) by decide +kernel) (by decide) ?_
  refine va_put (D := D) (ci := 7) (v := .int 0) (ty := .int) (C := RX7) (T := TX7) (N := 3) hx hb hts uX7 tyX7 tyX7_ok nmX7 hown hK hP hD hS 0 rfl rfl 2 (by decide) (hts _ k134) (fun _ h9 => h9) rfl (by decide +kernel) rfl rfl (Nat.le_of_ble_eq_true rfl) (show decode cX7_init 19 = .ok (.putfield 19, 3) by decide +kernel) (fun H locs hP hD hS => ?_)
  rename_i z0 z1 z2 z3 z4
  clear z0 z1 z2 z3 z4
  replace hP : va_P D CLS ((h0, .inr (7, [.ref q1, .int 0, .int 0])) :: ([(q1, .inl (c1, 60, .inl (fun _ => 0)))]) : va_W) H := hP
  replace hD : va_D A ((h0, .inr (7, [.ref q1, .int 0, .int 0])) :: ([(q1, .inl (c1, 60, .inl (fun _ => 0)))]) : va_W) := hD
  refine W.eq (g2 := F0 m 22 ls []) rfl ?_
  obtain ⟨L, hL⟩ : ∃ L : LAM, L = fun k => bif Nat.ble k 0 then (h0, D.1 0) else bif Nat.ble k 1 then (q1, c1) else (0, D.1 0) := ⟨_, rfl⟩
  have hP9 : va_P D CLS (w7 L) H := by rw [hL]; exact hP
  have hD9 : va_D A (w7 L) := by rw [hL]; exact hD
  have hK9 : va_K D CLS (kC7 L) s := by rw [hL]; exact hK
  refine W.widen (k := 1) (n := 60) (Nat.le_of_ble_eq_true rfl) (Nat.le_of_ble_eq_true rfl) ?_
  exact W.vret hx hb hr (fun t ht hW => ⟨⟨L, rfl, by rw [hL]; rfl, by rw [ht]; exact hP9, va_K.moved hW.alike hK9, hD9⟩, hS.F ht⟩) hS.2.2 (show decode cX7_init 22 = .ok (.return_, 1) by decide +kernel)
def w4 (L : LAM) : va_W := ((L 0).1, .inr (4, [.ref (L 1).1, .ref (L 2).1, .ref (L 3).1, .ref (L 4).1, .ref (L 5).1])) :: ([((L 1).1, .inl ((L 1).2, 6, .inl (fun _ => 0)))] ++ [((L 2).1, .inl ((L 2).2, 6, .inl (fun _ => 0)))] ++ [((L 3).1, .inl ((L 3).2, 6, .inl (fun _ => 0)))] ++ [((L 4).1, .inl ((L 4).2, 7, .inl (fun _ => 0)))] ++ [((L 5).1, .inl ((L 5).2, 6, .inl (fun _ => 0)))])
def kC4 (L : LAM) : List (ClassId × FieldType) := [] ++ [((L 1).2, .int)] ++ [((L 2).2, .int)] ++ [((L 3).2, .int)] ++ [((L 4).2, .int)] ++ [((L 5).2, .int)]
set_option maxHeartbeats 4000000 in
set_option maxRecDepth 100000 in
theorem cn4 (l : Launch) (D : va_G) (h0 sz : Nat) : Met l yX4_init (.code yX4_init cX4_init 1 none :: GW) ({ frames := 2, cells := 5, slots := 31, locals := 100 }) (va_Pc [.ref h0] (fun U => U.heap.size = sz ∧ va_P D CLS [(h0, .inr (4, [.null, .null, .null, .null, .null]))] U.heap ∧ va_K D CLS [] U ∧ va_D (fun _ => True) [(h0, .inr (4, [.null, .null, .null, .null, .null]))] ∧ XW U)) (va_Qv (fun L : LAM => (L 0).1 = h0) (fun L U => va_P D CLS (w4 L) U.heap ∧ va_K D CLS (kC4 L) U ∧ va_D (va_A [(h0, .inr (4, [.null, .null, .null, .null, .null]))] sz) (w4 L)) (va_A [(h0, .inr (4, [.null, .null, .null, .null, .null]))] sz)) 5 31 (va_A [(h0, .inr (4, [.null, .null, .null, .null, .null]))] sz) := by
  refine Met.ofW (cc := cX4_init) (maxL := 1) (ret := none) (by decide) rfl ?_
  intro p e s m args below meth c s₁ B hml hv
  obtain ⟨rfl, hsz, hP, hK, hD0, hXW⟩ := hv
  have hx := B.exec
  have hb := B.bytes
  have hr := B.returns
  have hts := atoms_spec (ws := .code yX4_init cX4_init 1 none :: GW) B.pre
  have hts := fun w hw => hts w (List.mem_cons_of_mem _ hw)
  have hown : s.vm.findClass RX4 = some m.cls := findClass_of_methodNamed B.named
  have hlocks := B.notSynchronized
  have hin : meth.name = "<init>" := (name_of_methodNamed B.named B.method).1
  subst hsz
  have hD := hD0.self (sz := s.heap.size)
  generalize hAe : va_A [(h0, .inr (4, [.null, .null, .null, .null, .null]))] s.heap.size = A at hD ⊢
  have hA : ∀ q : Nat, s.heap.size ≤ q → A q := fun q h => by rw [← hAe]; exact Or.inr h
  have hS : va_S A s.heap s.heap [] := va_S.rf
  have hl := lv_entry ([.ref h0]) (n := 1) (Nat.le_of_ble_eq_true rfl)
  rw [lg_entry_eq]
  generalize (lg_sl ([.ref h0]) ++ List.replicate (1 - (lg_sl ([.ref h0])).length) Slot.unset).toArray = ls at hl ⊢
  have hl : lv_has ls 1 [(0, .ref h0)] := hl
  skip
  refine lv_aload_n hx hb (show decode cX4_init 0 = .ok (.aload_n 0, 1) by decide +kernel) rfl (lv_at hl 0 rfl) ?_
  refine W.objInit hx hb hown (hts _ k147) (hts _ k101) (hts _ k102) rfl (by rw [hml]; exact hl.1) rfl (show decode cX4_init 1 = .ok (.invokespecial 3, 3) by decide +kernel) (Nat.le_of_ble_eq_true rfl) (Nat.le_of_ble_eq_true rfl) ?_
  refine W.eq (g2 := F0 m 4 ls []) rfl ?_
  refine lv_aload_n hx hb (show decode cX4_init 4 = .ok (.aload_n 0, 1) by decide +kernel) rfl (lv_at hl 0 rfl) ?_
  refine lv_bipush (v := 6) hx hb (show decode cX4_init 5 = .ok (.bipush 6, 2) by decide +kernel) (by decide) ?_
  refine va_newa (D := D) (atype := .int) (a0 := (6, .inl (fun _ => 0))) hx hb (hts _ k125) rfl hK hP hD hS hA (fun _ => rfl) (by decide) (by decide) (by decide) (Nat.le_of_ble_eq_true rfl) (Nat.le_of_ble_eq_true rfl) (show decode cX4_init 7 = .ok (.newarray .int, 2) by decide +kernel) (fun q1 c1 H hK hP hD hS => ?_)
  rename_i z0 z1 z2 z3
  clear z0 z1 z2 z3
  refine W.widen (k := 1) (n := 6) (Nat.le_of_ble_eq_true rfl) (Nat.le_of_ble_eq_true rfl) ?_
  replace hP : va_P D CLS ((h0, .inr (4, [.null, .null, .null, .null, .null])) :: ([(q1, .inl (c1, 6, .inl (fun _ => 0)))]) : va_W) H := hP
  replace hD : va_D A ((h0, .inr (4, [.null, .null, .null, .null, .null])) :: ([(q1, .inl (c1, 6, .inl (fun _ => 0)))]) : va_W) := hD
  replace hK : va_K D CLS ([] ++ [(c1, .int)]) s := hK
  refine va_putF (D := D) (ci := 4) (v := .ref q1) (ty := .array .int) (C := RX4) (T := TX4) (N := 5) hx hb hts uX4 tyX4 tyX4_ok nmX4 hown hK hP hD hS 0 rfl rfl 0 (by decide) (hts _ k148) (fun _ h9 => h9) rfl hin rfl (by decide +kernel) rfl rfl (Nat.le_of_ble_eq_true rfl) (show decode cX4_init 9 = .ok (.putfield 9, 3) by decide +kernel) (fun H locs hP hD hS => ?_)
  rename_i z0 z1 z2 z3
  clear z0 z1 z2 z3
  replace hP : va_P D CLS ((h0, .inr (4, [.ref q1, .null, .null, .null, .null])) :: ([(q1, .inl (c1, 6, .inl (fun _ => 0)))]) : va_W) H := hP
  replace hD : va_D A ((h0, .inr (4, [.ref q1, .null, .null, .null, .null])) :: ([(q1, .inl (c1, 6, .inl (fun _ => 0)))]) : va_W) := hD
  refine W.eq (g2 := F0 m 12 ls []) rfl ?_
  refine lv_aload_n hx hb (show decode cX4_init 12 = .ok (.aload_n 0, 1) by decide +kernel) rfl (lv_at hl 0 rfl) ?_
  refine lv_bipush (v := 6) hx hb (show decode cX4_init 13 = .ok (.bipush 6, 2) by decide +kernel) (by decide) ?_
  refine va_newa (D := D) (atype := .int) (a0 := (6, .inl (fun _ => 0))) hx hb (hts _ k125) rfl hK hP hD hS hA (fun _ => rfl) (by decide) (by decide) (by decide) (Nat.le_of_ble_eq_true rfl) (Nat.le_of_ble_eq_true rfl) (show decode cX4_init 15 = .ok (.newarray .int, 2) by decide +kernel) (fun q2 c2 H hK hP hD hS => ?_)
  rename_i z0 z1 z2 z3 z4
  clear z0 z1 z2 z3 z4
  refine W.widen (k := 2) (n := 12) (Nat.le_of_ble_eq_true rfl) (Nat.le_of_ble_eq_true rfl) ?_
  replace hP : va_P D CLS ((h0, .inr (4, [.ref q1, .null, .null, .null, .null])) :: ([(q1, .inl (c1, 6, .inl (fun _ => 0)))] ++ [(q2, .inl (c2, 6, .inl (fun _ => 0)))]) : va_W) H := hP
  replace hD : va_D A ((h0, .inr (4, [.ref q1, .null, .null, .null, .null])) :: ([(q1, .inl (c1, 6, .inl (fun _ => 0)))] ++ [(q2, .inl (c2, 6, .inl (fun _ => 0)))]) : va_W) := hD
  replace hK : va_K D CLS ([] ++ [(c1, .int)] ++ [(c2, .int)]) s := hK
  refine va_putF (D := D) (ci := 4) (v := .ref q2) (ty := .array .int) (C := RX4) (T := TX4) (N := 5) hx hb hts uX4 tyX4 tyX4_ok nmX4 hown hK hP hD hS 0 rfl rfl 1 (by decide) (hts _ k150) (fun _ h9 => h9) rfl hin rfl (by decide +kernel) rfl rfl (Nat.le_of_ble_eq_true rfl) (show decode cX4_init 17 = .ok (.putfield 15, 3) by decide +kernel) (fun H locs hP hD hS => ?_)
  rename_i z0 z1 z2 z3 z4
  clear z0 z1 z2 z3 z4
  replace hP : va_P D CLS ((h0, .inr (4, [.ref q1, .ref q2, .null, .null, .null])) :: ([(q1, .inl (c1, 6, .inl (fun _ => 0)))] ++ [(q2, .inl (c2, 6, .inl (fun _ => 0)))]) : va_W) H := hP
  replace hD : va_D A ((h0, .inr (4, [.ref q1, .ref q2, .null, .null, .null])) :: ([(q1, .inl (c1, 6, .inl (fun _ => 0)))] ++ [(q2, .inl (c2, 6, .inl (fun _ => 0)))]) : va_W) := hD
  refine W.eq (g2 := F0 m 20 ls []) rfl ?_
  refine lv_aload_n hx hb (show decode cX4_init 20 = .ok (.aload_n 0, 1) by decide +kernel) rfl (lv_at hl 0 rfl) ?_
  refine lv_bipush (v := 6) hx hb (show decode cX4_init 21 = .ok (.bipush 6, 2) by decide +kernel) (by decide) ?_
  refine va_newa (D := D) (atype := .int) (a0 := (6, .inl (fun _ => 0))) hx hb (hts _ k125) rfl hK hP hD hS hA (fun _ => rfl) (by decide) (by decide) (by decide) (Nat.le_of_ble_eq_true rfl) (Nat.le_of_ble_eq_true rfl) (show decode cX4_init 23 = .ok (.newarray .int, 2) by decide +kernel) (fun q3 c3 H hK hP hD hS => ?_)
  rename_i z0 z1 z2 z3 z4
  clear z0 z1 z2 z3 z4
  refine W.widen (k := 3) (n := 18) (Nat.le_of_ble_eq_true rfl) (Nat.le_of_ble_eq_true rfl) ?_
  replace hP : va_P D CLS ((h0, .inr (4, [.ref q1, .ref q2, .null, .null, .null])) :: ([(q1, .inl (c1, 6, .inl (fun _ => 0)))] ++ [(q2, .inl (c2, 6, .inl (fun _ => 0)))] ++ [(q3, .inl (c3, 6, .inl (fun _ => 0)))]) : va_W) H := hP
  replace hD : va_D A ((h0, .inr (4, [.ref q1, .ref q2, .null, .null, .null])) :: ([(q1, .inl (c1, 6, .inl (fun _ => 0)))] ++ [(q2, .inl (c2, 6, .inl (fun _ => 0)))] ++ [(q3, .inl (c3, 6, .inl (fun _ => 0)))]) : va_W) := hD
  replace hK : va_K D CLS ([] ++ [(c1, .int)] ++ [(c2, .int)] ++ [(c3, .int)]) s := hK
  refine va_putF (D := D) (ci := 4) (v := .ref q3) (ty := .array .int) (C := RX4) (T := TX4) (N := 5) hx hb hts uX4 tyX4 tyX4_ok nmX4 hown hK hP hD hS 0 rfl rfl 2 (by decide) (hts _ k152) (fun _ h9 => h9) rfl hin rfl (by decide +kernel) rfl rfl (Nat.le_of_ble_eq_true rfl) (show decode cX4_init 25 = .ok (.putfield 18, 3) by decide +kernel) (fun H locs hP hD hS => ?_)
  rename_i z0 z1 z2 z3 z4
  clear z0 z1 z2 z3 z4
  replace hP : va_P D CLS ((h0, .inr (4, [.ref q1, .ref q2, .ref q3, .null, .null])) :: ([(q1, .inl (c1, 6, .inl (fun _ => 0)))] ++ [(q2, .inl (c2, 6, .inl (fun _ => 0)))] ++ [(q3, .inl (c3, 6, .inl (fun _ => 0)))]) : va_W) H := hP
  replace hD : va_D A ((h0, .inr (4, [.ref q1, .ref q2, .ref q3, .null, .null])) :: ([(q1, .inl (c1, 6, .inl (fun _ => 0)))] ++ [(q2, .inl (c2, 6, .inl (fun _ => 0)))] ++ [(q3, .inl (c3, 6, .inl (fun _ => 0)))]) : va_W) := hD
  refine W.eq (g2 := F0 m 28 ls []) rfl ?_
  refine lv_aload_n hx hb (show decode cX4_init 28 = .ok (.aload_n 0, 1) by decide +kernel) rfl (lv_at hl 0 rfl) ?_
  refine lv_bipush (v := 7) hx hb (show decode cX4_init 29 = .ok (.bipush 7, 2) by decide +kernel) (by decide) ?_
  refine va_newa (D := D) (atype := .int) (a0 := (7, .inl (fun _ => 0))) hx hb (hts _ k125) rfl hK hP hD hS hA (fun _ => rfl) (by decide) (by decide) (by decide) (Nat.le_of_ble_eq_true rfl) (Nat.le_of_ble_eq_true rfl) (show decode cX4_init 31 = .ok (.newarray .int, 2) by decide +kernel) (fun q4 c4 H hK hP hD hS => ?_)
  rename_i z0 z1 z2 z3 z4
  clear z0 z1 z2 z3 z4
  refine W.widen (k := 4) (n := 25) (Nat.le_of_ble_eq_true rfl) (Nat.le_of_ble_eq_true rfl) ?_
  replace hP : va_P D CLS ((h0, .inr (4, [.ref q1, .ref q2, .ref q3, .null, .null])) :: ([(q1, .inl (c1, 6, .inl (fun _ => 0)))] ++ [(q2, .inl (c2, 6, .inl (fun _ => 0)))] ++ [(q3, .inl (c3, 6, .inl (fun _ => 0)))] ++ [(q4, .inl (c4, 7, .inl (fun _ => 0)))]) : va_W) H := hP
  replace hD : va_D A ((h0, .inr (4, [.ref q1, .ref q2, .ref q3, .null, .null])) :: ([(q1, .inl (c1, 6, .inl (fun _ => 0)))] ++ [(q2, .inl (c2, 6, .inl (fun _ => 0)))] ++ [(q3, .inl (c3, 6, .inl (fun _ => 0)))] ++ [(q4, .inl (c4, 7, .inl (fun _ => 0)))]) : va_W) := hD
  replace hK : va_K D CLS ([] ++ [(c1, .int)] ++ [(c2, .int)] ++ [(c3, .int)] ++ [(c4, .int)]) s := hK
  refine va_putF (D := D) (ci := 4) (v := .ref q4) (ty := .array .int) (C := RX4) (T := TX4) (N := 5) hx hb hts uX4 tyX4 tyX4_ok nmX4 hown hK hP hD hS 0 rfl rfl 3 (by decide) (hts _ k154) (fun _ h9 => h9) rfl hin rfl (by decide +kernel) rfl rfl (Nat.le_of_ble_eq_true rfl) (show decode cX4_init 33 = .ok (.putfield 21, 3) by decide +kernel) (fun H locs hP hD hS => ?_)
  rename_i z0 z1 z2 z3 z4
  clear z0 z1 z2 z3 z4
  replace hP : va_P D CLS ((h0, .inr (4, [.ref q1, .ref q2, .ref q3, .ref q4, .null])) :: ([(q1, .inl (c1, 6, .inl (fun _ => 0)))] ++ [(q2, .inl (c2, 6, .inl (fun _ => 0)))] ++ [(q3, .inl (c3, 6, .inl (fun _ => 0)))] ++ [(q4, .inl (c4, 7, .inl (fun _ => 0)))]) : va_W) H := hP
  replace hD : va_D A ((h0, .inr (4, [.ref q1, .ref q2, .ref q3, .ref q4, .null])) :: ([(q1, .inl (c1, 6, .inl (fun _ => 0)))] ++ [(q2, .inl (c2, 6, .inl (fun _ => 0)))] ++ [(q3, .inl (c3, 6, .inl (fun _ => 0)))] ++ [(q4, .inl (c4, 7, .inl (fun _ => 0)))]) : va_W) := hD
  refine W.eq (g2 := F0 m 36 ls []) rfl ?_
  refine lv_aload_n hx hb (show decode cX4_init 36 = .ok (.aload_n 0, 1) by decide +kernel) rfl (lv_at hl 0 rfl) ?_
  refine lv_bipush (v := 6) hx hb (show decode cX4_init 37 = .ok (.bipush 6, 2) by decide +kernel) (by decide) ?_
  refine va_newa (D := D) (atype := .int) (a0 := (6, .inl (fun _ => 0))) hx hb (hts _ k125) rfl hK hP hD hS hA (fun _ => rfl) (by decide) (by decide) (by decide) (Nat.le_of_ble_eq_true rfl) (Nat.le_of_ble_eq_true rfl) (show decode cX4_init 39 = .ok (.newarray .int, 2) by decide +kernel) (fun q5 c5 H hK hP hD hS => ?_)
  rename_i z0 z1 z2 z3 z4
  clear z0 z1 z2 z3 z4
  refine W.widen (k := 5) (n := 31) (Nat.le_of_ble_eq_true rfl) (Nat.le_of_ble_eq_true rfl) ?_
  replace hP : va_P D CLS ((h0, .inr (4, [.ref q1, .ref q2, .ref q3, .ref q4, .null])) :: ([(q1, .inl (c1, 6, .inl (fun _ => 0)))] ++ [(q2, .inl (c2, 6, .inl (fun _ => 0)))] ++ [(q3, .inl (c3, 6, .inl (fun _ => 0)))] ++ [(q4, .inl (c4, 7, .inl (fun _ => 0)))] ++ [(q5, .inl (c5, 6, .inl (fun _ => 0)))]) : va_W) H := hP
  replace hD : va_D A ((h0, .inr (4, [.ref q1, .ref q2, .ref q3, .ref q4, .null])) :: ([(q1, .inl (c1, 6, .inl (fun _ => 0)))] ++ [(q2, .inl (c2, 6, .inl (fun _ => 0)))] ++ [(q3, .inl (c3, 6, .inl (fun _ => 0)))] ++ [(q4, .inl (c4, 7, .inl (fun _ => 0)))] ++ [(q5, .inl (c5, 6, .inl (fun _ => 0)))]) : va_W) := hD
  replace hK : va_K D CLS ([] ++ [(c1, .int)] ++ [(c2, .int)] ++ [(c3, .int)] ++ [(c4, .int)] ++ [(c5, .int)]) s := hK
  refine va_putF (D := D) (ci := 4) (v := .ref q5) (ty := .array .int) (C := RX4) (T := TX4) (N := 5) hx hb hts uX4 tyX4 tyX4_ok nmX4 hown hK hP hD hS 0 rfl rfl 4 (by decide) (hts _ k156) (fun _ h9 => h9) rfl hin rfl (by decide +kernel) rfl rfl (Nat.le_of_ble_eq_true rfl) (show decode cX4_init 41 = .ok (.putfield 24, 3) by decide +kernel) (fun H locs hP hD hS => ?_)
  rename_i z0 z1 z2 z3 z4
  clear z0 z1 z2 z3 z4
  replace hP : va_P D CLS ((h0, .inr (4, [.ref q1, .ref q2, .ref q3, .ref q4, .ref q5])) :: ([(q1, .inl (c1, 6, .inl (fun _ => 0)))] ++ [(q2, .inl (c2, 6, .inl (fun _ => 0)))] ++ [(q3, .inl (c3, 6, .inl (fun _ => 0)))] ++ [(q4, .inl (c4, 7, .inl (fun _ => 0)))] ++ [(q5, .inl (c5, 6, .inl (fun _ => 0)))]) : va_W) H := hP
  replace hD : va_D A ((h0, .inr (4, [.ref q1, .ref q2, .ref q3, .ref q4, .ref q5])) :: ([(q1, .inl (c1, 6, .inl (fun _ => 0)))] ++ [(q2, .inl (c2, 6, .inl (fun _ => 0)))] ++ [(q3, .inl (c3, 6, .inl (fun _ => 0)))] ++ [(q4, .inl (c4, 7, .inl (fun _ => 0)))] ++ [(q5, .inl (c5, 6, .inl (fun _ => 0)))]) : va_W) := hD
  refine W.eq (g2 := F0 m 44 ls []) rfl ?_
  obtain ⟨L, hL⟩ : ∃ L : LAM, L = fun k => bif Nat.ble k 0 then (h0, D.1 0) else bif Nat.ble k 1 then (q1, c1) else bif Nat.ble k 2 then (q2, c2) else bif Nat.ble k 3 then (q3, c3) else bif Nat.ble k 4 then (q4, c4) else bif Nat.ble k 5 then (q5, c5) else (0, D.1 0) := ⟨_, rfl⟩
  have hP9 : va_P D CLS (w4 L) H := by rw [hL]; exact hP
  have hD9 : va_D A (w4 L) := by rw [hL]; exact hD
  have hK9 : va_K D CLS (kC4 L) s := by rw [hL]; exact hK
  refine W.widen (k := 5) (n := 31) (Nat.le_of_ble_eq_true rfl) (Nat.le_of_ble_eq_true rfl) ?_
  exact W.vret hx hb hr (fun t ht hW => ⟨⟨L, rfl, by rw [hL]; rfl, by rw [ht]; exact hP9, va_K.moved hW.alike hK9, hD9⟩, hS.F ht⟩) hS.2.2 (show decode cX4_init 44 = .ok (.return_, 1) by decide +kernel)
def w3 (L : LAM) : va_W := ((L 0).1, .inr (3, [.int 0, .ref (L 1).1, .ref (L 2).1])) :: ([((L 1).1, .inl ((L 1).2, 40, .inl (fun _ => 0)))] ++ [((L 2).1, .inl ((L 2).2, 40, .inl (fun _ => 0)))])
def kC3 (L : LAM) : List (ClassId × FieldType) := [] ++ [((L 1).2, .int)] ++ [((L 2).2, .int)]
set_option maxHeartbeats 4000000 in
set_option maxRecDepth 100000 in
theorem cn3 (l : Launch) (D : va_G) (h0 sz : Nat) : Met l yX3_init (.code yX3_init cX3_init 1 none :: GW) ({ frames := 2, cells := 2, slots := 80, locals := 100 }) (va_Pc [.ref h0] (fun U => U.heap.size = sz ∧ va_P D CLS [(h0, .inr (3, [.int 0, .null, .null]))] U.heap ∧ va_K D CLS [] U ∧ va_D (fun _ => True) [(h0, .inr (3, [.int 0, .null, .null]))] ∧ XW U)) (va_Qv (fun L : LAM => (L 0).1 = h0) (fun L U => va_P D CLS (w3 L) U.heap ∧ va_K D CLS (kC3 L) U ∧ va_D (va_A [(h0, .inr (3, [.int 0, .null, .null]))] sz) (w3 L)) (va_A [(h0, .inr (3, [.int 0, .null, .null]))] sz)) 2 80 (va_A [(h0, .inr (3, [.int 0, .null, .null]))] sz) := by
  refine Met.ofW (cc := cX3_init) (maxL := 1) (ret := none) (by decide) rfl ?_
  intro p e s m args below meth c s₁ B hml hv
  obtain ⟨rfl, hsz, hP, hK, hD0, hXW⟩ := hv
  have hx := B.exec
  have hb := B.bytes
  have hr := B.returns
  have hts := atoms_spec (ws := .code yX3_init cX3_init 1 none :: GW) B.pre
  have hts := fun w hw => hts w (List.mem_cons_of_mem _ hw)
  have hown : s.vm.findClass RX3 = some m.cls := findClass_of_methodNamed B.named
  have hlocks := B.notSynchronized
  have hin : meth.name = "<init>" := (name_of_methodNamed B.named B.method).1
  subst hsz
  have hD := hD0.self (sz := s.heap.size)
  generalize hAe : va_A [(h0, .inr (3, [.int 0, .null, .null]))] s.heap.size = A at hD ⊢
  have hA : ∀ q : Nat, s.heap.size ≤ q → A q := fun q h => by rw [← hAe]; exact Or.inr h
  have hS : va_S A s.heap s.heap [] := va_S.rf
  have hl := lv_entry ([.ref h0]) (n := 1) (Nat.le_of_ble_eq_true rfl)
  rw [lg_entry_eq]
  generalize (lg_sl ([.ref h0]) ++ List.replicate (1 - (lg_sl ([.ref h0])).length) Slot.unset).toArray = ls at hl ⊢
  have hl : lv_has ls 1 [(0, .ref h0)] := hl
  skip
  refine lv_aload_n hx hb (show decode cX3_init 0 = .ok (.aload_n 0, 1) by decide +kernel) rfl (lv_at hl 0 rfl) ?_
  refine W.objInit hx hb hown (hts _ k173) (hts _ k101) (hts _ k102) rfl (by rw [hml]; exact hl.1) rfl (show decode cX3_init 1 = .ok (.invokespecial 3, 3) by decide +kernel) (Nat.le_of_ble_eq_true rfl) (Nat.le_of_ble_eq_true rfl) ?_
  refine W.eq (g2 := F0 m 4 ls []) rfl ?_
  refine lv_aload_n hx hb (show decode cX3_init 4 = .ok (.aload_n 0, 1) by decide +kernel) rfl (lv_at hl 0 rfl) ?_
  refine lv_iconst (v := 0) hx hb (show decode cX3_init 5 = .ok (.iconst 0, 1) by decide +kernel) (by decide) ?_
  refine va_put (D := D) (ci := 3) (v := .int 0) (ty := .int) (C := RX3) (T := TX3) (N := 3) hx hb hts uX3 tyX3 tyX3_ok nmX3 hown hK hP hD hS 0 rfl rfl 0 (by decide) (hts _ k174) (fun _ h9 => h9) rfl (by decide +kernel) rfl rfl (Nat.le_of_ble_eq_true rfl) (show decode cX3_init 6 = .ok (.putfield 9, 3) by decide +kernel) (fun H locs hP hD hS => ?_)
  rename_i z0 z1 z2
  clear z0 z1 z2
  replace hP : va_P D CLS ((h0, .inr (3, [.int 0, .null, .null])) :: [] : va_W) H := hP
  replace hD : va_D A ((h0, .inr (3, [.int 0, .null, .null])) :: [] : va_W) := hD
  refine W.eq (g2 := F0 m 9 ls []) rfl ?_
  refine lv_aload_n hx hb (show decode cX3_init 9 = .ok (.aload_n 0, 1) by decide +kernel) rfl (lv_at hl 0 rfl) ?_
  refine lv_bipush (v := 40) hx hb (show decode cX3_init 10 = .ok (.bipush 40, 2) by decide +kernel) (by decide) ?_
  refine va_newa (D := D) (atype := .int) (a0 := (40, .inl (fun _ => 0))) hx hb (hts _ k125) rfl hK hP hD hS hA (fun _ => rfl) (by decide) (by decide) (by decide) (Nat.le_of_ble_eq_true rfl) (Nat.le_of_ble_eq_true rfl) (show decode cX3_init 12 = .ok (.newarray .int, 2) by decide +kernel) (fun q1 c1 H hK hP hD hS => ?_)
  rename_i z0 z1 z2 z3 z4
  clear z0 z1 z2 z3 z4
  refine W.widen (k := 1) (n := 40) (Nat.le_of_ble_eq_true rfl) (Nat.le_of_ble_eq_true rfl) ?_
  replace hP : va_P D CLS ((h0, .inr (3, [.int 0, .null, .null])) :: ([(q1, .inl (c1, 40, .inl (fun _ => 0)))]) : va_W) H := hP
  replace hD : va_D A ((h0, .inr (3, [.int 0, .null, .null])) :: ([(q1, .inl (c1, 40, .inl (fun _ => 0)))]) : va_W) := hD
  replace hK : va_K D CLS ([] ++ [(c1, .int)]) s := hK
  refine va_putF (D := D) (ci := 3) (v := .ref q1) (ty := .array .int) (C := RX3) (T := TX3) (N := 3) hx hb hts uX3 tyX3 tyX3_ok nmX3 hown hK hP hD hS 0 rfl rfl 1 (by decide) (hts _ k176) (fun _ h9 => h9) rfl hin rfl (by decide +kernel) rfl rfl (Nat.le_of_ble_eq_true rfl) (show decode cX3_init 14 = .ok (.putfield 15, 3) by decide +kernel) (fun H locs hP hD hS => ?_)
  rename_i z0 z1 z2 z3 z4
  clear z0 z1 z2 z3 z4
  replace hP : va_P D CLS ((h0, .inr (3, [.int 0, .ref q1, .null])) :: ([(q1, .inl (c1, 40, .inl (fun _ => 0)))]) : va_W) H := hP
  replace hD : va_D A ((h0, .inr (3, [.int 0, .ref q1, .null])) :: ([(q1, .inl (c1, 40, .inl (fun _ => 0)))]) : va_W) := hD
  refine W.eq (g2 := F0 m 17 ls []) rfl ?_
  refine lv_aload_n hx hb (show decode cX3_init 17 = .ok (.aload_n 0, 1) by decide +kernel) rfl (lv_at hl 0 rfl) ?_
  refine lv_bipush (v := 40) hx hb (show decode cX3_init 18 = .ok (.bipush 40, 2) by decide +kernel) (by decide) ?_
  refine va_newa (D := D) (atype := .int) (a0 := (40, .inl (fun _ => 0))) hx hb (hts _ k125) rfl hK hP hD hS hA (fun _ => rfl) (by decide) (by decide) (by decide) (Nat.le_of_ble_eq_true rfl) (Nat.le_of_ble_eq_true rfl) (show decode cX3_init 20 = .ok (.newarray .int, 2) by decide +kernel) (fun q2 c2 H hK hP hD hS => ?_)
  rename_i z0 z1 z2 z3 z4
  clear z0 z1 z2 z3 z4
  refine W.widen (k := 2) (n := 80) (Nat.le_of_ble_eq_true rfl) (Nat.le_of_ble_eq_true rfl) ?_
  replace hP : va_P D CLS ((h0, .inr (3, [.int 0, .ref q1, .null])) :: ([(q1, .inl (c1, 40, .inl (fun _ => 0)))] ++ [(q2, .inl (c2, 40, .inl (fun _ => 0)))]) : va_W) H := hP
  replace hD : va_D A ((h0, .inr (3, [.int 0, .ref q1, .null])) :: ([(q1, .inl (c1, 40, .inl (fun _ => 0)))] ++ [(q2, .inl (c2, 40, .inl (fun _ => 0)))]) : va_W) := hD
  replace hK : va_K D CLS ([] ++ [(c1, .int)] ++ [(c2, .int)]) s := hK
  refine va_putF (D := D) (ci := 3) (v := .ref q2) (ty := .array .int) (C := RX3) (T := TX3) (N := 3) hx hb hts uX3 tyX3 tyX3_ok nmX3 hown hK hP hD hS 0 rfl rfl 2 (by decide) (hts _ k178) (fun _ h9 => h9) rfl hin rfl (by decide +kernel) rfl rfl (Nat.le_of_ble_eq_true rfl) (show decode cX3_init 22 = .ok (.putfield 19, 3) by decide +kernel) (fun H locs hP hD hS => ?_)
  rename_i z0 z1 z2 z3 z4
  clear z0 z1 z2 z3 z4
  replace hP : va_P D CLS ((h0, .inr (3, [.int 0, .ref q1, .ref q2])) :: ([(q1, .inl (c1, 40, .inl (fun _ => 0)))] ++ [(q2, .inl (c2, 40, .inl (fun _ => 0)))]) : va_W) H := hP
  replace hD : va_D A ((h0, .inr (3, [.int 0, .ref q1, .ref q2])) :: ([(q1, .inl (c1, 40, .inl (fun _ => 0)))] ++ [(q2, .inl (c2, 40, .inl (fun _ => 0)))]) : va_W) := hD
  refine W.eq (g2 := F0 m 25 ls []) rfl ?_
  obtain ⟨L, hL⟩ : ∃ L : LAM, L = fun k => bif Nat.ble k 0 then (h0, D.1 0) else bif Nat.ble k 1 then (q1, c1) else bif Nat.ble k 2 then (q2, c2) else (0, D.1 0) := ⟨_, rfl⟩
  have hP9 : va_P D CLS (w3 L) H := by rw [hL]; exact hP
  have hD9 : va_D A (w3 L) := by rw [hL]; exact hD
  have hK9 : va_K D CLS (kC3 L) s := by rw [hL]; exact hK
  refine W.widen (k := 2) (n := 80) (Nat.le_of_ble_eq_true rfl) (Nat.le_of_ble_eq_true rfl) ?_
  exact W.vret hx hb hr (fun t ht hW => ⟨⟨L, rfl, by rw [hL]; rfl, by rw [ht]; exact hP9, va_K.moved hW.alike hK9, hD9⟩, hS.F ht⟩) hS.2.2 (show decode cX3_init 25 = .ok (.return_, 1) by decide +kernel)
def w2 (L : LAM) : va_W := ((L 0).1, .inr (2, [.int 0, .int 0, .int 0, .int 0, .ref (L 1).1, .ref (L 2).1, .ref (L 3).1, .ref (L 4).1, .ref (L 5).1, .ref (L 6).1])) :: ([((L 1).1, .inl ((L 1).2, 6, .inl (fun _ => 0)))] ++ [((L 2).1, .inl ((L 2).2, 6, .inl (fun _ => 0)))] ++ [((L 3).1, .inl ((L 3).2, 6, .inl (fun _ => 0)))] ++ [((L 4).1, .inl ((L 4).2, 7, .inl (fun _ => 0)))] ++ [((L 5).1, .inl ((L 5).2, 7, .inl (fun _ => 0)))] ++ [((L 6).1, .inl ((L 6).2, 8, .inl (fun _ => 0)))])
def kC2 (L : LAM) : List (ClassId × FieldType) := [] ++ [((L 1).2, .int)] ++ [((L 2).2, .int)] ++ [((L 3).2, .int)] ++ [((L 4).2, .int)] ++ [((L 5).2, .int)] ++ [((L 6).2, .int)]
set_option maxHeartbeats 4000000 in
set_option maxRecDepth 100000 in
theorem cn2 (l : Launch) (D : va_G) (h0 sz : Nat) : Met l yX2_init (.code yX2_init cX2_init 1 none :: GW) ({ frames := 2, cells := 6, slots := 40, locals := 100 }) (va_Pc [.ref h0] (fun U => U.heap.size = sz ∧ va_P D CLS [(h0, .inr (2, [.int 0, .int 0, .int 0, .int 0, .null, .null, .null, .null, .null, .null]))] U.heap ∧ va_K D CLS [] U ∧ va_D (fun _ => True) [(h0, .inr (2, [.int 0, .int 0, .int 0, .int 0, .null, .null, .null, .null, .null, .null]))] ∧ XW U)) (va_Qv (fun L : LAM => (L 0).1 = h0) (fun L U => va_P D CLS (w2 L) U.heap ∧ va_K D CLS (kC2 L) U ∧ va_D (va_A [(h0, .inr (2, [.int 0, .int 0, .int 0, .int 0, .null, .null, .null, .null, .null, .null]))] sz) (w2 L)) (va_A [(h0, .inr (2, [.int 0, .int 0, .int 0, .int 0, .null, .null, .null, .null, .null, .null]))] sz)) 6 40 (va_A [(h0, .inr (2, [.int 0, .int 0, .int 0, .int 0, .null, .null, .null, .null, .null, .null]))] sz) := by
  refine Met.ofW (cc := cX2_init) (maxL := 1) (ret := none) (by decide) rfl ?_
  intro p e s m args below meth c s₁ B hml hv
  obtain ⟨rfl, hsz, hP, hK, hD0, hXW⟩ := hv
  have hx := B.exec
  have hb := B.bytes
  have hr := B.returns
  have hts := atoms_spec (ws := .code yX2_init cX2_init 1 none :: GW) B.pre
  have hts := fun w hw => hts w (List.mem_cons_of_mem _ hw)
  have hown : s.vm.findClass RX2 = some m.cls := findClass_of_methodNamed B.named
  have hlocks := B.notSynchronized
  have hin : meth.name = "<init>" := (name_of_methodNamed B.named B.method).1
  subst hsz
  have hD := hD0.self (sz := s.heap.size)
  generalize hAe : va_A [(h0, .inr (2, [.int 0, .int 0, .int 0, .int 0, .null, .null, .null, .null, .null, .null]))] s.heap.size = A at hD ⊢
  have hA : ∀ q : Nat, s.heap.size ≤ q → A q := fun q h => by rw [← hAe]; exact Or.inr h
  have hS : va_S A s.heap s.heap [] := va_S.rf
  have hl := lv_entry ([.ref h0]) (n := 1) (Nat.le_of_ble_eq_true rfl)
  rw [lg_entry_eq]
  generalize (lg_sl ([.ref h0]) ++ List.replicate (1 - (lg_sl ([.ref h0])).length) Slot.unset).toArray = ls at hl ⊢
  have hl : lv_has ls 1 [(0, .ref h0)] := hl
  skip
  refine lv_aload_n hx hb (show decode cX2_init 0 = .ok (.aload_n 0, 1) by decide +kernel) rfl (lv_at hl 0 rfl) ?_
  refine W.objInit hx hb hown (hts _ k322) (hts _ k101) (hts _ k102) rfl (by rw [hml]; exact hl.1) rfl (show decode cX2_init 1 = .ok (.invokespecial 3, 3) by decide +kernel) (Nat.le_of_ble_eq_true rfl) (Nat.le_of_ble_eq_true rfl) ?_
  refine W.eq (g2 := F0 m 4 ls []) rfl ?_
  refine lv_aload_n hx hb (show decode cX2_init 4 = .ok (.aload_n 0, 1) by decide +kernel) rfl (lv_at hl 0 rfl) ?_
  refine lv_iconst (v := 0) hx hb (show decode cX2_init 5 = .ok (.iconst 0, 1) by decide +kernel) (by decide) ?_
  refine va_put (D := D) (ci := 2) (v := .int 0) (ty := .int) (C := RX2) (T := TX2) (N := 10) hx hb hts uX2 tyX2 tyX2_ok nmX2 hown hK hP hD hS 0 rfl rfl 0 (by decide) (hts _ k323) (fun _ h9 => h9) rfl (by decide +kernel) rfl rfl (Nat.le_of_ble_eq_true rfl) (show decode cX2_init 6 = .ok (.putfield 9, 3) by decide +kernel) (fun H locs hP hD hS => ?_)
  rename_i z0 z1 z2
  clear z0 z1 z2
  replace hP : va_P D CLS ((h0, .inr (2, [.int 0, .int 0, .int 0, .int 0, .null, .null, .null, .null, .null, .null])) :: [] : va_W) H := hP
  replace hD : va_D A ((h0, .inr (2, [.int 0, .int 0, .int 0, .int 0, .null, .null, .null, .null, .null, .null])) :: [] : va_W) := hD
  refine W.eq (g2 := F0 m 9 ls []) rfl ?_
  refine lv_aload_n hx hb (show decode cX2_init 9 = .ok (.aload_n 0, 1) by decide +kernel) rfl (lv_at hl 0 rfl) ?_
  refine lv_iconst (v := 0) hx hb (show decode cX2_init 10 = .ok (.iconst 0, 1) by decide +kernel) (by decide) ?_
  refine va_put (D := D) (ci := 2) (v := .int 0) (ty := .int) (C := RX2) (T := TX2) (N := 10) hx hb hts uX2 tyX2 tyX2_ok nmX2 hown hK hP hD hS 0 rfl rfl 1 (by decide) (hts _ k326) (fun _ h9 => h9) rfl (by decide +kernel) rfl rfl (Nat.le_of_ble_eq_true rfl) (show decode cX2_init 11 = .ok (.putfield 15, 3) by decide +kernel) (fun H locs hP hD hS => ?_)
  rename_i z0 z1 z2 z3 z4
  clear z0 z1 z2 z3 z4
  replace hP : va_P D CLS ((h0, .inr (2, [.int 0, .int 0, .int 0, .int 0, .null, .null, .null, .null, .null, .null])) :: [] : va_W) H := hP
  replace hD : va_D A ((h0, .inr (2, [.int 0, .int 0, .int 0, .int 0, .null, .null, .null, .null, .null, .null])) :: [] : va_W) := hD
  refine W.eq (g2 := F0 m 14 ls []) rfl ?_
  refine lv_aload_n hx hb (show decode cX2_init 14 = .ok (.aload_n 0, 1) by decide +kernel) rfl (lv_at hl 0 rfl) ?_
  refine lv_iconst (v := 0) hx hb (show decode cX2_init 15 = .ok (.iconst 0, 1) by decide +kernel) (by decide) ?_
  refine va_put (D := D) (ci := 2) (v := .int 0) (ty := .int) (C := RX2) (T := TX2) (N := 10) hx hb hts uX2 tyX2 tyX2_ok nmX2 hown hK hP hD hS 0 rfl rfl 2 (by decide) (hts _ k328) (fun _ h9 => h9) rfl (by decide +kernel) rfl rfl (Nat.le_of_ble_eq_true rfl) (show decode cX2_init 16 = .ok (.putfield 18, 3) by decide +kernel) (fun H locs hP hD hS => ?_)
  rename_i z0 z1 z2 z3 z4
  clear z0 z1 z2 z3 z4
  replace hP : va_P D CLS ((h0, .inr (2, [.int 0, .int 0, .int 0, .int 0, .null, .null, .null, .null, .null, .null])) :: [] : va_W) H := hP
  replace hD : va_D A ((h0, .inr (2, [.int 0, .int 0, .int 0, .int 0, .null, .null, .null, .null, .null, .null])) :: [] : va_W) := hD
  refine W.eq (g2 := F0 m 19 ls []) rfl ?_
  refine lv_aload_n hx hb (show decode cX2_init 19 = .ok (.aload_n 0, 1) by decide +kernel) rfl (lv_at hl 0 rfl) ?_
  refine lv_iconst (v := 0) hx hb (show decode cX2_init 20 = .ok (.iconst 0, 1) by decide +kernel) (by decide) ?_
  refine va_put (D := D) (ci := 2) (v := .int 0) (ty := .int) (C := RX2) (T := TX2) (N := 10) hx hb hts uX2 tyX2 tyX2_ok nmX2 hown hK hP hD hS 0 rfl rfl 3 (by decide) (hts _ k331) (fun _ h9 => h9) rfl (by decide +kernel) rfl rfl (Nat.le_of_ble_eq_true rfl) (show decode cX2_init 21 = .ok (.putfield 21, 3) by decide +kernel) (fun H locs hP hD hS => ?_)
  rename_i z0 z1 z2 z3 z4
  clear z0 z1 z2 z3 z4
  replace hP : va_P D CLS ((h0, .inr (2, [.int 0, .int 0, .int 0, .int 0, .null, .null, .null, .null, .null, .null])) :: [] : va_W) H := hP
  replace hD : va_D A ((h0, .inr (2, [.int 0, .int 0, .int 0, .int 0, .null, .null, .null, .null, .null, .null])) :: [] : va_W) := hD
  refine W.eq (g2 := F0 m 24 ls []) rfl ?_
  refine lv_aload_n hx hb (show decode cX2_init 24 = .ok (.aload_n 0, 1) by decide +kernel) rfl (lv_at hl 0 rfl) ?_
  refine lv_bipush (v := 6) hx hb (show decode cX2_init 25 = .ok (.bipush 6, 2) by decide +kernel) (by decide) ?_
  refine va_newa (D := D) (atype := .int) (a0 := (6, .inl (fun _ => 0))) hx hb (hts _ k125) rfl hK hP hD hS hA (fun _ => rfl) (by decide) (by decide) (by decide) (Nat.le_of_ble_eq_true rfl) (Nat.le_of_ble_eq_true rfl) (show decode cX2_init 27 = .ok (.newarray .int, 2) by decide +kernel) (fun q1 c1 H hK hP hD hS => ?_)
  rename_i z0 z1 z2 z3 z4
  clear z0 z1 z2 z3 z4
  refine W.widen (k := 1) (n := 6) (Nat.le_of_ble_eq_true rfl) (Nat.le_of_ble_eq_true rfl) ?_
  replace hP : va_P D CLS ((h0, .inr (2, [.int 0, .int 0, .int 0, .int 0, .null, .null, .null, .null, .null, .null])) :: ([(q1, .inl (c1, 6, .inl (fun _ => 0)))]) : va_W) H := hP
  replace hD : va_D A ((h0, .inr (2, [.int 0, .int 0, .int 0, .int 0, .null, .null, .null, .null, .null, .null])) :: ([(q1, .inl (c1, 6, .inl (fun _ => 0)))]) : va_W) := hD
  replace hK : va_K D CLS ([] ++ [(c1, .int)]) s := hK
  refine va_putF (D := D) (ci := 2) (v := .ref q1) (ty := .array .int) (C := RX2) (T := TX2) (N := 10) hx hb hts uX2 tyX2 tyX2_ok nmX2 hown hK hP hD hS 0 rfl rfl 4 (by decide) (hts _ k334) (fun _ h9 => h9) rfl hin rfl (by decide +kernel) rfl rfl (Nat.le_of_ble_eq_true rfl) (show decode cX2_init 29 = .ok (.putfield 24, 3) by decide +kernel) (fun H locs hP hD hS => ?_)
  rename_i z0 z1 z2 z3 z4
  clear z0 z1 z2 z3 z4
  replace hP : va_P D CLS ((h0, .inr (2, [.int 0, .int 0, .int 0, .int 0, .ref q1, .null, .null, .null, .null, .null])) :: ([(q1, .inl (c1, 6, .inl (fun _ => 0)))]) : va_W) H := hP
  replace hD : va_D A ((h0, .inr (2, [.int 0, .int 0, .int 0, .int 0, .ref q1, .null, .null, .null, .null, .null])) :: ([(q1, .inl (c1, 6, .inl (fun _ => 0)))]) : va_W) := hD
  refine W.eq (g2 := F0 m 32 ls []) rfl ?_
  refine lv_aload_n hx hb (show decode cX2_init 32 = .ok (.aload_n 0, 1) by decide +kernel) rfl (lv_at hl 0 rfl) ?_
  refine lv_bipush (v := 6) hx hb (show decode cX2_init 33 = .ok (.bipush 6, 2) by decide +kernel) (by decide) ?_
  refine va_newa (D := D) (atype := .int) (a0 := (6, .inl (fun _ => 0))) hx hb (hts _ k125) rfl hK hP hD hS hA (fun _ => rfl) (by decide) (by decide) (by decide) (Nat.le_of_ble_eq_true rfl) (Nat.le_of_ble_eq_true rfl) (show decode cX2_init 35 = .ok (.newarray .int, 2) by decide +kernel) (fun q2 c2 H hK hP hD hS => ?_)
  rename_i z0 z1 z2 z3 z4
  clear z0 z1 z2 z3 z4
  refine W.widen (k := 2) (n := 12) (Nat.le_of_ble_eq_true rfl) (Nat.le_of_ble_eq_true rfl) ?_
  replace hP : va_P D CLS ((h0, .inr (2, [.int 0, .int 0, .int 0, .int 0, .ref q1, .null, .null, .null, .null, .null])) :: ([(q1, .inl (c1, 6, .inl (fun _ => 0)))] ++ [(q2, .inl (c2, 6, .inl (fun _ => 0)))]) : va_W) H := hP
  replace hD : va_D A ((h0, .inr (2, [.int 0, .int 0, .int 0, .int 0, .ref q1, .null, .null, .null, .null, .null])) :: ([(q1, .inl (c1, 6, .inl (fun _ => 0)))] ++ [(q2, .inl (c2, 6, .inl (fun _ => 0)))]) : va_W) := hD
  replace hK : va_K D CLS ([] ++ [(c1, .int)] ++ [(c2, .int)]) s := hK
  refine va_putF (D := D) (ci := 2) (v := .ref q2) (ty := .array .int) (C := RX2) (T := TX2) (N := 10) hx hb hts uX2 tyX2 tyX2_ok nmX2 hown hK hP hD hS 0 rfl rfl 5 (by decide) (hts _ k336) (fun _ h9 => h9) rfl hin rfl (by decide +kernel) rfl rfl (Nat.le_of_ble_eq_true rfl) (show decode cX2_init 37 = .ok (.putfield 28, 3) by decide +kernel) (fun H locs hP hD hS => ?_)
  rename_i z0 z1 z2 z3 z4
  clear z0 z1 z2 z3 z4
  replace hP : va_P D CLS ((h0, .inr (2, [.int 0, .int 0, .int 0, .int 0, .ref q1, .ref q2, .null, .null, .null, .null])) :: ([(q1, .inl (c1, 6, .inl (fun _ => 0)))] ++ [(q2, .inl (c2, 6, .inl (fun _ => 0)))]) : va_W) H := hP
  replace hD : va_D A ((h0, .inr (2, [.int 0, .int 0, .int 0, .int 0, .ref q1, .ref q2, .null, .null, .null, .null])) :: ([(q1, .inl (c1, 6, .inl (fun _ => 0)))] ++ [(q2, .inl (c2, 6, .inl (fun _ => 0)))]) : va_W) := hD
  refine W.eq (g2 := F0 m 40 ls []) rfl ?_
  refine lv_aload_n hx hb (show decode cX2_init 40 = .ok (.aload_n 0, 1) by decide +kernel) rfl (lv_at hl 0 rfl) ?_
  refine lv_bipush (v := 6) hx hb (show decode cX2_init 41 = .ok (.bipush 6, 2) by decide +kernel) (by decide) ?_
  refine va_newa (D := D) (atype := .int) (a0 := (6, .inl (fun _ => 0))) hx hb (hts _ k125) rfl hK hP hD hS hA (fun _ => rfl) (by decide) (by decide) (by decide) (Nat.le_of_ble_eq_true rfl) (Nat.le_of_ble_eq_true rfl) (show decode cX2_init 43 = .ok (.newarray .int, 2) by decide +kernel) (fun q3 c3 H hK hP hD hS => ?_)
  rename_i z0 z1 z2 z3 z4
  clear z0 z1 z2 z3 z4
  refine W.widen (k := 3) (n := 18) (Nat.le_of_ble_eq_true rfl) (Nat.le_of_ble_eq_true rfl) ?_
  replace hP : va_P D CLS ((h0, .inr (2, [.int 0, .int 0, .int 0, .int 0, .ref q1, .ref q2, .null, .null, .null, .null])) :: ([(q1, .inl (c1, 6, .inl (fun _ => 0)))] ++ [(q2, .inl (c2, 6, .inl (fun _ => 0)))] ++ [(q3, .inl (c3, 6, .inl (fun _ => 0)))]) : va_W) H := hP
  replace hD : va_D A ((h0, .inr (2, [.int 0, .int 0, .int 0, .int 0, .ref q1, .ref q2, .null, .null, .null, .null])) :: ([(q1, .inl (c1, 6, .inl (fun _ => 0)))] ++ [(q2, .inl (c2, 6, .inl (fun _ => 0)))] ++ [(q3, .inl (c3, 6, .inl (fun _ => 0)))]) : va_W) := hD
  replace hK : va_K D CLS ([] ++ [(c1, .int)] ++ [(c2, .int)] ++ [(c3, .int)]) s := hK
  refine va_putF (D := D) (ci := 2) (v := .ref q3) (ty := .array .int) (C := RX2) (T := TX2) (N := 10) hx hb hts uX2 tyX2 tyX2_ok nmX2 hown hK hP hD hS 0 rfl rfl 6 (by decide) (hts _ k338) (fun _ h9 => h9) rfl hin rfl (by decide +kernel) rfl rfl (Nat.le_of_ble_eq_true rfl) (show decode cX2_init 45 = .ok (.putfield 31, 3) by decide +kernel) (fun H locs hP hD hS => ?_)
  rename_i z0 z1 z2 z3 z4
  clear z0 z1 z2 z3 z4
  replace hP : va_P D CLS ((h0, .inr (2, [.int 0, .int 0, .int 0, .int 0, .ref q1, .ref q2, .ref q3, .null, .null, .null])) :: ([(q1, .inl (c1, 6, .inl (fun _ => 0)))] ++ [(q2, .inl (c2, 6, .inl (fun _ => 0)))] ++ [(q3, .inl (c3, 6, .inl (fun _ => 0)))]) : va_W) H := hP
  replace hD : va_D A ((h0, .inr (2, [.int 0, .int 0, .int 0, .int 0, .ref q1, .ref q2, .ref q3, .null, .null, .null])) :: ([(q1, .inl (c1, 6, .inl (fun _ => 0)))] ++ [(q2, .inl (c2, 6, .inl (fun _ => 0)))] ++ [(q3, .inl (c3, 6, .inl (fun _ => 0)))]) : va_W) := hD
  refine W.eq (g2 := F0 m 48 ls []) rfl ?_
  refine lv_aload_n hx hb (show decode cX2_init 48 = .ok (.aload_n 0, 1) by decide +kernel) rfl (lv_at hl 0 rfl) ?_
  refine lv_bipush (v := 7) hx hb (show decode cX2_init 49 = .ok (.bipush 7, 2) by decide +kernel) (by decide) ?_
  refine va_newa (D := D) (atype := .int) (a0 := (7, .inl (fun _ => 0))) hx hb (hts _ k125) rfl hK hP hD hS hA (fun _ => rfl) (by decide) (by decide) (by decide) (Nat.le_of_ble_eq_true rfl) (Nat.le_of_ble_eq_true rfl) (show decode cX2_init 51 = .ok (.newarray .int, 2) by decide +kernel) (fun q4 c4 H hK hP hD hS => ?_)
  rename_i z0 z1 z2 z3 z4
  clear z0 z1 z2 z3 z4
  refine W.widen (k := 4) (n := 25) (Nat.le_of_ble_eq_true rfl) (Nat.le_of_ble_eq_true rfl) ?_
  replace hP : va_P D CLS ((h0, .inr (2, [.int 0, .int 0, .int 0, .int 0, .ref q1, .ref q2, .ref q3, .null, .null, .null])) :: ([(q1, .inl (c1, 6, .inl (fun _ => 0)))] ++ [(q2, .inl (c2, 6, .inl (fun _ => 0)))] ++ [(q3, .inl (c3, 6, .inl (fun _ => 0)))] ++ [(q4, .inl (c4, 7, .inl (fun _ => 0)))]) : va_W) H := hP
  replace hD : va_D A ((h0, .inr (2, [.int 0, .int 0, .int 0, .int 0, .ref q1, .ref q2, .ref q3, .null, .null, .null])) :: ([(q1, .inl (c1, 6, .inl (fun _ => 0)))] ++ [(q2, .inl (c2, 6, .inl (fun _ => 0)))] ++ [(q3, .inl (c3, 6, .inl (fun _ => 0)))] ++ [(q4, .inl (c4, 7, .inl (fun _ => 0)))]) : va_W) := hD
  replace hK : va_K D CLS ([] ++ [(c1, .int)] ++ [(c2, .int)] ++ [(c3, .int)] ++ [(c4, .int)]) s := hK
  refine va_putF (D := D) (ci := 2) (v := .ref q4) (ty := .array .int) (C := RX2) (T := TX2) (N := 10) hx hb hts uX2 tyX2 tyX2_ok nmX2 hown hK hP hD hS 0 rfl rfl 7 (by decide) (hts _ k340) (fun _ h9 => h9) rfl hin rfl (by decide +kernel) rfl rfl (Nat.le_of_ble_eq_true rfl) (show decode cX2_init 53 = .ok (.putfield 34, 3) by decide +kernel) (fun H locs hP hD hS => ?_)
  rename_i z0 z1 z2 z3 z4
  clear z0 z1 z2 z3 z4
  replace hP : va_P D CLS ((h0, .inr (2, [.int 0, .int 0, .int 0, .int 0, .ref q1, .ref q2, .ref q3, .ref q4, .null, .null])) :: ([(q1, .inl (c1, 6, .inl (fun _ => 0)))] ++ [(q2, .inl (c2, 6, .inl (fun _ => 0)))] ++ [(q3, .inl (c3, 6, .inl (fun _ => 0)))] ++ [(q4, .inl (c4, 7, .inl (fun _ => 0)))]) : va_W) H := hP
  replace hD : va_D A ((h0, .inr (2, [.int 0, .int 0, .int 0, .int 0, .ref q1, .ref q2, .ref q3, .ref q4, .null, .null])) :: ([(q1, .inl (c1, 6, .inl (fun _ => 0)))] ++ [(q2, .inl (c2, 6, .inl (fun _ => 0)))] ++ [(q3, .inl (c3, 6, .inl (fun _ => 0)))] ++ [(q4, .inl (c4, 7, .inl (fun _ => 0)))]) : va_W) := hD
  refine W.eq (g2 := F0 m 56 ls []) rfl ?_
  refine lv_aload_n hx hb (show decode cX2_init 56 = .ok (.aload_n 0, 1) by decide +kernel) rfl (lv_at hl 0 rfl) ?_
  refine lv_bipush (v := 7) hx hb (show decode cX2_init 57 = .ok (.bipush 7, 2) by decide +kernel) (by decide) ?_
  refine va_newa (D := D) (atype := .int) (a0 := (7, .inl (fun _ => 0))) hx hb (hts _ k125) rfl hK hP hD hS hA (fun _ => rfl) (by decide) (by decide) (by decide) (Nat.le_of_ble_eq_true rfl) (Nat.le_of_ble_eq_true rfl) (show decode cX2_init 59 = .ok (.newarray .int, 2) by decide +kernel) (fun q5 c5 H hK hP hD hS => ?_)
  rename_i z0 z1 z2 z3 z4
  clear z0 z1 z2 z3 z4
  refine W.widen (k := 5) (n := 32) (Nat.le_of_ble_eq_true rfl) (Nat.le_of_ble_eq_true rfl) ?_
  replace hP : va_P D CLS ((h0, .inr (2, [.int 0, .int 0, .int 0, .int 0, .ref q1, .ref q2, .ref q3, .ref q4, .null, .null])) :: ([(q1, .inl (c1, 6, .inl (fun _ => 0)))] ++ [(q2, .inl (c2, 6, .inl (fun _ => 0)))] ++ [(q3, .inl (c3, 6, .inl (fun _ => 0)))] ++ [(q4, .inl (c4, 7, .inl (fun _ => 0)))] ++ [(q5, .inl (c5, 7, .inl (fun _ => 0)))]) : va_W) H := hP
  replace hD : va_D A ((h0, .inr (2, [.int 0, .int 0, .int 0, .int 0, .ref q1, .ref q2, .ref q3, .ref q4, .null, .null])) :: ([(q1, .inl (c1, 6, .inl (fun _ => 0)))] ++ [(q2, .inl (c2, 6, .inl (fun _ => 0)))] ++ [(q3, .inl (c3, 6, .inl (fun _ => 0)))] ++ [(q4, .inl (c4, 7, .inl (fun _ => 0)))] ++ [(q5, .inl (c5, 7, .inl (fun _ => 0)))]) : va_W) := hD
  replace hK : va_K D CLS ([] ++ [(c1, .int)] ++ [(c2, .int)] ++ [(c3, .int)] ++ [(c4, .int)] ++ [(c5, .int)]) s := hK
  refine va_putF (D := D) (ci := 2) (v := .ref q5) (ty := .array .int) (C := RX2) (T := TX2) (N := 10) hx hb hts uX2 tyX2 tyX2_ok nmX2 hown hK hP hD hS 0 rfl rfl 8 (by decide) (hts _ k344) (fun _ h9 => h9) rfl hin rfl (by decide +kernel) rfl rfl (Nat.le_of_ble_eq_true rfl) (show decode cX2_init 61 = .ok (.putfield 37, 3) by decide +kernel) (fun H locs hP hD hS => ?_)
  rename_i z0 z1 z2 z3 z4
  clear z0 z1 z2 z3 z4
  replace hP : va_P D CLS ((h0, .inr (2, [.int 0, .int 0, .int 0, .int 0, .ref q1, .ref q2, .ref q3, .ref q4, .ref q5, .null])) :: ([(q1, .inl (c1, 6, .inl (fun _ => 0)))] ++ [(q2, .inl (c2, 6, .inl (fun _ => 0)))] ++ [(q3, .inl (c3, 6, .inl (fun _ => 0)))] ++ [(q4, .inl (c4, 7, .inl (fun _ => 0)))] ++ [(q5, .inl (c5, 7, .inl (fun _ => 0)))]) : va_W) H := hP
  replace hD : va_D A ((h0, .inr (2, [.int 0, .int 0, .int 0, .int 0, .ref q1, .ref q2, .ref q3, .ref q4, .ref q5, .null])) :: ([(q1, .inl (c1, 6, .inl (fun _ => 0)))] ++ [(q2, .inl (c2, 6, .inl (fun _ => 0)))] ++ [(q3, .inl (c3, 6, .inl (fun _ => 0)))] ++ [(q4, .inl (c4, 7, .inl (fun _ => 0)))] ++ [(q5, .inl (c5, 7, .inl (fun _ => 0)))]) : va_W) := hD
  refine W.eq (g2 := F0 m 64 ls []) rfl ?_
  refine lv_aload_n hx hb (show decode cX2_init 64 = .ok (.aload_n 0, 1) by decide +kernel) rfl (lv_at hl 0 rfl) ?_
  refine lv_bipush (v := 8) hx hb (show decode cX2_init 65 = .ok (.bipush 8, 2) by decide +kernel) (by decide) ?_
  refine va_newa (D := D) (atype := .int) (a0 := (8, .inl (fun _ => 0))) hx hb (hts _ k125) rfl hK hP hD hS hA (fun _ => rfl) (by decide) (by decide) (by decide) (Nat.le_of_ble_eq_true rfl) (Nat.le_of_ble_eq_true rfl) (show decode cX2_init 67 = .ok (.newarray .int, 2) by decide +kernel) (fun q6 c6 H hK hP hD hS => ?_)
  rename_i z0 z1 z2 z3 z4
  clear z0 z1 z2 z3 z4
  refine W.widen (k := 6) (n := 40) (Nat.le_of_ble_eq_true rfl) (Nat.le_of_ble_eq_true rfl) ?_
  replace hP : va_P D CLS ((h0, .inr (2, [.int 0, .int 0, .int 0, .int 0, .ref q1, .ref q2, .ref q3, .ref q4, .ref q5, .null])) :: ([(q1, .inl (c1, 6, .inl (fun _ => 0)))] ++ [(q2, .inl (c2, 6, .inl (fun _ => 0)))] ++ [(q3, .inl (c3, 6, .inl (fun _ => 0)))] ++ [(q4, .inl (c4, 7, .inl (fun _ => 0)))] ++ [(q5, .inl (c5, 7, .inl (fun _ => 0)))] ++ [(q6, .inl (c6, 8, .inl (fun _ => 0)))]) : va_W) H := hP
  replace hD : va_D A ((h0, .inr (2, [.int 0, .int 0, .int 0, .int 0, .ref q1, .ref q2, .ref q3, .ref q4, .ref q5, .null])) :: ([(q1, .inl (c1, 6, .inl (fun _ => 0)))] ++ [(q2, .inl (c2, 6, .inl (fun _ => 0)))] ++ [(q3, .inl (c3, 6, .inl (fun _ => 0)))] ++ [(q4, .inl (c4, 7, .inl (fun _ => 0)))] ++ [(q5, .inl (c5, 7, .inl (fun _ => 0)))] ++ [(q6, .inl (c6, 8, .inl (fun _ => 0)))]) : va_W) := hD
  replace hK : va_K D CLS ([] ++ [(c1, .int)] ++ [(c2, .int)] ++ [(c3, .int)] ++ [(c4, .int)] ++ [(c5, .int)] ++ [(c6, .int)]) s := hK
  refine va_putF (D := D) (ci := 2) (v := .ref q6) (ty := .array .int) (C := RX2) (T := TX2) (N := 10) hx hb hts uX2 tyX2 tyX2_ok nmX2 hown hK hP hD hS 0 rfl rfl 9 (by decide) (hts _ k348) (fun _ h9 => h9) rfl hin rfl (by decide +kernel) rfl rfl (Nat.le_of_ble_eq_true rfl) (show decode cX2_init 69 = .ok (.putfield 40, 3) by decide +kernel) (fun H locs hP hD hS => ?_)
  rename_i z0 z1 z2 z3 z4
  clear z0 z1 z2 z3 z4
  replace hP : va_P D CLS ((h0, .inr (2, [.int 0, .int 0, .int 0, .int 0, .ref q1, .ref q2, .ref q3, .ref q4, .ref q5, .ref q6])) :: ([(q1, .inl (c1, 6, .inl (fun _ => 0)))] ++ [(q2, .inl (c2, 6, .inl (fun _ => 0)))] ++ [(q3, .inl (c3, 6, .inl (fun _ => 0)))] ++ [(q4, .inl (c4, 7, .inl (fun _ => 0)))] ++ [(q5, .inl (c5, 7, .inl (fun _ => 0)))] ++ [(q6, .inl (c6, 8, .inl (fun _ => 0)))]) : va_W) H := hP
  replace hD : va_D A ((h0, .inr (2, [.int 0, .int 0, .int 0, .int 0, .ref q1, .ref q2, .ref q3, .ref q4, .ref q5, .ref q6])) :: ([(q1, .inl (c1, 6, .inl (fun _ => 0)))] ++ [(q2, .inl (c2, 6, .inl (fun _ => 0)))] ++ [(q3, .inl (c3, 6, .inl (fun _ => 0)))] ++ [(q4, .inl (c4, 7, .inl (fun _ => 0)))] ++ [(q5, .inl (c5, 7, .inl (fun _ => 0)))] ++ [(q6, .inl (c6, 8, .inl (fun _ => 0)))]) : va_W) := hD
  refine W.eq (g2 := F0 m 72 ls []) rfl ?_
  obtain ⟨L, hL⟩ : ∃ L : LAM, L = fun k => bif Nat.ble k 0 then (h0, D.1 0) else bif Nat.ble k 1 then (q1, c1) else bif Nat.ble k 2 then (q2, c2) else bif Nat.ble k 3 then (q3, c3) else bif Nat.ble k 4 then (q4, c4) else bif Nat.ble k 5 then (q5, c5) else bif Nat.ble k 6 then (q6, c6) else (0, D.1 0) := ⟨_, rfl⟩
  have hP9 : va_P D CLS (w2 L) H := by rw [hL]; exact hP
  have hD9 : va_D A (w2 L) := by rw [hL]; exact hD
  have hK9 : va_K D CLS (kC2 L) s := by rw [hL]; exact hK
  refine W.widen (k := 6) (n := 40) (Nat.le_of_ble_eq_true rfl) (Nat.le_of_ble_eq_true rfl) ?_
  exact W.vret hx hb hr (fun t ht hW => ⟨⟨L, rfl, by rw [hL]; rfl, by rw [ht]; exact hP9, va_K.moved hW.alike hK9, hD9⟩, hS.F ht⟩) hS.2.2 (show decode cX2_init 72 = .ok (.return_, 1) by decide +kernel)
def w0 (L : LAM) (r0 : Nat → Option Nat) : va_W := ((L 0).1, .inr (0, [.int (-1), .int 0, .int 0, .int 0, .int 0, .ref (L 1).1, .int 0, .ref (L 2).1, .ref (L 8).1])) :: ([((L 1).1, .inl ((L 1).2, 7, .inl (fun _ => 0)))] ++ (((L 2).1, .inl ((L 2).2, 5, .inr (.inr (.inr (.inr r0))))) :: [((L 3).1, .inl ((L 3).2, 6, .inl (fun _ => 0))), ((L 4).1, .inl ((L 4).2, 6, .inl (fun _ => 0))), ((L 5).1, .inl ((L 5).2, 6, .inl (fun _ => 0))), ((L 6).1, .inl ((L 6).2, 6, .inl (fun _ => 0))), ((L 7).1, .inl ((L 7).2, 6, .inl (fun _ => 0)))]) ++ [((L 8).1, .inl ((L 8).2, 6, .inl (fun _ => 0)))])
def kC0 (L : LAM) : List (ClassId × FieldType) := [] ++ [((L 1).2, .int)] ++ (((L 2).2, .array .int) :: [((L 3).2, .int), ((L 4).2, .int), ((L 5).2, .int), ((L 6).2, .int), ((L 7).2, .int)]) ++ [((L 8).2, .int)]
set_option maxHeartbeats 4000000 in
set_option maxRecDepth 100000 in
theorem cn0 (l : Launch) (D : va_G) (h0 sz : Nat) : Met l yX0_init (.code yX0_init cX0_init 1 none :: GW) ({ frames := 2, cells := 8, slots := 48, locals := 100 }) (va_Pc [.ref h0] (fun U => U.heap.size = sz ∧ va_P D CLS [(h0, .inr (0, [.int 0, .int 0, .int 0, .int 0, .int 0, .null, .int 0, .null, .null]))] U.heap ∧ va_K D CLS [] U ∧ va_D (fun _ => True) [(h0, .inr (0, [.int 0, .int 0, .int 0, .int 0, .int 0, .null, .int 0, .null, .null]))] ∧ XW U)) (va_Qv (fun L : LAM => (L 0).1 = h0) (fun L U => va_P D CLS (w0 L (lgt [(L 3).1, (L 4).1, (L 5).1, (L 6).1, (L 7).1])) U.heap ∧ va_K D CLS (kC0 L) U ∧ va_D (va_A [(h0, .inr (0, [.int 0, .int 0, .int 0, .int 0, .int 0, .null, .int 0, .null, .null]))] sz) (w0 L (lgt [(L 3).1, (L 4).1, (L 5).1, (L 6).1, (L 7).1]))) (va_A [(h0, .inr (0, [.int 0, .int 0, .int 0, .int 0, .int 0, .null, .int 0, .null, .null]))] sz)) 8 48 (va_A [(h0, .inr (0, [.int 0, .int 0, .int 0, .int 0, .int 0, .null, .int 0, .null, .null]))] sz) := by
  refine Met.ofW (cc := cX0_init) (maxL := 1) (ret := none) (by decide) rfl ?_
  intro p e s m args below meth c s₁ B hml hv
  obtain ⟨rfl, hsz, hP, hK, hD0, hXW⟩ := hv
  have hx := B.exec
  have hb := B.bytes
  have hr := B.returns
  have hts := atoms_spec (ws := .code yX0_init cX0_init 1 none :: GW) B.pre
  have hts := fun w hw => hts w (List.mem_cons_of_mem _ hw)
  have hown : s.vm.findClass RX0 = some m.cls := findClass_of_methodNamed B.named
  have hlocks := B.notSynchronized
  have hin : meth.name = "<init>" := (name_of_methodNamed B.named B.method).1
  subst hsz
  have hD := hD0.self (sz := s.heap.size)
  generalize hAe : va_A [(h0, .inr (0, [.int 0, .int 0, .int 0, .int 0, .int 0, .null, .int 0, .null, .null]))] s.heap.size = A at hD ⊢
  have hA : ∀ q : Nat, s.heap.size ≤ q → A q := fun q h => by rw [← hAe]; exact Or.inr h
  have hS : va_S A s.heap s.heap [] := va_S.rf
  have hl := lv_entry ([.ref h0]) (n := 1) (Nat.le_of_ble_eq_true rfl)
  rw [lg_entry_eq]
  generalize (lg_sl ([.ref h0]) ++ List.replicate (1 - (lg_sl ([.ref h0])).length) Slot.unset).toArray = ls at hl ⊢
  have hl : lv_has ls 1 [(0, .ref h0)] := hl
  skip
  refine lv_aload_n hx hb (show decode cX0_init 0 = .ok (.aload_n 0, 1) by decide +kernel) rfl (lv_at hl 0 rfl) ?_
  refine W.objInit hx hb hown (hts _ k193) (hts _ k101) (hts _ k102) rfl (by rw [hml]; exact hl.1) rfl (show decode cX0_init 1 = .ok (.invokespecial 3, 3) by decide +kernel) (Nat.le_of_ble_eq_true rfl) (Nat.le_of_ble_eq_true rfl) ?_
  refine W.eq (g2 := F0 m 4 ls []) rfl ?_
  refine lv_aload_n hx hb (show decode cX0_init 4 = .ok (.aload_n 0, 1) by decide +kernel) rfl (lv_at hl 0 rfl) ?_
  refine lv_iconst (v := -1) hx hb (show decode cX0_init 5 = .ok (.iconst (-1), 1) by decide +kernel) (by decide) ?_
  refine va_put (D := D) (ci := 0) (v := .int (-1)) (ty := .int) (C := RX0) (T := TX0) (N := 9) hx hb hts uX0 tyX0 tyX0_ok nmX0 hown hK hP hD hS 0 rfl rfl 0 (by decide) (hts _ k195) (fun _ h9 => h9) rfl (by decide +kernel) rfl rfl (Nat.le_of_ble_eq_true rfl) (show decode cX0_init 6 = .ok (.putfield 9, 3) by decide +kernel) (fun H locs hP hD hS => ?_)
  rename_i z0 z1 z2
  clear z0 z1 z2
  replace hP : va_P D CLS ((h0, .inr (0, [.int (-1), .int 0, .int 0, .int 0, .int 0, .null, .int 0, .null, .null])) :: [] : va_W) H := hP
  replace hD : va_D A ((h0, .inr (0, [.int (-1), .int 0, .int 0, .int 0, .int 0, .null, .int 0, .null, .null])) :: [] : va_W) := hD
  refine W.eq (g2 := F0 m 9 ls []) rfl ?_
  refine lv_aload_n hx hb (show decode cX0_init 9 = .ok (.aload_n 0, 1) by decide +kernel) rfl (lv_at hl 0 rfl) ?_
  refine lv_iconst (v := 0) hx hb (show decode cX0_init 10 = .ok (.iconst 0, 1) by decide +kernel) (by decide) ?_
  refine va_put (D := D) (ci := 0) (v := .int 0) (ty := .int) (C := RX0) (T := TX0) (N := 9) hx hb hts uX0 tyX0 tyX0_ok nmX0 hown hK hP hD hS 0 rfl rfl 1 (by decide) (hts _ k197) (fun _ h9 => h9) rfl (by decide +kernel) rfl rfl (Nat.le_of_ble_eq_true rfl) (show decode cX0_init 11 = .ok (.putfield 15, 3) by decide +kernel) (fun H locs hP hD hS => ?_)
  rename_i z0 z1 z2 z3 z4
  clear z0 z1 z2 z3 z4
  replace hP : va_P D CLS ((h0, .inr (0, [.int (-1), .int 0, .int 0, .int 0, .int 0, .null, .int 0, .null, .null])) :: [] : va_W) H := hP
  replace hD : va_D A ((h0, .inr (0, [.int (-1), .int 0, .int 0, .int 0, .int 0, .null, .int 0, .null, .null])) :: [] : va_W) := hD
  refine W.eq (g2 := F0 m 14 ls []) rfl ?_
  refine lv_aload_n hx hb (show decode cX0_init 14 = .ok (.aload_n 0, 1) by decide +kernel) rfl (lv_at hl 0 rfl) ?_
  refine lv_iconst (v := 0) hx hb (show decode cX0_init 15 = .ok (.iconst 0, 1) by decide +kernel) (by decide) ?_
  refine va_put (D := D) (ci := 0) (v := .int 0) (ty := .int) (C := RX0) (T := TX0) (N := 9) hx hb hts uX0 tyX0 tyX0_ok nmX0 hown hK hP hD hS 0 rfl rfl 2 (by decide) (hts _ k201) (fun _ h9 => h9) rfl (by decide +kernel) rfl rfl (Nat.le_of_ble_eq_true rfl) (show decode cX0_init 16 = .ok (.putfield 18, 3) by decide +kernel) (fun H locs hP hD hS => ?_)
  rename_i z0 z1 z2 z3 z4
  clear z0 z1 z2 z3 z4
  replace hP : va_P D CLS ((h0, .inr (0, [.int (-1), .int 0, .int 0, .int 0, .int 0, .null, .int 0, .null, .null])) :: [] : va_W) H := hP
  replace hD : va_D A ((h0, .inr (0, [.int (-1), .int 0, .int 0, .int 0, .int 0, .null, .int 0, .null, .null])) :: [] : va_W) := hD
  refine W.eq (g2 := F0 m 19 ls []) rfl ?_
  refine lv_aload_n hx hb (show decode cX0_init 19 = .ok (.aload_n 0, 1) by decide +kernel) rfl (lv_at hl 0 rfl) ?_
  refine lv_iconst (v := 0) hx hb (show decode cX0_init 20 = .ok (.iconst 0, 1) by decide +kernel) (by decide) ?_
  refine va_put (D := D) (ci := 0) (v := .int 0) (ty := .int) (C := RX0) (T := TX0) (N := 9) hx hb hts uX0 tyX0 tyX0_ok nmX0 hown hK hP hD hS 0 rfl rfl 3 (by decide) (hts _ k205) (fun _ h9 => h9) rfl (by decide +kernel) rfl rfl (Nat.le_of_ble_eq_true rfl) (show decode cX0_init 21 = .ok (.putfield 21, 3) by decide +kernel) (fun H locs hP hD hS => ?_)
  rename_i z0 z1 z2 z3 z4
  clear z0 z1 z2 z3 z4
  replace hP : va_P D CLS ((h0, .inr (0, [.int (-1), .int 0, .int 0, .int 0, .int 0, .null, .int 0, .null, .null])) :: [] : va_W) H := hP
  replace hD : va_D A ((h0, .inr (0, [.int (-1), .int 0, .int 0, .int 0, .int 0, .null, .int 0, .null, .null])) :: [] : va_W) := hD
  refine W.eq (g2 := F0 m 24 ls []) rfl ?_
  refine lv_aload_n hx hb (show decode cX0_init 24 = .ok (.aload_n 0, 1) by decide +kernel) rfl (lv_at hl 0 rfl) ?_
  refine lv_iconst (v := 0) hx hb (show decode cX0_init 25 = .ok (.iconst 0, 1) by decide +kernel) (by decide) ?_
  refine va_put (D := D) (ci := 0) (v := .int 0) (ty := .int) (C := RX0) (T := TX0) (N := 9) hx hb hts uX0 tyX0 tyX0_ok nmX0 hown hK hP hD hS 0 rfl rfl 4 (by decide) (hts _ k207) (fun _ h9 => h9) rfl (by decide +kernel) rfl rfl (Nat.le_of_ble_eq_true rfl) (show decode cX0_init 26 = .ok (.putfield 24, 3) by decide +kernel) (fun H locs hP hD hS => ?_)
  rename_i z0 z1 z2 z3 z4
  clear z0 z1 z2 z3 z4
  replace hP : va_P D CLS ((h0, .inr (0, [.int (-1), .int 0, .int 0, .int 0, .int 0, .null, .int 0, .null, .null])) :: [] : va_W) H := hP
  replace hD : va_D A ((h0, .inr (0, [.int (-1), .int 0, .int 0, .int 0, .int 0, .null, .int 0, .null, .null])) :: [] : va_W) := hD
  refine W.eq (g2 := F0 m 29 ls []) rfl ?_
  refine lv_aload_n hx hb (show decode cX0_init 29 = .ok (.aload_n 0, 1) by decide +kernel) rfl (lv_at hl 0 rfl) ?_
  refine lv_bipush (v := 7) hx hb (show decode cX0_init 30 = .ok (.bipush 7, 2) by decide +kernel) (by decide) ?_
  refine va_newa (D := D) (atype := .int) (a0 := (7, .inl (fun _ => 0))) hx hb (hts _ k125) rfl hK hP hD hS hA (fun _ => rfl) (by decide) (by decide) (by decide) (Nat.le_of_ble_eq_true rfl) (Nat.le_of_ble_eq_true rfl) (show decode cX0_init 32 = .ok (.newarray .int, 2) by decide +kernel) (fun q1 c1 H hK hP hD hS => ?_)
  rename_i z0 z1 z2 z3 z4
  clear z0 z1 z2 z3 z4
  refine W.widen (k := 1) (n := 7) (Nat.le_of_ble_eq_true rfl) (Nat.le_of_ble_eq_true rfl) ?_
  replace hP : va_P D CLS ((h0, .inr (0, [.int (-1), .int 0, .int 0, .int 0, .int 0, .null, .int 0, .null, .null])) :: ([(q1, .inl (c1, 7, .inl (fun _ => 0)))]) : va_W) H := hP
  replace hD : va_D A ((h0, .inr (0, [.int (-1), .int 0, .int 0, .int 0, .int 0, .null, .int 0, .null, .null])) :: ([(q1, .inl (c1, 7, .inl (fun _ => 0)))]) : va_W) := hD
  replace hK : va_K D CLS ([] ++ [(c1, .int)]) s := hK
  refine va_putF (D := D) (ci := 0) (v := .ref q1) (ty := .array .int) (C := RX0) (T := TX0) (N := 9) hx hb hts uX0 tyX0 tyX0_ok nmX0 hown hK hP hD hS 0 rfl rfl 5 (by decide) (hts _ k209) (fun _ h9 => h9) rfl hin rfl (by decide +kernel) rfl rfl (Nat.le_of_ble_eq_true rfl) (show decode cX0_init 34 = .ok (.putfield 27, 3) by decide +kernel) (fun H locs hP hD hS => ?_)
  rename_i z0 z1 z2 z3 z4
  clear z0 z1 z2 z3 z4
  replace hP : va_P D CLS ((h0, .inr (0, [.int (-1), .int 0, .int 0, .int 0, .int 0, .ref q1, .int 0, .null, .null])) :: ([(q1, .inl (c1, 7, .inl (fun _ => 0)))]) : va_W) H := hP
  replace hD : va_D A ((h0, .inr (0, [.int (-1), .int 0, .int 0, .int 0, .int 0, .ref q1, .int 0, .null, .null])) :: ([(q1, .inl (c1, 7, .inl (fun _ => 0)))]) : va_W) := hD
  refine W.eq (g2 := F0 m 37 ls []) rfl ?_
  refine lv_aload_n hx hb (show decode cX0_init 37 = .ok (.aload_n 0, 1) by decide +kernel) rfl (lv_at hl 0 rfl) ?_
  refine lv_iconst (v := 0) hx hb (show decode cX0_init 38 = .ok (.iconst 0, 1) by decide +kernel) (by decide) ?_
  refine va_put (D := D) (ci := 0) (v := .int 0) (ty := .int) (C := RX0) (T := TX0) (N := 9) hx hb hts uX0 tyX0 tyX0_ok nmX0 hown hK hP hD hS 0 rfl rfl 6 (by decide) (hts _ k211) (fun _ h9 => h9) rfl (by decide +kernel) rfl rfl (Nat.le_of_ble_eq_true rfl) (show decode cX0_init 39 = .ok (.putfield 31, 3) by decide +kernel) (fun H locs hP hD hS => ?_)
  rename_i z0 z1 z2 z3 z4
  clear z0 z1 z2 z3 z4
  replace hP : va_P D CLS ((h0, .inr (0, [.int (-1), .int 0, .int 0, .int 0, .int 0, .ref q1, .int 0, .null, .null])) :: ([(q1, .inl (c1, 7, .inl (fun _ => 0)))]) : va_W) H := hP
  replace hD : va_D A ((h0, .inr (0, [.int (-1), .int 0, .int 0, .int 0, .int 0, .ref q1, .int 0, .null, .null])) :: ([(q1, .inl (c1, 7, .inl (fun _ => 0)))]) : va_W) := hD
  refine W.eq (g2 := F0 m 42 ls []) rfl ?_
  refine lv_aload_n hx hb (show decode cX0_init 42 = .ok (.aload_n 0, 1) by decide +kernel) rfl (lv_at hl 0 rfl) ?_
  refine lv_iconst (v := 5) hx hb (show decode cX0_init 43 = .ok (.iconst 5, 1) by decide +kernel) (by decide) ?_
  refine lv_bipush (v := 6) hx hb (show decode cX0_init 44 = .ok (.bipush 6, 2) by decide +kernel) (by decide) ?_
  refine va_mna (D := D) hx hb hown (hts _ k194) hXW.1 (hts _ k125) hK hP hD hS hA (N := 5) (K := 6) (by decide) (by decide) (by decide) (by decide) (by decide) (by decide) (Nat.le_of_ble_eq_true rfl) (Nat.le_of_ble_eq_true rfl) (show decode cX0_init 46 = .ok (.multianewarray 34 2, 4) by decide +kernel) (fun q2 c2 b2 H locs hK hP hD hS => ?_)
  rename_i z0 z1 z2 z3 z4 z5
  clear z0 z1 z2 z3 z4 z5
  refine W.widen (k := 7) (n := 42) (Nat.le_of_ble_eq_true rfl) (Nat.le_of_ble_eq_true rfl) ?_
  replace hP : va_P D CLS ((h0, .inr (0, [.int (-1), .int 0, .int 0, .int 0, .int 0, .ref q1, .int 0, .null, .null])) :: ([(q1, .inl (c1, 7, .inl (fun _ => 0)))] ++ mwX q2 c2 b2 5 6 (orF q2 5)) : va_W) H := hP
  replace hD : va_D A ((h0, .inr (0, [.int (-1), .int 0, .int 0, .int 0, .int 0, .ref q1, .int 0, .null, .null])) :: ([(q1, .inl (c1, 7, .inl (fun _ => 0)))] ++ mwX q2 c2 b2 5 6 (orF q2 5)) : va_W) := hD
  rw [orF_5] at hP hD
  replace hK : va_K D CLS ([] ++ [(c1, .int)] ++ mkC c2 b2 5) s := hK
  refine va_putF (D := D) (ci := 0) (v := .ref q2) (ty := .array (.array .int)) (C := RX0) (T := TX0) (N := 9) hx hb hts uX0 tyX0 tyX0_ok nmX0 hown hK hP hD hS 0 rfl rfl 7 (by decide) (hts _ k212) (fun _ h9 => h9) rfl hin rfl (by decide +kernel) rfl rfl (Nat.le_of_ble_eq_true rfl) (show decode cX0_init 50 = .ok (.putfield 36, 3) by decide +kernel) (fun H locs hP hD hS => ?_)
  rename_i z0 z1 z2 z3 z4
  clear z0 z1 z2 z3 z4
  replace hP : va_P D CLS ((h0, .inr (0, [.int (-1), .int 0, .int 0, .int 0, .int 0, .ref q1, .int 0, .ref q2, .null])) :: ([(q1, .inl (c1, 7, .inl (fun _ => 0)))] ++ mwX q2 c2 b2 5 6 (lgt [q2 + 1 + 0, q2 + 1 + 1, q2 + 1 + 2, q2 + 1 + 3, q2 + 1 + 4])) : va_W) H := hP
  replace hD : va_D A ((h0, .inr (0, [.int (-1), .int 0, .int 0, .int 0, .int 0, .ref q1, .int 0, .ref q2, .null])) :: ([(q1, .inl (c1, 7, .inl (fun _ => 0)))] ++ mwX q2 c2 b2 5 6 (lgt [q2 + 1 + 0, q2 + 1 + 1, q2 + 1 + 2, q2 + 1 + 3, q2 + 1 + 4])) : va_W) := hD
  refine W.eq (g2 := F0 m 53 ls []) rfl ?_
  refine lv_aload_n hx hb (show decode cX0_init 53 = .ok (.aload_n 0, 1) by decide +kernel) rfl (lv_at hl 0 rfl) ?_
  refine lv_bipush (v := 6) hx hb (show decode cX0_init 54 = .ok (.bipush 6, 2) by decide +kernel) (by decide) ?_
  refine va_newa (D := D) (atype := .int) (a0 := (6, .inl (fun _ => 0))) hx hb (hts _ k125) rfl hK hP hD hS hA (fun _ => rfl) (by decide) (by decide) (by decide) (Nat.le_of_ble_eq_true rfl) (Nat.le_of_ble_eq_true rfl) (show decode cX0_init 56 = .ok (.newarray .int, 2) by decide +kernel) (fun q3 c3 H hK hP hD hS => ?_)
  rename_i z0 z1 z2 z3 z4
  clear z0 z1 z2 z3 z4
  refine W.widen (k := 8) (n := 48) (Nat.le_of_ble_eq_true rfl) (Nat.le_of_ble_eq_true rfl) ?_
  replace hP : va_P D CLS ((h0, .inr (0, [.int (-1), .int 0, .int 0, .int 0, .int 0, .ref q1, .int 0, .ref q2, .null])) :: ([(q1, .inl (c1, 7, .inl (fun _ => 0)))] ++ mwX q2 c2 b2 5 6 (lgt [q2 + 1 + 0, q2 + 1 + 1, q2 + 1 + 2, q2 + 1 + 3, q2 + 1 + 4]) ++ [(q3, .inl (c3, 6, .inl (fun _ => 0)))]) : va_W) H := hP
  replace hD : va_D A ((h0, .inr (0, [.int (-1), .int 0, .int 0, .int 0, .int 0, .ref q1, .int 0, .ref q2, .null])) :: ([(q1, .inl (c1, 7, .inl (fun _ => 0)))] ++ mwX q2 c2 b2 5 6 (lgt [q2 + 1 + 0, q2 + 1 + 1, q2 + 1 + 2, q2 + 1 + 3, q2 + 1 + 4]) ++ [(q3, .inl (c3, 6, .inl (fun _ => 0)))]) : va_W) := hD
  replace hK : va_K D CLS ([] ++ [(c1, .int)] ++ mkC c2 b2 5 ++ [(c3, .int)]) s := hK
  refine va_putF (D := D) (ci := 0) (v := .ref q3) (ty := .array .int) (C := RX0) (T := TX0) (N := 9) hx hb hts uX0 tyX0 tyX0_ok nmX0 hown hK hP hD hS 0 rfl rfl 8 (by decide) (hts _ k213) (fun _ h9 => h9) rfl hin rfl (by decide +kernel) rfl rfl (Nat.le_of_ble_eq_true rfl) (show decode cX0_init 58 = .ok (.putfield 39, 3) by decide +kernel) (fun H locs hP hD hS => ?_)
  rename_i z0 z1 z2 z3 z4
  clear z0 z1 z2 z3 z4
  replace hP : va_P D CLS ((h0, .inr (0, [.int (-1), .int 0, .int 0, .int 0, .int 0, .ref q1, .int 0, .ref q2, .ref q3])) :: ([(q1, .inl (c1, 7, .inl (fun _ => 0)))] ++ mwX q2 c2 b2 5 6 (lgt [q2 + 1 + 0, q2 + 1 + 1, q2 + 1 + 2, q2 + 1 + 3, q2 + 1 + 4]) ++ [(q3, .inl (c3, 6, .inl (fun _ => 0)))]) : va_W) H := hP
  replace hD : va_D A ((h0, .inr (0, [.int (-1), .int 0, .int 0, .int 0, .int 0, .ref q1, .int 0, .ref q2, .ref q3])) :: ([(q1, .inl (c1, 7, .inl (fun _ => 0)))] ++ mwX q2 c2 b2 5 6 (lgt [q2 + 1 + 0, q2 + 1 + 1, q2 + 1 + 2, q2 + 1 + 3, q2 + 1 + 4]) ++ [(q3, .inl (c3, 6, .inl (fun _ => 0)))]) : va_W) := hD
  refine W.eq (g2 := F0 m 61 ls []) rfl ?_
  obtain ⟨L, hL⟩ : ∃ L : LAM, L = fun k => bif Nat.ble k 0 then (h0, D.1 0) else bif Nat.ble k 1 then (q1, c1) else bif Nat.ble k 2 then (q2, c2) else bif Nat.ble k 7 then (q2 + 1 + (k - 3), b2) else bif Nat.ble k 8 then (q3, c3) else (0, D.1 0) := ⟨_, rfl⟩
  have hP9 : va_P D CLS (w0 L (lgt [(L 3).1, (L 4).1, (L 5).1, (L 6).1, (L 7).1])) H := by rw [hL]; exact hP
  have hD9 : va_D A (w0 L (lgt [(L 3).1, (L 4).1, (L 5).1, (L 6).1, (L 7).1])) := by rw [hL]; exact hD
  have hK9 : va_K D CLS (kC0 L) s := by rw [hL]; exact hK
  refine W.widen (k := 8) (n := 48) (Nat.le_of_ble_eq_true rfl) (Nat.le_of_ble_eq_true rfl) ?_
  exact W.vret hx hb hr (fun t ht hW => ⟨⟨L, rfl, by rw [hL]; rfl, by rw [ht]; exact hP9, va_K.moved hW.alike hK9, hD9⟩, hS.F ht⟩) hS.2.2 (show decode cX0_init 61 = .ok (.return_, 1) by decide +kernel)
