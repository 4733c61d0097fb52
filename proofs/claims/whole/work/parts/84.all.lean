/-! THE LAW FROM ITS ENTRY -/
set_option maxHeartbeats 4000000 in
set_option maxRecDepth 100000 in
theorem allc (L9 L10 : LAM) : AllC (w9 L9 (fun i => adr (LJ L9 L10) (RF (73, 80) 2 i)) (fun i => adr (LJ L9 L10) (RF (73, 80) 11 i)) (fun i => adr (LJ L9 L10) (RF (73, 80) 28 i)) (fun i => adr (LJ L9 L10) (RF (73, 80) 41 i)) (fun i => adr (LJ L9 L10) (RF (73, 80) 54 i)) (fun i => adr (LJ L9 L10) (RF (73, 80) 65 i)) ++ w10 L10) (LJ L9 L10) (I0, J0, 73, 80) 0 SH := by
  repeat' first | exact trivial | refine And.intro rfl ?_
set_option maxHeartbeats 4000000 in
set_option maxRecDepth 100000 in
theorem alltys (L9 L10 : LAM) : kC9 L9 ++ kC10 L10 = tyL (LJ L9 L10) 0 SH := rfl
theorem u189 : Cond.instantiable RX0 9 ∈ GW := gwp 189 (by decide +kernel) (by decide +kernel)
theorem u281 : Cond.instantiable RX1 8 ∈ GW := gwp 281 (by decide +kernel) (by decide +kernel)
theorem u318 : Cond.instantiable RX2 10 ∈ GW := gwp 318 (by decide +kernel) (by decide +kernel)
theorem u169 : Cond.instantiable RX3 3 ∈ GW := gwp 169 (by decide +kernel) (by decide +kernel)
theorem u143 : Cond.instantiable RX4 5 ∈ GW := gwp 143 (by decide +kernel) (by decide +kernel)
theorem u235 : Cond.instantiable RX5 10 ∈ GW := gwp 235 (by decide +kernel) (by decide +kernel)
theorem u127 : Cond.instantiable RX7 3 ∈ GW := gwp 127 (by decide +kernel) (by decide +kernel)
theorem u104 : Cond.instantiable RX8 3 ∈ GW := gwp 104 (by decide +kernel) (by decide +kernel)
theorem u96 : Cond.instantiable RX9 17 ∈ GW := gwp 96 (by decide +kernel) (by decide +kernel)
theorem u1005 : Cond.instantiable RX10 36 ∈ GW := gwp 1005 (by decide +kernel) (by decide +kernel)
theorem u99 : Cond.code yX9_init cX9_init 1 none ∈ GW := gwp 99 (by decide +kernel) (by decide +kernel)
theorem u97 : Cond.methodLink R_law 9 yX9_init ∈ GW := gwp 97 (by decide +kernel) (by decide +kernel)
theorem u98 : Cond.instanceMethod yX9_init ∈ GW := gwp 98 (by decide +kernel) (by decide +kernel)
theorem u1008 : Cond.code yX10_init cX10_init 2 none ∈ GW := gwp 1008 (by decide +kernel) (by decide +kernel)
theorem u1006 : Cond.methodLink R_law 12 yX10_init ∈ GW := gwp 1006 (by decide +kernel) (by decide +kernel)
theorem u1007 : Cond.instanceMethod yX10_init ∈ GW := gwp 1007 (by decide +kernel) (by decide +kernel)
theorem u95 : Cond.classLink R_law 7 RX9 ∈ GW := gwp 95 (by decide +kernel) (by decide +kernel)
theorem u1004 : Cond.classLink R_law 10 RX10 ∈ GW := gwp 1004 (by decide +kernel) (by decide +kernel)
