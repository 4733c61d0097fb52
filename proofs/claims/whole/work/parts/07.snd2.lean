/-! soundness, the rest: switches, fields, arrays, calls; a method by its code; all methods by the depth -/
def tsok (pc : Nat) : Int → List Int → List (Int32 × Nat) → Bool
  | _, [], [] => true
  | n, f :: fs, c :: cs => decide (c.1.toInt = n) && decide ((pc : Int) + f = (c.2 : Int)) && tsok pc (n + 1) fs cs
  | _, _, _ => false
theorem sw_tab {pc : Nat} {k : Nat → Option RES} {x : Int32} {d : Nat} {r : RES} : ∀ (cs : List (Int32 × Nat)) (fs : List Int) (n : Int), tsok pc n fs cs = true → swk k x d cs = some r → (∃ (j : Nat) (f : Int) (t : Nat), fs[j]? = some f ∧ x.toInt = n + j ∧ (pc : Int) + f = (t : Int) ∧ k t = some r) ∨ ((x.toInt < n ∨ n + fs.length ≤ x.toInt) ∧ k d = some r)
  | [], [], n, _, h => Or.inr ⟨by simp; omega, h⟩
  | [], _ :: _, n, h0, h => by simp [tsok] at h0
  | _ :: _, [], n, h0, h => by simp [tsok] at h0
  | c :: cs, f :: fs, n, h0, h => by
    simp only [tsok, Bool.and_eq_true, decide_eq_true_eq] at h0
    unfold swk at h
    split at h
    · next e =>
      exact Or.inl ⟨0, f, c.2, rfl, by rw [e, h0.1.1]; simp, h0.1.2, h⟩
    · next e =>
      have hne : ¬ x.toInt = n := lv_neT e h0.1.1
      rcases sw_tab cs fs (n + 1) h0.2 h with ⟨j, f', t, h1, h2, h3, h4⟩ | ⟨h1, h2⟩
      · exact Or.inl ⟨j + 1, f', t, by simpa using h1, by rw [h2]; push_cast; omega, h3, h4⟩
      · refine Or.inr ⟨?_, h2⟩
        simp only [List.length_cons]
        push_cast
        omega
def lkok (pc : Nat) : List (Int × Int) → List (Int32 × Nat) → Bool
  | [], [] => true
  | f :: fs, c :: cs => decide (c.1.toInt = f.1) && decide ((pc : Int) + f.2 = (c.2 : Int)) && lkok pc fs cs
  | _, _ => false
theorem sw_lk {pc : Nat} {k : Nat → Option RES} {x : Int32} {d : Nat} {r : RES} {df : Int} (hd : (pc : Int) + df = (d : Int)) : ∀ (cs : List (Int32 × Nat)) (fs : List (Int × Int)), lkok pc fs cs = true → swk k x d cs = some r → ∃ t : Nat, (pc : Int) + Op.lookupswitch.offset fs df x.toInt = (t : Int) ∧ k t = some r
  | [], [], _, h => ⟨d, hd, h⟩
  | [], _ :: _, h0, h => by simp [lkok] at h0
  | _ :: _, [], h0, h => by simp [lkok] at h0
  | c :: cs, (a, b) :: fs, h0, h => by
    simp only [lkok, Bool.and_eq_true, decide_eq_true_eq] at h0
    unfold swk at h
    split at h
    · next e =>
      exact ⟨c.2, by rw [Op.lookupswitch.offset_cons, if_pos (by rw [e, h0.1.1])]; exact h0.1.2, h⟩
    · next e =>
      rw [lv_osw e h0.1.1]
      exact sw_lk hd cs fs h0.2 h
section SND
variable {p : Program} {l : Launch} {e : Env} {R : Room} {s : State} {m : MethodId} {args : Array Value} {below : List Frame} {meth : Method} {c : Code} {own : String} {cc : ByteArray} {nL d : Nat} {ret : Option FieldType} {D : va_G} {Λ : LAM} {FR : Nat → Prop} {Q : RES → State → Prop} {o : ORC} {pc : Nat}
theorem sn_tsw (X : CX p l R s m args meth c own cc nL ret D Λ d o) {df lo hi : Int} {offs : Array Int} {len dd : Nat} {cs : List (Int32 × Nat)} (hdg : decode cc pc = .ok (.tableswitch df lo hi offs, len)) (hok : tsok pc lo offs.toList cs = true) (hhi : hi + 1 = lo + offs.toList.length) (hd : (pc : Int) + df = (dd : Int)) : SN p l e R s m args below meth c nL D Λ FR Q pc (x_sw cs dd) := by
  intro k L st A r hk h
  obtain ⟨hx, hb, hml, hown, hts, hKD, hR, hr, hlk, hO⟩ := X
  unfold x_sw at h
  split at h
  · next x r9 =>
    intro H locs ls hP hD hS hl
    rcases sw_tab cs offs.toList lo hok h with ⟨j, f, t, h1, h2, h3, h4⟩ | ⟨h1, h2⟩
    · have hj := (List.getElem?_eq_some_iff.mp h1).1
      refine lv_tableIn hx hb hdg (by omega) (by omega) (off := f) ?_ h3 (hk _ _ _ _ _ h4 H locs ls hP hD hS hl)
      rw [show (x.toInt - lo).toNat = j by omega, ← Array.getElem?_toList]
      exact h1
    · exact lv_tableOut hx hb hdg (by omega) hd (hk _ _ _ _ _ h2 H locs ls hP hD hS hl)
  · cases h
theorem sn_lsw (X : CX p l R s m args meth c own cc nL ret D Λ d o) {df : Int} {ps : Array (Int × Int)} {len dd : Nat} {cs : List (Int32 × Nat)} (hdg : decode cc pc = .ok (.lookupswitch df ps, len)) (hp : (ps.toList.zip (ps.toList.drop 1)).all (fun (a, next) => a.1 < next.1) = true) (hok : lkok pc ps.toList cs = true) (hd : (pc : Int) + df = (dd : Int)) : SN p l e R s m args below meth c nL D Λ FR Q pc (x_sw cs dd) := by
  intro k L st A r hk h
  obtain ⟨hx, hb, hml, hown, hts, hKD, hR, hr, hlk, hO⟩ := X
  unfold x_sw at h
  split at h
  · next x r9 =>
    intro H locs ls hP hD hS hl
    obtain ⟨t, h1, h2⟩ := sw_lk hd cs ps.toList hok h
    exact lv_lookup hx hb hdg hp rfl h1 (hk _ _ _ _ _ h2 H locs ls hP hD hS hl)
  · cases h
theorem sn_getI (X : CX p l R s m args meth c own cc nL ret D Λ d o) {idx ci j N : Nat} {C : String} {T : u_T} (hc : CLS[ci]? = some (C, T, N)) (hin : ∀ w ∈ u_ws C T N, w ∈ GW) (hj : j < N) (hf : fkd ci j = some 0) (hlink : Cond.fieldLink own idx (T j).1 (T j).2.1 (T j).2.2.1 ∈ GW) (hdg : decode cc pc = .ok (.getfield idx, 3)) : SN p l e R s m args below meth c nL D Λ FR Q pc (x_getI ci j (pc + 3)) := by
  intro k L st A r hk h
  obtain ⟨hx, hb, hml, hown, hts, hKD, hR, hr, hlk, hO⟩ := X
  unfold x_getI at h
  split at h
  · next q9 r9 =>
    cases q9 with
    | none => cases h
    | some a =>
      have h : (if okc a ci then k (pc + 3) L (iv (A.1 a j) :: r9) A else none) = some r := h
      split at h
      · next hok =>
        intro H locs ls hP hD hS hl
        exact va_get (a := (Λ a).1) hx hb hts hin hown hKD.1 hP a (WD_at (okc_spec hok)) hc j hj (hts _ hlink) (fun _ h9 => h9) (flds_at hf) hdg (hk _ _ _ _ _ h H locs ls hP hD hS hl)
      · cases h
  · cases h
theorem sn_getJ (X : CX p l R s m args meth c own cc nL ret D Λ d o) {idx ci j N : Nat} {C : String} {T : u_T} (hc : CLS[ci]? = some (C, T, N)) (hin : ∀ w ∈ u_ws C T N, w ∈ GW) (hj : j < N) (hf : fkd ci j = some 1) (hlink : Cond.fieldLink own idx (T j).1 (T j).2.1 (T j).2.2.1 ∈ GW) (hdg : decode cc pc = .ok (.getfield idx, 3)) : SN p l e R s m args below meth c nL D Λ FR Q pc (x_getJ ci j (pc + 3)) := by
  intro k L st A r hk h
  obtain ⟨hx, hb, hml, hown, hts, hKD, hR, hr, hlk, hO⟩ := X
  unfold x_getJ at h
  split at h
  · next q9 r9 =>
    cases q9 with
    | none => cases h
    | some a =>
      have h : (if okc a ci then k (pc + 3) L (jv (A.2.1 a j) :: r9) A else none) = some r := h
      split at h
      · next hok =>
        intro H locs ls hP hD hS hl
        exact va_get (a := (Λ a).1) hx hb hts hin hown hKD.1 hP a (WD_at (okc_spec hok)) hc j hj (hts _ hlink) (fun _ h9 => h9) (flds_at hf) hdg (hk _ _ _ _ _ h H locs ls hP hD hS hl)
      · cases h
  · cases h
theorem sn_getR (X : CX p l R s m args meth c own cc nL ret D Λ d o) {idx ci j N : Nat} {C : String} {T : u_T} (hc : CLS[ci]? = some (C, T, N)) (hin : ∀ w ∈ u_ws C T N, w ∈ GW) (hj : j < N) (hf : fkd ci j = some 2) (hlink : Cond.fieldLink own idx (T j).1 (T j).2.1 (T j).2.2.1 ∈ GW) (hdg : decode cc pc = .ok (.getfield idx, 3)) : SN p l e R s m args below meth c nL D Λ FR Q pc (x_getR ci j (pc + 3)) := by
  intro k L st A r hk h
  obtain ⟨hx, hb, hml, hown, hts, hKD, hR, hr, hlk, hO⟩ := X
  unfold x_getR at h
  split at h
  · next q9 r9 =>
    cases q9 with
    | none => cases h
    | some a =>
      have h : (if okc a ci then k (pc + 3) L (rv (RF A.2.2 a j) :: r9) A else none) = some r := h
      split at h
      · next hok =>
        intro H locs ls hP hD hS hl
        exact va_get (a := (Λ a).1) hx hb hts hin hown hKD.1 hP a (WD_at (okc_spec hok)) hc j hj (hts _ hlink) (fun _ h9 => h9) (flds_at hf) hdg (hk _ _ _ _ _ h H locs ls hP hD hS hl)
      · cases h
  · cases h
theorem sn_putI (X : CX p l R s m args meth c own cc nL ret D Λ d o) {idx ci j N : Nat} {C : String} {T : u_T} (hc : CLS[ci]? = some (C, T, N)) (hin : ∀ w ∈ u_ws C T N, w ∈ GW) (ty0 : Nat → FieldType) (hty : ∀ k, k < N → parseFieldDescriptor (T k).2.2.1 = some (ty0 k)) (hnm : ∀ a, a < N → ∀ b, b < N → a ≠ b → (T a).2.1 ≠ (T b).2.1) (hj : j < N) (hf : fkd ci j = some 0) (hfin : (T j).2.2.2 = false) (hd : parseFieldDescriptor (T j).2.2.1 = some .int) (hlink : Cond.fieldLink own idx (T j).1 (T j).2.1 (T j).2.2.1 ∈ GW) (hdg : decode cc pc = .ok (.putfield idx, 3)) : SN p l e R s m args below meth c nL D Λ FR Q pc (x_putI ci j (pc + 3)) := by
  intro k L st A r hk h
  obtain ⟨hx, hb, hml, hown, hts, hKD, hR, hr, hlk, hO⟩ := X
  unfold x_putI at h
  split at h
  · next v9 q9 r9 =>
    cases q9 with
    | none => cases h
    | some a =>
      have h : (if okc a ci then k (pc + 3) L r9 (wr A.1 a j v9, A.2.1, A.2.2) else none) = some r := h
      split at h
      · next hok =>
        intro H locs ls hP hD hS hl
        have hsh := okc_spec hok
        have hB : (flds Λ A a ci).set j (.int v9) = flds Λ (wr A.1 a j v9, A.2.1, A.2.2) a ci := by
          have e1 : (.int v9 : Value) = fldv Λ (wr A.1 a j v9, A.2.1, A.2.2) a j 0 := by
            simp [fldv, wr, wrC_s, up1]
          rw [e1]
          refine flds_set hf (fun i u hi hu => ?_)
          match u with
          | 0 => simp [fldv, wr, wrC_s, up1, hi]
          | 1 => simp [fldv, wr, wrC_s, up1, hi]
          | u + 2 => simp [fldv, wr, wrC_s, up1, hi]
        have hW : (WD Λ A).set a ((Λ a).1, .inr (ci, (flds Λ A a ci).set j (.int v9))) = WD Λ (wr A.1 a j v9, A.2.1, A.2.2) := by
          rw [hB]
          refine WD_set (s := .inr ci) hsh (fun k9 s9 hk9 => cell_congr ?_ ?_ ?_)
          · first | rfl | exact wrC_n hk9
          · first | rfl | exact wrC_n hk9
          · exact fun _ => rfl
        refine va_put (a := (Λ a).1) (v := .int v9) hx hb hts hin ty0 hty hnm hown hKD.1 hP hD hS a (WD_at hsh) hc j hj (hts _ hlink) (fun _ h9 => h9) hfin hd rfl rfl (List.getElem?_eq_some_iff.mp (flds_at hf)).1 hdg (fun H1 locs1 hP1 hD1 hS1 => ?_)
        rw [hW] at hP1 hD1
        exact hk _ _ _ _ _ h H1 locs1 ls hP1 hD1 hS1 hl
      · cases h
  · cases h
theorem sn_putJ (X : CX p l R s m args meth c own cc nL ret D Λ d o) {idx ci j N : Nat} {C : String} {T : u_T} (hc : CLS[ci]? = some (C, T, N)) (hin : ∀ w ∈ u_ws C T N, w ∈ GW) (ty0 : Nat → FieldType) (hty : ∀ k, k < N → parseFieldDescriptor (T k).2.2.1 = some (ty0 k)) (hnm : ∀ a, a < N → ∀ b, b < N → a ≠ b → (T a).2.1 ≠ (T b).2.1) (hj : j < N) (hf : fkd ci j = some 1) (hfin : (T j).2.2.2 = false) (hd : parseFieldDescriptor (T j).2.2.1 = some .long) (hlink : Cond.fieldLink own idx (T j).1 (T j).2.1 (T j).2.2.1 ∈ GW) (hdg : decode cc pc = .ok (.putfield idx, 3)) : SN p l e R s m args below meth c nL D Λ FR Q pc (x_putJ ci j (pc + 3)) := by
  intro k L st A r hk h
  obtain ⟨hx, hb, hml, hown, hts, hKD, hR, hr, hlk, hO⟩ := X
  unfold x_putJ at h
  split at h
  · next v9 q9 r9 =>
    cases q9 with
    | none => cases h
    | some a =>
      have h : (if okc a ci then k (pc + 3) L r9 (A.1, wr A.2.1 a j v9, A.2.2) else none) = some r := h
      split at h
      · next hok =>
        intro H locs ls hP hD hS hl
        have hsh := okc_spec hok
        have hB : (flds Λ A a ci).set j (.long v9) = flds Λ (A.1, wr A.2.1 a j v9, A.2.2) a ci := by
          have e1 : (.long v9 : Value) = fldv Λ (A.1, wr A.2.1 a j v9, A.2.2) a j 1 := by
            simp [fldv, wr, wrC_s, up1]
          rw [e1]
          refine flds_set hf (fun i u hi hu => ?_)
          match u with
          | 0 => simp [fldv, wr, wrC_s, up1, hi]
          | 1 => simp [fldv, wr, wrC_s, up1, hi]
          | u + 2 => simp [fldv, wr, wrC_s, up1, hi]
        have hW : (WD Λ A).set a ((Λ a).1, .inr (ci, (flds Λ A a ci).set j (.long v9))) = WD Λ (A.1, wr A.2.1 a j v9, A.2.2) := by
          rw [hB]
          refine WD_set (s := .inr ci) hsh (fun k9 s9 hk9 => cell_congr ?_ ?_ ?_)
          · first | rfl | exact wrC_n hk9
          · first | rfl | exact wrC_n hk9
          · exact fun _ => rfl
        refine va_put (a := (Λ a).1) (v := .long v9) hx hb hts hin ty0 hty hnm hown hKD.1 hP hD hS a (WD_at hsh) hc j hj (hts _ hlink) (fun _ h9 => h9) hfin hd rfl rfl (List.getElem?_eq_some_iff.mp (flds_at hf)).1 hdg (fun H1 locs1 hP1 hD1 hS1 => ?_)
        rw [hW] at hP1 hD1
        exact hk _ _ _ _ _ h H1 locs1 ls hP1 hD1 hS1 hl
      · cases h
  · cases h
theorem sn_putC (X : CX p l R s m args meth c own cc nL ret D Λ d o) {idx : Nat} (hin : ∀ w ∈ u_ws RX9 TX9 17, w ∈ GW) (hlink : Cond.fieldLink own idx (TX9 11).1 (TX9 11).2.1 (TX9 11).2.2.1 ∈ GW) (hdg : decode cc pc = .ok (.putfield idx, 3)) : SN p l e R s m args below meth c nL D Λ FR Q pc (x_putC (pc + 3)) := by
  intro k L st A r hk h
  obtain ⟨hx, hb, hml, hown, hts, hKD, hR, hr, hlk, hO⟩ := X
  unfold x_putC at h
  split at h
  · next v9 q9 r9 =>
    cases q9 with
    | none => cases h
    | some a =>
      cases v9 with
      | none => cases h
      | some b =>
        have h : (bif Nat.beq a 0 then k (pc + 3) L r9 (A.1, A.2.1, b, A.2.2.2) else none) = some r := h
        cases hc : Nat.beq a 0 with
        | false => rw [hc] at h; cases h
        | true =>
          rw [hc] at h
          have h : k (pc + 3) L r9 (A.1, A.2.1, b, A.2.2.2) = some r := h
          have ha := Nat.eq_of_beq_eq_true hc
          subst ha
          intro H locs ls hP hD hS hl
          have hsh : lgt SH 0 = some (.inr 9) := rfl
          have hf : fkd 9 11 = some 2 := rfl
          have hB : (flds Λ A 0 9).set 11 (.ref (Λ b).1) = flds Λ (A.1, A.2.1, b, A.2.2.2) 0 9 := by
            have e1 : (.ref (Λ b).1 : Value) = fldv Λ (A.1, A.2.1, b, A.2.2.2) 0 11 2 := rfl
            rw [e1]
            refine flds_set hf (fun i u hi hu => ?_)
            have hne : Nat.beq i 11 = false := by
              cases h9 : Nat.beq i 11 with
              | true => exact absurd (Nat.eq_of_beq_eq_true h9) hi
              | false => rfl
            match u with
            | 0 => rfl
            | 1 => rfl
            | u + 2 => simp only [fldv, RF, hne, cond_false]
          have hW : (WD Λ A).set 0 ((Λ 0).1, .inr (9, (flds Λ A 0 9).set 11 (.ref (Λ b).1))) = WD Λ (A.1, A.2.1, b, A.2.2.2) := by
            rw [hB]
            refine WD_set (s := .inr 9) hsh (fun k9 s9 hk9 => cell_congr rfl rfl (fun j => ?_))
            have hne : Nat.beq k9 0 = false := by
              cases h9 : Nat.beq k9 0 with
              | true => exact absurd (Nat.eq_of_beq_eq_true h9) hk9
              | false => rfl
            simp only [RF, hne, cond_false]
          refine va_put (a := (Λ 0).1) (v := .ref (Λ b).1) (C := RX9) (T := TX9) (N := 17) hx hb hts hin tyX9 tyX9_ok nmX9 hown hKD.1 hP hD hS 0 (WD_at hsh) rfl 11 (by decide) (hts _ hlink) (fun _ h9 => h9) rfl (show parseFieldDescriptor _ = some (.object "RiverDays$Course") by decide +kernel) rfl rfl (List.getElem?_eq_some_iff.mp (flds_at hf)).1 hdg (fun H1 locs1 hP1 hD1 hS1 => ?_)
          rw [hW] at hP1 hD1
          exact hk _ _ _ _ _ h H1 locs1 ls hP1 hD1 hS1 hl
  · cases h
theorem sn_putD (X : CX p l R s m args meth c own cc nL ret D Λ d o) {idx : Nat} (hin : ∀ w ∈ u_ws RX9 TX9 17, w ∈ GW) (hlink : Cond.fieldLink own idx (TX9 12).1 (TX9 12).2.1 (TX9 12).2.2.1 ∈ GW) (hdg : decode cc pc = .ok (.putfield idx, 3)) : SN p l e R s m args below meth c nL D Λ FR Q pc (x_putD (pc + 3)) := by
  intro k L st A r hk h
  obtain ⟨hx, hb, hml, hown, hts, hKD, hR, hr, hlk, hO⟩ := X
  unfold x_putD at h
  split at h
  · next v9 q9 r9 =>
    cases q9 with
    | none => cases h
    | some a =>
      cases v9 with
      | none => cases h
      | some b =>
        have h : (bif Nat.beq a 0 then k (pc + 3) L r9 (A.1, A.2.1, A.2.2.1, b) else none) = some r := h
        cases hc : Nat.beq a 0 with
        | false => rw [hc] at h; cases h
        | true =>
          rw [hc] at h
          have h : k (pc + 3) L r9 (A.1, A.2.1, A.2.2.1, b) = some r := h
          have ha := Nat.eq_of_beq_eq_true hc
          subst ha
          intro H locs ls hP hD hS hl
          have hsh : lgt SH 0 = some (.inr 9) := rfl
          have hf : fkd 9 12 = some 2 := rfl
          have hB : (flds Λ A 0 9).set 12 (.ref (Λ b).1) = flds Λ (A.1, A.2.1, A.2.2.1, b) 0 9 := by
            have e1 : (.ref (Λ b).1 : Value) = fldv Λ (A.1, A.2.1, A.2.2.1, b) 0 12 2 := rfl
            rw [e1]
            refine flds_set hf (fun i u hi hu => ?_)
            have hne : Nat.beq i 12 = false := by
              cases h9 : Nat.beq i 12 with
              | true => exact absurd (Nat.eq_of_beq_eq_true h9) hi
              | false => rfl
            match u with
            | 0 => rfl
            | 1 => rfl
            | u + 2 => simp only [fldv, RF, hne, cond_false]
          have hW : (WD Λ A).set 0 ((Λ 0).1, .inr (9, (flds Λ A 0 9).set 12 (.ref (Λ b).1))) = WD Λ (A.1, A.2.1, A.2.2.1, b) := by
            rw [hB]
            refine WD_set (s := .inr 9) hsh (fun k9 s9 hk9 => cell_congr rfl rfl (fun j => ?_))
            have hne : Nat.beq k9 0 = false := by
              cases h9 : Nat.beq k9 0 with
              | true => exact absurd (Nat.eq_of_beq_eq_true h9) hk9
              | false => rfl
            simp only [RF, hne, cond_false]
          refine va_put (a := (Λ 0).1) (v := .ref (Λ b).1) (C := RX9) (T := TX9) (N := 17) hx hb hts hin tyX9 tyX9_ok nmX9 hown hKD.1 hP hD hS 0 (WD_at hsh) rfl 12 (by decide) (hts _ hlink) (fun _ h9 => h9) rfl (show parseFieldDescriptor _ = some (.object "RiverDays$Course") by decide +kernel) rfl rfl (List.getElem?_eq_some_iff.mp (flds_at hf)).1 hdg (fun H1 locs1 hP1 hD1 hS1 => ?_)
          rw [hW] at hP1 hD1
          exact hk _ _ _ _ _ h H1 locs1 ls hP1 hD1 hS1 hl
  · cases h
theorem sn_iald (X : CX p l R s m args meth c own cc nL ret D Λ d o) (hdg : decode cc pc = .ok (.iaload, 1)) : SN p l e R s m args below meth c nL D Λ FR Q pc (x_ald 0 (pc + 1)) := by
  intro k L st A r hk h
  obtain ⟨hx, hb, hml, hown, hts, hKD, hR, hr, hlk, hO⟩ := X
  unfold x_ald at h
  split at h
  · next i9 q9 r9 =>
    cases q9 with
    | none => cases h
    | some a =>
      have h : (if inb i9 (alen 0 a) then k (pc + 1) L (iv (A.1 a i9.toNatClampNeg) :: r9) A else none) = some r := h
      split at h
      · next hok =>
        intro H locs ls hP hD hS hl
        obtain ⟨hsh, hin⟩ := alen_spec hok
        exact va_iald (a := (Λ a).1) (tys := [((Λ a).2, TYS 0)]) hx hb (hKD.2.1 a 0 _ hsh) hP a 0 (WD_at hsh) rfl hin hdg (hk _ _ _ _ _ h H locs ls hP hD hS hl)
      · cases h
  · cases h
theorem sn_zald (X : CX p l R s m args meth c own cc nL ret D Λ d o) (hdg : decode cc pc = .ok (.baload, 1)) : SN p l e R s m args below meth c nL D Λ FR Q pc (x_ald 1 (pc + 1)) := by
  intro k L st A r hk h
  obtain ⟨hx, hb, hml, hown, hts, hKD, hR, hr, hlk, hO⟩ := X
  unfold x_ald at h
  split at h
  · next i9 q9 r9 =>
    cases q9 with
    | none => cases h
    | some a =>
      have h : (if inb i9 (alen 1 a) then k (pc + 1) L (iv (A.1 a i9.toNatClampNeg) :: r9) A else none) = some r := h
      split at h
      · next hok =>
        intro H locs ls hP hD hS hl
        obtain ⟨hsh, hin⟩ := alen_spec hok
        exact va_zald (a := (Λ a).1) (tys := [((Λ a).2, TYS 1)]) hx hb (hKD.2.1 a 1 _ hsh) hP a 0 (WD_at hsh) rfl hin hdg (hk _ _ _ _ _ h H locs ls hP hD hS hl)
      · cases h
  · cases h
theorem sn_rald (X : CX p l R s m args meth c own cc nL ret D Λ d o) (hdg : decode cc pc = .ok (.aaload, 1)) : SN p l e R s m args below meth c nL D Λ FR Q pc (x_aald 2 (pc + 1)) := by
  intro k L st A r hk h
  obtain ⟨hx, hb, hml, hown, hts, hKD, hR, hr, hlk, hO⟩ := X
  unfold x_aald at h
  split at h
  · next i9 q9 r9 =>
    cases q9 with
    | none => cases h
    | some a =>
      have h : (if inb i9 (alen 2 a) then k (pc + 1) L (rv (RF A.2.2 a i9.toNatClampNeg) :: r9) A else none) = some r := h
      split at h
      · next hok =>
        intro H locs ls hP hD hS hl
        obtain ⟨hsh, hin⟩ := alen_spec hok
        have hlt : i9.toNatClampNeg < alen 2 a := Nat.not_le.mp fun q => hin (Or.inr q)
        exact W.aald (v := va_rf (adr Λ (RF A.2.2 a i9.toNatClampNeg))) (ty := TYS 2) hx hb (hP a _ (WD_at hsh)) (((hKD.2.1 a 2 _ hsh).2 0 _ rfl).1 (alen 2 a) (fun j => va_rf (adr Λ (RF A.2.2 a j)))) rfl (fun q => by cases q) (by show ¬ (i9 < 0 ∨ (arrV _ _ _).slots.size ≤ _); rw [arrV_size]; exact hin) (by show (arrV _ _ _).slots[_]? = _; rw [arrV_read _ _ hlt]) rfl rfl hdg (hk _ _ _ _ _ h H locs ls hP hD hS hl)
      · cases h
  · cases h
theorem sn_dald (X : CX p l R s m args meth c own cc nL ret D Λ d o) (hdg : decode cc pc = .ok (.aaload, 1)) : SN p l e R s m args below meth c nL D Λ FR Q pc (x_aald 3 (pc + 1)) := by
  intro k L st A r hk h
  obtain ⟨hx, hb, hml, hown, hts, hKD, hR, hr, hlk, hO⟩ := X
  unfold x_aald at h
  split at h
  · next i9 q9 r9 =>
    cases q9 with
    | none => cases h
    | some a =>
      have h : (if inb i9 (alen 3 a) then k (pc + 1) L (rv (RF A.2.2 a i9.toNatClampNeg) :: r9) A else none) = some r := h
      split at h
      · next hok =>
        intro H locs ls hP hD hS hl
        obtain ⟨hsh, hin⟩ := alen_spec hok
        have hlt : i9.toNatClampNeg < alen 3 a := Nat.not_le.mp fun q => hin (Or.inr q)
        exact W.aald (v := va_rf (adr Λ (RF A.2.2 a i9.toNatClampNeg))) (ty := TYS 3) hx hb (hP a _ (WD_at hsh)) (((hKD.2.1 a 3 _ hsh).2 0 _ rfl).1 (alen 3 a) (fun j => va_rf (adr Λ (RF A.2.2 a j)))) rfl (fun q => by cases q) (by show ¬ (i9 < 0 ∨ (arrV _ _ _).slots.size ≤ _); rw [arrV_size]; exact hin) (by show (arrV _ _ _).slots[_]? = _; rw [arrV_read _ _ hlt]) rfl rfl hdg (hk _ _ _ _ _ h H locs ls hP hD hS hl)
      · cases h
  · cases h
theorem sn_iast (X : CX p l R s m args meth c own cc nL ret D Λ d o) (hdg : decode cc pc = .ok (.iastore, 1)) : SN p l e R s m args below meth c nL D Λ FR Q pc (x_iast (pc + 1)) := by
  intro k L st A r hk h
  obtain ⟨hx, hb, hml, hown, hts, hKD, hR, hr, hlk, hO⟩ := X
  unfold x_iast at h
  split at h
  · next v9 i9 q9 r9 =>
    cases q9 with
    | none => cases h
    | some a =>
      have h : (if inb i9 (alen 0 a) then k (pc + 1) L r9 (wr A.1 a i9.toNatClampNeg v9, A.2.1, A.2.2) else none) = some r := h
      split at h
      · next hok =>
        intro H locs ls hP hD hS hl
        obtain ⟨hsh, hin⟩ := alen_spec hok
        have hW : (WD Λ A).set a ((Λ a).1, .inl ((Λ a).2, alen 0 a, .inl (upd (A.1 a) i9.toNatClampNeg v9))) = WD Λ (wr A.1 a i9.toNatClampNeg v9, A.2.1, A.2.2) := by
          rw [show (.inl ((Λ a).2, alen 0 a, .inl (upd (A.1 a) i9.toNatClampNeg v9)) : va_E) = cellOf Λ (wr A.1 a i9.toNatClampNeg v9, A.2.1, A.2.2) a (.inl (0, alen 0 a)) by simp only [cellOf, wr, wrC_s]; rfl]
          exact WD_set hsh (fun k9 s9 hk9 => cell_congr (wrC_n hk9) rfl (fun _ => rfl))
        refine va_iast (a := (Λ a).1) (tys := [((Λ a).2, TYS 0)]) hx hb (hKD.2.1 a 0 _ hsh) hP hD hS a 0 (WD_at hsh) rfl hin hdg (fun H1 locs1 hP1 hD1 hS1 => ?_)
        rw [hW] at hP1 hD1
        exact hk _ _ _ _ _ h H1 locs1 ls hP1 hD1 hS1 hl
      · cases h
  · cases h
theorem sn_zast (X : CX p l R s m args meth c own cc nL ret D Λ d o) (hdg : decode cc pc = .ok (.bastore, 1)) : SN p l e R s m args below meth c nL D Λ FR Q pc (x_zast (pc + 1)) := by
  intro k L st A r hk h
  obtain ⟨hx, hb, hml, hown, hts, hKD, hR, hr, hlk, hO⟩ := X
  unfold x_zast at h
  split at h
  · next v9 i9 q9 r9 =>
    cases q9 with
    | none => cases h
    | some a =>
      have h : (if inb i9 (alen 1 a) then k (pc + 1) L r9 (wr A.1 a i9.toNatClampNeg (vp_nar .boolean v9), A.2.1, A.2.2) else none) = some r := h
      split at h
      · next hok =>
        intro H locs ls hP hD hS hl
        obtain ⟨hsh, hin⟩ := alen_spec hok
        have hW : (WD Λ A).set a ((Λ a).1, .inl ((Λ a).2, alen 1 a, .inl (upd (A.1 a) i9.toNatClampNeg (vp_nar .boolean v9)))) = WD Λ (wr A.1 a i9.toNatClampNeg (vp_nar .boolean v9), A.2.1, A.2.2) := by
          rw [show (.inl ((Λ a).2, alen 1 a, .inl (upd (A.1 a) i9.toNatClampNeg (vp_nar .boolean v9))) : va_E) = cellOf Λ (wr A.1 a i9.toNatClampNeg (vp_nar .boolean v9), A.2.1, A.2.2) a (.inl (1, alen 1 a)) by simp only [cellOf, wr, wrC_s]; rfl]
          exact WD_set hsh (fun k9 s9 hk9 => cell_congr (wrC_n hk9) rfl (fun _ => rfl))
        refine va_zast (a := (Λ a).1) (tys := [((Λ a).2, TYS 1)]) hx hb (hKD.2.1 a 1 _ hsh) hP hD hS a 0 (WD_at hsh) rfl hin hdg (fun H1 locs1 hP1 hD1 hS1 => ?_)
        rw [hW] at hP1 hD1
        exact hk _ _ _ _ _ h H1 locs1 ls hP1 hD1 hS1 hl
      · cases h
  · cases h
theorem sn_alen (X : CX p l R s m args meth c own cc nL ret D Λ d o) (hdg : decode cc pc = .ok (.arraylength, 1)) : SN p l e R s m args below meth c nL D Λ FR Q pc (x_alen (pc + 1)) := by
  intro k L st A r hk h
  obtain ⟨hx, hb, hml, hown, hts, hKD, hR, hr, hlk, hO⟩ := X
  unfold x_alen at h
  split at h
  · next q9 r9 =>
    cases q9 with
    | none => cases h
    | some a =>
      have h : ((alO a).bind fun n => k (pc + 1) L (iv (nI n) :: r9) A) = some r := h
      cases hn : alO a with
      | none => rw [hn] at h; cases h
      | some n =>
        rw [hn] at h
        have h : k (pc + 1) L (iv (nI n) :: r9) A = some r := h
        intro H locs ls hP hD hS hl
        unfold alO at hn
        split at hn
        · next x hx9 =>
          cases hn
          exact va_alen (a := (Λ a).1) (tys := [((Λ a).2, TYS x.1)]) (ty := TYS x.1) hx hb (hKD.2.1 a x.1 x.2 hx9) hP a 0 (WD_at hx9) rfl rfl hdg (hk _ _ _ _ _ h H locs ls hP hD hS hl)
        · cases hn
  · cases h
theorem alen_pos {t a : Nat} (h : 0 < alen t a) : lgt SH a = some (.inl (t, alen t a)) := by
  unfold alen at h ⊢
  split at h
  · next x hx =>
    cases hb : Nat.beq x.1 t with
    | true =>
      rw [hx]
      simp only [hb, cond_true]
      rw [← Nat.eq_of_beq_eq_true hb]
    | false =>
      rw [hb] at h
      simp at h
  · omega
theorem sn_copy (X : CX p l R s m args meth c own cc nL ret D Λ d o) {idx : Nat} (hlink : Cond.methodLink own idx arraycopyName ∈ GW) (hnat : Cond.native arraycopyName ∈ GW) (hstat : Cond.static arraycopyName ∈ GW) (hini : Cond.initialized "java/lang/System" ∈ GW) (hdg : decode cc pc = .ok (.invokestatic idx, 3)) : SN p l e R s m args below meth c nL D Λ FR Q pc (x_copy (pc + 3)) := by
  intro k L st A r hk h
  obtain ⟨hx, hb, hml, hown, hts, hKD, hR, hr, hlk, hO⟩ := X
  unfold x_copy at h
  split at h
  · next n dp q9 sp o9 r9 =>
    cases o9 with
    | none => cases h
    | some a =>
      cases q9 with
      | none => cases h
      | some b =>
        have h : (if okcp a b sp dp n then (bif Nat.ble (cats r9) 8 then k (pc + 3) L r9 (wrC A.1 b (va_cpy (A.1 a) (A.1 b) sp.toNatClampNeg dp.toNatClampNeg n.toNatClampNeg), A.2.1, A.2.2) else none) else none) = some r := h
        split at h
        · next hok =>
          cases hc : Nat.ble (cats r9) 8 with
          | false => rw [hc] at h; cases h
          | true =>
            rw [hc] at h
            have h : k (pc + 3) L r9 (wrC A.1 b (va_cpy (A.1 a) (A.1 b) sp.toNatClampNeg dp.toNatClampNeg n.toNatClampNeg), A.2.1, A.2.2) = some r := h
            have hcat := Nat.le_of_ble_eq_true hc
            intro H locs ls hP hD hS hl
            unfold okcp at hok
            simp only [Bool.and_eq_true, decide_eq_true_eq] at hok
            obtain ⟨⟨⟨⟨⟨⟨h1, h2⟩, h3⟩, h4⟩, h5⟩, h6⟩, h7⟩ := hok
            have ha := alen_pos h6
            have hb' := alen_pos h7
            have hW : (WD Λ A).set b ((Λ b).1, .inl ((Λ b).2, alen 0 b, .inl (va_cpy (A.1 a) (A.1 b) sp.toNatClampNeg dp.toNatClampNeg n.toNatClampNeg))) = WD Λ (wrC A.1 b (va_cpy (A.1 a) (A.1 b) sp.toNatClampNeg dp.toNatClampNeg n.toNatClampNeg), A.2.1, A.2.2) := by
              rw [show (.inl ((Λ b).2, alen 0 b, .inl (va_cpy (A.1 a) (A.1 b) sp.toNatClampNeg dp.toNatClampNeg n.toNatClampNeg)) : va_E) = cellOf Λ (wrC A.1 b (va_cpy (A.1 a) (A.1 b) sp.toNatClampNeg dp.toNatClampNeg n.toNatClampNeg), A.2.1, A.2.2) b (.inl (0, alen 0 b)) by simp only [cellOf, wrC_s]; rfl]
              exact WD_set hb' (fun k9 s9 hk9 => cell_congr (wrC_n hk9) rfl (fun _ => rfl))
            have hK2 : va_K D CLS [((Λ a).2, TYS 0), ((Λ b).2, TYS 0)] s := (hKD.2.1 a 0 _ ha).app (hKD.2.1 b 0 _ hb')
            refine va_copyi (a0 := (Λ a).1) (a := (Λ b).1) (tys := [((Λ a).2, TYS 0), ((Λ b).2, TYS 0)]) (ty := .int) hx hb (by rw [hml]; exact hl.1.symm) hown (hts _ hlink) (hts _ hnat) (hts _ hstat) (hts _ hini) hK2 hP hD hS a b 0 1 (WD_at ha) (WD_at hb') rfl rfl rfl h1 h2 h3 h4 h5 (fun i _ => rfl) (by have := hR.1; omega) ?_ hdg (fun H1 locs1 hP1 hD1 hS1 => ?_)
            · rw [cats_sum]
              have : nativeFrameWords "java/lang/System" "arraycopy" 5 = 7 := by decide +kernel
              rw [this]
              have := hR.2
              omega
            · rw [hW] at hP1 hD1
              exact hk _ _ _ _ _ h H1 locs1 ls hP1 hD1 hS1 hl
        · cases h
  · cases h
end SND
