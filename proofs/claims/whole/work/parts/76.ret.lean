/-! the kind of value a method answers with -/
def RIx (P : RES → Prop) (q : INS) : Prop := ∀ (k : KT) (L : LO) (st : List AV) (A : AH) (r : RES), (∀ pc L st A r, k pc L st A = some r → P r) → q k L st A = some r → P r
def isIr (r : RES) : Prop := ∃ x, r.1 = iv x
def isJr (r : RES) : Prop := ∃ x, r.1 = jv x
theorem swk_ri {P : RES → Prop} {k : Nat → Option RES} {x : Int32} {d : Nat} {r : RES} (hk : ∀ t r, k t = some r → P r) : ∀ cs : List (Int32 × Nat), swk k x d cs = some r → P r
  | [], h => hk _ _ h
  | c :: cs, h => by
    unfold swk at h
    split at h
    · exact hk _ _ h
    · exact swk_ri hk cs h
theorem ri_x_aald {P : RES → Prop} {t nx : Nat} : RIx P (x_aald t nx) := by
  intro k L st A r hk h
  unfold x_aald at h
  repeat' split at h
  all_goals first | exact hk _ _ _ _ _ h | (cases h; done) | (obtain ⟨a, -, h⟩ := Option.bind_eq_some_iff.mp h; (repeat' split at h) <;> first | exact hk _ _ _ _ _ h | cases h)
theorem ri_x_ald {P : RES → Prop} {t nx : Nat} : RIx P (x_ald t nx) := by
  intro k L st A r hk h
  unfold x_ald at h
  repeat' split at h
  all_goals first | exact hk _ _ _ _ _ h | (cases h; done) | (obtain ⟨a, -, h⟩ := Option.bind_eq_some_iff.mp h; (repeat' split at h) <;> first | exact hk _ _ _ _ _ h | cases h)
theorem ri_x_aload {P : RES → Prop} {i nx : Nat} : RIx P (x_aload i nx) := by
  intro k L st A r hk h
  unfold x_aload at h
  repeat' split at h
  all_goals first | exact hk _ _ _ _ _ h | (cases h; done) | (obtain ⟨a, -, h⟩ := Option.bind_eq_some_iff.mp h; (repeat' split at h) <;> first | exact hk _ _ _ _ _ h | cases h)
theorem ri_x_astore {P : RES → Prop} {i nx : Nat} : RIx P (x_astore i nx) := by
  intro k L st A r hk h
  unfold x_astore at h
  repeat' split at h
  all_goals first | exact hk _ _ _ _ _ h | (cases h; done) | (obtain ⟨a, -, h⟩ := Option.bind_eq_some_iff.mp h; (repeat' split at h) <;> first | exact hk _ _ _ _ _ h | cases h)
theorem ri_x_bin {P : RES → Prop} {f : Int32 → Int32 → Int32} {nx : Nat} : RIx P (x_bin f nx) := by
  intro k L st A r hk h
  unfold x_bin at h
  repeat' split at h
  all_goals first | exact hk _ _ _ _ _ h | (cases h; done) | (obtain ⟨a, -, h⟩ := Option.bind_eq_some_iff.mp h; (repeat' split at h) <;> first | exact hk _ _ _ _ _ h | cases h)
theorem ri_x_binl {P : RES → Prop} {f : Int64 → Int64 → Int64} {nx : Nat} : RIx P (x_binl f nx) := by
  intro k L st A r hk h
  unfold x_binl at h
  repeat' split at h
  all_goals first | exact hk _ _ _ _ _ h | (cases h; done) | (obtain ⟨a, -, h⟩ := Option.bind_eq_some_iff.mp h; (repeat' split at h) <;> first | exact hk _ _ _ _ _ h | cases h)
theorem ri_x_ceq {P : RES → Prop} {tgt nx : Nat} : RIx P (x_ceq tgt nx) := by
  intro k L st A r hk h
  unfold x_ceq at h
  repeat' split at h
  all_goals first | exact hk _ _ _ _ _ h | (cases h; done) | (obtain ⟨a, -, h⟩ := Option.bind_eq_some_iff.mp h; (repeat' split at h) <;> first | exact hk _ _ _ _ _ h | cases h)
theorem ri_x_cge {P : RES → Prop} {tgt nx : Nat} : RIx P (x_cge tgt nx) := by
  intro k L st A r hk h
  unfold x_cge at h
  repeat' split at h
  all_goals first | exact hk _ _ _ _ _ h | (cases h; done) | (obtain ⟨a, -, h⟩ := Option.bind_eq_some_iff.mp h; (repeat' split at h) <;> first | exact hk _ _ _ _ _ h | cases h)
theorem ri_x_cgt {P : RES → Prop} {tgt nx : Nat} : RIx P (x_cgt tgt nx) := by
  intro k L st A r hk h
  unfold x_cgt at h
  repeat' split at h
  all_goals first | exact hk _ _ _ _ _ h | (cases h; done) | (obtain ⟨a, -, h⟩ := Option.bind_eq_some_iff.mp h; (repeat' split at h) <;> first | exact hk _ _ _ _ _ h | cases h)
theorem ri_x_cle {P : RES → Prop} {tgt nx : Nat} : RIx P (x_cle tgt nx) := by
  intro k L st A r hk h
  unfold x_cle at h
  repeat' split at h
  all_goals first | exact hk _ _ _ _ _ h | (cases h; done) | (obtain ⟨a, -, h⟩ := Option.bind_eq_some_iff.mp h; (repeat' split at h) <;> first | exact hk _ _ _ _ _ h | cases h)
theorem ri_x_clt {P : RES → Prop} {tgt nx : Nat} : RIx P (x_clt tgt nx) := by
  intro k L st A r hk h
  unfold x_clt at h
  repeat' split at h
  all_goals first | exact hk _ _ _ _ _ h | (cases h; done) | (obtain ⟨a, -, h⟩ := Option.bind_eq_some_iff.mp h; (repeat' split at h) <;> first | exact hk _ _ _ _ _ h | cases h)
theorem ri_x_cne {P : RES → Prop} {tgt nx : Nat} : RIx P (x_cne tgt nx) := by
  intro k L st A r hk h
  unfold x_cne at h
  repeat' split at h
  all_goals first | exact hk _ _ _ _ _ h | (cases h; done) | (obtain ⟨a, -, h⟩ := Option.bind_eq_some_iff.mp h; (repeat' split at h) <;> first | exact hk _ _ _ _ _ h | cases h)
theorem ri_x_const {P : RES → Prop} {v : AV} {nx : Nat} : RIx P (x_const v nx) := by
  intro k L st A r hk h
  unfold x_const at h
  repeat' split at h
  all_goals first | exact hk _ _ _ _ _ h | (cases h; done) | (obtain ⟨a, -, h⟩ := Option.bind_eq_some_iff.mp h; (repeat' split at h) <;> first | exact hk _ _ _ _ _ h | cases h)
theorem ri_x_dvl {P : RES → Prop} {f : Int64 → Int64 → Int64} {nx : Nat} : RIx P (x_dvl f nx) := by
  intro k L st A r hk h
  unfold x_dvl at h
  repeat' split at h
  all_goals first | exact hk _ _ _ _ _ h | (cases h; done) | (obtain ⟨a, -, h⟩ := Option.bind_eq_some_iff.mp h; (repeat' split at h) <;> first | exact hk _ _ _ _ _ h | cases h)
theorem ri_x_getI {P : RES → Prop} {ci j nx : Nat} : RIx P (x_getI ci j nx) := by
  intro k L st A r hk h
  unfold x_getI at h
  repeat' split at h
  all_goals first | exact hk _ _ _ _ _ h | (cases h; done) | (obtain ⟨a, -, h⟩ := Option.bind_eq_some_iff.mp h; (repeat' split at h) <;> first | exact hk _ _ _ _ _ h | cases h)
theorem ri_x_getJ {P : RES → Prop} {ci j nx : Nat} : RIx P (x_getJ ci j nx) := by
  intro k L st A r hk h
  unfold x_getJ at h
  repeat' split at h
  all_goals first | exact hk _ _ _ _ _ h | (cases h; done) | (obtain ⟨a, -, h⟩ := Option.bind_eq_some_iff.mp h; (repeat' split at h) <;> first | exact hk _ _ _ _ _ h | cases h)
theorem ri_x_getR {P : RES → Prop} {ci j nx : Nat} : RIx P (x_getR ci j nx) := by
  intro k L st A r hk h
  unfold x_getR at h
  repeat' split at h
  all_goals first | exact hk _ _ _ _ _ h | (cases h; done) | (obtain ⟨a, -, h⟩ := Option.bind_eq_some_iff.mp h; (repeat' split at h) <;> first | exact hk _ _ _ _ _ h | cases h)
theorem ri_x_goto {P : RES → Prop} {tgt : Nat} : RIx P (x_goto tgt) := by
  intro k L st A r hk h
  unfold x_goto at h
  repeat' split at h
  all_goals first | exact hk _ _ _ _ _ h | (cases h; done) | (obtain ⟨a, -, h⟩ := Option.bind_eq_some_iff.mp h; (repeat' split at h) <;> first | exact hk _ _ _ _ _ h | cases h)
theorem ri_x_i2l {P : RES → Prop} {nx : Nat} : RIx P (x_i2l nx) := by
  intro k L st A r hk h
  unfold x_i2l at h
  repeat' split at h
  all_goals first | exact hk _ _ _ _ _ h | (cases h; done) | (obtain ⟨a, -, h⟩ := Option.bind_eq_some_iff.mp h; (repeat' split at h) <;> first | exact hk _ _ _ _ _ h | cases h)
theorem ri_x_iast {P : RES → Prop} {nx : Nat} : RIx P (x_iast nx) := by
  intro k L st A r hk h
  unfold x_iast at h
  repeat' split at h
  all_goals first | exact hk _ _ _ _ _ h | (cases h; done) | (obtain ⟨a, -, h⟩ := Option.bind_eq_some_iff.mp h; (repeat' split at h) <;> first | exact hk _ _ _ _ _ h | cases h)
theorem ri_x_ifeq {P : RES → Prop} {tgt nx : Nat} : RIx P (x_ifeq tgt nx) := by
  intro k L st A r hk h
  unfold x_ifeq at h
  repeat' split at h
  all_goals first | exact hk _ _ _ _ _ h | (cases h; done) | (obtain ⟨a, -, h⟩ := Option.bind_eq_some_iff.mp h; (repeat' split at h) <;> first | exact hk _ _ _ _ _ h | cases h)
theorem ri_x_ifge {P : RES → Prop} {tgt nx : Nat} : RIx P (x_ifge tgt nx) := by
  intro k L st A r hk h
  unfold x_ifge at h
  repeat' split at h
  all_goals first | exact hk _ _ _ _ _ h | (cases h; done) | (obtain ⟨a, -, h⟩ := Option.bind_eq_some_iff.mp h; (repeat' split at h) <;> first | exact hk _ _ _ _ _ h | cases h)
theorem ri_x_ifle {P : RES → Prop} {tgt nx : Nat} : RIx P (x_ifle tgt nx) := by
  intro k L st A r hk h
  unfold x_ifle at h
  repeat' split at h
  all_goals first | exact hk _ _ _ _ _ h | (cases h; done) | (obtain ⟨a, -, h⟩ := Option.bind_eq_some_iff.mp h; (repeat' split at h) <;> first | exact hk _ _ _ _ _ h | cases h)
theorem ri_x_iflt {P : RES → Prop} {tgt nx : Nat} : RIx P (x_iflt tgt nx) := by
  intro k L st A r hk h
  unfold x_iflt at h
  repeat' split at h
  all_goals first | exact hk _ _ _ _ _ h | (cases h; done) | (obtain ⟨a, -, h⟩ := Option.bind_eq_some_iff.mp h; (repeat' split at h) <;> first | exact hk _ _ _ _ _ h | cases h)
theorem ri_x_ifne {P : RES → Prop} {tgt nx : Nat} : RIx P (x_ifne tgt nx) := by
  intro k L st A r hk h
  unfold x_ifne at h
  repeat' split at h
  all_goals first | exact hk _ _ _ _ _ h | (cases h; done) | (obtain ⟨a, -, h⟩ := Option.bind_eq_some_iff.mp h; (repeat' split at h) <;> first | exact hk _ _ _ _ _ h | cases h)
theorem ri_x_iinc {P : RES → Prop} {i : Nat} {n : Int32} {nx : Nat} : RIx P (x_iinc i n nx) := by
  intro k L st A r hk h
  unfold x_iinc at h
  repeat' split at h
  all_goals first | exact hk _ _ _ _ _ h | (cases h; done) | (obtain ⟨a, -, h⟩ := Option.bind_eq_some_iff.mp h; (repeat' split at h) <;> first | exact hk _ _ _ _ _ h | cases h)
theorem ri_x_iload {P : RES → Prop} {i nx : Nat} : RIx P (x_iload i nx) := by
  intro k L st A r hk h
  unfold x_iload at h
  repeat' split at h
  all_goals first | exact hk _ _ _ _ _ h | (cases h; done) | (obtain ⟨a, -, h⟩ := Option.bind_eq_some_iff.mp h; (repeat' split at h) <;> first | exact hk _ _ _ _ _ h | cases h)
theorem ri_x_iret : RIx isIr x_iret := by
  intro k L st A r hk h
  unfold x_iret at h
  repeat' split at h
  all_goals first | (cases h; exact ⟨_, rfl⟩) | cases h
theorem ri_x_istore {P : RES → Prop} {i nx : Nat} : RIx P (x_istore i nx) := by
  intro k L st A r hk h
  unfold x_istore at h
  repeat' split at h
  all_goals first | exact hk _ _ _ _ _ h | (cases h; done) | (obtain ⟨a, -, h⟩ := Option.bind_eq_some_iff.mp h; (repeat' split at h) <;> first | exact hk _ _ _ _ _ h | cases h)
theorem ri_x_l2i {P : RES → Prop} {nx : Nat} : RIx P (x_l2i nx) := by
  intro k L st A r hk h
  unfold x_l2i at h
  repeat' split at h
  all_goals first | exact hk _ _ _ _ _ h | (cases h; done) | (obtain ⟨a, -, h⟩ := Option.bind_eq_some_iff.mp h; (repeat' split at h) <;> first | exact hk _ _ _ _ _ h | cases h)
theorem ri_x_lcmp {P : RES → Prop} {nx : Nat} : RIx P (x_lcmp nx) := by
  intro k L st A r hk h
  unfold x_lcmp at h
  repeat' split at h
  all_goals first | exact hk _ _ _ _ _ h | (cases h; done) | (obtain ⟨a, -, h⟩ := Option.bind_eq_some_iff.mp h; (repeat' split at h) <;> first | exact hk _ _ _ _ _ h | cases h)
theorem ri_x_lload {P : RES → Prop} {i nx : Nat} : RIx P (x_lload i nx) := by
  intro k L st A r hk h
  unfold x_lload at h
  repeat' split at h
  all_goals first | exact hk _ _ _ _ _ h | (cases h; done) | (obtain ⟨a, -, h⟩ := Option.bind_eq_some_iff.mp h; (repeat' split at h) <;> first | exact hk _ _ _ _ _ h | cases h)
theorem ri_x_lret : RIx isJr x_lret := by
  intro k L st A r hk h
  unfold x_lret at h
  repeat' split at h
  all_goals first | (cases h; exact ⟨_, rfl⟩) | cases h
theorem ri_x_lstore {P : RES → Prop} {i nx : Nat} : RIx P (x_lstore i nx) := by
  intro k L st A r hk h
  unfold x_lstore at h
  repeat' split at h
  all_goals first | exact hk _ _ _ _ _ h | (cases h; done) | (obtain ⟨a, -, h⟩ := Option.bind_eq_some_iff.mp h; (repeat' split at h) <;> first | exact hk _ _ _ _ _ h | cases h)
theorem ri_x_pop {P : RES → Prop} {nx : Nat} : RIx P (x_pop nx) := by
  intro k L st A r hk h
  unfold x_pop at h
  repeat' split at h
  all_goals first | exact hk _ _ _ _ _ h | (cases h; done) | (obtain ⟨a, -, h⟩ := Option.bind_eq_some_iff.mp h; (repeat' split at h) <;> first | exact hk _ _ _ _ _ h | cases h)
theorem ri_x_putC {P : RES → Prop} {nx : Nat} : RIx P (x_putC nx) := by
  intro k L st A r hk h
  unfold x_putC at h
  split at h
  · obtain ⟨a, -, h⟩ := Option.bind_eq_some_iff.mp h
    obtain ⟨b, -, h⟩ := Option.bind_eq_some_iff.mp h
    cases hq : Nat.beq a 0 with
    | true => rw [hq] at h; exact hk _ _ _ _ _ h
    | false => rw [hq] at h; cases h
  · cases h
theorem ri_x_putD {P : RES → Prop} {nx : Nat} : RIx P (x_putD nx) := by
  intro k L st A r hk h
  unfold x_putD at h
  split at h
  · obtain ⟨a, -, h⟩ := Option.bind_eq_some_iff.mp h
    obtain ⟨b, -, h⟩ := Option.bind_eq_some_iff.mp h
    cases hq : Nat.beq a 0 with
    | true => rw [hq] at h; exact hk _ _ _ _ _ h
    | false => rw [hq] at h; cases h
  · cases h
theorem ri_x_putI {P : RES → Prop} {ci j nx : Nat} : RIx P (x_putI ci j nx) := by
  intro k L st A r hk h
  unfold x_putI at h
  repeat' split at h
  all_goals first | exact hk _ _ _ _ _ h | (cases h; done) | (obtain ⟨a, -, h⟩ := Option.bind_eq_some_iff.mp h; (repeat' split at h) <;> first | exact hk _ _ _ _ _ h | cases h)
theorem ri_x_sI {P : RES → Prop} {o : ORC} {y n nx : Nat} : RIx P (x_sI o y n nx) := by
  intro k L st A r hk h
  unfold x_sI at h
  cases hq : okst n st with
  | false => rw [hq] at h; cases h
  | true =>
    rw [hq, cond_true] at h
    obtain ⟨w, -, h⟩ := Option.bind_eq_some_iff.mp h
    exact hk _ _ _ _ _ h
theorem ri_x_un {P : RES → Prop} {f : Int32 → Int32} {nx : Nat} : RIx P (x_un f nx) := by
  intro k L st A r hk h
  unfold x_un at h
  repeat' split at h
  all_goals first | exact hk _ _ _ _ _ h | (cases h; done) | (obtain ⟨a, -, h⟩ := Option.bind_eq_some_iff.mp h; (repeat' split at h) <;> first | exact hk _ _ _ _ _ h | cases h)
theorem ri_x_vI {P : RES → Prop} {o : ORC} {y ci n nx : Nat} : RIx P (x_vI o y ci n nx) := by
  intro k L st A r hk h
  unfold x_vI at h
  cases hq : okst n st with
  | false => rw [hq] at h; cases h
  | true =>
    rw [hq, cond_true] at h
    split at h
    rotate_left
    · cases h
    obtain ⟨w, -, h⟩ := Option.bind_eq_some_iff.mp h
    exact hk _ _ _ _ _ h
theorem ri_x_vJ {P : RES → Prop} {o : ORC} {y ci n nx : Nat} : RIx P (x_vJ o y ci n nx) := by
  intro k L st A r hk h
  unfold x_vJ at h
  cases hq : okst n st with
  | false => rw [hq] at h; cases h
  | true =>
    rw [hq, cond_true] at h
    split at h
    rotate_left
    · cases h
    obtain ⟨w, -, h⟩ := Option.bind_eq_some_iff.mp h
    exact hk _ _ _ _ _ h
theorem ri_x_vV {P : RES → Prop} {o : ORC} {y ci n nx : Nat} : RIx P (x_vV o y ci n nx) := by
  intro k L st A r hk h
  unfold x_vV at h
  cases hq : okst n st with
  | false => rw [hq] at h; cases h
  | true =>
    rw [hq, cond_true] at h
    split at h
    rotate_left
    · cases h
    obtain ⟨w, -, h⟩ := Option.bind_eq_some_iff.mp h
    exact hk _ _ _ _ _ h
theorem ri_x_zast {P : RES → Prop} {nx : Nat} : RIx P (x_zast nx) := by
  intro k L st A r hk h
  unfold x_zast at h
  repeat' split at h
  all_goals first | exact hk _ _ _ _ _ h | (cases h; done) | (obtain ⟨a, -, h⟩ := Option.bind_eq_some_iff.mp h; (repeat' split at h) <;> first | exact hk _ _ _ _ _ h | cases h)
theorem lk1_ri {P : RES → Prop} {pc : Nat} {i : INS} : ∀ c : List (Nat × INS), (∀ q ∈ c, RIx P q.2) → lk1 pc c = some i → RIx P i
  | [], _, h => by cases h
  | q :: c, hC, h => by
    unfold lk1 at h
    cases hq : Nat.beq q.1 pc with
    | true => rw [hq, cond_true] at h; cases h; exact hC q List.mem_cons_self
    | false => rw [hq, cond_false] at h; exact lk1_ri c (fun z hz => hC z (List.mem_cons_of_mem _ hz)) h
theorem lk_ri {P : RES → Prop} {pc : Nat} {i : INS} : ∀ C : COD, (∀ ch ∈ C, ∀ q ∈ ch.2, RIx P q.2) → lk pc C = some i → RIx P i
  | [], _, h => by cases h
  | c :: C, hC, h => by
    unfold lk at h
    cases hq : Nat.blt pc c.1 with
    | true => rw [hq, cond_true] at h; exact lk1_ri c.2 (hC c List.mem_cons_self) h
    | false => rw [hq, cond_false] at h; exact lk_ri C (fun z hz => hC z (List.mem_cons_of_mem _ hz)) h
theorem run_ri {P : RES → Prop} {C : COD} {cuts : List (Nat × List Nat)} {K : Nat → LO → AH → Option RES} (hC : ∀ ch ∈ C, ∀ q ∈ ch.2, RIx P q.2) (hK : ∀ pc L A r, K pc L A = some r → P r) : ∀ (f pc : Nat) (L : LO) (st : List AV) (A : AH) (r : RES), run C cuts K f pc L st A = some r → P r := by
  intro f
  induction f with
  | zero => intro pc L st A r h; cases h
  | succ f ih =>
    intro pc L st A r h
    unfold run at h
    cases hq : cutAt pc cuts with
    | some lv =>
      rw [hq] at h
      cases st with
      | nil => exact hK _ _ _ _ h
      | cons a t => cases h
    | none =>
      rw [hq] at h
      cases hi : lk pc C with
      | none =>
        have h : (match lk pc C with
          | some i => i (run C cuts K f) L st A
          | none => none) = some r := h
        rw [hi] at h; cases h
      | some i =>
        have h : (match lk pc C with
          | some i => i (run C cuts K f) L st A
          | none => none) = some r := h
        rw [hi] at h
        exact lk_ri C hC hi _ _ _ _ _ ih h
theorem exec_ri {P : RES → Prop} {C : COD} {cuts : List (Nat × List Nat)} (hC : ∀ ch ∈ C, ∀ q ∈ ch.2, RIx P q.2) : ∀ (N pc : Nat) (L : LO) (A : AH) (r : RES), exec C cuts N pc L A = some r → P r := by
  intro N
  induction N with
  | zero => intro pc L A r h; cases h
  | succ N ih =>
    intro pc L A r h
    unfold exec at h
    have h : (match lk pc C with
      | some i => i (run C cuts (exec C cuts N) 400) L [] A
      | none => none) = some r := h
    cases hi : lk pc C with
    | none => rw [hi] at h; cases h
    | some i =>
      rw [hi] at h
      exact lk_ri C hC hi _ _ _ _ _ (run_ri hC ih 400) h
theorem arun_ri {P : RES → Prop} {y : Nat} {q : MPr} (hy : lgt PRG y = some q) (hC : ∀ o, ∀ ch ∈ q.2.2 o, ∀ z ∈ ch.2, RIx P z.2) {N d : Nat} {as : List AV} {A : AH} {r : RES} (h : arun N d y as A = some r) : P r := by
  cases d with
  | zero => cases h
  | succ d =>
    unfold arun at h
    rw [hy] at h
    have h : (bif Nat.ble (cats as) q.1 then exec (q.2.2 (arun N d)) q.2.1 N 0 (padL q.1 (ent as)) A else none) = some r := h
    cases hq : Nat.ble (cats as) q.1 with
    | false => rw [hq] at h; cases h
    | true => rw [hq, cond_true] at h; exact exec_ri (hC _) _ _ _ _ _ h
theorem rt_row (N d : Nat) (as : List AV) (A : AH) (r : RES) (h : arun N d 68 as A = some r) : isIr r := arun_ri (P := isIr) (y := 68) rfl (fun o => zf1 (show ∀ q ∈ CX9_row_0 o, RIx isIr q.2 by unfold CX9_row_0; exact zf1 ri_x_aload (zf1 ri_x_aload (zf1 ri_x_getR (zf1 ri_x_iload (zf1 ri_x_iload (zf1 ri_x_const (zf1 ri_x_vI (zf1 ri_x_iret zf0)))))))) (zf0)) h
theorem rt_lay (N d : Nat) (as : List AV) (A : AH) (r : RES) (h : arun N d 69 as A = some r) : isIr r := arun_ri (P := isIr) (y := 69) rfl (fun o => zf1 (show ∀ q ∈ CX9_lay_0 o, RIx isIr q.2 by unfold CX9_lay_0; exact zf1 ri_x_aload (zf1 ri_x_aload (zf1 ri_x_getR (zf1 ri_x_iload (zf1 ri_x_iload (zf1 ri_x_vI (zf1 ri_x_istore (zf1 ri_x_iload (zf1 ri_x_ifeq (zf1 ri_x_iload (zf1 ri_x_iret (zf1 ri_x_aload (zf1 ri_x_getR (zf1 ri_x_iload (zf1 ri_x_iload (zf1 ri_x_vI zf0)))))))))))))))) (zf1 (show ∀ q ∈ CX9_lay_1 o, RIx isIr q.2 by unfold CX9_lay_1; exact zf1 ri_x_istore (zf1 ri_x_aload (zf1 ri_x_getR (zf1 ri_x_iload (zf1 ri_x_iload (zf1 ri_x_iload (zf1 ri_x_vV (zf1 ri_x_aload (zf1 ri_x_iload (zf1 ri_x_vI (zf1 ri_x_iret zf0))))))))))) (zf0))) h
theorem rt_at (N d : Nat) (as : List AV) (A : AH) (r : RES) (h : arun N d 70 as A = some r) : isIr r := arun_ri (P := isIr) (y := 70) rfl (fun o => zf1 (show ∀ q ∈ CX9_at_0 o, RIx isIr q.2 by unfold CX9_at_0; exact zf1 ri_x_aload (zf1 ri_x_aload (zf1 ri_x_getR (zf1 ri_x_iload (zf1 ri_x_iload (zf1 ri_x_vI (zf1 ri_x_istore (zf1 ri_x_iload (zf1 ri_x_ifeq (zf1 ri_x_iload (zf1 ri_x_goto (zf1 ri_x_aload (zf1 ri_x_aload (zf1 ri_x_getR (zf1 ri_x_iload (zf1 ri_x_iload zf0)))))))))))))))) (zf1 (show ∀ q ∈ CX9_at_1 o, RIx isIr q.2 by unfold CX9_at_1; exact zf1 ri_x_vI (zf1 ri_x_vI (zf1 ri_x_iret zf0))) (zf0))) h
theorem rt_tear (N d : Nat) (as : List AV) (A : AH) (r : RES) (h : arun N d 71 as A = some r) : isIr r := arun_ri (P := isIr) (y := 71) rfl (fun o => zf1 (show ∀ q ∈ CX9_tear_0 o, RIx isIr q.2 by unfold CX9_tear_0; exact zf1 ri_x_aload (zf1 ri_x_aload (zf1 ri_x_getR (zf1 ri_x_iload (zf1 ri_x_vI (zf1 ri_x_istore (zf1 ri_x_iload (zf1 ri_x_ifeq (zf1 ri_x_iload (zf1 ri_x_iret (zf1 ri_x_aload (zf1 ri_x_getR (zf1 ri_x_iload (zf1 ri_x_vV (zf1 ri_x_const (zf1 ri_x_iret zf0)))))))))))))))) (zf0)) h
theorem rt_copy (N d : Nat) (as : List AV) (A : AH) (r : RES) (h : arun N d 72 as A = some r) : isIr r := arun_ri (P := isIr) (y := 72) rfl (fun o => zf1 (show ∀ q ∈ CX9_copy_0 o, RIx isIr q.2 by unfold CX9_copy_0; exact zf1 ri_x_aload (zf1 ri_x_getR (zf1 ri_x_iload (zf1 ri_x_vI (zf1 ri_x_ifeq (zf1 ri_x_aload (zf1 ri_x_getR (zf1 ri_x_iload (zf1 ri_x_vI (zf1 ri_x_ifne (zf1 ri_x_const (zf1 ri_x_iret (zf1 ri_x_iload (zf1 ri_x_ifge (zf1 ri_x_aload (zf1 ri_x_const zf0)))))))))))))))) (zf1 (show ∀ q ∈ CX9_copy_1 o, RIx isIr q.2 by unfold CX9_copy_1; exact zf1 ri_x_vI (zf1 ri_x_iret (zf1 ri_x_aload (zf1 ri_x_getR (zf1 ri_x_iload (zf1 ri_x_vI (zf1 ri_x_ifeq (zf1 ri_x_aload (zf1 ri_x_getR (zf1 ri_x_iload (zf1 ri_x_vI (zf1 ri_x_ifne (zf1 ri_x_aload (zf1 ri_x_const (zf1 ri_x_vI (zf1 ri_x_iret zf0)))))))))))))))) (zf1 (show ∀ q ∈ CX9_copy_2 o, RIx isIr q.2 by unfold CX9_copy_2; exact zf1 ri_x_aload (zf1 ri_x_getR (zf1 ri_x_iload (zf1 ri_x_iload (zf1 ri_x_iload (zf1 ri_x_vI (zf1 ri_x_ifeq (zf1 ri_x_aload (zf1 ri_x_getR (zf1 ri_x_iload (zf1 ri_x_iload (zf1 ri_x_iload (zf1 ri_x_vI (zf1 ri_x_ifne (zf1 ri_x_aload (zf1 ri_x_const zf0)))))))))))))))) (zf1 (show ∀ q ∈ CX9_copy_3 o, RIx isIr q.2 by unfold CX9_copy_3; exact zf1 ri_x_vI (zf1 ri_x_iret (zf1 ri_x_aload (zf1 ri_x_getR (zf1 ri_x_iload (zf1 ri_x_iload (zf1 ri_x_iload (zf1 ri_x_iload (zf1 ri_x_iload (zf1 ri_x_vV (zf1 ri_x_const (zf1 ri_x_iret zf0)))))))))))) (zf0))))) h
theorem rt_mean (N d : Nat) (as : List AV) (A : AH) (r : RES) (h : arun N d 73 as A = some r) : isIr r := arun_ri (P := isIr) (y := 73) rfl (fun o => zf1 (show ∀ q ∈ CX9_mean_0 o, RIx isIr q.2 by unfold CX9_mean_0; exact zf1 ri_x_aload (zf1 ri_x_aload (zf1 ri_x_getR (zf1 ri_x_iload (zf1 ri_x_vI (zf1 ri_x_istore (zf1 ri_x_iload (zf1 ri_x_ifeq (zf1 ri_x_iload (zf1 ri_x_iret (zf1 ri_x_aload (zf1 ri_x_getR (zf1 ri_x_iload (zf1 ri_x_vI (zf1 ri_x_istore (zf1 ri_x_iload zf0)))))))))))))))) (zf1 (show ∀ q ∈ CX9_mean_1 o, RIx isIr q.2 by unfold CX9_mean_1; exact zf1 ri_x_const (zf1 ri_x_cge (zf1 ri_x_aload (zf1 ri_x_const (zf1 ri_x_vI (zf1 ri_x_iret (zf1 ri_x_aload (zf1 ri_x_aload (zf1 ri_x_getR (zf1 ri_x_iload (zf1 ri_x_vJ (zf1 ri_x_iload (zf1 ri_x_i2l (zf1 ri_x_dvl (zf1 ri_x_l2i (zf1 ri_x_vI zf0)))))))))))))))) (zf1 (show ∀ q ∈ CX9_mean_2 o, RIx isIr q.2 by unfold CX9_mean_2; exact zf1 ri_x_iret zf0) (zf0)))) h
theorem rt_text (N d : Nat) (as : List AV) (A : AH) (r : RES) (h : arun N d 74 as A = some r) : isIr r := arun_ri (P := isIr) (y := 74) rfl (fun o => zf1 (show ∀ q ∈ CX9_text_0 o, RIx isIr q.2 by unfold CX9_text_0; exact zf1 ri_x_aload (zf1 ri_x_aload (zf1 ri_x_getR (zf1 ri_x_iload (zf1 ri_x_iload (zf1 ri_x_const (zf1 ri_x_vI (zf1 ri_x_iret zf0)))))))) (zf0)) h
theorem rt_put (N d : Nat) (as : List AV) (A : AH) (r : RES) (h : arun N d 75 as A = some r) : isIr r := arun_ri (P := isIr) (y := 75) rfl (fun o => zf1 (show ∀ q ∈ CX9_put_0 o, RIx isIr q.2 by unfold CX9_put_0; exact zf1 ri_x_aload (zf1 ri_x_aload (zf1 ri_x_getR (zf1 ri_x_iload (zf1 ri_x_iload (zf1 ri_x_vI (zf1 ri_x_istore (zf1 ri_x_iload (zf1 ri_x_ifeq (zf1 ri_x_iload (zf1 ri_x_iret (zf1 ri_x_aload (zf1 ri_x_getR (zf1 ri_x_iload (zf1 ri_x_iload (zf1 ri_x_vI zf0)))))))))))))))) (zf1 (show ∀ q ∈ CX9_put_1 o, RIx isIr q.2 by unfold CX9_put_1; exact zf1 ri_x_istore (zf1 ri_x_aload (zf1 ri_x_getR (zf1 ri_x_iload (zf1 ri_x_iload (zf1 ri_x_iload (zf1 ri_x_un (zf1 ri_x_vV (zf1 ri_x_iload (zf1 ri_x_const (zf1 ri_x_bin (zf1 ri_x_iret zf0)))))))))))) (zf0))) h
theorem rt_fault (N d : Nat) (as : List AV) (A : AH) (r : RES) (h : arun N d 76 as A = some r) : isIr r := arun_ri (P := isIr) (y := 76) rfl (fun o => zf1 (show ∀ q ∈ CX9_fault_0 o, RIx isIr q.2 by unfold CX9_fault_0; exact zf1 ri_x_aload (zf1 ri_x_aload (zf1 ri_x_getR (zf1 ri_x_iload (zf1 ri_x_vI (zf1 ri_x_istore (zf1 ri_x_iload (zf1 ri_x_ifeq (zf1 ri_x_iload (zf1 ri_x_goto (zf1 ri_x_aload (zf1 ri_x_iload (zf1 ri_x_vI (zf1 ri_x_iret zf0)))))))))))))) (zf0)) h
theorem rt_river (N d : Nat) (as : List AV) (A : AH) (r : RES) (h : arun N d 77 as A = some r) : isIr r := arun_ri (P := isIr) (y := 77) rfl (fun o => zf1 (show ∀ q ∈ CX9_river_0 o, RIx isIr q.2 by unfold CX9_river_0; exact zf1 ri_x_aload (zf1 ri_x_aload (zf1 ri_x_getR (zf1 ri_x_iload (zf1 ri_x_vI (zf1 ri_x_istore (zf1 ri_x_iload (zf1 ri_x_ifeq (zf1 ri_x_iload (zf1 ri_x_iret (zf1 ri_x_aload (zf1 ri_x_iload (zf1 ri_x_vI (zf1 ri_x_const (zf1 ri_x_ceq (zf1 ri_x_const zf0)))))))))))))))) (zf1 (show ∀ q ∈ CX9_river_1 o, RIx isIr q.2 by unfold CX9_river_1; exact zf1 ri_x_iret (zf1 ri_x_aload (zf1 ri_x_getR (zf1 ri_x_astore (zf1 ri_x_aload (zf1 ri_x_aload (zf1 ri_x_getR (zf1 ri_x_putC (zf1 ri_x_aload (zf1 ri_x_aload (zf1 ri_x_putD (zf1 ri_x_aload (zf1 ri_x_getR (zf1 ri_x_const (zf1 ri_x_vV (zf1 ri_x_const zf0)))))))))))))))) (zf1 (show ∀ q ∈ CX9_river_2 o, RIx isIr q.2 by unfold CX9_river_2; exact zf1 ri_x_istore (zf1 ri_x_iload (zf1 ri_x_const (zf1 ri_x_cge (zf1 ri_x_aload (zf1 ri_x_getR (zf1 ri_x_iload (zf1 ri_x_const (zf1 ri_x_zast (zf1 ri_x_iinc (zf1 ri_x_goto (zf1 ri_x_aload (zf1 ri_x_vV (zf1 ri_x_aload (zf1 ri_x_getR (zf1 ri_x_getI zf0)))))))))))))))) (zf1 (show ∀ q ∈ CX9_river_3 o, RIx isIr q.2 by unfold CX9_river_3; exact zf1 ri_x_iret zf0) (zf0))))) h
theorem rt_reach (N d : Nat) (as : List AV) (A : AH) (r : RES) (h : arun N d 78 as A = some r) : isIr r := arun_ri (P := isIr) (y := 78) rfl (fun o => zf1 (show ∀ q ∈ CX9_reach_0 o, RIx isIr q.2 by unfold CX9_reach_0; exact zf1 ri_x_aload (zf1 ri_x_getR (zf1 ri_x_iload (zf1 ri_x_vI (zf1 ri_x_ifeq (zf1 ri_x_iload (zf1 ri_x_iflt (zf1 ri_x_iload (zf1 ri_x_const (zf1 ri_x_cle (zf1 ri_x_const (zf1 ri_x_iret (zf1 ri_x_aload (zf1 ri_x_aload (zf1 ri_x_iload (zf1 ri_x_iload zf0)))))))))))))))) (zf1 (show ∀ q ∈ CX9_reach_1 o, RIx isIr q.2 by unfold CX9_reach_1; exact zf1 ri_x_vI (zf1 ri_x_vI (zf1 ri_x_iret zf0))) (zf0))) h
theorem rt_mark (N d : Nat) (as : List AV) (A : AH) (r : RES) (h : arun N d 79 as A = some r) : isIr r := arun_ri (P := isIr) (y := 79) rfl (fun o => zf1 (show ∀ q ∈ CX9_mark_0 o, RIx isIr q.2 by unfold CX9_mark_0; exact zf1 ri_x_aload (zf1 ri_x_getR (zf1 ri_x_iload (zf1 ri_x_vI (zf1 ri_x_ifeq (zf1 ri_x_iload (zf1 ri_x_const (zf1 ri_x_clt (zf1 ri_x_iload (zf1 ri_x_const (zf1 ri_x_cle (zf1 ri_x_const (zf1 ri_x_iret (zf1 ri_x_aload (zf1 ri_x_getR (zf1 ri_x_getR zf0)))))))))))))))) (zf1 (show ∀ q ∈ CX9_mark_1 o, RIx isIr q.2 by unfold CX9_mark_1; exact zf1 ri_x_iload (zf1 ri_x_ald (zf1 ri_x_iload (zf1 ri_x_sI (zf1 ri_x_ifne (zf1 ri_x_aload (zf1 ri_x_const (zf1 ri_x_vI (zf1 ri_x_iret (zf1 ri_x_iload (zf1 ri_x_aload (zf1 ri_x_getR (zf1 ri_x_getR (zf1 ri_x_iload (zf1 ri_x_ald (zf1 ri_x_aload zf0)))))))))))))))) (zf1 (show ∀ q ∈ CX9_mark_2 o, RIx isIr q.2 by unfold CX9_mark_2; exact zf1 ri_x_getR (zf1 ri_x_getR (zf1 ri_x_iload (zf1 ri_x_ald (zf1 ri_x_sI (zf1 ri_x_iret zf0)))))) (zf0)))) h
theorem rt_weekday (N d : Nat) (as : List AV) (A : AH) (r : RES) (h : arun N d 80 as A = some r) : isIr r := arun_ri (P := isIr) (y := 80) rfl (fun o => zf1 (show ∀ q ∈ CX9_weekday_0 o, RIx isIr q.2 by unfold CX9_weekday_0; exact zf1 ri_x_iload (zf1 ri_x_sI (zf1 ri_x_ifeq (zf1 ri_x_iload (zf1 ri_x_iflt (zf1 ri_x_iload (zf1 ri_x_const (zf1 ri_x_cle (zf1 ri_x_const (zf1 ri_x_iret (zf1 ri_x_aload (zf1 ri_x_getR (zf1 ri_x_getI (zf1 ri_x_ifne (zf1 ri_x_const (zf1 ri_x_iret zf0)))))))))))))))) (zf1 (show ∀ q ∈ CX9_weekday_1 o, RIx isIr q.2 by unfold CX9_weekday_1; exact zf1 ri_x_iload (zf1 ri_x_ifne (zf1 ri_x_aload (zf1 ri_x_getR (zf1 ri_x_getR (zf1 ri_x_iload (zf1 ri_x_ald (zf1 ri_x_goto (zf1 ri_x_aload (zf1 ri_x_getR (zf1 ri_x_getR (zf1 ri_x_iload (zf1 ri_x_ald (zf1 ri_x_iret zf0)))))))))))))) (zf0))) h
theorem rt_swap (N d : Nat) (as : List AV) (A : AH) (r : RES) (h : arun N d 81 as A = some r) : isIr r := arun_ri (P := isIr) (y := 81) rfl (fun o => zf1 (show ∀ q ∈ CX9_swap_0 o, RIx isIr q.2 by unfold CX9_swap_0; exact zf1 ri_x_iload (zf1 ri_x_sI (zf1 ri_x_ifeq (zf1 ri_x_iload (zf1 ri_x_sI (zf1 ri_x_ifeq (zf1 ri_x_iload (zf1 ri_x_iload (zf1 ri_x_cne (zf1 ri_x_const (zf1 ri_x_iret (zf1 ri_x_aload (zf1 ri_x_getR (zf1 ri_x_getI (zf1 ri_x_ifne (zf1 ri_x_const zf0)))))))))))))))) (zf1 (show ∀ q ∈ CX9_swap_1 o, RIx isIr q.2 by unfold CX9_swap_1; exact zf1 ri_x_iret (zf1 ri_x_aload (zf1 ri_x_getR (zf1 ri_x_getR (zf1 ri_x_iload (zf1 ri_x_ald (zf1 ri_x_istore (zf1 ri_x_aload (zf1 ri_x_getR (zf1 ri_x_getR (zf1 ri_x_iload (zf1 ri_x_aload (zf1 ri_x_getR (zf1 ri_x_getR (zf1 ri_x_iload (zf1 ri_x_ald zf0)))))))))))))))) (zf1 (show ∀ q ∈ CX9_swap_2 o, RIx isIr q.2 by unfold CX9_swap_2; exact zf1 ri_x_iast (zf1 ri_x_aload (zf1 ri_x_getR (zf1 ri_x_getR (zf1 ri_x_iload (zf1 ri_x_iload (zf1 ri_x_iast (zf1 ri_x_const (zf1 ri_x_iret zf0))))))))) (zf0)))) h
theorem rt_owns (N d : Nat) (as : List AV) (A : AH) (r : RES) (h : arun N d 82 as A = some r) : isIr r := arun_ri (P := isIr) (y := 82) rfl (fun o => zf1 (show ∀ q ∈ CX9_owns_0 o, RIx isIr q.2 by unfold CX9_owns_0; exact zf1 ri_x_iload (zf1 ri_x_sI (zf1 ri_x_ifeq (zf1 ri_x_aload (zf1 ri_x_getR (zf1 ri_x_getR (zf1 ri_x_iload (zf1 ri_x_ald (zf1 ri_x_goto (zf1 ri_x_const (zf1 ri_x_iret zf0))))))))))) (zf0)) h
theorem rt_day (N d : Nat) (as : List AV) (A : AH) (r : RES) (h : arun N d 83 as A = some r) : isIr r := arun_ri (P := isIr) (y := 83) rfl (fun o => zf1 (show ∀ q ∈ CX9_day_0 o, RIx isIr q.2 by unfold CX9_day_0; exact zf1 ri_x_aload (zf1 ri_x_getR (zf1 ri_x_iload (zf1 ri_x_vI (zf1 ri_x_ifne (zf1 ri_x_const (zf1 ri_x_iret (zf1 ri_x_aload (zf1 ri_x_getR (zf1 ri_x_getI (zf1 ri_x_ifne (zf1 ri_x_const (zf1 ri_x_iret (zf1 ri_x_aload (zf1 ri_x_getR (zf1 ri_x_getI zf0)))))))))))))))) (zf1 (show ∀ q ∈ CX9_day_1 o, RIx isIr q.2 by unfold CX9_day_1; exact zf1 ri_x_const (zf1 ri_x_clt (zf1 ri_x_const (zf1 ri_x_iret (zf1 ri_x_aload (zf1 ri_x_iload (zf1 ri_x_vI (zf1 ri_x_iret zf0)))))))) (zf0))) h
theorem rt_undo (N d : Nat) (as : List AV) (A : AH) (r : RES) (h : arun N d 84 as A = some r) : isIr r := arun_ri (P := isIr) (y := 84) rfl (fun o => zf1 (show ∀ q ∈ CX9_undo_0 o, RIx isIr q.2 by unfold CX9_undo_0; exact zf1 ri_x_iload (zf1 ri_x_iflt (zf1 ri_x_iload (zf1 ri_x_aload (zf1 ri_x_getR (zf1 ri_x_getI (zf1 ri_x_cle (zf1 ri_x_const (zf1 ri_x_iret (zf1 ri_x_aload (zf1 ri_x_getR (zf1 ri_x_getI (zf1 ri_x_iload (zf1 ri_x_bin (zf1 ri_x_istore (zf1 ri_x_aload zf0)))))))))))))))) (zf1 (show ∀ q ∈ CX9_undo_1 o, RIx isIr q.2 by unfold CX9_undo_1; exact zf1 ri_x_getR (zf1 ri_x_iload (zf1 ri_x_vV (zf1 ri_x_aload (zf1 ri_x_vV (zf1 ri_x_iload (zf1 ri_x_iret zf0))))))) (zf0))) h
theorem rt_keep (N d : Nat) (as : List AV) (A : AH) (r : RES) (h : arun N d 85 as A = some r) : isIr r := arun_ri (P := isIr) (y := 85) rfl (fun o => zf1 (show ∀ q ∈ CX9_keep_0 o, RIx isIr q.2 by unfold CX9_keep_0; exact zf1 ri_x_iload (zf1 ri_x_iflt (zf1 ri_x_iload (zf1 ri_x_const (zf1 ri_x_clt (zf1 ri_x_const (zf1 ri_x_iret (zf1 ri_x_aload (zf1 ri_x_getR (zf1 ri_x_getI (zf1 ri_x_ifne (zf1 ri_x_const (zf1 ri_x_iret (zf1 ri_x_aload (zf1 ri_x_getR (zf1 ri_x_iload zf0)))))))))))))))) (zf1 (show ∀ q ∈ CX9_keep_1 o, RIx isIr q.2 by unfold CX9_keep_1; exact zf1 ri_x_aald (zf1 ri_x_aload (zf1 ri_x_getR (zf1 ri_x_vV (zf1 ri_x_aload (zf1 ri_x_getR (zf1 ri_x_iload (zf1 ri_x_const (zf1 ri_x_zast (zf1 ri_x_aload (zf1 ri_x_getR (zf1 ri_x_getI (zf1 ri_x_iret zf0))))))))))))) (zf0))) h
theorem rt_on (N d : Nat) (as : List AV) (A : AH) (r : RES) (h : arun N d 86 as A = some r) : isIr r := arun_ri (P := isIr) (y := 86) rfl (fun o => zf1 (show ∀ q ∈ CX9_on_0 o, RIx isIr q.2 by unfold CX9_on_0; exact zf1 ri_x_iload (zf1 ri_x_iflt (zf1 ri_x_iload (zf1 ri_x_const (zf1 ri_x_clt (zf1 ri_x_const (zf1 ri_x_iret (zf1 ri_x_aload (zf1 ri_x_getR (zf1 ri_x_iload (zf1 ri_x_ald (zf1 ri_x_ifne (zf1 ri_x_aload (zf1 ri_x_const (zf1 ri_x_vI (zf1 ri_x_iret zf0)))))))))))))))) (zf1 (show ∀ q ∈ CX9_on_1 o, RIx isIr q.2 by unfold CX9_on_1; exact zf1 ri_x_aload (zf1 ri_x_getR (zf1 ri_x_aload (zf1 ri_x_getR (zf1 ri_x_iload (zf1 ri_x_aald (zf1 ri_x_vV (zf1 ri_x_aload (zf1 ri_x_vV (zf1 ri_x_aload (zf1 ri_x_getR (zf1 ri_x_getI (zf1 ri_x_iret zf0))))))))))))) (zf0))) h
theorem rt_gates (N d : Nat) (as : List AV) (A : AH) (r : RES) (h : arun N d 87 as A = some r) : isIr r := arun_ri (P := isIr) (y := 87) rfl (fun o => zf1 (show ∀ q ∈ CX9_gates_0 o, RIx isIr q.2 by unfold CX9_gates_0; exact zf1 ri_x_aload (zf1 ri_x_getR (zf1 ri_x_getI (zf1 ri_x_iret zf0)))) (zf0)) h
theorem rt_runs (N d : Nat) (as : List AV) (A : AH) (r : RES) (h : arun N d 88 as A = some r) : isIr r := arun_ri (P := isIr) (y := 88) rfl (fun o => zf1 (show ∀ q ∈ CX9_runs_0 o, RIx isIr q.2 by unfold CX9_runs_0; exact zf1 ri_x_aload (zf1 ri_x_getR (zf1 ri_x_iload (zf1 ri_x_vI (zf1 ri_x_ifne (zf1 ri_x_const (zf1 ri_x_iret (zf1 ri_x_aload (zf1 ri_x_getR (zf1 ri_x_getI (zf1 ri_x_ifne (zf1 ri_x_const (zf1 ri_x_iret (zf1 ri_x_aload (zf1 ri_x_getR (zf1 ri_x_aload zf0)))))))))))))))) (zf1 (show ∀ q ∈ CX9_runs_1 o, RIx isIr q.2 by unfold CX9_runs_1; exact zf1 ri_x_getR (zf1 ri_x_getR (zf1 ri_x_aload (zf1 ri_x_getR (zf1 ri_x_getI (zf1 ri_x_vV (zf1 ri_x_aload (zf1 ri_x_getR (zf1 ri_x_aload (zf1 ri_x_getR (zf1 ri_x_const (zf1 ri_x_iload (zf1 ri_x_vV (zf1 ri_x_aload (zf1 ri_x_aload (zf1 ri_x_getR zf0)))))))))))))))) (zf1 (show ∀ q ∈ CX9_runs_2 o, RIx isIr q.2 by unfold CX9_runs_2; exact zf1 ri_x_getI (zf1 ri_x_vI (zf1 ri_x_pop (zf1 ri_x_aload (zf1 ri_x_getR (zf1 ri_x_getI (zf1 ri_x_iret zf0))))))) (zf0)))) h
theorem rt_sea (N d : Nat) (as : List AV) (A : AH) (r : RES) (h : arun N d 89 as A = some r) : isIr r := arun_ri (P := isIr) (y := 89) rfl (fun o => zf1 (show ∀ q ∈ CX9_sea_0 o, RIx isIr q.2 by unfold CX9_sea_0; exact zf1 ri_x_aload (zf1 ri_x_const (zf1 ri_x_iload (zf1 ri_x_const (zf1 ri_x_vI (zf1 ri_x_istore (zf1 ri_x_iload (zf1 ri_x_ifeq (zf1 ri_x_iload (zf1 ri_x_iret (zf1 ri_x_aload (zf1 ri_x_iload (zf1 ri_x_vV (zf1 ri_x_aload (zf1 ri_x_aload (zf1 ri_x_getR zf0)))))))))))))))) (zf1 (show ∀ q ∈ CX9_sea_1 o, RIx isIr q.2 by unfold CX9_sea_1; exact zf1 ri_x_getI (zf1 ri_x_vI (zf1 ri_x_pop (zf1 ri_x_aload (zf1 ri_x_getR (zf1 ri_x_getI (zf1 ri_x_iret zf0))))))) (zf0))) h
theorem rt_water (N d : Nat) (as : List AV) (A : AH) (r : RES) (h : arun N d 90 as A = some r) : isIr r := arun_ri (P := isIr) (y := 90) rfl (fun o => zf1 (show ∀ q ∈ CX9_water_0 o, RIx isIr q.2 by unfold CX9_water_0; exact zf1 ri_x_aload (zf1 ri_x_aload (zf1 ri_x_getR (zf1 ri_x_iload (zf1 ri_x_vI (zf1 ri_x_iload (zf1 ri_x_const (zf1 ri_x_vI (zf1 ri_x_istore (zf1 ri_x_iload (zf1 ri_x_ifeq (zf1 ri_x_iload (zf1 ri_x_iret (zf1 ri_x_aload (zf1 ri_x_iload (zf1 ri_x_vV zf0)))))))))))))))) (zf1 (show ∀ q ∈ CX9_water_1 o, RIx isIr q.2 by unfold CX9_water_1; exact zf1 ri_x_aload (zf1 ri_x_getR (zf1 ri_x_iload (zf1 ri_x_vI (zf1 ri_x_iret zf0))))) (zf0))) h
theorem rt_share (N d : Nat) (as : List AV) (A : AH) (r : RES) (h : arun N d 91 as A = some r) : isIr r := arun_ri (P := isIr) (y := 91) rfl (fun o => zf1 (show ∀ q ∈ CX9_share_0 o, RIx isIr q.2 by unfold CX9_share_0; exact zf1 ri_x_aload (zf1 ri_x_iload (zf1 ri_x_sI (zf1 ri_x_iload (zf1 ri_x_const (zf1 ri_x_vI (zf1 ri_x_istore (zf1 ri_x_iload (zf1 ri_x_ifeq (zf1 ri_x_iload (zf1 ri_x_iret (zf1 ri_x_aload (zf1 ri_x_iload (zf1 ri_x_vV (zf1 ri_x_aload (zf1 ri_x_getR zf0)))))))))))))))) (zf1 (show ∀ q ∈ CX9_share_1 o, RIx isIr q.2 by unfold CX9_share_1; exact zf1 ri_x_getR (zf1 ri_x_iload (zf1 ri_x_ald (zf1 ri_x_iret zf0)))) (zf0))) h
theorem rt_grinds (N d : Nat) (as : List AV) (A : AH) (r : RES) (h : arun N d 92 as A = some r) : isIr r := arun_ri (P := isIr) (y := 92) rfl (fun o => zf1 (show ∀ q ∈ CX9_grinds_0 o, RIx isIr q.2 by unfold CX9_grinds_0; exact zf1 ri_x_aload (zf1 ri_x_getR (zf1 ri_x_iload (zf1 ri_x_vI (zf1 ri_x_ifne (zf1 ri_x_const (zf1 ri_x_iret (zf1 ri_x_aload (zf1 ri_x_getR (zf1 ri_x_aload (zf1 ri_x_getR (zf1 ri_x_getR (zf1 ri_x_aload (zf1 ri_x_getR (zf1 ri_x_getI (zf1 ri_x_vV zf0)))))))))))))))) (zf1 (show ∀ q ∈ CX9_grinds_1 o, RIx isIr q.2 by unfold CX9_grinds_1; exact zf1 ri_x_const (zf1 ri_x_istore (zf1 ri_x_iload (zf1 ri_x_const (zf1 ri_x_cge (zf1 ri_x_aload (zf1 ri_x_getR (zf1 ri_x_aload (zf1 ri_x_getR (zf1 ri_x_iload (zf1 ri_x_const (zf1 ri_x_vV (zf1 ri_x_aload (zf1 ri_x_getR (zf1 ri_x_getI (zf1 ri_x_iload zf0)))))))))))))))) (zf1 (show ∀ q ∈ CX9_grinds_2 o, RIx isIr q.2 by unfold CX9_grinds_2; exact zf1 ri_x_bin (zf1 ri_x_const (zf1 ri_x_bin (zf1 ri_x_ifeq (zf1 ri_x_iload (zf1 ri_x_const (zf1 ri_x_bin (zf1 ri_x_iret (zf1 ri_x_iinc (zf1 ri_x_goto (zf1 ri_x_const (zf1 ri_x_iret zf0)))))))))))) (zf0)))) h
theorem rt_best (N d : Nat) (as : List AV) (A : AH) (r : RES) (h : arun N d 93 as A = some r) : isIr r := arun_ri (P := isIr) (y := 93) rfl (fun o => zf1 (show ∀ q ∈ CX9_best_0 o, RIx isIr q.2 by unfold CX9_best_0; exact zf1 ri_x_aload (zf1 ri_x_aload (zf1 ri_x_getR (zf1 ri_x_iload (zf1 ri_x_vI (zf1 ri_x_iload (zf1 ri_x_const (zf1 ri_x_vI (zf1 ri_x_istore (zf1 ri_x_iload (zf1 ri_x_ifeq (zf1 ri_x_iload (zf1 ri_x_iret (zf1 ri_x_aload (zf1 ri_x_getR (zf1 ri_x_aload zf0)))))))))))))))) (zf1 (show ∀ q ∈ CX9_best_1 o, RIx isIr q.2 by unfold CX9_best_1; exact zf1 ri_x_getR (zf1 ri_x_aload (zf1 ri_x_getR (zf1 ri_x_getR (zf1 ri_x_aload (zf1 ri_x_getR (zf1 ri_x_getI (zf1 ri_x_const (zf1 ri_x_iload (zf1 ri_x_vV (zf1 ri_x_aload (zf1 ri_x_getR (zf1 ri_x_iload (zf1 ri_x_aload (zf1 ri_x_getR (zf1 ri_x_getR zf0)))))))))))))))) (zf1 (show ∀ q ∈ CX9_best_2 o, RIx isIr q.2 by unfold CX9_best_2; exact zf1 ri_x_iload (zf1 ri_x_vV (zf1 ri_x_aload (zf1 ri_x_getR (zf1 ri_x_getI (zf1 ri_x_iret zf0)))))) (zf0)))) h
theorem rt_all (N d : Nat) (as : List AV) (A : AH) (r : RES) (h : arun N d 94 as A = some r) : isIr r := arun_ri (P := isIr) (y := 94) rfl (fun o => zf1 (show ∀ q ∈ CX9_all_0 o, RIx isIr q.2 by unfold CX9_all_0; exact zf1 ri_x_aload (zf1 ri_x_aload (zf1 ri_x_getR (zf1 ri_x_iload (zf1 ri_x_vI (zf1 ri_x_iload (zf1 ri_x_const (zf1 ri_x_vI (zf1 ri_x_istore (zf1 ri_x_iload (zf1 ri_x_ifeq (zf1 ri_x_iload (zf1 ri_x_iret (zf1 ri_x_aload (zf1 ri_x_getR (zf1 ri_x_aload zf0)))))))))))))))) (zf1 (show ∀ q ∈ CX9_all_1 o, RIx isIr q.2 by unfold CX9_all_1; exact zf1 ri_x_getR (zf1 ri_x_aload (zf1 ri_x_getR (zf1 ri_x_getR (zf1 ri_x_aload (zf1 ri_x_getR (zf1 ri_x_getI (zf1 ri_x_const (zf1 ri_x_iload (zf1 ri_x_vV (zf1 ri_x_aload (zf1 ri_x_getR (zf1 ri_x_getI (zf1 ri_x_ifne (zf1 ri_x_const (zf1 ri_x_iret zf0)))))))))))))))) (zf1 (show ∀ q ∈ CX9_all_2 o, RIx isIr q.2 by unfold CX9_all_2; exact zf1 ri_x_aload (zf1 ri_x_getR (zf1 ri_x_iload (zf1 ri_x_aload (zf1 ri_x_getR (zf1 ri_x_getR (zf1 ri_x_iload (zf1 ri_x_vV (zf1 ri_x_aload (zf1 ri_x_getR (zf1 ri_x_getI (zf1 ri_x_un (zf1 ri_x_iret zf0))))))))))))) (zf0)))) h
theorem rt_most (N d : Nat) (as : List AV) (A : AH) (r : RES) (h : arun N d 95 as A = some r) : isIr r := arun_ri (P := isIr) (y := 95) rfl (fun o => zf1 (show ∀ q ∈ CX9_most_0 o, RIx isIr q.2 by unfold CX9_most_0; exact zf1 ri_x_aload (zf1 ri_x_iload (zf1 ri_x_sI (zf1 ri_x_iload (zf1 ri_x_const (zf1 ri_x_vI (zf1 ri_x_istore (zf1 ri_x_iload (zf1 ri_x_ifeq (zf1 ri_x_iload (zf1 ri_x_iret (zf1 ri_x_aload (zf1 ri_x_getR (zf1 ri_x_iload (zf1 ri_x_putI (zf1 ri_x_aload zf0)))))))))))))))) (zf1 (show ∀ q ∈ CX9_most_1 o, RIx isIr q.2 by unfold CX9_most_1; exact zf1 ri_x_getR (zf1 ri_x_aload (zf1 ri_x_getR (zf1 ri_x_aload (zf1 ri_x_getR (zf1 ri_x_getR (zf1 ri_x_aload (zf1 ri_x_getR (zf1 ri_x_getI (zf1 ri_x_const (zf1 ri_x_iload (zf1 ri_x_vV (zf1 ri_x_aload (zf1 ri_x_getR (zf1 ri_x_getI (zf1 ri_x_iret zf0)))))))))))))))) (zf0))) h
theorem rt_worth (N d : Nat) (as : List AV) (A : AH) (r : RES) (h : arun N d 96 as A = some r) : isIr r := arun_ri (P := isIr) (y := 96) rfl (fun o => zf1 (show ∀ q ∈ CX9_worth_0 o, RIx isIr q.2 by unfold CX9_worth_0; exact zf1 ri_x_aload (zf1 ri_x_const (zf1 ri_x_iload (zf1 ri_x_const (zf1 ri_x_vI (zf1 ri_x_istore (zf1 ri_x_iload (zf1 ri_x_ifeq (zf1 ri_x_iload (zf1 ri_x_iret (zf1 ri_x_aload (zf1 ri_x_const (zf1 ri_x_iload (zf1 ri_x_vI (zf1 ri_x_istore (zf1 ri_x_const zf0)))))))))))))))) (zf1 (show ∀ q ∈ CX9_worth_1 o, RIx isIr q.2 by unfold CX9_worth_1; exact zf1 ri_x_istore (zf1 ri_x_const (zf1 ri_x_istore (zf1 ri_x_iload (zf1 ri_x_const (zf1 ri_x_cge (zf1 ri_x_aload (zf1 ri_x_iload (zf1 ri_x_iload (zf1 ri_x_vI (zf1 ri_x_istore (zf1 ri_x_iload (zf1 ri_x_iload (zf1 ri_x_cge (zf1 ri_x_iload (zf1 ri_x_istore zf0)))))))))))))))) (zf1 (show ∀ q ∈ CX9_worth_2 o, RIx isIr q.2 by unfold CX9_worth_2; exact zf1 ri_x_iload (zf1 ri_x_istore (zf1 ri_x_iinc (zf1 ri_x_goto (zf1 ri_x_aload (zf1 ri_x_iload (zf1 ri_x_vI (zf1 ri_x_pop (zf1 ri_x_iload (zf1 ri_x_iret zf0)))))))))) (zf0)))) h
theorem rt_duel (N d : Nat) (as : List AV) (A : AH) (r : RES) (h : arun N d 97 as A = some r) : isIr r := arun_ri (P := isIr) (y := 97) rfl (fun o => zf1 (show ∀ q ∈ CX9_duel_0 o, RIx isIr q.2 by unfold CX9_duel_0; exact zf1 ri_x_aload (zf1 ri_x_const (zf1 ri_x_iload (zf1 ri_x_const (zf1 ri_x_vI (zf1 ri_x_istore (zf1 ri_x_iload (zf1 ri_x_ifeq (zf1 ri_x_iload (zf1 ri_x_iret (zf1 ri_x_aload (zf1 ri_x_getR (zf1 ri_x_aload (zf1 ri_x_getR (zf1 ri_x_aload (zf1 ri_x_getR zf0)))))))))))))))) (zf1 (show ∀ q ∈ CX9_duel_1 o, RIx isIr q.2 by unfold CX9_duel_1; exact zf1 ri_x_getR (zf1 ri_x_aload (zf1 ri_x_getR (zf1 ri_x_getI (zf1 ri_x_iload (zf1 ri_x_vI (zf1 ri_x_iret zf0))))))) (zf0))) h
theorem rt_ways (N d : Nat) (as : List AV) (A : AH) (r : RES) (h : arun N d 98 as A = some r) : isIr r := arun_ri (P := isIr) (y := 98) rfl (fun o => zf1 (show ∀ q ∈ CX9_ways_0 o, RIx isIr q.2 by unfold CX9_ways_0; exact zf1 ri_x_aload (zf1 ri_x_const (zf1 ri_x_iload (zf1 ri_x_vI (zf1 ri_x_istore (zf1 ri_x_iload (zf1 ri_x_ifeq (zf1 ri_x_iload (zf1 ri_x_iret (zf1 ri_x_aload (zf1 ri_x_getR (zf1 ri_x_iload (zf1 ri_x_aload (zf1 ri_x_getR (zf1 ri_x_getR (zf1 ri_x_vV zf0)))))))))))))))) (zf1 (show ∀ q ∈ CX9_ways_1 o, RIx isIr q.2 by unfold CX9_ways_1; exact zf1 ri_x_aload (zf1 ri_x_getR (zf1 ri_x_aload (zf1 ri_x_getR (zf1 ri_x_aload (zf1 ri_x_getR (zf1 ri_x_getR (zf1 ri_x_aload (zf1 ri_x_getR (zf1 ri_x_getI (zf1 ri_x_const (zf1 ri_x_aload (zf1 ri_x_getR (zf1 ri_x_iload (zf1 ri_x_vI (zf1 ri_x_vV zf0)))))))))))))))) (zf1 (show ∀ q ∈ CX9_ways_2 o, RIx isIr q.2 by unfold CX9_ways_2; exact zf1 ri_x_aload (zf1 ri_x_aload (zf1 ri_x_getR (zf1 ri_x_getI (zf1 ri_x_i2l (zf1 ri_x_const (zf1 ri_x_vV (zf1 ri_x_aload (zf1 ri_x_aload (zf1 ri_x_getR (zf1 ri_x_getI (zf1 ri_x_vI (zf1 ri_x_iret zf0))))))))))))) (zf0)))) h
theorem rt_first (N d : Nat) (as : List AV) (A : AH) (r : RES) (h : arun N d 99 as A = some r) : isIr r := arun_ri (P := isIr) (y := 99) rfl (fun o => zf1 (show ∀ q ∈ CX9_first_0 o, RIx isIr q.2 by unfold CX9_first_0; exact zf1 ri_x_aload (zf1 ri_x_aload (zf1 ri_x_getR (zf1 ri_x_iload (zf1 ri_x_vI (zf1 ri_x_iload (zf1 ri_x_vI (zf1 ri_x_istore (zf1 ri_x_iload (zf1 ri_x_ifeq (zf1 ri_x_iload (zf1 ri_x_iret (zf1 ri_x_aload (zf1 ri_x_getR (zf1 ri_x_iload (zf1 ri_x_aload zf0)))))))))))))))) (zf1 (show ∀ q ∈ CX9_first_1 o, RIx isIr q.2 by unfold CX9_first_1; exact zf1 ri_x_getR (zf1 ri_x_getR (zf1 ri_x_vV (zf1 ri_x_aload (zf1 ri_x_getR (zf1 ri_x_aload (zf1 ri_x_getR (zf1 ri_x_aload (zf1 ri_x_getR (zf1 ri_x_getR (zf1 ri_x_aload (zf1 ri_x_getR (zf1 ri_x_getI (zf1 ri_x_const (zf1 ri_x_aload (zf1 ri_x_getR zf0)))))))))))))))) (zf1 (show ∀ q ∈ CX9_first_2 o, RIx isIr q.2 by unfold CX9_first_2; exact zf1 ri_x_iload (zf1 ri_x_vI (zf1 ri_x_vV (zf1 ri_x_aload (zf1 ri_x_getR (zf1 ri_x_getI (zf1 ri_x_ifne (zf1 ri_x_const (zf1 ri_x_iret (zf1 ri_x_aload (zf1 ri_x_getR (zf1 ri_x_iload (zf1 ri_x_aload (zf1 ri_x_getR (zf1 ri_x_getR (zf1 ri_x_aload zf0)))))))))))))))) (zf1 (show ∀ q ∈ CX9_first_3 o, RIx isIr q.2 by unfold CX9_first_3; exact zf1 ri_x_getR (zf1 ri_x_getI (zf1 ri_x_vV (zf1 ri_x_aload (zf1 ri_x_getR (zf1 ri_x_vI (zf1 ri_x_iret zf0))))))) (zf0))))) h
theorem rt_kinds (N d : Nat) (as : List AV) (A : AH) (r : RES) (h : arun N d 100 as A = some r) : isIr r := arun_ri (P := isIr) (y := 100) rfl (fun o => zf1 (show ∀ q ∈ CX9_kinds_0 o, RIx isIr q.2 by unfold CX9_kinds_0; exact zf1 ri_x_aload (zf1 ri_x_iload (zf1 ri_x_iload (zf1 ri_x_vI (zf1 ri_x_istore (zf1 ri_x_iload (zf1 ri_x_ifeq (zf1 ri_x_iload (zf1 ri_x_iret (zf1 ri_x_const (zf1 ri_x_istore (zf1 ri_x_const (zf1 ri_x_istore (zf1 ri_x_iload (zf1 ri_x_const (zf1 ri_x_cgt zf0)))))))))))))))) (zf1 (show ∀ q ∈ CX9_kinds_1 o, RIx isIr q.2 by unfold CX9_kinds_1; exact zf1 ri_x_aload (zf1 ri_x_iload (zf1 ri_x_aload (zf1 ri_x_getR (zf1 ri_x_getR (zf1 ri_x_iload (zf1 ri_x_ald (zf1 ri_x_aload (zf1 ri_x_getR (zf1 ri_x_getR (zf1 ri_x_iload (zf1 ri_x_ald (zf1 ri_x_iload (zf1 ri_x_vI (zf1 ri_x_ifeq (zf1 ri_x_iload zf0)))))))))))))))) (zf1 (show ∀ q ∈ CX9_kinds_2 o, RIx isIr q.2 by unfold CX9_kinds_2; exact zf1 ri_x_const (zf1 ri_x_iload (zf1 ri_x_bin (zf1 ri_x_bin (zf1 ri_x_istore (zf1 ri_x_iinc (zf1 ri_x_goto (zf1 ri_x_iload (zf1 ri_x_iret zf0))))))))) (zf0)))) h
theorem rt_measures (N d : Nat) (as : List AV) (A : AH) (r : RES) (h : arun N d 101 as A = some r) : isIr r := arun_ri (P := isIr) (y := 101) rfl (fun o => zf1 (show ∀ q ∈ CX9_measures_0 o, RIx isIr q.2 by unfold CX9_measures_0; exact zf1 ri_x_aload (zf1 ri_x_iload (zf1 ri_x_iload (zf1 ri_x_vI (zf1 ri_x_istore (zf1 ri_x_iload (zf1 ri_x_ifeq (zf1 ri_x_iload (zf1 ri_x_iret (zf1 ri_x_const (zf1 ri_x_istore (zf1 ri_x_const (zf1 ri_x_istore (zf1 ri_x_iload (zf1 ri_x_const (zf1 ri_x_cgt zf0)))))))))))))))) (zf1 (show ∀ q ∈ CX9_measures_1 o, RIx isIr q.2 by unfold CX9_measures_1; exact zf1 ri_x_aload (zf1 ri_x_aload (zf1 ri_x_getR (zf1 ri_x_getR (zf1 ri_x_iload (zf1 ri_x_ald (zf1 ri_x_iload (zf1 ri_x_aload (zf1 ri_x_getR (zf1 ri_x_getR (zf1 ri_x_iload (zf1 ri_x_ald (zf1 ri_x_iload (zf1 ri_x_vI (zf1 ri_x_ifeq (zf1 ri_x_iload zf0)))))))))))))))) (zf1 (show ∀ q ∈ CX9_measures_2 o, RIx isIr q.2 by unfold CX9_measures_2; exact zf1 ri_x_const (zf1 ri_x_iload (zf1 ri_x_bin (zf1 ri_x_bin (zf1 ri_x_istore (zf1 ri_x_iinc (zf1 ri_x_goto (zf1 ri_x_iload (zf1 ri_x_iret zf0))))))))) (zf0)))) h
theorem rt_mid (N d : Nat) (as : List AV) (A : AH) (r : RES) (h : arun N d 102 as A = some r) : isIr r := arun_ri (P := isIr) (y := 102) rfl (fun o => zf1 (show ∀ q ∈ CX9_mid_0 o, RIx isIr q.2 by unfold CX9_mid_0; exact zf1 ri_x_aload (zf1 ri_x_iload (zf1 ri_x_sI (zf1 ri_x_iload (zf1 ri_x_const (zf1 ri_x_vI (zf1 ri_x_istore (zf1 ri_x_iload (zf1 ri_x_ifeq (zf1 ri_x_iload (zf1 ri_x_iret (zf1 ri_x_aload (zf1 ri_x_getR (zf1 ri_x_iload (zf1 ri_x_aload (zf1 ri_x_getR zf0)))))))))))))))) (zf1 (show ∀ q ∈ CX9_mid_1 o, RIx isIr q.2 by unfold CX9_mid_1; exact zf1 ri_x_getR (zf1 ri_x_vV (zf1 ri_x_aload (zf1 ri_x_getR (zf1 ri_x_aload (zf1 ri_x_getR (zf1 ri_x_aload (zf1 ri_x_getR (zf1 ri_x_getR (zf1 ri_x_aload (zf1 ri_x_getR (zf1 ri_x_getI (zf1 ri_x_aload (zf1 ri_x_getR (zf1 ri_x_iload (zf1 ri_x_vI zf0)))))))))))))))) (zf1 (show ∀ q ∈ CX9_mid_2 o, RIx isIr q.2 by unfold CX9_mid_2; exact zf1 ri_x_const (zf1 ri_x_iload (zf1 ri_x_vV (zf1 ri_x_aload (zf1 ri_x_aload (zf1 ri_x_getR (zf1 ri_x_getJ (zf1 ri_x_aload (zf1 ri_x_getR (zf1 ri_x_getJ (zf1 ri_x_vV (zf1 ri_x_const (zf1 ri_x_iret zf0))))))))))))) (zf0)))) h
theorem rt_odds (N d : Nat) (as : List AV) (A : AH) (r : RES) (h : arun N d 103 as A = some r) : isIr r := arun_ri (P := isIr) (y := 103) rfl (fun o => zf1 (show ∀ q ∈ CX9_odds_0 o, RIx isIr q.2 by unfold CX9_odds_0; exact zf1 ri_x_aload (zf1 ri_x_iload (zf1 ri_x_sI (zf1 ri_x_ifeq (zf1 ri_x_iload (zf1 ri_x_iflt (zf1 ri_x_iload (zf1 ri_x_const (zf1 ri_x_cgt (zf1 ri_x_const (zf1 ri_x_goto (zf1 ri_x_const (zf1 ri_x_iload (zf1 ri_x_const (zf1 ri_x_vI (zf1 ri_x_istore zf0)))))))))))))))) (zf1 (show ∀ q ∈ CX9_odds_1 o, RIx isIr q.2 by unfold CX9_odds_1; exact zf1 ri_x_iload (zf1 ri_x_ifeq (zf1 ri_x_iload (zf1 ri_x_iret (zf1 ri_x_aload (zf1 ri_x_getR (zf1 ri_x_iload (zf1 ri_x_aload (zf1 ri_x_getR (zf1 ri_x_getR (zf1 ri_x_vV (zf1 ri_x_aload (zf1 ri_x_getR (zf1 ri_x_aload (zf1 ri_x_getR (zf1 ri_x_aload zf0)))))))))))))))) (zf1 (show ∀ q ∈ CX9_odds_2 o, RIx isIr q.2 by unfold CX9_odds_2; exact zf1 ri_x_getR (zf1 ri_x_getR (zf1 ri_x_aload (zf1 ri_x_getR (zf1 ri_x_getI (zf1 ri_x_aload (zf1 ri_x_getR (zf1 ri_x_iload (zf1 ri_x_vI (zf1 ri_x_iload (zf1 ri_x_iload (zf1 ri_x_vV (zf1 ri_x_aload (zf1 ri_x_aload (zf1 ri_x_getR (zf1 ri_x_getJ zf0)))))))))))))))) (zf1 (show ∀ q ∈ CX9_odds_3 o, RIx isIr q.2 by unfold CX9_odds_3; exact zf1 ri_x_aload (zf1 ri_x_getR (zf1 ri_x_getJ (zf1 ri_x_vV (zf1 ri_x_const (zf1 ri_x_iret zf0)))))) (zf0))))) h
theorem rt_lots (N d : Nat) (as : List AV) (A : AH) (r : RES) (h : arun N d 104 as A = some r) : isIr r := arun_ri (P := isIr) (y := 104) rfl (fun o => zf1 (show ∀ q ∈ CX9_lots_0 o, RIx isIr q.2 by unfold CX9_lots_0; exact zf1 ri_x_iload (zf1 ri_x_const (zf1 ri_x_clt (zf1 ri_x_iload (zf1 ri_x_const (zf1 ri_x_cgt (zf1 ri_x_iload (zf1 ri_x_const (zf1 ri_x_clt (zf1 ri_x_iload (zf1 ri_x_i2l (zf1 ri_x_const (zf1 ri_x_lcmp (zf1 ri_x_iflt (zf1 ri_x_const (zf1 ri_x_iret zf0)))))))))))))))) (zf1 (show ∀ q ∈ CX9_lots_1 o, RIx isIr q.2 by unfold CX9_lots_1; exact zf1 ri_x_aload (zf1 ri_x_getR (zf1 ri_x_getI (zf1 ri_x_ifne (zf1 ri_x_const (zf1 ri_x_iret (zf1 ri_x_aload (zf1 ri_x_getR (zf1 ri_x_getI (zf1 ri_x_iload (zf1 ri_x_bin (zf1 ri_x_const (zf1 ri_x_cle (zf1 ri_x_const (zf1 ri_x_iret (zf1 ri_x_iload zf0)))))))))))))))) (zf1 (show ∀ q ∈ CX9_lots_2 o, RIx isIr q.2 by unfold CX9_lots_2; exact zf1 ri_x_i2l (zf1 ri_x_lstore (zf1 ri_x_const (zf1 ri_x_istore (zf1 ri_x_const (zf1 ri_x_istore (zf1 ri_x_iload (zf1 ri_x_iload (zf1 ri_x_cge (zf1 ri_x_lload (zf1 ri_x_const (zf1 ri_x_binl (zf1 ri_x_const (zf1 ri_x_dvl (zf1 ri_x_lstore (zf1 ri_x_iload zf0)))))))))))))))) (zf1 (show ∀ q ∈ CX9_lots_3 o, RIx isIr q.2 by unfold CX9_lots_3; exact zf1 ri_x_aload (zf1 ri_x_aload (zf1 ri_x_getR (zf1 ri_x_lload (zf1 ri_x_l2i (zf1 ri_x_vI (zf1 ri_x_vI (zf1 ri_x_bin (zf1 ri_x_istore (zf1 ri_x_iinc (zf1 ri_x_goto (zf1 ri_x_iload (zf1 ri_x_iret zf0))))))))))))) (zf0))))) h
theorem rt_asked (N d : Nat) (as : List AV) (A : AH) (r : RES) (h : arun N d 105 as A = some r) : isIr r := arun_ri (P := isIr) (y := 105) rfl (fun o => zf1 (show ∀ q ∈ CX9_asked_0 o, RIx isIr q.2 by unfold CX9_asked_0; exact zf1 ri_x_aload (zf1 ri_x_getI (zf1 ri_x_iret zf0))) (zf0)) h
theorem rt_upper (N d : Nat) (as : List AV) (A : AH) (r : RES) (h : arun N d 106 as A = some r) : isJr r := arun_ri (P := isJr) (y := 106) rfl (fun o => zf1 (show ∀ q ∈ CX9_upper_0 o, RIx isJr q.2 by unfold CX9_upper_0; exact zf1 ri_x_aload (zf1 ri_x_getJ (zf1 ri_x_lret zf0))) (zf0)) h
theorem rt_lower (N d : Nat) (as : List AV) (A : AH) (r : RES) (h : arun N d 107 as A = some r) : isJr r := arun_ri (P := isJr) (y := 107) rfl (fun o => zf1 (show ∀ q ∈ CX9_lower_0 o, RIx isJr q.2 by unfold CX9_lower_0; exact zf1 ri_x_aload (zf1 ri_x_getJ (zf1 ri_x_lret zf0))) (zf0)) h
theorem rt_count (N d : Nat) (as : List AV) (A : AH) (r : RES) (h : arun N d 108 as A = some r) : isIr r := arun_ri (P := isIr) (y := 108) rfl (fun o => zf1 (show ∀ q ∈ CX9_count_0 o, RIx isIr q.2 by unfold CX9_count_0; exact zf1 ri_x_iload (zf1 ri_x_iflt (zf1 ri_x_iload (zf1 ri_x_const (zf1 ri_x_clt (zf1 ri_x_const (zf1 ri_x_goto (zf1 ri_x_aload (zf1 ri_x_iload (zf1 ri_x_vI (zf1 ri_x_iret zf0))))))))))) (zf0)) h
theorem rt_finding (N d : Nat) (as : List AV) (A : AH) (r : RES) (h : arun N d 109 as A = some r) : isIr r := arun_ri (P := isIr) (y := 109) rfl (fun o => zf1 (show ∀ q ∈ CX9_finding_0 o, RIx isIr q.2 by unfold CX9_finding_0; exact zf1 ri_x_aload (zf1 ri_x_getI (zf1 ri_x_iret zf0))) (zf0)) h
theorem rt_findings (N d : Nat) (as : List AV) (A : AH) (r : RES) (h : arun N d 110 as A = some r) : isIr r := arun_ri (P := isIr) (y := 110) rfl (fun o => zf1 (show ∀ q ∈ CX9_findings_0 o, RIx isIr q.2 by unfold CX9_findings_0; exact zf1 ri_x_iload (zf1 ri_x_const (zf1 ri_x_clt (zf1 ri_x_iload (zf1 ri_x_const (zf1 ri_x_cle (zf1 ri_x_const (zf1 ri_x_goto (zf1 ri_x_aload (zf1 ri_x_getR (zf1 ri_x_iload (zf1 ri_x_ald (zf1 ri_x_iret zf0))))))))))))) (zf0)) h
theorem rt_digest (N d : Nat) (as : List AV) (A : AH) (r : RES) (h : arun N d 111 as A = some r) : isJr r := arun_ri (P := isJr) (y := 111) rfl (fun o => zf1 (show ∀ q ∈ CX9_digest_0 o, RIx isJr q.2 by unfold CX9_digest_0; exact zf1 ri_x_const (zf1 ri_x_lstore (zf1 ri_x_const (zf1 ri_x_istore (zf1 ri_x_iload (zf1 ri_x_const (zf1 ri_x_cge (zf1 ri_x_const (zf1 ri_x_lload (zf1 ri_x_binl (zf1 ri_x_aload (zf1 ri_x_iload (zf1 ri_x_vI (zf1 ri_x_i2l (zf1 ri_x_binl (zf1 ri_x_lstore zf0)))))))))))))))) (zf1 (show ∀ q ∈ CX9_digest_1 o, RIx isJr q.2 by unfold CX9_digest_1; exact zf1 ri_x_iinc (zf1 ri_x_goto (zf1 ri_x_const (zf1 ri_x_istore (zf1 ri_x_iload (zf1 ri_x_const (zf1 ri_x_cge (zf1 ri_x_aload (zf1 ri_x_getR (zf1 ri_x_getI (zf1 ri_x_ifle (zf1 ri_x_const (zf1 ri_x_lload (zf1 ri_x_binl (zf1 ri_x_aload (zf1 ri_x_getR zf0)))))))))))))))) (zf1 (show ∀ q ∈ CX9_digest_2 o, RIx isJr q.2 by unfold CX9_digest_2; exact zf1 ri_x_getR (zf1 ri_x_iload (zf1 ri_x_ald (zf1 ri_x_i2l (zf1 ri_x_binl (zf1 ri_x_lstore (zf1 ri_x_const (zf1 ri_x_lload (zf1 ri_x_binl (zf1 ri_x_aload (zf1 ri_x_getR (zf1 ri_x_getR (zf1 ri_x_iload (zf1 ri_x_ald (zf1 ri_x_i2l (zf1 ri_x_binl zf0)))))))))))))))) (zf1 (show ∀ q ∈ CX9_digest_3 o, RIx isJr q.2 by unfold CX9_digest_3; exact zf1 ri_x_lstore (zf1 ri_x_iinc (zf1 ri_x_goto (zf1 ri_x_const (zf1 ri_x_istore (zf1 ri_x_iload (zf1 ri_x_const (zf1 ri_x_cge (zf1 ri_x_const (zf1 ri_x_lload (zf1 ri_x_binl (zf1 ri_x_aload (zf1 ri_x_getR (zf1 ri_x_getR (zf1 ri_x_iload (zf1 ri_x_ald zf0)))))))))))))))) (zf1 (show ∀ q ∈ CX9_digest_4 o, RIx isJr q.2 by unfold CX9_digest_4; exact zf1 ri_x_i2l (zf1 ri_x_binl (zf1 ri_x_lstore (zf1 ri_x_iinc (zf1 ri_x_goto (zf1 ri_x_const (zf1 ri_x_istore (zf1 ri_x_iload (zf1 ri_x_aload (zf1 ri_x_getR (zf1 ri_x_getI (zf1 ri_x_cge (zf1 ri_x_const (zf1 ri_x_istore (zf1 ri_x_iload (zf1 ri_x_const zf0)))))))))))))))) (zf1 (show ∀ q ∈ CX9_digest_5 o, RIx isJr q.2 by unfold CX9_digest_5; exact zf1 ri_x_cgt (zf1 ri_x_const (zf1 ri_x_lload (zf1 ri_x_binl (zf1 ri_x_aload (zf1 ri_x_iload (zf1 ri_x_iload (zf1 ri_x_vI (zf1 ri_x_i2l (zf1 ri_x_binl (zf1 ri_x_lstore (zf1 ri_x_iinc (zf1 ri_x_goto (zf1 ri_x_iinc (zf1 ri_x_goto (zf1 ri_x_const zf0)))))))))))))))) (zf1 (show ∀ q ∈ CX9_digest_6 o, RIx isJr q.2 by unfold CX9_digest_6; exact zf1 ri_x_istore (zf1 ri_x_iload (zf1 ri_x_const (zf1 ri_x_cge (zf1 ri_x_const (zf1 ri_x_lload (zf1 ri_x_binl (zf1 ri_x_aload (zf1 ri_x_getR (zf1 ri_x_iload (zf1 ri_x_ald (zf1 ri_x_ifeq (zf1 ri_x_aload (zf1 ri_x_getR (zf1 ri_x_iload (zf1 ri_x_aald zf0)))))))))))))))) (zf1 (show ∀ q ∈ CX9_digest_7 o, RIx isJr q.2 by unfold CX9_digest_7; exact zf1 ri_x_getI (zf1 ri_x_goto (zf1 ri_x_const (zf1 ri_x_i2l (zf1 ri_x_binl (zf1 ri_x_lstore (zf1 ri_x_iinc (zf1 ri_x_goto (zf1 ri_x_aload (zf1 ri_x_getR (zf1 ri_x_aload (zf1 ri_x_getR (zf1 ri_x_lload (zf1 ri_x_vJ (zf1 ri_x_vJ (zf1 ri_x_lret zf0)))))))))))))))) (zf0))))))))) h
