set_option maxRecDepth 20000
section XT
def xtyc (t : Nat) (ty : FieldType) : Prop := match t, ty with
  | 0, .int => True
  | 1, .long => True
  | 2, .object _ => True
  | 2, .array _ => True
  | 3, .boolean => True
  | 4, .char => True
  | _, _ => False
def xfit (t : Nat) (v : xV) : Bool := match t, v with
  | 0, .inl (.int _) => true
  | 1, .inl (.long _) => true
  | 2, .inl .null => true
  | 2, .inr _ => true
  | 3, .inl (.int x) => decide (x = 0 ∨ x = 1)
  | 4, .inl (.int x) => decide (0 ≤ x ∧ x ≤ 65535)
  | _, _ => false
theorem xfit_char {x : Int32} (h : 0 ≤ x ∧ x ≤ 65535) : narrow .char (.int x) = .int x ∧ fits .char (.int x) = true := by
  obtain ⟨j, hj, rfl⟩ := nI_of2 (M := 65535) (n := 65535) rfl (by
    have h2 := Int32.le_iff_toInt_le.mp h.1
    intro q
    have h3 := Int32.lt_iff_toInt_lt.mp q
    omega) h.2
  exact pk_charN (by omega)
theorem xfit_ok {t : Nat} {ty : FieldType} {v : xV} {ad : xN} (ht : xtyc t ty) (h : xfit t v = true) : narrow ty (xc ad v) = xc ad v ∧ fits ty (xc ad v) = true := by
  unfold xfit at h
  split at h
  next => cases ty <;> first | exact ⟨rfl, rfl⟩ | exact absurd ht id
  next => cases ty <;> first | exact ⟨rfl, rfl⟩ | exact absurd ht id
  next => cases ty <;> first | exact ⟨rfl, rfl⟩ | exact absurd ht id
  next => cases ty <;> first | exact ⟨rfl, rfl⟩ | exact absurd ht id
  next x =>
    have h := of_decide_eq_true h
    cases ty <;> first | exact absurd ht id | (rcases h with rfl | rfl <;> exact ⟨rfl, rfl⟩)
  next x =>
    have h := of_decide_eq_true h
    cases ty <;> first | exact absurd ht id | exact xfit_char h
  next => cases h
/-- a fresh field of a type -/
def xd0 (t : Nat) : xV := match t with
  | 0 => .inl (.int 0)
  | 1 => .inl (.long 0)
  | 2 => .inl .null
  | 3 => .inl (.int 0)
  | 4 => .inl (.int 0)
  | _ => .inl (.double 0)
def xcd (o : Jvm.ClassFile.Cond) (x y : Int32) : Bool := match o with
  | .eq => decide (x = y)
  | .ne => decide (¬ x = y)
  | .lt => decide (x < y)
  | .ge => decide (y ≤ x)
  | .gt => decide (y < x)
  | .le => decide (x ≤ y)
def xjmp (pc : Nat) (off : Int) (l : xL) (st : List xV) (A : xA) : Option (Nat × xL × List xV × xA) := if 0 ≤ (pc : Int) + off then some (((pc : Int) + off).toNat, l, st, A) else none
def xbr (b : Bool) (pc : Nat) (off : Int) (l : xL) (st : List xV) (A : xA) : Option (Nat × xL × List xV × xA) := if 0 ≤ (pc : Int) + off then (if b = true then some (((pc : Int) + off).toNat, l, st, A) else some (pc + 3, l, st, A)) else none
/-- how many bytes -/
def xlen2 : Instr → Nat
  | .ifCond _ _ => 3
  | .if_icmp _ _ => 3
  | .if_acmp _ _ => 3
  | .getfield _ => 3
  | .putfield _ => 3
  | .newarray _ => 2
  | .anewarray _ => 3
  | .new _ => 3
  | .checkcast _ => 3
  | .ldc _ => 2
  | .ldc_w _ => 3
  | .ldc2_w _ => 3
  | .getstatic _ => 3
  | _ => 1
def xarr (kd : Nat) (i : Int32) (n : Nat) (f : Nat → xV) (want : Nat) : Option xV := if (kd = want ∨ want = 0 ∧ kd = 9) ∧ ¬ (i < 0 ∨ n ≤ i.toNatClampNeg) then some (f i.toNatClampNeg) else none
def xsto (A : xA) (q : Nat × Nat) (kd : Nat) (i : Int32) (n : Nat) (f : Nat → xV) (want : Nat) (v : xV) : Option xA := if kd = want ∧ q.1 ≠ 0 ∧ ¬ (i < 0 ∨ n ≤ i.toNatClampNeg) then some (A.1, A.2.1, A.2.2.1, xup A.2.2.2 q (.inr (kd, n, xfu f i.toNatClampNeg v))) else none
/-- one instruction that branches or touches the heap -/
def xs2 (i : Instr) (ops : List Nat) (pc : Nat) (l : xL) (st : List xV) (A : xA) : Option (Nat × xL × List xV × xA) :=
  match i with
  | .ifCond o off => match st with
    | .inl (.int x) :: r => xbr (xcd o x 0) pc off l r A
    | _ => none
  | .if_icmp o off => match st with
    | .inl (.int y) :: .inl (.int x) :: r => xbr (xcd o x y) pc off l r A
    | _ => none
  | .if_acmp .eq off => match st with
    | .inr q :: .inr z :: r => xbr (decide (z = q)) pc off l r A
    | .inl .null :: .inr _ :: r => xbr false pc off l r A
    | .inr _ :: .inl .null :: r => xbr false pc off l r A
    | .inl .null :: .inl .null :: r => xbr true pc off l r A
    | _ => none
  | .if_acmp .ne off => match st with
    | .inr q :: .inr z :: r => xbr (decide (¬ z = q)) pc off l r A
    | .inl .null :: .inr _ :: r => xbr true pc off l r A
    | .inr _ :: .inl .null :: r => xbr true pc off l r A
    | .inl .null :: .inl .null :: r => xbr false pc off l r A
    | _ => none
  | .tableswitch dflt lo hi offs => match st with
    | .inl (.int x) :: r => if x.toInt < lo ∨ hi < x.toInt then xjmp pc dflt l r A else (match offs[(x.toInt - lo).toNat]? with
      | some off => xjmp pc off l r A
      | none => none)
    | _ => none
  | .getfield _ => match st with
    | .inr q :: r => match A.2.2.2 q with
      | some (.inl (ci, fs)) => match ops with
        | kx :: cis => if cis.elem ci = true then (match fs[kx]? with
          | some v => some (pc + 3, l, v :: r, A)
          | none => none) else none
        | _ => none
      | _ => none
    | _ => none
  | .putfield _ => match st with
    | v :: .inr q :: r => match A.2.2.2 q with
      | some (.inl (ci, fs)) => match ops with
        | kx :: t :: cis => if cis.elem ci = true ∧ q.1 ≠ 0 ∧ xfit t v = true then some (pc + 3, l, r, (A.1, A.2.1, A.2.2.1, xup A.2.2.2 q (.inl (ci, fs.set kx v)))) else none
        | _ => none
      | _ => none
    | _ => none
  | .iaload => match st with
    | .inl (.int j) :: .inr q :: r => match A.2.2.2 q with
      | some (.inr (kd, n, f)) => match xarr kd j n f 0 with
        | some v => some (pc + 1, l, v :: r, A)
        | none => none
      | _ => none
    | _ => none
  | .laload => match st with
    | .inl (.int j) :: .inr q :: r => match A.2.2.2 q with
      | some (.inr (kd, n, f)) => match xarr kd j n f 1 with
        | some v => some (pc + 1, l, v :: r, A)
        | none => none
      | _ => none
    | _ => none
  | .caload => match st with
    | .inl (.int j) :: .inr q :: r => match A.2.2.2 q with
      | some (.inr (kd, n, f)) => match xarr kd j n f 2 with
        | some v => some (pc + 1, l, v :: r, A)
        | none => none
      | _ => none
    | _ => none
  | .daload => match st with
    | .inl (.int j) :: .inr q :: r => match A.2.2.2 q with
      | some (.inr (kd, n, f)) => match xarr kd j n f 3 with
        | some v => some (pc + 1, l, v :: r, A)
        | none => none
      | _ => none
    | _ => none
  | .aaload => match st with
    | .inl (.int j) :: .inr q :: r => match A.2.2.2 q with
      | some (.inr (kd, n, f)) => match xarr kd j n f (if kd = 5 then 5 else 4) with
        | some v => some (pc + 1, l, v :: r, A)
        | none => none
      | _ => none
    | _ => none
  | .iastore => match st with
    | .inl (.int x) :: .inl (.int j) :: .inr q :: r => match A.2.2.2 q with
      | some (.inr (kd, n, f)) => match xsto A q kd j n f 0 (.inl (.int x)) with
        | some A1 => some (pc + 1, l, r, A1)
        | none => none
      | _ => none
    | _ => none
  | .lastore => match st with
    | .inl (.long x) :: .inl (.int j) :: .inr q :: r => match A.2.2.2 q with
      | some (.inr (kd, n, f)) => match xsto A q kd j n f 1 (.inl (.long x)) with
        | some A1 => some (pc + 1, l, r, A1)
        | none => none
      | _ => none
    | _ => none
  | .castore => match st with
    | .inl (.int x) :: .inl (.int j) :: .inr q :: r => match A.2.2.2 q with
      | some (.inr (kd, n, f)) => if 0 ≤ x ∧ x ≤ 65535 then (match xsto A q kd j n f 2 (.inl (.int x)) with
        | some A1 => some (pc + 1, l, r, A1)
        | none => none) else none
      | _ => none
    | _ => none
  | .dastore => match st with
    | .inl (.double x) :: .inl (.int j) :: .inr q :: r => match A.2.2.2 q with
      | some (.inr (kd, n, f)) => match xsto A q kd j n f 3 (.inl (.double x)) with
        | some A1 => some (pc + 1, l, r, A1)
        | none => none
      | _ => none
    | _ => none
  | .aastore => match st with
    | .inr z :: .inl (.int j) :: .inr q :: r => match A.2.2.2 q, A.2.2.2 z with
      | some (.inr (kd, n, f)), some (.inl (ci, _)) => if ops.elem ci = true ∧ (kd = 4 ∨ kd = 5 ∧ ops[0]? = some ci) then (match xsto A q kd j n f kd (.inr z) with
        | some A1 => some (pc + 1, l, r, A1)
        | none => none) else none
      | _, _ => none
    | .inl .null :: .inl (.int j) :: .inr q :: r => match A.2.2.2 q with
      | some (.inr (kd, n, f)) => if kd = 4 ∨ kd = 5 then (match xsto A q kd j n f kd (.inl .null) with
        | some A1 => some (pc + 1, l, r, A1)
        | none => none) else none
      | _ => none
    | _ => none
  | .arraylength => match st with
    | .inr q :: r => match A.2.2.2 q with
      | some (.inr (_, n, _)) => some (pc + 1, l, .inl (.int (Int32.ofNat n)) :: r, A)
      | _ => none
    | _ => none
  | .newarray _ => match st, ops, A.1 with
    | .inl (.int n) :: r, [kd], q :: nm => if ¬ n < 0 ∧ n.toNatClampNeg ≤ 67108864 ∧ (A.2.2.2 q).isNone = true ∧ q.1 ≠ 0 then some (pc + 2, l, .inr q :: r, (nm, A.2.1 + 1, A.2.2.1 + n.toNatClampNeg, xup A.2.2.2 q (.inr (kd, n.toNatClampNeg, fun _ => .inl (defaultValue (xak kd)))))) else none
    | _, _, _ => none
  | .anewarray _ => match st, ops, A.1 with
    | .inl (.int n) :: r, [kd], q :: nm => if ¬ n < 0 ∧ n.toNatClampNeg ≤ 67108864 ∧ (A.2.2.2 q).isNone = true ∧ q.1 ≠ 0 then some (pc + 3, l, .inr q :: r, (nm, A.2.1 + 1, A.2.2.1 + n.toNatClampNeg, xup A.2.2.2 q (.inr (kd, n.toNatClampNeg, fun _ => .inl .null)))) else none
    | _, _, _ => none
  | .new _ => match ops, A.1 with
    | ci :: tc, q :: nm => if (A.2.2.2 q).isNone = true ∧ q.1 ≠ 0 then some (pc + 3, l, .inr q :: st, (nm, A.2.1 + 1, A.2.2.1 + tc.length, xup A.2.2.2 q (.inl (ci, tc.map xd0)))) else none
    | _, _ => none
  | .checkcast _ => match st with
    | .inl .null :: r => some (pc + 3, l, .inl .null :: r, A)
    | .inr q :: r => match A.2.2.2 q with
      | some (.inl (ci, _)) => if ops.elem ci = true then some (pc + 3, l, .inr q :: r, A) else none
      | _ => none
    | _ => none
  | .ldc _ => match ops with
    | [0, v] => some (pc + 2, l, .inl (.int (Int32.ofNat v)) :: st, A)
    | [5, v] => some (pc + 2, l, .inl (.float (UInt32.ofNat v)) :: st, A)
    | _ => none
  | .ldc_w _ => match ops with
    | [0, v] => some (pc + 3, l, .inl (.int (Int32.ofNat v)) :: st, A)
    | _ => none
  | .ldc2_w _ => match ops with
    | [1, v] => some (pc + 3, l, .inl (.long (Int64.ofNat v)) :: st, A)
    | [6, v] => some (pc + 3, l, .inl (.double (UInt64.ofNat v)) :: st, A)
    | _ => none
  | .getstatic _ => if ops = [77] then some (pc + 3, l, .inr (0, 1) :: st, A) else none
  | _ => none
/-- a field of a class by its place: what the tables say -/
def xfld (Ts : List Cond) (cl : List vw_C) (own : String) (idx k ci : Nat) : Prop := ∃ (r : vw_C) (ref : String), cl[ci]? = some r ∧ k < r.2.2 ∧ (Cond.fieldLink own idx ref (r.2.1 k).2.1 (r.2.1 k).2.2.1 ∈ Ts ∨ ∃ host, Cond.fieldLinkNest own idx ref (r.2.1 k).2.1 (r.2.1 k).2.2.1 host ∈ Ts) ∧ (ref = (r.2.1 k).1 ∨ Cond.sameField ref (r.2.1 k).1 (r.2.1 k).2.1 (r.2.1 k).2.2.1 ∈ Ts)
def xput (Ts : List Cond) (cl : List vw_C) (own nm : String) (idx k t ci : Nat) : Prop := ∃ (r : vw_C) (ref : String) (ty : FieldType), cl[ci]? = some r ∧ k < r.2.2 ∧ parseFieldDescriptor (r.2.1 k).2.2.1 = some ty ∧ xtyc t ty ∧ (ref = (r.2.1 k).1 ∨ Cond.sameField ref (r.2.1 k).1 (r.2.1 k).2.1 (r.2.1 k).2.2.1 ∈ Ts) ∧
  ((Cond.fieldLink own idx ref (r.2.1 k).2.1 (r.2.1 k).2.2.1 ∈ Ts ∧ ((r.2.1 k).2.2.2 = false ∨ (r.2.1 k).2.2.2 = true ∧ nm = "<init>" ∧ (r.2.1 k).1 = own)) ∨ (∃ host, Cond.fieldLinkNest own idx ref (r.2.1 k).2.1 (r.2.1 k).2.2.1 host ∈ Ts) ∧ (r.2.1 k).2.2.2 = false)
def xcls (Ts : List Cond) (r : vw_C) : Prop := (∀ w ∈ u_ws r.1 r.2.1 r.2.2, w ∈ Ts) ∧ (∃ ty : Nat → FieldType, ∀ k, k < r.2.2 → parseFieldDescriptor (r.2.1 k).2.2.1 = some (ty k)) ∧ ∀ a, a < r.2.2 → ∀ b, b < r.2.2 → a ≠ b → (r.2.1 a).2.1 ≠ (r.2.1 b).2.1
/-- what the tables must say of an instruction with its operands -/
def xT (Ts : List Cond) (cl : List vw_C) (own nm : String) (i : Instr) (ops : List Nat) : Prop := match i with
  | .getfield idx => match ops with
    | kx :: cis => ∀ ci ∈ cis, xfld Ts cl own idx kx ci
    | _ => True
  | .putfield idx => match ops with
    | kx :: t :: cis => ∀ ci ∈ cis, xput Ts cl own nm idx kx t ci
    | _ => True
  | .newarray at_ => match ops with
    | [kd] => newarray.typeOf at_ = xak kd ∧ Cond.arrayClass (newarray.typeOf at_) ∈ Ts ∧ kd ≠ 4 ∧ kd ≠ 5
    | _ => True
  | .anewarray idx => match ops with
    | [kd] => ∃ C, xak kd = .object C ∧ Cond.classLink own idx C ∈ Ts ∧ Cond.arrayOver (.object C) ∈ Ts
    | _ => True
  | .new idx => match ops with
    | ci :: tc => ∃ r : vw_C, cl[ci]? = some r ∧ tc.length = r.2.2 ∧ Cond.classLink own idx r.1 ∈ Ts ∧ Cond.instantiable r.1 r.2.2 ∈ Ts ∧ Cond.initialized r.1 ∈ Ts ∧ ∀ j, j < r.2.2 → ∃ ty t, parseFieldDescriptor (r.2.1 j).2.2.1 = some ty ∧ tc[j]? = some t ∧ .inl (defaultValue ty) = xd0 t
    | _ => True
  | .checkcast idx => ∀ ci ∈ ops, ∃ (r : vw_C) (nm : String), cl[ci]? = some r ∧ Cond.classLink own idx nm ∈ Ts ∧ (Cond.castable r.1 nm ∈ Ts ∨ nm = r.1)
  | .aastore => ∀ ci ∈ ops, ∀ r : vw_C, cl[ci]? = some r → Cond.castable r.1 "java/lang/Object" ∈ Ts ∧ (ops[0]? = some ci → r.1 = "ViewFoundryModel$Held")
  | .ldc idx => match ops with
    | [0, v] => Cond.constant own idx (Int32.ofNat v) ∈ Ts
    | [5, v] => Cond.constantFloat own idx (UInt32.ofNat v) ∈ Ts
    | _ => True
  | .ldc_w idx => match ops with
    | [0, v] => Cond.constant own idx (Int32.ofNat v) ∈ Ts
    | _ => True
  | .ldc2_w idx => match ops with
    | [1, v] => Cond.constantLong own idx (Int64.ofNat v) ∈ Ts
    | [6, v] => Cond.constantDouble own idx (UInt64.ofNat v) ∈ Ts
    | _ => True
  | .getstatic idx => ops = [77] → Cond.fieldLink own idx "java/util/ArrayList" "DEFAULTCAPACITY_EMPTY_ELEMENTDATA" "[Ljava/lang/Object;" ∈ Ts
  | _ => True
/-- the statics that a run reads, as they were at the frame's start -/
def xE (s : State) (B : Nat) (ad : xN) (h : xH) : Prop := h (0, 1) ≠ none ∧ va_Z "java/util/ArrayList" "DEFAULTCAPACITY_EMPTY_ELEMENTDATA" "[Ljava/lang/Object;" (.ref (ad (0, 1))) (fun q => B ≤ q) s s.heap
/-- a frame's machine, tables and code -/
def xCx (p : Program) (s : State) (m : MethodId) (args : Array Value) (meth : Method) (c : Code) (D : va_G) (cl : List vw_C) (Ts : List Cond) (own nm : String) (cc : ByteArray) : Prop :=
  p.tables.exec = Jvm.exec ∧ c.code = cc ∧ s.vm.findClass own = some m.cls ∧ (∀ w ∈ Ts, w.before args s = true) ∧ meth.name = nm ∧ va_K D cl [] s ∧ ∀ (ci : Nat) (r : vw_C), cl[ci]? = some r → xcls Ts r
/-- from the next place on, whatever addresses the new names have -/
def xCont (p : Program) (l0 : Launch) (e : Env) (R : Room) (s : State) (m : MethodId) (args : Array Value) (below : List Frame) (meth : Method) (c : Code) (D : va_G) (cl : List vw_C) (B : Nat) (ad : xN) (A A2 : xA) (l2 : xL) (st2 : List xV) (nL pc2 cells slots : Nat) (Q : State → Prop) : Prop :=
  ∀ (ad2 : xN) (H2 : Heap) (locs2 : List Loc) (ls2 : Array Slot) (cells2 slots2 : Nat), (∀ v, xlv A.2.2.2 v → xlv A2.2.2.2 v ∧ xc ad2 v = xc ad v) → (∀ z : Nat × Nat, z.1 = 0 → ad2 z = ad z) → xI s D cl B ad2 A2.2.2.2 H2 locs2 → lv_has ls2 nL (xlm ad2 l2) → xok (xlv A2.2.2.2) l2 st2 → cells2 + A.2.1 = cells + A2.2.1 → slots2 + A.2.2.1 = slots + A2.2.2.1 →
    W p l0 e R s m args below meth c H2 locs2 cells2 slots2 Q (F0 m pc2 ls2 (st2.map (xc ad2)))
variable {p : Program} {l0 : Launch} {e : Env} {R : Room} {s : State} {m : MethodId} {args : Array Value} {below : List Frame} {meth : Method} {c : Code} {H : Heap} {locs : List Loc} {cells slots : Nat} {Q : State → Prop}
variable {cc : ByteArray} {pc : Nat} {ls : Array Slot} {ad : xN} {D : va_G} {cl : List vw_C} {Ts : List Cond} {own nm : String} {B : Nat}
/-- the heap stays -/
theorem xCont.same {A : xA} {l2 : xL} {st2 : List xV} {nL pc2 : Nat} (k : xCont p l0 e R s m args below meth c D cl B ad A A l2 st2 nL pc2 cells slots Q) (hl : lv_has ls nL (xlm ad l2)) (hk : xok (xlv A.2.2.2) l2 st2) (hI : xI s D cl B ad A.2.2.2 H locs) : W p l0 e R s m args below meth c H locs cells slots Q (F0 m pc2 ls (st2.map (xc ad))) :=
  k ad H locs ls cells slots (fun v hv => ⟨hv, rfl⟩) (fun _ _ => rfl) hI hl hk rfl rfl
theorem xjmp_ok {off : Int} {tgt : Nat} {l l2 : xL} {st st2 : List xV} {A A2 : xA} (h : xjmp pc off l st A = some (tgt, l2, st2, A2)) : (pc : Int) + off = (tgt : Int) ∧ l2 = l ∧ st2 = st ∧ A2 = A := by
  unfold xjmp at h
  split at h
  next hg =>
    cases h
    exact ⟨(Int.toNat_of_nonneg hg).symm, rfl, rfl, rfl⟩
  next => cases h
theorem xbr_ok {b : Bool} {off : Int} {pc2 : Nat} {l l2 : xL} {st st2 : List xV} {A A2 : xA} (h : xbr b pc off l st A = some (pc2, l2, st2, A2)) : ∃ tgt : Nat, (pc : Int) + off = (tgt : Int) ∧ l2 = l ∧ st2 = st ∧ A2 = A ∧ (b = true ∧ pc2 = tgt ∨ b = false ∧ pc2 = pc + 3) := by
  unfold xbr at h
  split at h
  next hg =>
    refine ⟨((pc : Int) + off).toNat, (Int.toNat_of_nonneg hg).symm, ?_⟩
    split at h
    next hc => cases h; exact ⟨rfl, rfl, rfl, Or.inl ⟨hc, rfl⟩⟩
    next hc => cases h; exact ⟨rfl, rfl, rfl, Or.inr ⟨by cases b <;> simp_all, rfl⟩⟩
  next => cases h
theorem xsame_ok {args : Array Value} {ref owner name desc : String} (hts : ∀ w ∈ Ts, w.before args s = true) (h : ref = owner ∨ Cond.sameField ref owner name desc ∈ Ts) : ∀ x, s.fieldFound? owner name desc = some x → s.fieldFound? ref name desc = some x := by
  rcases h with rfl | h
  · exact fun _ z => z
  · exact u_same (hts _ h)
theorem xarr_ok {kd want n : Nat} {i : Int32} {f : Nat → xV} {v : xV} (h : xarr kd i n f want = some v) : (kd = want ∨ want = 0 ∧ kd = 9) ∧ ¬ (i < 0 ∨ n ≤ i.toNatClampNeg) ∧ v = f i.toNatClampNeg := by
  unfold xarr at h
  by_cases hg : (kd = want ∨ want = 0 ∧ kd = 9) ∧ ¬ (i < 0 ∨ n ≤ i.toNatClampNeg)
  · rw [if_pos hg] at h
    exact ⟨hg.1, hg.2, (Option.some.inj h).symm⟩
  · rw [if_neg hg] at h
    cases h
theorem xelem {n : Nat} {xs : List Nat} (h : xs.elem n = true) : n ∈ xs := by simpa using h

theorem xt_ifCond {l l2 : xL} {st st2 : List xV} {A A2 : xA} {nL pc2 : Nat} {ops : List Nat} {o : Jvm.ClassFile.Cond} {off : Int} (X : xCx p s m args meth c D cl Ts own nm cc) (hd : decode cc pc = .ok (.ifCond o off, xlen2 (.ifCond o off))) (hT : xT Ts cl own nm (.ifCond o off) ops) (hl : lv_has ls nL (xlm ad l)) (hk : xok (xlv A.2.2.2) l st) (hI : xI s D cl B ad A.2.2.2 H locs) (hE : xE s B ad A.2.2.2) (h : xs2 (.ifCond o off) ops pc l st A = some (pc2, l2, st2, A2)) (hbud : cells + A2.2.1 ≤ R.cells + A.2.1 ∧ slots + A2.2.2.1 ≤ R.slots + A.2.2.1)
    (k : xCont p l0 e R s m args below meth c D cl B ad A A2 l2 st2 nL pc2 cells slots Q) : W p l0 e R s m args below meth c H locs cells slots Q (F0 m pc ls (st.map (xc ad))) := by
  simp only [xs2] at h
  obtain ⟨hx, hb, hown, hts, hnm, hK, hcl⟩ := X
  split at h
  next =>
    obtain ⟨tgt, ht, rfl, rfl, rfl, hc⟩ := xbr_ok h
    cases o
    case eq =>
      refine lv_if_eq hx hb hd ht (fun z => ?_) (fun z => ?_)
      · rcases hc with ⟨q, rfl⟩ | ⟨q, rfl⟩
        · exact k.same hl (xok_tl hk) hI
        · exact absurd z (of_decide_eq_false q)
      · rcases hc with ⟨q, rfl⟩ | ⟨q, rfl⟩
        · first | exact absurd (of_decide_eq_true q) z | exact absurd z (of_decide_eq_true q)
        · exact k.same hl (xok_tl hk) hI
    case ne =>
      refine lv_if_ne hx hb hd ht (fun z => ?_) (fun z => ?_)
      · rcases hc with ⟨q, rfl⟩ | ⟨q, rfl⟩
        · exact k.same hl (xok_tl hk) hI
        · exact absurd z (of_decide_eq_false q)
      · rcases hc with ⟨q, rfl⟩ | ⟨q, rfl⟩
        · first | exact absurd (of_decide_eq_true q) z | exact absurd z (of_decide_eq_true q)
        · exact k.same hl (xok_tl hk) hI
    case lt =>
      refine lv_if_lt hx hb hd ht (fun z => ?_) (fun z => ?_)
      · rcases hc with ⟨q, rfl⟩ | ⟨q, rfl⟩
        · exact k.same hl (xok_tl hk) hI
        · exact absurd z (of_decide_eq_false q)
      · rcases hc with ⟨q, rfl⟩ | ⟨q, rfl⟩
        · first | exact absurd (of_decide_eq_true q) z | exact absurd z (of_decide_eq_true q)
        · exact k.same hl (xok_tl hk) hI
    case ge =>
      refine lv_if_ge hx hb hd ht (fun z => ?_) (fun z => ?_)
      · rcases hc with ⟨q, rfl⟩ | ⟨q, rfl⟩
        · exact k.same hl (xok_tl hk) hI
        · exact absurd z (of_decide_eq_false q)
      · rcases hc with ⟨q, rfl⟩ | ⟨q, rfl⟩
        · first | exact absurd (of_decide_eq_true q) z | exact absurd z (of_decide_eq_true q)
        · exact k.same hl (xok_tl hk) hI
    case gt =>
      refine lv_if_gt hx hb hd ht (fun z => ?_) (fun z => ?_)
      · rcases hc with ⟨q, rfl⟩ | ⟨q, rfl⟩
        · exact k.same hl (xok_tl hk) hI
        · exact absurd z (of_decide_eq_false q)
      · rcases hc with ⟨q, rfl⟩ | ⟨q, rfl⟩
        · first | exact absurd (of_decide_eq_true q) z | exact absurd z (of_decide_eq_true q)
        · exact k.same hl (xok_tl hk) hI
    case le =>
      refine lv_if_le hx hb hd ht (fun z => ?_) (fun z => ?_)
      · rcases hc with ⟨q, rfl⟩ | ⟨q, rfl⟩
        · exact k.same hl (xok_tl hk) hI
        · exact absurd z (of_decide_eq_false q)
      · rcases hc with ⟨q, rfl⟩ | ⟨q, rfl⟩
        · first | exact absurd (of_decide_eq_true q) z | exact absurd z (of_decide_eq_true q)
        · exact k.same hl (xok_tl hk) hI
  next => cases h

theorem xt_if_icmp {l l2 : xL} {st st2 : List xV} {A A2 : xA} {nL pc2 : Nat} {ops : List Nat} {o : Jvm.ClassFile.Cond} {off : Int} (X : xCx p s m args meth c D cl Ts own nm cc) (hd : decode cc pc = .ok (.if_icmp o off, xlen2 (.if_icmp o off))) (hT : xT Ts cl own nm (.if_icmp o off) ops) (hl : lv_has ls nL (xlm ad l)) (hk : xok (xlv A.2.2.2) l st) (hI : xI s D cl B ad A.2.2.2 H locs) (hE : xE s B ad A.2.2.2) (h : xs2 (.if_icmp o off) ops pc l st A = some (pc2, l2, st2, A2)) (hbud : cells + A2.2.1 ≤ R.cells + A.2.1 ∧ slots + A2.2.2.1 ≤ R.slots + A.2.2.1)
    (k : xCont p l0 e R s m args below meth c D cl B ad A A2 l2 st2 nL pc2 cells slots Q) : W p l0 e R s m args below meth c H locs cells slots Q (F0 m pc ls (st.map (xc ad))) := by
  simp only [xs2] at h
  obtain ⟨hx, hb, hown, hts, hnm, hK, hcl⟩ := X
  split at h
  next =>
    obtain ⟨tgt, ht, rfl, rfl, rfl, hc⟩ := xbr_ok h
    cases o
    case eq =>
      refine lv_icmp_eq hx hb hd ht (fun z => ?_) (fun z => ?_)
      · rcases hc with ⟨q, rfl⟩ | ⟨q, rfl⟩
        · exact k.same hl (xok_tl (xok_tl hk)) hI
        · exact absurd z (of_decide_eq_false q)
      · rcases hc with ⟨q, rfl⟩ | ⟨q, rfl⟩
        · first | exact absurd (of_decide_eq_true q) z | exact absurd z (of_decide_eq_true q)
        · exact k.same hl (xok_tl (xok_tl hk)) hI
    case ne =>
      refine lv_icmp_ne hx hb hd ht (fun z => ?_) (fun z => ?_)
      · rcases hc with ⟨q, rfl⟩ | ⟨q, rfl⟩
        · exact k.same hl (xok_tl (xok_tl hk)) hI
        · exact absurd z (of_decide_eq_false q)
      · rcases hc with ⟨q, rfl⟩ | ⟨q, rfl⟩
        · first | exact absurd (of_decide_eq_true q) z | exact absurd z (of_decide_eq_true q)
        · exact k.same hl (xok_tl (xok_tl hk)) hI
    case lt =>
      refine lv_icmp_lt hx hb hd ht (fun z => ?_) (fun z => ?_)
      · rcases hc with ⟨q, rfl⟩ | ⟨q, rfl⟩
        · exact k.same hl (xok_tl (xok_tl hk)) hI
        · exact absurd z (of_decide_eq_false q)
      · rcases hc with ⟨q, rfl⟩ | ⟨q, rfl⟩
        · first | exact absurd (of_decide_eq_true q) z | exact absurd z (of_decide_eq_true q)
        · exact k.same hl (xok_tl (xok_tl hk)) hI
    case ge =>
      refine lv_icmp_ge hx hb hd ht (fun z => ?_) (fun z => ?_)
      · rcases hc with ⟨q, rfl⟩ | ⟨q, rfl⟩
        · exact k.same hl (xok_tl (xok_tl hk)) hI
        · exact absurd z (of_decide_eq_false q)
      · rcases hc with ⟨q, rfl⟩ | ⟨q, rfl⟩
        · first | exact absurd (of_decide_eq_true q) z | exact absurd z (of_decide_eq_true q)
        · exact k.same hl (xok_tl (xok_tl hk)) hI
    case gt =>
      refine lv_icmp_gt hx hb hd ht (fun z => ?_) (fun z => ?_)
      · rcases hc with ⟨q, rfl⟩ | ⟨q, rfl⟩
        · exact k.same hl (xok_tl (xok_tl hk)) hI
        · exact absurd z (of_decide_eq_false q)
      · rcases hc with ⟨q, rfl⟩ | ⟨q, rfl⟩
        · first | exact absurd (of_decide_eq_true q) z | exact absurd z (of_decide_eq_true q)
        · exact k.same hl (xok_tl (xok_tl hk)) hI
    case le =>
      refine lv_icmp_le hx hb hd ht (fun z => ?_) (fun z => ?_)
      · rcases hc with ⟨q, rfl⟩ | ⟨q, rfl⟩
        · exact k.same hl (xok_tl (xok_tl hk)) hI
        · exact absurd z (of_decide_eq_false q)
      · rcases hc with ⟨q, rfl⟩ | ⟨q, rfl⟩
        · first | exact absurd (of_decide_eq_true q) z | exact absurd z (of_decide_eq_true q)
        · exact k.same hl (xok_tl (xok_tl hk)) hI
  next => cases h

theorem xt_if_acmp_eq {l l2 : xL} {st st2 : List xV} {A A2 : xA} {nL pc2 : Nat} {ops : List Nat} {off : Int} (X : xCx p s m args meth c D cl Ts own nm cc) (hd : decode cc pc = .ok (.if_acmp .eq off, xlen2 (.if_acmp .eq off))) (hT : xT Ts cl own nm (.if_acmp .eq off) ops) (hl : lv_has ls nL (xlm ad l)) (hk : xok (xlv A.2.2.2) l st) (hI : xI s D cl B ad A.2.2.2 H locs) (hE : xE s B ad A.2.2.2) (h : xs2 (.if_acmp .eq off) ops pc l st A = some (pc2, l2, st2, A2)) (hbud : cells + A2.2.1 ≤ R.cells + A.2.1 ∧ slots + A2.2.2.1 ≤ R.slots + A.2.2.1)
    (k : xCont p l0 e R s m args below meth c D cl B ad A A2 l2 st2 nL pc2 cells slots Q) : W p l0 e R s m args below meth c H locs cells slots Q (F0 m pc ls (st.map (xc ad))) := by
  simp only [xs2] at h
  obtain ⟨hx, hb, hown, hts, hnm, hK, hcl⟩ := X
  split at h
  next q z r =>
    obtain ⟨tgt, ht, rfl, rfl, rfl, hc⟩ := xbr_ok h
    refine lv_acmp_eq (ry := some (ad q)) (rx := some (ad z)) hx hb hd ht (fun w => ?_) (fun w => ?_)
    · rcases hc with ⟨u, rfl⟩ | ⟨u, rfl⟩
      · exact k.same hl (xok_tl (xok_tl hk)) hI
      · exact absurd (hI.1.2.1 _ _ (xok_hd (xok_tl hk)) (xok_hd hk) (Option.some.inj w)) (of_decide_eq_false u)
    · rcases hc with ⟨u, rfl⟩ | ⟨u, rfl⟩
      · exact absurd (by rw [of_decide_eq_true u]) w
      · exact k.same hl (xok_tl (xok_tl hk)) hI
  next z r =>
    obtain ⟨tgt, ht, rfl, rfl, rfl, hc⟩ := xbr_ok h
    refine lv_acmp_eq (ry := none) (rx := some (ad z)) hx hb hd ht (fun w => ?_) (fun w => ?_)
    · rcases hc with ⟨u, rfl⟩ | ⟨u, rfl⟩
      · exact k.same hl (xok_tl (xok_tl hk)) hI
      · first | exact absurd u (by decide) | exact absurd rfl w | (cases w; done)
    · rcases hc with ⟨u, rfl⟩ | ⟨u, rfl⟩
      · first | exact absurd u (by decide) | exact absurd rfl w | (cases w; done)
      · exact k.same hl (xok_tl (xok_tl hk)) hI
  next q r =>
    obtain ⟨tgt, ht, rfl, rfl, rfl, hc⟩ := xbr_ok h
    refine lv_acmp_eq (ry := some (ad q)) (rx := none) hx hb hd ht (fun w => ?_) (fun w => ?_)
    · rcases hc with ⟨u, rfl⟩ | ⟨u, rfl⟩
      · exact k.same hl (xok_tl (xok_tl hk)) hI
      · first | exact absurd u (by decide) | exact absurd rfl w | (cases w; done)
    · rcases hc with ⟨u, rfl⟩ | ⟨u, rfl⟩
      · first | exact absurd u (by decide) | exact absurd rfl w | (cases w; done)
      · exact k.same hl (xok_tl (xok_tl hk)) hI
  next r =>
    obtain ⟨tgt, ht, rfl, rfl, rfl, hc⟩ := xbr_ok h
    refine lv_acmp_eq (ry := none) (rx := none) hx hb hd ht (fun w => ?_) (fun w => ?_)
    · rcases hc with ⟨u, rfl⟩ | ⟨u, rfl⟩
      · exact k.same hl (xok_tl (xok_tl hk)) hI
      · first | exact absurd u (by decide) | exact absurd rfl w | (cases w; done)
    · rcases hc with ⟨u, rfl⟩ | ⟨u, rfl⟩
      · first | exact absurd u (by decide) | exact absurd rfl w | (cases w; done)
      · exact k.same hl (xok_tl (xok_tl hk)) hI
  next => cases h

theorem xt_if_acmp_ne {l l2 : xL} {st st2 : List xV} {A A2 : xA} {nL pc2 : Nat} {ops : List Nat} {off : Int} (X : xCx p s m args meth c D cl Ts own nm cc) (hd : decode cc pc = .ok (.if_acmp .ne off, xlen2 (.if_acmp .ne off))) (hT : xT Ts cl own nm (.if_acmp .ne off) ops) (hl : lv_has ls nL (xlm ad l)) (hk : xok (xlv A.2.2.2) l st) (hI : xI s D cl B ad A.2.2.2 H locs) (hE : xE s B ad A.2.2.2) (h : xs2 (.if_acmp .ne off) ops pc l st A = some (pc2, l2, st2, A2)) (hbud : cells + A2.2.1 ≤ R.cells + A.2.1 ∧ slots + A2.2.2.1 ≤ R.slots + A.2.2.1)
    (k : xCont p l0 e R s m args below meth c D cl B ad A A2 l2 st2 nL pc2 cells slots Q) : W p l0 e R s m args below meth c H locs cells slots Q (F0 m pc ls (st.map (xc ad))) := by
  simp only [xs2] at h
  obtain ⟨hx, hb, hown, hts, hnm, hK, hcl⟩ := X
  split at h
  next q z r =>
    obtain ⟨tgt, ht, rfl, rfl, rfl, hc⟩ := xbr_ok h
    refine lv_acmp_ne (ry := some (ad q)) (rx := some (ad z)) hx hb hd ht (fun w => ?_) (fun w => ?_)
    · rcases hc with ⟨u, rfl⟩ | ⟨u, rfl⟩
      · exact k.same hl (xok_tl (xok_tl hk)) hI
      · exact absurd (by rw [Decidable.of_not_not (of_decide_eq_false u)]) w
    · rcases hc with ⟨u, rfl⟩ | ⟨u, rfl⟩
      · exact absurd (hI.1.2.1 _ _ (xok_hd (xok_tl hk)) (xok_hd hk) (Option.some.inj w)) (of_decide_eq_true u)
      · exact k.same hl (xok_tl (xok_tl hk)) hI
  next z r =>
    obtain ⟨tgt, ht, rfl, rfl, rfl, hc⟩ := xbr_ok h
    refine lv_acmp_ne (ry := none) (rx := some (ad z)) hx hb hd ht (fun w => ?_) (fun w => ?_)
    · rcases hc with ⟨u, rfl⟩ | ⟨u, rfl⟩
      · exact k.same hl (xok_tl (xok_tl hk)) hI
      · first | exact absurd u (by decide) | exact absurd rfl w | (cases w; done)
    · rcases hc with ⟨u, rfl⟩ | ⟨u, rfl⟩
      · first | exact absurd u (by decide) | exact absurd rfl w | (cases w; done)
      · exact k.same hl (xok_tl (xok_tl hk)) hI
  next q r =>
    obtain ⟨tgt, ht, rfl, rfl, rfl, hc⟩ := xbr_ok h
    refine lv_acmp_ne (ry := some (ad q)) (rx := none) hx hb hd ht (fun w => ?_) (fun w => ?_)
    · rcases hc with ⟨u, rfl⟩ | ⟨u, rfl⟩
      · exact k.same hl (xok_tl (xok_tl hk)) hI
      · first | exact absurd u (by decide) | exact absurd rfl w | (cases w; done)
    · rcases hc with ⟨u, rfl⟩ | ⟨u, rfl⟩
      · first | exact absurd u (by decide) | exact absurd rfl w | (cases w; done)
      · exact k.same hl (xok_tl (xok_tl hk)) hI
  next r =>
    obtain ⟨tgt, ht, rfl, rfl, rfl, hc⟩ := xbr_ok h
    refine lv_acmp_ne (ry := none) (rx := none) hx hb hd ht (fun w => ?_) (fun w => ?_)
    · rcases hc with ⟨u, rfl⟩ | ⟨u, rfl⟩
      · exact k.same hl (xok_tl (xok_tl hk)) hI
      · first | exact absurd u (by decide) | exact absurd rfl w | (cases w; done)
    · rcases hc with ⟨u, rfl⟩ | ⟨u, rfl⟩
      · first | exact absurd u (by decide) | exact absurd rfl w | (cases w; done)
      · exact k.same hl (xok_tl (xok_tl hk)) hI
  next => cases h

theorem xt_tableswitch {l l2 : xL} {st st2 : List xV} {A A2 : xA} {nL pc2 : Nat} {ops : List Nat} {dflt lo hi : Int} {offs : Array Int} {len : Nat} (X : xCx p s m args meth c D cl Ts own nm cc) (hd : decode cc pc = .ok (.tableswitch dflt lo hi offs, len)) (hT : xT Ts cl own nm (.tableswitch dflt lo hi offs) ops) (hl : lv_has ls nL (xlm ad l)) (hk : xok (xlv A.2.2.2) l st) (hI : xI s D cl B ad A.2.2.2 H locs) (hE : xE s B ad A.2.2.2) (h : xs2 (.tableswitch dflt lo hi offs) ops pc l st A = some (pc2, l2, st2, A2)) (hbud : cells + A2.2.1 ≤ R.cells + A.2.1 ∧ slots + A2.2.2.1 ≤ R.slots + A.2.2.1)
    (k : xCont p l0 e R s m args below meth c D cl B ad A A2 l2 st2 nL pc2 cells slots Q) : W p l0 e R s m args below meth c H locs cells slots Q (F0 m pc ls (st.map (xc ad))) := by
  simp only [xs2] at h
  obtain ⟨hx, hb, hown, hts, hnm, hK, hcl⟩ := X
  split at h
  next =>
    split at h
    next hc =>
      obtain ⟨ht, rfl, rfl, rfl⟩ := xjmp_ok h
      exact lv_tableOut hx hb hd hc ht (k.same hl (xok_tl hk) hI)
    next hc =>
      split at h
      next ho =>
        obtain ⟨ht, rfl, rfl, rfl⟩ := xjmp_ok h
        exact lv_tableIn hx hb hd (fun z => hc (Or.inl z)) (fun z => hc (Or.inr z)) ho ht (k.same hl (xok_tl hk) hI)
      next => cases h
  next => cases h

theorem xt_getfield {l l2 : xL} {st st2 : List xV} {A A2 : xA} {nL pc2 : Nat} {ops : List Nat} {idx : Nat} (X : xCx p s m args meth c D cl Ts own nm cc) (hd : decode cc pc = .ok (.getfield idx, xlen2 (.getfield idx))) (hT : xT Ts cl own nm (.getfield idx) ops) (hl : lv_has ls nL (xlm ad l)) (hk : xok (xlv A.2.2.2) l st) (hI : xI s D cl B ad A.2.2.2 H locs) (hE : xE s B ad A.2.2.2) (h : xs2 (.getfield idx) ops pc l st A = some (pc2, l2, st2, A2)) (hbud : cells + A2.2.1 ≤ R.cells + A.2.1 ∧ slots + A2.2.2.1 ≤ R.slots + A.2.2.1)
    (k : xCont p l0 e R s m args below meth c D cl B ad A A2 l2 st2 nL pc2 cells slots Q) : W p l0 e R s m args below meth c H locs cells slots Q (F0 m pc ls (st.map (xc ad))) := by
  simp only [xs2] at h
  obtain ⟨hx, hb, hown, hts, hnm, hK, hcl⟩ := X
  split at h
  next q r =>
    split at h
    next ci fs hq =>
      split at h
      next kx cis =>
        split at h
        next hci =>
          split at h
          next v hv =>
            cases h
            obtain ⟨w, ref, hc, hkx, hlk, hsm⟩ := hT ci (xelem hci)
            obtain ⟨w2, h1, hlen, cell, q1, q2, q3, q4⟩ := hI.1.1 q _ hq
            cases Option.some.inj (hc.symm.trans h1)
            obtain ⟨hS, hfc, kC, hkC, hkind⟩ := hK.1 ci _ hc
            obtain ⟨cf, kf, fi, f, hi, hsl⟩ := hS kx hkx
            have hst := (u_facts hfc hkC (u_lays hts (hcl ci _ hc).1 hkx) hi).1
            have hi2 := xsame_ok hts hsm _ hi
            have hval : cell.slots[f.slot]? = some (xc ad v) := by
              rw [hsl, q4 kx hkx]
              simp [vp_V, hv]
            have hlv : xlv A.2.2.2 v := hI.1.2.2.2 q _ hq v (List.mem_of_getElem? hv)
            have kk := k.same (H := H) (locs := locs) hl (xok_push (xok_tl hk) hlv) hI
            rcases hlk with hlk | ⟨host, hlk⟩
            · exact W.getf hx hb hown (hts _ hlk) hi2 hst q1 (by rw [q3]; exact fun z => by cases z) hval rfl rfl hd kk
            · exact va_Wgetf hx hb hown (hts _ hlk) hi2 hst q1 (by rw [q3]; exact fun z => by cases z) hval rfl rfl hd kk
          next => cases h
        next => cases h
      next => cases h
    next => cases h
  next => cases h

theorem xt_putfield {l l2 : xL} {st st2 : List xV} {A A2 : xA} {nL pc2 : Nat} {ops : List Nat} {idx : Nat} (X : xCx p s m args meth c D cl Ts own nm cc) (hd : decode cc pc = .ok (.putfield idx, xlen2 (.putfield idx))) (hT : xT Ts cl own nm (.putfield idx) ops) (hl : lv_has ls nL (xlm ad l)) (hk : xok (xlv A.2.2.2) l st) (hI : xI s D cl B ad A.2.2.2 H locs) (hE : xE s B ad A.2.2.2) (h : xs2 (.putfield idx) ops pc l st A = some (pc2, l2, st2, A2)) (hbud : cells + A2.2.1 ≤ R.cells + A.2.1 ∧ slots + A2.2.2.1 ≤ R.slots + A.2.2.1)
    (k : xCont p l0 e R s m args below meth c D cl B ad A A2 l2 st2 nL pc2 cells slots Q) : W p l0 e R s m args below meth c H locs cells slots Q (F0 m pc ls (st.map (xc ad))) := by
  simp only [xs2] at h
  obtain ⟨hx, hb, hown, hts, hnm, hK, hcl⟩ := X
  split at h
  next v q r =>
    split at h
    next ci fs hq =>
      split at h
      next kx t cis =>
        split at h
        next hg =>
          cases h
          obtain ⟨hci, h0, hfit⟩ := hg
          obtain ⟨w, ref, ty, hc, hkx, hdesc, hty, hsm, hlk⟩ := hT ci (xelem hci)
          obtain ⟨w2, h1, hlen, cell, q1, q2, q3, q4⟩ := hI.1.1 q _ hq
          cases Option.some.inj (hc.symm.trans h1)
          obtain ⟨hin, ⟨ty0, hty0⟩, hnm2⟩ := hcl ci _ hc
          have hap : ∀ x y, x < w.2.2 → y < w.2.2 → x ≠ y → (D.2 ci) x ≠ (D.2 ci) y := va_apart (own := own) (C := w.1) (T := w.2.1) (N := w.2.2) hts hin ty0 hty0 hnm2 hK hc
          obtain ⟨hS, hfc, kC, hkC, hkind⟩ := hK.1 ci _ hc
          obtain ⟨cf, kf, fi, f, hi, hsl⟩ := hS kx hkx
          have hst := (u_facts hfc hkC (u_lays hts hin hkx) hi).1
          have hi2 := xsame_ok hts hsm _ hi
          obtain ⟨hn1, hf1⟩ := xfit_ok (ad := ad) hty hfit
          have hsz : f.slot < cell.slots.size := by rw [hsl]; exact k2_hasslot (q4 kx hkx)
          have hlv : xlv A.2.2.2 v := xok_hd hk
          have kk : ∀ H1 : Heap, H1[ad q]? = some (cell.setSlot f.slot (xc ad v)) → H1.size = H.size → (∀ z, z ≠ ad q → H1[z]? = H[z]?) → W p l0 e R s m args below meth c H1 (locs ++ [⟨ad q, f.slot⟩]) cells slots Q (F0 m (pc + 3) ls (st2.map (xc ad))) := by
            intro H1 e1 e2 e3
            have hcell : xcell s D cl ad (ad q) (.inl (ci, fs.set kx v)) H1 := by
              refine ⟨w, hc, by rw [List.length_set]; exact hlen, t_OB.to (V := updV (vp_V (fs.map (xc ad))) kx (xc ad v)) ⟨_, e1, q2, q3, ?_⟩ (fun j _ => ?_)⟩
              · rw [hsl]
                exact t_set q4 hap hkx _
              · rw [vp_updV_set (by rw [List.length_map]; exact Nat.lt_of_lt_of_eq hkx hlen.symm), List.map_set]
            refine k ad H1 _ ls cells slots (fun u hu => ⟨xup_lv hu, rfl⟩) (fun _ _ => rfl) (hI.put hq h0 hcell e2 e3 ?_) hl (xok_up (xok_tl (xok_tl hk))) rfl rfl
            intro u hu
            rcases List.mem_or_eq_of_mem_set hu with hu | rfl
            · exact hI.1.2.2.2 q _ hq u hu
            · exact hlv
          have hlay := hts _ (hin _ (u_in_lay hkx))
          unfold u_lay at hlay
          rcases hlk with ⟨hlk, hfin⟩ | ⟨⟨host, hlk⟩, hfin⟩
          · rcases hfin with hfin | ⟨hfin, hinit, hdecl⟩
            · rw [if_neg (by rw [hfin]; decide)] at hlay
              exact W.putK hx hb (f := f) ⟨hown, hts _ hlk, ⟨_, _, _, hi2⟩, hst⟩ (by rw [q2]; exact u_store hfc hkC hkind hlay hi hdesc hn1 hf1) q1 q3 hsz rfl rfl hd kk
            · rw [if_pos hfin] at hlay
              have hcf : m.cls = cf := by
                obtain ⟨_, _, c2, _, _, _, -, -, hf2, -, -, -, hown2, -⟩ := Cond.laysFinal_spec hlay
                have e1 : c2 = cf := by have := hi.symm.trans hf2; simp at this; exact this.1.symm
                rw [hdecl] at hown2
                rw [← e1]; exact Option.some.inj (hown.symm.trans hown2)
              exact W.putFinK hx hb hown (hts _ hlk) hi2 hst hcf (hnm.trans hinit) (by rw [q2]; exact u_fits hfc hkC hkind (Or.inr hlay) hi hdesc hn1 hf1) q1 q3 hsz rfl rfl hd kk
          · rw [if_neg (by rw [hfin]; decide)] at hlay
            exact va_WputK hx hb (f := f) hown (hts _ hlk) hi2 hst (by rw [q2]; exact u_store hfc hkC hkind hlay hi hdesc hn1 hf1) q1 q3 hsz rfl rfl hd kk
        next => cases h
      next => cases h
    next => cases h
  next => cases h

theorem xt_iaload {l l2 : xL} {st st2 : List xV} {A A2 : xA} {nL pc2 : Nat} {ops : List Nat} (X : xCx p s m args meth c D cl Ts own nm cc) (hd : decode cc pc = .ok (.iaload, xlen2 (.iaload))) (hT : xT Ts cl own nm (.iaload) ops) (hl : lv_has ls nL (xlm ad l)) (hk : xok (xlv A.2.2.2) l st) (hI : xI s D cl B ad A.2.2.2 H locs) (hE : xE s B ad A.2.2.2) (h : xs2 (.iaload) ops pc l st A = some (pc2, l2, st2, A2)) (hbud : cells + A2.2.1 ≤ R.cells + A.2.1 ∧ slots + A2.2.2.1 ≤ R.slots + A.2.2.1)
    (k : xCont p l0 e R s m args below meth c D cl B ad A A2 l2 st2 nL pc2 cells slots Q) : W p l0 e R s m args below meth c H locs cells slots Q (F0 m pc ls (st.map (xc ad))) := by
  simp only [xs2] at h
  obtain ⟨hx, hb, hown, hts, hnm, hK, hcl⟩ := X
  split at h
  next j q r =>
    split at h
    next kd n f hq =>
      split at h
      next v hv =>
        cases h
        · obtain ⟨hkd, hin, rfl⟩ := xarr_ok hv
          obtain ⟨cell, h1, h2, h3, h4, h5, h6⟩ := hI.1.1 q _ hq
          have hty : xak kd = .int := by rcases hkd with rfl | ⟨hw, rfl⟩ <;> first | rfl | exact absurd hw (by decide)
          exact W.iald hx hb h1 (by rw [← hty]; exact h2) h4 (by rw [h5]; exact hin) (h6 _ (Nat.not_le.mp fun z => hin (Or.inr z))) rfl rfl hd (k.same hl (xok_push (xok_tl (xok_tl hk)) (hI.1.2.2.2 q _ hq _)) hI)
      next => cases h
    next => cases h
  next => cases h

theorem xt_laload {l l2 : xL} {st st2 : List xV} {A A2 : xA} {nL pc2 : Nat} {ops : List Nat} (X : xCx p s m args meth c D cl Ts own nm cc) (hd : decode cc pc = .ok (.laload, xlen2 (.laload))) (hT : xT Ts cl own nm (.laload) ops) (hl : lv_has ls nL (xlm ad l)) (hk : xok (xlv A.2.2.2) l st) (hI : xI s D cl B ad A.2.2.2 H locs) (hE : xE s B ad A.2.2.2) (h : xs2 (.laload) ops pc l st A = some (pc2, l2, st2, A2)) (hbud : cells + A2.2.1 ≤ R.cells + A.2.1 ∧ slots + A2.2.2.1 ≤ R.slots + A.2.2.1)
    (k : xCont p l0 e R s m args below meth c D cl B ad A A2 l2 st2 nL pc2 cells slots Q) : W p l0 e R s m args below meth c H locs cells slots Q (F0 m pc ls (st.map (xc ad))) := by
  simp only [xs2] at h
  obtain ⟨hx, hb, hown, hts, hnm, hK, hcl⟩ := X
  split at h
  next j q r =>
    split at h
    next kd n f hq =>
      split at h
      next v hv =>
        cases h
        · obtain ⟨hkd, hin, rfl⟩ := xarr_ok hv
          obtain ⟨cell, h1, h2, h3, h4, h5, h6⟩ := hI.1.1 q _ hq
          have hty : xak kd = .long := by rcases hkd with rfl | ⟨hw, rfl⟩ <;> first | rfl | exact absurd hw (by decide)
          exact W.lald hx hb h1 (by rw [← hty]; exact h2) h4 (by rw [h5]; exact hin) (h6 _ (Nat.not_le.mp fun z => hin (Or.inr z))) rfl rfl hd (k.same hl (xok_push (xok_tl (xok_tl hk)) (hI.1.2.2.2 q _ hq _)) hI)
      next => cases h
    next => cases h
  next => cases h

theorem xt_caload {l l2 : xL} {st st2 : List xV} {A A2 : xA} {nL pc2 : Nat} {ops : List Nat} (X : xCx p s m args meth c D cl Ts own nm cc) (hd : decode cc pc = .ok (.caload, xlen2 (.caload))) (hT : xT Ts cl own nm (.caload) ops) (hl : lv_has ls nL (xlm ad l)) (hk : xok (xlv A.2.2.2) l st) (hI : xI s D cl B ad A.2.2.2 H locs) (hE : xE s B ad A.2.2.2) (h : xs2 (.caload) ops pc l st A = some (pc2, l2, st2, A2)) (hbud : cells + A2.2.1 ≤ R.cells + A.2.1 ∧ slots + A2.2.2.1 ≤ R.slots + A.2.2.1)
    (k : xCont p l0 e R s m args below meth c D cl B ad A A2 l2 st2 nL pc2 cells slots Q) : W p l0 e R s m args below meth c H locs cells slots Q (F0 m pc ls (st.map (xc ad))) := by
  simp only [xs2] at h
  obtain ⟨hx, hb, hown, hts, hnm, hK, hcl⟩ := X
  split at h
  next j q r =>
    split at h
    next kd n f hq =>
      split at h
      next v hv =>
        cases h
        · obtain ⟨hkd, hin, rfl⟩ := xarr_ok hv
          obtain ⟨cell, h1, h2, h3, h4, h5, h6⟩ := hI.1.1 q _ hq
          have hty : xak kd = .char := by rcases hkd with rfl | ⟨hw, rfl⟩ <;> first | rfl | exact absurd hw (by decide)
          exact W.cald hx hb h1 (by rw [← hty]; exact h2) h4 (by rw [h5]; exact hin) (h6 _ (Nat.not_le.mp fun z => hin (Or.inr z))) rfl rfl hd (k.same hl (xok_push (xok_tl (xok_tl hk)) (hI.1.2.2.2 q _ hq _)) hI)
      next => cases h
    next => cases h
  next => cases h

theorem xt_daload {l l2 : xL} {st st2 : List xV} {A A2 : xA} {nL pc2 : Nat} {ops : List Nat} (X : xCx p s m args meth c D cl Ts own nm cc) (hd : decode cc pc = .ok (.daload, xlen2 (.daload))) (hT : xT Ts cl own nm (.daload) ops) (hl : lv_has ls nL (xlm ad l)) (hk : xok (xlv A.2.2.2) l st) (hI : xI s D cl B ad A.2.2.2 H locs) (hE : xE s B ad A.2.2.2) (h : xs2 (.daload) ops pc l st A = some (pc2, l2, st2, A2)) (hbud : cells + A2.2.1 ≤ R.cells + A.2.1 ∧ slots + A2.2.2.1 ≤ R.slots + A.2.2.1)
    (k : xCont p l0 e R s m args below meth c D cl B ad A A2 l2 st2 nL pc2 cells slots Q) : W p l0 e R s m args below meth c H locs cells slots Q (F0 m pc ls (st.map (xc ad))) := by
  simp only [xs2] at h
  obtain ⟨hx, hb, hown, hts, hnm, hK, hcl⟩ := X
  split at h
  next j q r =>
    split at h
    next kd n f hq =>
      split at h
      next v hv =>
        cases h
        · obtain ⟨hkd, hin, rfl⟩ := xarr_ok hv
          obtain ⟨cell, h1, h2, h3, h4, h5, h6⟩ := hI.1.1 q _ hq
          have hty : xak kd = .double := by rcases hkd with rfl | ⟨hw, rfl⟩ <;> first | rfl | exact absurd hw (by decide)
          exact W.dald hx hb h1 (by rw [← hty]; exact h2) h4 (by rw [h5]; exact hin) (h6 _ (Nat.not_le.mp fun z => hin (Or.inr z))) rfl rfl hd (k.same hl (xok_push (xok_tl (xok_tl hk)) (hI.1.2.2.2 q _ hq _)) hI)
      next => cases h
    next => cases h
  next => cases h

theorem xt_aaload {l l2 : xL} {st st2 : List xV} {A A2 : xA} {nL pc2 : Nat} {ops : List Nat} (X : xCx p s m args meth c D cl Ts own nm cc) (hd : decode cc pc = .ok (.aaload, xlen2 (.aaload))) (hT : xT Ts cl own nm (.aaload) ops) (hl : lv_has ls nL (xlm ad l)) (hk : xok (xlv A.2.2.2) l st) (hI : xI s D cl B ad A.2.2.2 H locs) (hE : xE s B ad A.2.2.2) (h : xs2 (.aaload) ops pc l st A = some (pc2, l2, st2, A2)) (hbud : cells + A2.2.1 ≤ R.cells + A.2.1 ∧ slots + A2.2.2.1 ≤ R.slots + A.2.2.1)
    (k : xCont p l0 e R s m args below meth c D cl B ad A A2 l2 st2 nL pc2 cells slots Q) : W p l0 e R s m args below meth c H locs cells slots Q (F0 m pc ls (st.map (xc ad))) := by
  simp only [xs2] at h
  obtain ⟨hx, hb, hown, hts, hnm, hK, hcl⟩ := X
  split at h
  next j q r =>
    split at h
    next kd n f hq =>
      split at h
      next v hv =>
        cases h
        · obtain ⟨hkd, hin, rfl⟩ := xarr_ok hv
          obtain ⟨cell, h1, h2, h3, h4, h5, h6⟩ := hI.1.1 q _ hq
          have hty : (xak kd).isReference = true := by
            by_cases h55 : kd = 5
            · subst h55; rfl
            · rw [if_neg h55] at hkd
              rcases hkd with rfl | ⟨hw, rfl⟩
              · rfl
              · exact absurd hw (by decide)
          exact W.aald hx hb h1 h2 hty h4 (by rw [h5]; exact hin) (h6 _ (Nat.not_le.mp fun z => hin (Or.inr z))) rfl rfl hd (k.same hl (xok_push (xok_tl (xok_tl hk)) (hI.1.2.2.2 q _ hq _)) hI)
      next => cases h
    next => cases h
  next => cases h

/-- a store into an array -/
theorem xsto_ok {A A1 : xA} {q : Nat × Nat} {kd n want : Nat} {j : Int32} {f : Nat → xV} {v : xV} {l2 : xL} {st2 : List xV} {nL pc2 : Nat} (hq : A.2.2.2 q = some (.inr (kd, n, f))) (h : xsto A q kd j n f want v = some A1) (hl : lv_has ls nL (xlm ad l2)) (hk : xok (xlv A.2.2.2) l2 st2) (hv : xlv A.2.2.2 v) (hI : xI s D cl B ad A.2.2.2 H locs) (k : xCont p l0 e R s m args below meth c D cl B ad A A1 l2 st2 nL pc2 cells slots Q) :
    kd = want ∧ ¬ (j < 0 ∨ n ≤ j.toNatClampNeg) ∧ ∃ cell : Cell, H[ad q]? = some cell ∧ s.isArrayOf cell (xak kd) ∧ (kd = 9 ∨ va_RA s cell.cls (xak kd)) ∧ cell.vm ≠ .unknown ∧ cell.slots.size = n ∧ ∀ H1 : Heap, H1[ad q]? = some (cell.setSlot j.toNatClampNeg (xc ad v)) → H1.size = H.size → (∀ z, z ≠ ad q → H1[z]? = H[z]?) → W p l0 e R s m args below meth c H1 (locs ++ [⟨ad q, j.toNatClampNeg⟩]) cells slots Q (F0 m pc2 ls (st2.map (xc ad))) := by
  unfold xsto at h
  split at h
  next hg =>
    cases h
    obtain ⟨hw, h0, hin⟩ := hg
    obtain ⟨cell, h1, h2, h3, h4, h5, h6⟩ := hI.1.1 q _ hq
    refine ⟨hw, hin, cell, h1, h2, h3, h4, h5, fun H1 e1 e2 e3 => ?_⟩
    obtain ⟨g1, g2⟩ := xarr_set (v := v) h5 h6 (Nat.not_le.mp fun z => hin (Or.inr z))
    refine k ad H1 _ ls cells slots (fun u hu => ⟨xup_lv hu, rfl⟩) (fun _ _ => rfl) (hI.put hq h0 ⟨_, e1, h2, h3, h4, g1, g2⟩ e2 e3 ?_) hl (xok_up hk) rfl rfl
    intro i
    show xlv A.2.2.2 (xfu f j.toNatClampNeg v i)
    unfold xfu
    split
    · exact hv
    · exact hI.1.2.2.2 q _ hq i
  next => cases h

theorem xt_iastore {l l2 : xL} {st st2 : List xV} {A A2 : xA} {nL pc2 : Nat} {ops : List Nat} (X : xCx p s m args meth c D cl Ts own nm cc) (hd : decode cc pc = .ok (.iastore, xlen2 (.iastore))) (hT : xT Ts cl own nm (.iastore) ops) (hl : lv_has ls nL (xlm ad l)) (hk : xok (xlv A.2.2.2) l st) (hI : xI s D cl B ad A.2.2.2 H locs) (hE : xE s B ad A.2.2.2) (h : xs2 (.iastore) ops pc l st A = some (pc2, l2, st2, A2)) (hbud : cells + A2.2.1 ≤ R.cells + A.2.1 ∧ slots + A2.2.2.1 ≤ R.slots + A.2.2.1)
    (k : xCont p l0 e R s m args below meth c D cl B ad A A2 l2 st2 nL pc2 cells slots Q) : W p l0 e R s m args below meth c H locs cells slots Q (F0 m pc ls (st.map (xc ad))) := by
  simp only [xs2] at h
  obtain ⟨hx, hb, hown, hts, hnm, hK, hcl⟩ := X
  split at h
  next x j q r =>
    split at h
    next kd n f hq =>
      split at h
      next A1 ha =>
        cases h
        obtain ⟨rfl, hin, cell, h1, h2, h3, h4, h5, kk⟩ := xsto_ok hq ha hl (xok_tl (xok_tl (xok_tl hk))) (xok_hd hk) hI k
        exact W.iast hx hb h1 h2 h4 (by rw [h5]; exact hin) rfl rfl hd kk
      next => cases h
    next => cases h
  next => cases h

theorem xt_lastore {l l2 : xL} {st st2 : List xV} {A A2 : xA} {nL pc2 : Nat} {ops : List Nat} (X : xCx p s m args meth c D cl Ts own nm cc) (hd : decode cc pc = .ok (.lastore, xlen2 (.lastore))) (hT : xT Ts cl own nm (.lastore) ops) (hl : lv_has ls nL (xlm ad l)) (hk : xok (xlv A.2.2.2) l st) (hI : xI s D cl B ad A.2.2.2 H locs) (hE : xE s B ad A.2.2.2) (h : xs2 (.lastore) ops pc l st A = some (pc2, l2, st2, A2)) (hbud : cells + A2.2.1 ≤ R.cells + A.2.1 ∧ slots + A2.2.2.1 ≤ R.slots + A.2.2.1)
    (k : xCont p l0 e R s m args below meth c D cl B ad A A2 l2 st2 nL pc2 cells slots Q) : W p l0 e R s m args below meth c H locs cells slots Q (F0 m pc ls (st.map (xc ad))) := by
  simp only [xs2] at h
  obtain ⟨hx, hb, hown, hts, hnm, hK, hcl⟩ := X
  split at h
  next x j q r =>
    split at h
    next kd n f hq =>
      split at h
      next A1 ha =>
        cases h
        obtain ⟨rfl, hin, cell, h1, h2, h3, h4, h5, kk⟩ := xsto_ok hq ha hl (xok_tl (xok_tl (xok_tl hk))) (xok_hd hk) hI k
        exact W.last hx hb h1 h2 h4 (by rw [h5]; exact hin) rfl rfl hd kk
      next => cases h
    next => cases h
  next => cases h

theorem xt_dastore {l l2 : xL} {st st2 : List xV} {A A2 : xA} {nL pc2 : Nat} {ops : List Nat} (X : xCx p s m args meth c D cl Ts own nm cc) (hd : decode cc pc = .ok (.dastore, xlen2 (.dastore))) (hT : xT Ts cl own nm (.dastore) ops) (hl : lv_has ls nL (xlm ad l)) (hk : xok (xlv A.2.2.2) l st) (hI : xI s D cl B ad A.2.2.2 H locs) (hE : xE s B ad A.2.2.2) (h : xs2 (.dastore) ops pc l st A = some (pc2, l2, st2, A2)) (hbud : cells + A2.2.1 ≤ R.cells + A.2.1 ∧ slots + A2.2.2.1 ≤ R.slots + A.2.2.1)
    (k : xCont p l0 e R s m args below meth c D cl B ad A A2 l2 st2 nL pc2 cells slots Q) : W p l0 e R s m args below meth c H locs cells slots Q (F0 m pc ls (st.map (xc ad))) := by
  simp only [xs2] at h
  obtain ⟨hx, hb, hown, hts, hnm, hK, hcl⟩ := X
  split at h
  next x j q r =>
    split at h
    next kd n f hq =>
      split at h
      next A1 ha =>
        cases h
        obtain ⟨rfl, hin, cell, h1, h2, h3, h4, h5, kk⟩ := xsto_ok hq ha hl (xok_tl (xok_tl (xok_tl hk))) (xok_hd hk) hI k
        exact W.dast hx hb h1 h2 h4 (by rw [h5]; exact hin) rfl rfl hd kk
      next => cases h
    next => cases h
  next => cases h

theorem xt_castore {l l2 : xL} {st st2 : List xV} {A A2 : xA} {nL pc2 : Nat} {ops : List Nat} (X : xCx p s m args meth c D cl Ts own nm cc) (hd : decode cc pc = .ok (.castore, xlen2 (.castore))) (hT : xT Ts cl own nm (.castore) ops) (hl : lv_has ls nL (xlm ad l)) (hk : xok (xlv A.2.2.2) l st) (hI : xI s D cl B ad A.2.2.2 H locs) (hE : xE s B ad A.2.2.2) (h : xs2 (.castore) ops pc l st A = some (pc2, l2, st2, A2)) (hbud : cells + A2.2.1 ≤ R.cells + A.2.1 ∧ slots + A2.2.2.1 ≤ R.slots + A.2.2.1)
    (k : xCont p l0 e R s m args below meth c D cl B ad A A2 l2 st2 nL pc2 cells slots Q) : W p l0 e R s m args below meth c H locs cells slots Q (F0 m pc ls (st.map (xc ad))) := by
  simp only [xs2] at h
  obtain ⟨hx, hb, hown, hts, hnm, hK, hcl⟩ := X
  split at h
  next x j q r =>
    split at h
    next kd n f hq =>
      split at h
      next hch =>
        split at h
        next A1 ha =>
          cases h
          obtain ⟨rfl, hin, cell, h1, h2, h3, h4, h5, kk⟩ := xsto_ok hq ha hl (xok_tl (xok_tl (xok_tl hk))) (xok_hd hk) hI k
          exact W.cast hx hb h1 h2 h4 (by rw [h5]; exact hin) rfl rfl hd (fun H1 e1 e2 e3 => kk H1 (by rw [(xfit_char hch).1] at e1; exact e1) e2 e3)
        next => cases h
      next => cases h
    next => cases h
  next => cases h

theorem xt_arraylength {l l2 : xL} {st st2 : List xV} {A A2 : xA} {nL pc2 : Nat} {ops : List Nat} (X : xCx p s m args meth c D cl Ts own nm cc) (hd : decode cc pc = .ok (.arraylength, xlen2 (.arraylength))) (hT : xT Ts cl own nm (.arraylength) ops) (hl : lv_has ls nL (xlm ad l)) (hk : xok (xlv A.2.2.2) l st) (hI : xI s D cl B ad A.2.2.2 H locs) (hE : xE s B ad A.2.2.2) (h : xs2 (.arraylength) ops pc l st A = some (pc2, l2, st2, A2)) (hbud : cells + A2.2.1 ≤ R.cells + A.2.1 ∧ slots + A2.2.2.1 ≤ R.slots + A.2.2.1)
    (k : xCont p l0 e R s m args below meth c D cl B ad A A2 l2 st2 nL pc2 cells slots Q) : W p l0 e R s m args below meth c H locs cells slots Q (F0 m pc ls (st.map (xc ad))) := by
  simp only [xs2] at h
  obtain ⟨hx, hb, hown, hts, hnm, hK, hcl⟩ := X
  split at h
  next q r =>
    split at h
    next kd n f hq =>
      cases h
      obtain ⟨cell, h1, h2, h3, h4, h5, h6⟩ := hI.1.1 q _ hq
      exact W.alen hx hb h1 h2 (by rw [h5]) rfl rfl hd (k.same hl (xok_push (xok_tl hk) trivial) hI)
    next => cases h
  next => cases h

/-- a fresh name gets a fresh address -/
theorem xnew_ok {A : xA} {q : Nat × Nat} {nm2 : List (Nat × Nat)} {sz : Nat} {o : xO} {l2 : xL} {st2 : List xV} {nL pc2 : Nat} {H1 : Heap} (hq : A.2.2.2 q = none) (h0 : q.1 ≠ 0) (hl : lv_has ls nL (xlm ad l2)) (hk : xok (xlv A.2.2.2) l2 st2) (hI : xI s D cl B ad A.2.2.2 H locs) (k : xCont p l0 e R s m args below meth c D cl B ad A (nm2, A.2.1 + 1, A.2.2.1 + sz, xup A.2.2.2 q o) l2 (.inr q :: st2) nL pc2 cells slots Q) (hc : xcell s D cl (xan ad q H.size) H.size o H1) (hz : H1.size = H.size + 1) (o1 : ∀ x, x < H.size → H1[x]? = H[x]?) (ho : xOl (xup A.2.2.2 q o) o) :
    W p l0 e R s m args below meth c H1 locs (cells + 1) (slots + sz) Q (F0 m pc2 ls (.ref H.size :: st2.map (xc ad))) := by
  have hst : (.inr q :: st2).map (xc (xan ad q H.size)) = .ref H.size :: st2.map (xc ad) := by
    show .ref (xan ad q H.size q) :: st2.map (xc (xan ad q H.size)) = _
    rw [xst_an hq hk.2]
    unfold xan
    rw [if_pos rfl]
  rw [← hst]
  refine k (xan ad q H.size) H1 locs ls (cells + 1) (slots + sz) (fun u hu => ⟨xup_lv hu, xan_c hq hu⟩) (fun z hz => ?_) (hI.new hq hc (by omega) o1 ho) (by rw [xlm_an hq hk.1]; exact hl) (xok_push (xok_up hk) xlv_self) ?_ ?_
  · unfold xan
    exact if_neg (fun e : z = q => h0 (by rw [← e]; exact hz))
  · show cells + 1 + A.2.1 = cells + (A.2.1 + 1)
    omega
  · show slots + sz + A.2.2.1 = slots + (A.2.2.1 + sz)
    omega

theorem xt_newarray {l l2 : xL} {st st2 : List xV} {A A2 : xA} {nL pc2 : Nat} {ops : List Nat} {at_ : ArrayType} (X : xCx p s m args meth c D cl Ts own nm cc) (hd : decode cc pc = .ok (.newarray at_, xlen2 (.newarray at_))) (hT : xT Ts cl own nm (.newarray at_) ops) (hl : lv_has ls nL (xlm ad l)) (hk : xok (xlv A.2.2.2) l st) (hI : xI s D cl B ad A.2.2.2 H locs) (hE : xE s B ad A.2.2.2) (h : xs2 (.newarray at_) ops pc l st A = some (pc2, l2, st2, A2)) (hbud : cells + A2.2.1 ≤ R.cells + A.2.1 ∧ slots + A2.2.2.1 ≤ R.slots + A.2.2.1)
    (k : xCont p l0 e R s m args below meth c D cl B ad A A2 l2 st2 nL pc2 cells slots Q) : W p l0 e R s m args below meth c H locs cells slots Q (F0 m pc ls (st.map (xc ad))) := by
  simp only [xs2] at h
  obtain ⟨hx, hb, hown, hts, hnm, hK, hcl⟩ := X
  split at h
  next n r kd q nm2 hn =>
    split at h
    next hg =>
      obtain ⟨hn0, hbig, hq, h0⟩ := hg
      have hq : A.2.2.2 q = none := Option.isNone_iff_eq_none.mp hq
      cases h
      obtain ⟨hty, harr, hk4, hk5⟩ := hT
      have hb1 : cells + 1 ≤ R.cells := by have := hbud.1; dsimp only at this; omega
      have hb2 : slots + n.toNatClampNeg ≤ R.slots := by have := hbud.2; dsimp only at this; omega
      have hcb : componentBytes (newarray.typeOf at_) ≤ 8 := by cases at_ <;> decide
      refine va_newaK (atype := at_) hx hb (hts _ harr) rfl hd rfl hn0 rfl (Nat.le_trans (Nat.mul_le_mul hbig hcb) (by decide)) hb1 hb2 rfl fun H1 cA e1 z1 o1 hAr hNm => ?_
      refine xnew_ok hq h0 hl (xok_tl hk) hI k ⟨_, e1, ?_, Or.inr ?_, (fun z => by cases z), arrV_size _ _ _, fun j hj => ?_⟩ z1 o1 (fun _ => trivial)
      · show s.isArrayOf _ (xak kd)
        rw [← hty]
        exact hAr _ _
      · show va_RA s cA (xak kd)
        rw [← hty]
        cases at_ <;> exact hNm
      · show (arrV _ _ _).slots[j]? = some (defaultValue (xak kd))
        rw [← hty]
        simp [arrV, hj]
    next => cases h
  next => cases h

theorem xt_anewarray {l l2 : xL} {st st2 : List xV} {A A2 : xA} {nL pc2 : Nat} {ops : List Nat} {idx : Nat} (X : xCx p s m args meth c D cl Ts own nm cc) (hd : decode cc pc = .ok (.anewarray idx, xlen2 (.anewarray idx))) (hT : xT Ts cl own nm (.anewarray idx) ops) (hl : lv_has ls nL (xlm ad l)) (hk : xok (xlv A.2.2.2) l st) (hI : xI s D cl B ad A.2.2.2 H locs) (hE : xE s B ad A.2.2.2) (h : xs2 (.anewarray idx) ops pc l st A = some (pc2, l2, st2, A2)) (hbud : cells + A2.2.1 ≤ R.cells + A.2.1 ∧ slots + A2.2.2.1 ≤ R.slots + A.2.2.1)
    (k : xCont p l0 e R s m args below meth c D cl B ad A A2 l2 st2 nL pc2 cells slots Q) : W p l0 e R s m args below meth c H locs cells slots Q (F0 m pc ls (st.map (xc ad))) := by
  simp only [xs2] at h
  obtain ⟨hx, hb, hown, hts, hnm, hK, hcl⟩ := X
  split at h
  next n r kd q nm2 hn =>
    split at h
    next hg =>
      obtain ⟨hn0, hbig, hq, h0⟩ := hg
      have hq : A.2.2.2 q = none := Option.isNone_iff_eq_none.mp hq
      cases h
      obtain ⟨C, hty, hlk, hov⟩ := hT
      have hb1 : cells + 1 ≤ R.cells := by have := hbud.1; dsimp only at this; omega
      have hb2 : slots + n.toNatClampNeg ≤ R.slots := by have := hbud.2; dsimp only at this; omega
      refine W.anew hx hb hown (hts _ hlk) (hts _ hov) rfl hd rfl hn0 (Nat.le_trans (Nat.mul_le_mul_right 4 hbig) (by decide)) hb1 hb2 fun cA kA comp g1 g2 g3 g4 => ?_
      refine xnew_ok hq h0 hl (xok_tl hk) hI k ⟨{ cls := cA, slots := Array.replicate n.toNatClampNeg .null, vm := .none }, Array.getElem?_push_size, ?_, Or.inr ?_, (fun z => by cases z), Array.size_replicate, fun j hj => ?_⟩ (Array.size_push _) (fun x hx => ?_) (fun _ => trivial)
      · show s.isArrayOf _ (xak kd)
        rw [hty]
        exact ⟨fun z w => (by cases w), kA, g2, comp, g3⟩
      · show va_RA s cA (xak kd)
        rw [hty]
        exact ⟨kA, comp, g2, g3, g4, g1⟩
      · show (Array.replicate n.toNatClampNeg Value.null)[j]? = some Value.null
        rw [Array.getElem?_replicate, if_pos hj]
      · rw [Array.getElem?_push, if_neg (Nat.ne_of_lt hx)]
    next => cases h
  next => cases h

theorem xt_new {l l2 : xL} {st st2 : List xV} {A A2 : xA} {nL pc2 : Nat} {ops : List Nat} {idx : Nat} (X : xCx p s m args meth c D cl Ts own nm cc) (hd : decode cc pc = .ok (.new idx, xlen2 (.new idx))) (hT : xT Ts cl own nm (.new idx) ops) (hl : lv_has ls nL (xlm ad l)) (hk : xok (xlv A.2.2.2) l st) (hI : xI s D cl B ad A.2.2.2 H locs) (hE : xE s B ad A.2.2.2) (h : xs2 (.new idx) ops pc l st A = some (pc2, l2, st2, A2)) (hbud : cells + A2.2.1 ≤ R.cells + A.2.1 ∧ slots + A2.2.2.1 ≤ R.slots + A.2.2.1)
    (k : xCont p l0 e R s m args below meth c D cl B ad A A2 l2 st2 nL pc2 cells slots Q) : W p l0 e R s m args below meth c H locs cells slots Q (F0 m pc ls (st.map (xc ad))) := by
  simp only [xs2] at h
  obtain ⟨hx, hb, hown, hts, hnm, hK, hcl⟩ := X
  split at h
  next ci tc q nm2 hn =>
    split at h
    next hg =>
      obtain ⟨hq, h0⟩ := hg
      have hq : A.2.2.2 q = none := Option.isNone_iff_eq_none.mp hq
      cases h
      obtain ⟨w, hc, hlen, hlk, hins, hini, hf⟩ := hT
      obtain ⟨hin, ⟨ty0, hty0⟩, hnm2⟩ := hcl ci _ hc
      have hb1 : cells + 1 ≤ R.cells := by have := hbud.1; dsimp only at this; omega
      have hb2 : slots + tc.length ≤ R.slots := by have := hbud.2; dsimp only at this; omega
      have hKn := hK.1 ci _ hc
      refine W.newcK hx hb hown (hts _ hlk) (n := tc.length) (by rw [hlen]; exact hts _ hins) (hts _ hini) rfl hd hb1 hb2 hKn.2.1 rfl fun H1 kC hkC e1 z1 o1 => ?_
      refine xnew_ok hq h0 hl hk hI k ⟨w, hc, by rw [List.length_map]; exact hlen, t_OB.to (u_born (C := w.1) (T := w.2.1) (N := w.2.2) ty0 hts hin hKn hkC e1 hty0) (fun j hj => ?_)⟩ z1 o1 (fun v hv => ?_)
      · obtain ⟨ty, t, g1, g2, g3⟩ := hf j hj
        cases Option.some.inj (g1.symm.trans (hty0 j hj))
        show defaultValue (ty0 j) = (((tc.map xd0).map (xc _)).getD j .null)
        rw [List.getD_eq_getElem?_getD, List.getElem?_map, List.getElem?_map, g2]
        show defaultValue (ty0 j) = xc _ (xd0 t)
        rw [← g3]
        rfl
      · obtain ⟨t, -, rfl⟩ := List.mem_map.mp hv
        unfold xd0
        split <;> trivial
    next => cases h
  next => cases h

theorem xt_checkcast {l l2 : xL} {st st2 : List xV} {A A2 : xA} {nL pc2 : Nat} {ops : List Nat} {idx : Nat} (X : xCx p s m args meth c D cl Ts own nm cc) (hd : decode cc pc = .ok (.checkcast idx, xlen2 (.checkcast idx))) (hT : xT Ts cl own nm (.checkcast idx) ops) (hl : lv_has ls nL (xlm ad l)) (hk : xok (xlv A.2.2.2) l st) (hI : xI s D cl B ad A.2.2.2 H locs) (hE : xE s B ad A.2.2.2) (h : xs2 (.checkcast idx) ops pc l st A = some (pc2, l2, st2, A2)) (hbud : cells + A2.2.1 ≤ R.cells + A.2.1 ∧ slots + A2.2.2.1 ≤ R.slots + A.2.2.1)
    (k : xCont p l0 e R s m args below meth c D cl B ad A A2 l2 st2 nL pc2 cells slots Q) : W p l0 e R s m args below meth c H locs cells slots Q (F0 m pc ls (st.map (xc ad))) := by
  simp only [xs2] at h
  obtain ⟨hx, hb, hown, hts, hnm, hK, hcl⟩ := X
  split at h
  next r =>
    cases h
    exact lv_castN hx hb hd (k.same hl hk hI)
  next q r =>
    split at h
    next ci fs hq =>
      split at h
      next hci =>
        cases h
        obtain ⟨w, nm3, hc, hlk, hca⟩ := hT ci (xelem hci)
        obtain ⟨w2, h1, hlen, cell, q1, q2, q3, q4⟩ := hI.1.1 q _ hq
        cases Option.some.inj (hc.symm.trans h1)
        rcases hca with hca | rfl
        · exact va_castY (a := ad q) hx hb hown (hts _ hlk) (va_Nw.of rfl (hts _ hca)) ⟨cell, q1, by rw [q3]; rfl, by rw [q2]; exact (hK.1 ci w hc).2.1⟩ hd (k.same hl hk hI)
        · exact va_castS (a := ad q) hx hb hown (hts _ hlk) (hK.1 ci w hc).2 ⟨cell, q1, by rw [q3]; rfl, by rw [q2]; exact (hK.1 ci w hc).2.1⟩ hd (k.same hl hk hI)
      next => cases h
    next => cases h
  next => cases h

theorem xt_ldc {l l2 : xL} {st st2 : List xV} {A A2 : xA} {nL pc2 : Nat} {ops : List Nat} {idx : Nat} (X : xCx p s m args meth c D cl Ts own nm cc) (hd : decode cc pc = .ok (.ldc idx, xlen2 (.ldc idx))) (hT : xT Ts cl own nm (.ldc idx) ops) (hl : lv_has ls nL (xlm ad l)) (hk : xok (xlv A.2.2.2) l st) (hI : xI s D cl B ad A.2.2.2 H locs) (hE : xE s B ad A.2.2.2) (h : xs2 (.ldc idx) ops pc l st A = some (pc2, l2, st2, A2)) (hbud : cells + A2.2.1 ≤ R.cells + A.2.1 ∧ slots + A2.2.2.1 ≤ R.slots + A.2.2.1)
    (k : xCont p l0 e R s m args below meth c D cl B ad A A2 l2 st2 nL pc2 cells slots Q) : W p l0 e R s m args below meth c H locs cells slots Q (F0 m pc ls (st.map (xc ad))) := by
  simp only [xs2] at h
  obtain ⟨hx, hb, hown, hts, hnm, hK, hcl⟩ := X
  split at h
  next => cases h; exact lv_ldc hx hb hown (hts _ hT) hd (k.same hl (xok_push hk trivial) hI)
  next => cases h; exact lv_ldcf hx hb hown (hts _ hT) hd (k.same hl (xok_push hk trivial) hI)
  next => cases h

theorem xt_ldc_w {l l2 : xL} {st st2 : List xV} {A A2 : xA} {nL pc2 : Nat} {ops : List Nat} {idx : Nat} (X : xCx p s m args meth c D cl Ts own nm cc) (hd : decode cc pc = .ok (.ldc_w idx, xlen2 (.ldc_w idx))) (hT : xT Ts cl own nm (.ldc_w idx) ops) (hl : lv_has ls nL (xlm ad l)) (hk : xok (xlv A.2.2.2) l st) (hI : xI s D cl B ad A.2.2.2 H locs) (hE : xE s B ad A.2.2.2) (h : xs2 (.ldc_w idx) ops pc l st A = some (pc2, l2, st2, A2)) (hbud : cells + A2.2.1 ≤ R.cells + A.2.1 ∧ slots + A2.2.2.1 ≤ R.slots + A.2.2.1)
    (k : xCont p l0 e R s m args below meth c D cl B ad A A2 l2 st2 nL pc2 cells slots Q) : W p l0 e R s m args below meth c H locs cells slots Q (F0 m pc ls (st.map (xc ad))) := by
  simp only [xs2] at h
  obtain ⟨hx, hb, hown, hts, hnm, hK, hcl⟩ := X
  split at h
  next => cases h; exact lv_ldcw hx hb hown (hts _ hT) hd (k.same hl (xok_push hk trivial) hI)
  next => cases h

theorem xt_ldc2_w {l l2 : xL} {st st2 : List xV} {A A2 : xA} {nL pc2 : Nat} {ops : List Nat} {idx : Nat} (X : xCx p s m args meth c D cl Ts own nm cc) (hd : decode cc pc = .ok (.ldc2_w idx, xlen2 (.ldc2_w idx))) (hT : xT Ts cl own nm (.ldc2_w idx) ops) (hl : lv_has ls nL (xlm ad l)) (hk : xok (xlv A.2.2.2) l st) (hI : xI s D cl B ad A.2.2.2 H locs) (hE : xE s B ad A.2.2.2) (h : xs2 (.ldc2_w idx) ops pc l st A = some (pc2, l2, st2, A2)) (hbud : cells + A2.2.1 ≤ R.cells + A.2.1 ∧ slots + A2.2.2.1 ≤ R.slots + A.2.2.1)
    (k : xCont p l0 e R s m args below meth c D cl B ad A A2 l2 st2 nL pc2 cells slots Q) : W p l0 e R s m args below meth c H locs cells slots Q (F0 m pc ls (st.map (xc ad))) := by
  simp only [xs2] at h
  obtain ⟨hx, hb, hown, hts, hnm, hK, hcl⟩ := X
  split at h
  next => cases h; exact lv_ldc2 hx hb hown (hts _ hT) hd (k.same hl (xok_push hk trivial) hI)
  next => cases h; exact lv_ldc2d hx hb hown (hts _ hT) hd (k.same hl (xok_push hk trivial) hI)
  next => cases h

theorem xt_getstatic {l l2 : xL} {st st2 : List xV} {A A2 : xA} {nL pc2 : Nat} {ops : List Nat} {idx : Nat} (X : xCx p s m args meth c D cl Ts own nm cc) (hd : decode cc pc = .ok (.getstatic idx, xlen2 (.getstatic idx))) (hT : xT Ts cl own nm (.getstatic idx) ops) (hl : lv_has ls nL (xlm ad l)) (hk : xok (xlv A.2.2.2) l st) (hI : xI s D cl B ad A.2.2.2 H locs) (hE : xE s B ad A.2.2.2) (h : xs2 (.getstatic idx) ops pc l st A = some (pc2, l2, st2, A2)) (hbud : cells + A2.2.1 ≤ R.cells + A.2.1 ∧ slots + A2.2.2.1 ≤ R.slots + A.2.2.1)
    (k : xCont p l0 e R s m args below meth c D cl B ad A A2 l2 st2 nL pc2 cells slots Q) : W p l0 e R s m args below meth c H locs cells slots Q (F0 m pc ls (st.map (xc ad))) := by
  simp only [xs2] at h
  obtain ⟨hx, hb, hown, hts, hnm, hK, hcl⟩ := X
  split at h
  next ho =>
    cases h
    exact va_gets hx hb hE.2 hI.2.1 hown (hts _ (hT ho)) (fun _ z => z) hd (k.same hl (xok_push hk hE.1) hI)
  next => cases h

theorem xt_aastore {l l2 : xL} {st st2 : List xV} {A A2 : xA} {nL pc2 : Nat} {ops : List Nat} (X : xCx p s m args meth c D cl Ts own nm cc) (hd : decode cc pc = .ok (.aastore, xlen2 (.aastore))) (hT : xT Ts cl own nm (.aastore) ops) (hl : lv_has ls nL (xlm ad l)) (hk : xok (xlv A.2.2.2) l st) (hI : xI s D cl B ad A.2.2.2 H locs) (hE : xE s B ad A.2.2.2) (h : xs2 (.aastore) ops pc l st A = some (pc2, l2, st2, A2)) (hbud : cells + A2.2.1 ≤ R.cells + A.2.1 ∧ slots + A2.2.2.1 ≤ R.slots + A.2.2.1)
    (k : xCont p l0 e R s m args below meth c D cl B ad A A2 l2 st2 nL pc2 cells slots Q) : W p l0 e R s m args below meth c H locs cells slots Q (F0 m pc ls (st.map (xc ad))) := by
  simp only [xs2] at h
  obtain ⟨hx, hb, hown, hts, hnm, hK, hcl⟩ := X
  split at h
  next z j q r =>
    split at h
    next kd n f ci fs hq hz =>
      split at h
      next hg =>
        split at h
        next A1 ha =>
          cases h
          obtain ⟨hci, hkd⟩ := hg
          obtain ⟨-, hin, cell, h1, h2, h3, h4, h5, kk⟩ := xsto_ok hq ha hl (xok_tl (xok_tl (xok_tl hk))) (xok_hd hk) hI k
          obtain ⟨w, hc, hlen, cv, q1, q2, q3, q4⟩ := hI.1.1 z _ hz
          obtain ⟨hob, hhe⟩ := hT ci (xelem hci) w hc
          have hcls := (hK.1 ci w hc).2
          obtain ⟨kC, hkC, -⟩ := hcls.2
          have hra : ∃ E, xak kd = .object E ∧ va_RA s cell.cls (.object E) ∧ ∀ comp, s.vm.findClass E = some comp → s.vm.assignable cv.cls comp = true := by
            rcases hkd with rfl | ⟨rfl, h5⟩
            · refine ⟨"java/lang/Object", rfl, h3.resolve_left (by decide), fun comp hcomp => ?_⟩
              obtain ⟨c0, t0, f1, f2, f3⟩ := Cond.castable_spec (hts _ hob)
              cases Option.some.inj (hcls.1.symm.trans f1)
              cases Option.some.inj (hcomp.symm.trans f2)
              rw [q2]
              exact f3
            · refine ⟨"ViewFoundryModel$Held", rfl, h3.resolve_left (by decide), fun comp hcomp => ?_⟩
              rw [← hhe h5] at hcomp
              cases Option.some.inj (hcls.1.symm.trans hcomp)
              rw [q2]
              exact va_assign hcls
          obtain ⟨E, hE2, ⟨kA, comp, k1, k2, k3, k4⟩, hasg⟩ := hra
          obtain ⟨kE, hkE, -⟩ := Vm.findClass_spec k3
          exact W.aast (v := ad z) hx hb h1 h2.1 h4 k1 k2 rfl hkE ⟨fun y => hin (Or.inl y), by rw [h5]; exact Nat.not_le.mp fun y => hin (Or.inr y)⟩ q1 (fun y hy => by rw [q3] at hy; cases hy) (by rw [q2]; exact hkC) (hasg _ k3) rfl rfl hd kk
        next => cases h
      next => cases h
    next => cases h
  next j q r =>
    split at h
    next kd n f hq =>
      split at h
      next hkd =>
        split at h
        next A1 ha =>
          cases h
          obtain ⟨-, hin, cell, h1, h2, h3, h4, h5, kk⟩ := xsto_ok (v := .inl .null) hq ha hl (xok_tl (xok_tl (xok_tl hk))) trivial hI k
          have hra : ∃ E, xak kd = .object E := by
            rcases hkd with rfl | rfl
            · exact ⟨_, rfl⟩
            · exact ⟨_, rfl⟩
          obtain ⟨E, hE2⟩ := hra
          exact va_WaastN hx hb h1 (by rw [← hE2]; exact h2) h4 (by rw [h5]; exact hin) rfl rfl hd kk
        next => cases h
      next => cases h
    next => cases h
  next => cases h

end XT
