set_option maxRecDepth 20000
section XJ
/-- a value of the small machine: a number, null or a raw address; or an object by its name -/
abbrev xV : Type := Value ⊕ (Nat × Nat)
/-- an object: class and fields; or kind, length and content of an array -/
abbrev xO : Type := (Nat × List xV) ⊕ (Nat × Nat × (Nat → xV))
abbrev xL : Type := List (Nat × xV)
abbrev xH : Type := Nat × Nat → Option xO
/-- names to be given, cells made, slots made, heap -/
abbrev xA : Type := List (Nat × Nat) × Nat × Nat × xH
abbrev xN : Type := Nat × Nat → Nat
def xcat : xV → Nat
  | .inl v => v.category
  | .inr _ => 1
def xc (ad : xN) : xV → Value
  | .inl v => v
  | .inr q => .ref (ad q)
theorem xc_cat (ad : xN) (v : xV) : (xc ad v).category = xcat v := by cases v <;> rfl
abbrev xlm (ad : xN) (l : xL) : List (Nat × Value) := l.map (fun q => (q.1, xc ad q.2))
def xl : xL → Nat → Option xV
  | [], _ => none
  | q :: r, i => if q.1 = i then some q.2 else xl r i
theorem xl_mem {l : xL} {i : Nat} {v : xV} (h : xl l i = some v) : (i, v) ∈ l := by
  induction l with
  | nil => cases h
  | cons q r ih =>
    unfold xl at h
    split at h
    next e => cases h; subst e; exact List.mem_cons_self
    next e => exact List.mem_cons_of_mem _ (ih h)
theorem xl_at {ls : Array Slot} {nL : Nat} {ad : xN} {l : xL} (hl : lv_has ls nL (xlm ad l)) {i : Nat} {v : xV} (h : xl l i = some v) : ls[i]? = some (.val (xc ad v)) :=
  hl.2.2 (i, xc ad v) (List.mem_map.mpr ⟨(i, v), xl_mem h, rfl⟩)
def xst1 (l : xL) (i : Nat) (v : xV) : xL := (i, v) :: l.filter (fun q => !(q.1 == i) && !(q.1 + 1 == i && xcat q.2 == 2))
def xst2 (l : xL) (i : Nat) (v : xV) : xL := (i, v) :: l.filter (fun q => !(q.1 == i) && (!(q.1 == i + 1) && !(q.1 + 1 == i && xcat q.2 == 2)))
theorem xst1_map (ad : xN) (l : xL) (i : Nat) (v : xV) : (i, xc ad v) :: (xlm ad l).filter (fun q => !(q.1 == i) && !(q.1 + 1 == i && q.2.category == 2)) = xlm ad (xst1 l i v) := by
  unfold xst1 xlm
  rw [List.map_cons, List.filter_map]
  congr 2
  refine List.filter_congr fun q _ => ?_
  simp only [Function.comp, xc_cat]
theorem xst2_map (ad : xN) (l : xL) (i : Nat) (v : xV) : (i, xc ad v) :: (xlm ad l).filter (fun q => !(q.1 == i) && (!(q.1 == i + 1) && !(q.1 + 1 == i && q.2.category == 2))) = xlm ad (xst2 l i v) := by
  unfold xst2 xlm
  rw [List.map_cons, List.filter_map]
  congr 2
  refine List.filter_congr fun q _ => ?_
  simp only [Function.comp, xc_cat]
/-- all values of a frame are live -/
def xok (Lv : xV → Prop) (l : xL) (st : List xV) : Prop := (∀ q ∈ l, Lv q.2) ∧ ∀ v ∈ st, Lv v
theorem xok_l {Lv : xV → Prop} {l : xL} {st : List xV} (h : xok Lv l st) {i : Nat} {v : xV} (e : xl l i = some v) : Lv v := h.1 _ (xl_mem e)
theorem xok_push {Lv : xV → Prop} {l : xL} {st : List xV} (h : xok Lv l st) {v : xV} (e : Lv v) : xok Lv l (v :: st) := ⟨h.1, List.forall_mem_cons.mpr ⟨e, h.2⟩⟩
theorem xok_tl {Lv : xV → Prop} {l : xL} {st : List xV} {v : xV} (h : xok Lv l (v :: st)) : xok Lv l st := ⟨h.1, (List.forall_mem_cons.mp h.2).2⟩
theorem xok_hd {Lv : xV → Prop} {l : xL} {st : List xV} {v : xV} (h : xok Lv l (v :: st)) : Lv v := (List.forall_mem_cons.mp h.2).1
theorem xok_1 {Lv : xV → Prop} {l : xL} {st : List xV} (h : xok Lv l st) (i : Nat) {v : xV} (e : Lv v) : xok Lv (xst1 l i v) st :=
  ⟨List.forall_mem_cons.mpr ⟨e, fun q hq => h.1 q (List.mem_filter.mp hq).1⟩, h.2⟩
theorem xok_2 {Lv : xV → Prop} {l : xL} {st : List xV} (h : xok Lv l st) (i : Nat) {v : xV} (e : Lv v) : xok Lv (xst2 l i v) st :=
  ⟨List.forall_mem_cons.mpr ⟨e, fun q hq => h.1 q (List.mem_filter.mp hq).1⟩, h.2⟩

/-- one plain instruction: the next place, locals, stack -/
def xs1 (nL : Nat) (i : Instr) (pc : Nat) (l : xL) (st : List xV) : Option (Nat × xL × List xV) :=
  match i with
  | .aconst_null => some (pc + 1, l, .inl .null :: st)
  | .iconst n => some (pc + 1, l, .inl (.int (Int32.ofInt n)) :: st)
  | .bipush n => some (pc + 2, l, .inl (.int (Int8.ofInt n).toInt32) :: st)
  | .sipush n => some (pc + 3, l, .inl (.int (Int16.ofInt n).toInt32) :: st)
  | .lconst n => some (pc + 1, l, .inl (.long (Int64.ofNat n)) :: st)
  | .fconst 0 => some (pc + 1, l, .inl (.float FP.fconst0) :: st)
  | .fconst 1 => some (pc + 1, l, .inl (.float FP.fconst1) :: st)
  | .fconst 2 => some (pc + 1, l, .inl (.float FP.fconst2) :: st)
  | .dconst 0 => some (pc + 1, l, .inl (.double FP.dconst0) :: st)
  | .dconst 1 => some (pc + 1, l, .inl (.double FP.dconst1) :: st)
  | .iadd => match st with
    | .inl (.int y) :: .inl (.int x) :: r => some (pc + 1, l, .inl (.int (x + y)) :: r)
    | _ => none
  | .isub => match st with
    | .inl (.int y) :: .inl (.int x) :: r => some (pc + 1, l, .inl (.int (x - y)) :: r)
    | _ => none
  | .imul => match st with
    | .inl (.int y) :: .inl (.int x) :: r => some (pc + 1, l, .inl (.int (x * y)) :: r)
    | _ => none
  | .iand => match st with
    | .inl (.int y) :: .inl (.int x) :: r => some (pc + 1, l, .inl (.int (x &&& y)) :: r)
    | _ => none
  | .ior => match st with
    | .inl (.int y) :: .inl (.int x) :: r => some (pc + 1, l, .inl (.int (x ||| y)) :: r)
    | _ => none
  | .ixor => match st with
    | .inl (.int y) :: .inl (.int x) :: r => some (pc + 1, l, .inl (.int (x ^^^ y)) :: r)
    | _ => none
  | .ishl => match st with
    | .inl (.int y) :: .inl (.int x) :: r => some (pc + 1, l, .inl (.int (x <<< (y &&& 31))) :: r)
    | _ => none
  | .ishr => match st with
    | .inl (.int y) :: .inl (.int x) :: r => some (pc + 1, l, .inl (.int (x >>> (y &&& 31))) :: r)
    | _ => none
  | .iushr => match st with
    | .inl (.int y) :: .inl (.int x) :: r => some (pc + 1, l, .inl (.int (x.toUInt32 >>> (y.toUInt32 &&& Int32.toUInt32 31)).toInt32) :: r)
    | _ => none
  | .idiv => match st with
    | .inl (.int y) :: .inl (.int x) :: r => if ¬ y = 0 then some (pc + 1, l, .inl (.int (x / y)) :: r) else none
    | _ => none
  | .irem => match st with
    | .inl (.int y) :: .inl (.int x) :: r => if ¬ y = 0 then some (pc + 1, l, .inl (.int (x - x / y * y)) :: r) else none
    | _ => none
  | .ineg => match st with
    | .inl (.int x) :: r => some (pc + 1, l, .inl (.int (-x)) :: r)
    | _ => none
  | .ladd => match st with
    | .inl (.long y) :: .inl (.long x) :: r => some (pc + 1, l, .inl (.long (x + y)) :: r)
    | _ => none
  | .lsub => match st with
    | .inl (.long y) :: .inl (.long x) :: r => some (pc + 1, l, .inl (.long (x - y)) :: r)
    | _ => none
  | .lmul => match st with
    | .inl (.long y) :: .inl (.long x) :: r => some (pc + 1, l, .inl (.long (x * y)) :: r)
    | _ => none
  | .land => match st with
    | .inl (.long y) :: .inl (.long x) :: r => some (pc + 1, l, .inl (.long (x &&& y)) :: r)
    | _ => none
  | .lor => match st with
    | .inl (.long y) :: .inl (.long x) :: r => some (pc + 1, l, .inl (.long (x ||| y)) :: r)
    | _ => none
  | .lxor => match st with
    | .inl (.long y) :: .inl (.long x) :: r => some (pc + 1, l, .inl (.long (x ^^^ y)) :: r)
    | _ => none
  | .ldiv => match st with
    | .inl (.long y) :: .inl (.long x) :: r => if ¬ y = 0 then some (pc + 1, l, .inl (.long (x / y)) :: r) else none
    | _ => none
  | .lrem => match st with
    | .inl (.long y) :: .inl (.long x) :: r => if ¬ y = 0 then some (pc + 1, l, .inl (.long (x - x / y * y)) :: r) else none
    | _ => none
  | .lneg => match st with
    | .inl (.long x) :: r => some (pc + 1, l, .inl (.long (-x)) :: r)
    | _ => none
  | .lcmp => match st with
    | .inl (.long y) :: .inl (.long x) :: r => some (pc + 1, l, .inl (.int (lg_cmp x y)) :: r)
    | _ => none
  | .lshl => match st with
    | .inl (.int y) :: .inl (.long x) :: r => some (pc + 1, l, .inl (.long (x <<< (y.toInt64 &&& 63))) :: r)
    | _ => none
  | .lshr => match st with
    | .inl (.int y) :: .inl (.long x) :: r => some (pc + 1, l, .inl (.long (x >>> (y.toInt64 &&& 63))) :: r)
    | _ => none
  | .lushr => match st with
    | .inl (.int y) :: .inl (.long x) :: r => some (pc + 1, l, .inl (.long (x.toUInt64 >>> (y.toInt64.toUInt64 &&& Int64.toUInt64 63)).toInt64) :: r)
    | _ => none
  | .i2l => match st with
    | .inl (.int x) :: r => some (pc + 1, l, .inl (.long x.toInt64) :: r)
    | _ => none
  | .l2i => match st with
    | .inl (.long x) :: r => some (pc + 1, l, .inl (.int x.toInt32) :: r)
    | _ => none
  | .i2b => match st with
    | .inl (.int x) :: r => some (pc + 1, l, .inl (.int x.toInt8.toInt32) :: r)
    | _ => none
  | .i2s => match st with
    | .inl (.int x) :: r => some (pc + 1, l, .inl (.int x.toInt16.toInt32) :: r)
    | _ => none
  | .i2c => match st with
    | .inl (.int x) :: r => some (pc + 1, l, .inl (.int (x.toUInt32 % 65536).toInt32) :: r)
    | _ => none
  | .fadd => match st with
    | .inl (.float y) :: .inl (.float x) :: r => if FP.fadd x y &&& 0x7fffffff ≤ 0x7f800000 then some (pc + 1, l, .inl (.float (FP.fadd x y)) :: r) else none
    | _ => none
  | .fsub => match st with
    | .inl (.float y) :: .inl (.float x) :: r => if FP.fsub x y &&& 0x7fffffff ≤ 0x7f800000 then some (pc + 1, l, .inl (.float (FP.fsub x y)) :: r) else none
    | _ => none
  | .fmul => match st with
    | .inl (.float y) :: .inl (.float x) :: r => if FP.fmul x y &&& 0x7fffffff ≤ 0x7f800000 then some (pc + 1, l, .inl (.float (FP.fmul x y)) :: r) else none
    | _ => none
  | .fdiv => match st with
    | .inl (.float y) :: .inl (.float x) :: r => if FP.fdiv x y &&& 0x7fffffff ≤ 0x7f800000 then some (pc + 1, l, .inl (.float (FP.fdiv x y)) :: r) else none
    | _ => none
  | .frem => match st with
    | .inl (.float y) :: .inl (.float x) :: r => if FP.frem x y &&& 0x7fffffff ≤ 0x7f800000 then some (pc + 1, l, .inl (.float (FP.frem x y)) :: r) else none
    | _ => none
  | .dadd => match st with
    | .inl (.double y) :: .inl (.double x) :: r => if FP.dadd x y &&& 0x7fffffffffffffff ≤ 0x7ff0000000000000 then some (pc + 1, l, .inl (.double (FP.dadd x y)) :: r) else none
    | _ => none
  | .dsub => match st with
    | .inl (.double y) :: .inl (.double x) :: r => if FP.dsub x y &&& 0x7fffffffffffffff ≤ 0x7ff0000000000000 then some (pc + 1, l, .inl (.double (FP.dsub x y)) :: r) else none
    | _ => none
  | .dmul => match st with
    | .inl (.double y) :: .inl (.double x) :: r => if FP.dmul x y &&& 0x7fffffffffffffff ≤ 0x7ff0000000000000 then some (pc + 1, l, .inl (.double (FP.dmul x y)) :: r) else none
    | _ => none
  | .ddiv => match st with
    | .inl (.double y) :: .inl (.double x) :: r => if FP.ddiv x y &&& 0x7fffffffffffffff ≤ 0x7ff0000000000000 then some (pc + 1, l, .inl (.double (FP.ddiv x y)) :: r) else none
    | _ => none
  | .drem => match st with
    | .inl (.double y) :: .inl (.double x) :: r => if FP.drem x y &&& 0x7fffffffffffffff ≤ 0x7ff0000000000000 then some (pc + 1, l, .inl (.double (FP.drem x y)) :: r) else none
    | _ => none
  | .fneg => match st with
    | .inl (.float x) :: r => some (pc + 1, l, .inl (.float (FP.fneg x)) :: r)
    | _ => none
  | .dneg => match st with
    | .inl (.double x) :: r => some (pc + 1, l, .inl (.double (FP.dneg x)) :: r)
    | _ => none
  | .fcmp o => match st with
    | .inl (.float y) :: .inl (.float x) :: r => some (pc + 1, l, .inl (.int (Op.cmpValue (FP.fcmp x y) o)) :: r)
    | _ => none
  | .dcmp o => match st with
    | .inl (.double y) :: .inl (.double x) :: r => some (pc + 1, l, .inl (.int (Op.cmpValue (FP.dcmp x y) o)) :: r)
    | _ => none
  | .i2f => match st with
    | .inl (.int x) :: r => some (pc + 1, l, .inl (.float (FP.i2f x)) :: r)
    | _ => none
  | .l2f => match st with
    | .inl (.long x) :: r => some (pc + 1, l, .inl (.float (FP.l2f x)) :: r)
    | _ => none
  | .f2i => match st with
    | .inl (.float x) :: r => some (pc + 1, l, .inl (.int (FP.f2i x)) :: r)
    | _ => none
  | .f2l => match st with
    | .inl (.float x) :: r => some (pc + 1, l, .inl (.long (FP.f2l x)) :: r)
    | _ => none
  | .i2d => match st with
    | .inl (.int x) :: r => some (pc + 1, l, .inl (.double (FP.i2d x)) :: r)
    | _ => none
  | .l2d => match st with
    | .inl (.long x) :: r => some (pc + 1, l, .inl (.double (FP.l2d x)) :: r)
    | _ => none
  | .d2i => match st with
    | .inl (.double x) :: r => some (pc + 1, l, .inl (.int (FP.d2i x)) :: r)
    | _ => none
  | .d2l => match st with
    | .inl (.double x) :: r => some (pc + 1, l, .inl (.long (FP.d2l x)) :: r)
    | _ => none
  | .f2d => match st with
    | .inl (.float x) :: r => if FP.f2d x &&& 0x7fffffffffffffff ≤ 0x7ff0000000000000 then some (pc + 1, l, .inl (.double (FP.f2d x)) :: r) else none
    | _ => none
  | .d2f => match st with
    | .inl (.double x) :: r => if FP.d2f x &&& 0x7fffffff ≤ 0x7f800000 then some (pc + 1, l, .inl (.float (FP.d2f x)) :: r) else none
    | _ => none
  | .dup => match st with
    | v :: r => if xcat v = 1 then some (pc + 1, l, v :: v :: r) else none
    | _ => none
  | .pop => match st with
    | v :: r => if xcat v = 1 then some (pc + 1, l, r) else none
    | _ => none
  | .dup_x1 => match st with
    | v :: w :: r => if xcat v = 1 ∧ xcat w = 1 then some (pc + 1, l, v :: w :: v :: r) else none
    | _ => none
  | .dup_x2 => match st with
    | v :: w :: u :: r => if xcat v = 1 ∧ xcat w = 1 ∧ xcat u = 1 then some (pc + 1, l, v :: w :: u :: v :: r) else none
    | _ => none
  | .dup2 => match st with
    | v :: w :: r => if xcat v = 1 ∧ xcat w = 1 then some (pc + 1, l, v :: w :: v :: w :: r) else none
    | _ => none
  | .iload_n n => match xl l n.val with
    | some (.inl (.int x)) => some (pc + 1, l, .inl (.int x) :: st)
    | _ => none
  | .iload n => match xl l n with
    | some (.inl (.int x)) => some (pc + 2, l, .inl (.int x) :: st)
    | _ => none
  | .lload_n n => match xl l n.val with
    | some (.inl (.long x)) => some (pc + 1, l, .inl (.long x) :: st)
    | _ => none
  | .lload n => match xl l n with
    | some (.inl (.long x)) => some (pc + 2, l, .inl (.long x) :: st)
    | _ => none
  | .fload_n n => match xl l n.val with
    | some (.inl (.float x)) => some (pc + 1, l, .inl (.float x) :: st)
    | _ => none
  | .fload n => match xl l n with
    | some (.inl (.float x)) => some (pc + 2, l, .inl (.float x) :: st)
    | _ => none
  | .dload_n n => match xl l n.val with
    | some (.inl (.double x)) => some (pc + 1, l, .inl (.double x) :: st)
    | _ => none
  | .dload n => match xl l n with
    | some (.inl (.double x)) => some (pc + 2, l, .inl (.double x) :: st)
    | _ => none
  | .aload_n n => match xl l n.val with
    | some (.inl .null) => some (pc + 1, l, .inl .null :: st)
    | some (.inl (.ref a)) => some (pc + 1, l, .inl (.ref a) :: st)
    | some (.inr q) => some (pc + 1, l, .inr q :: st)
    | _ => none
  | .aload n => match xl l n with
    | some (.inl .null) => some (pc + 2, l, .inl .null :: st)
    | some (.inl (.ref a)) => some (pc + 2, l, .inl (.ref a) :: st)
    | some (.inr q) => some (pc + 2, l, .inr q :: st)
    | _ => none
  | .istore_n n => match st with
    | .inl (.int x) :: r => if n.val < nL then some (pc + 1, xst1 l n.val (.inl (.int x)), r) else none
    | _ => none
  | .istore n => match st with
    | .inl (.int x) :: r => if n < nL then some (pc + 2, xst1 l n (.inl (.int x)), r) else none
    | _ => none
  | .lstore_n n => match st with
    | .inl (.long x) :: r => if n.val + 1 < nL then some (pc + 1, xst2 l n.val (.inl (.long x)), r) else none
    | _ => none
  | .lstore n => match st with
    | .inl (.long x) :: r => if n + 1 < nL then some (pc + 2, xst2 l n (.inl (.long x)), r) else none
    | _ => none
  | .fstore_n n => match st with
    | .inl (.float x) :: r => if n.val < nL then some (pc + 1, xst1 l n.val (.inl (.float x)), r) else none
    | _ => none
  | .fstore n => match st with
    | .inl (.float x) :: r => if n < nL then some (pc + 2, xst1 l n (.inl (.float x)), r) else none
    | _ => none
  | .dstore_n n => match st with
    | .inl (.double x) :: r => if n.val + 1 < nL then some (pc + 1, xst2 l n.val (.inl (.double x)), r) else none
    | _ => none
  | .dstore n => match st with
    | .inl (.double x) :: r => if n + 1 < nL then some (pc + 2, xst2 l n (.inl (.double x)), r) else none
    | _ => none
  | .astore_n n => match st with
    | .inl .null :: r => if n.val < nL then some (pc + 1, xst1 l n.val (.inl .null), r) else none
    | .inr q :: r => if n.val < nL then some (pc + 1, xst1 l n.val (.inr q), r) else none
    | _ => none
  | .astore n => match st with
    | .inl .null :: r => if n < nL then some (pc + 2, xst1 l n (.inl .null), r) else none
    | .inr q :: r => if n < nL then some (pc + 2, xst1 l n (.inr q), r) else none
    | _ => none
  | .iinc i n => match xl l i with
    | some (.inl (.int x)) => if i < nL then some (pc + 3, xst1 l i (.inl (.int (x + Int32.ofInt n))), st) else none
    | _ => none
  | .goto off => if 0 ≤ (pc : Int) + off then some (((pc : Int) + off).toNat, l, st) else none
  | .ifnull off => match st with
    | .inl .null :: r => if 0 ≤ (pc : Int) + off then some (((pc : Int) + off).toNat, l, r) else none
    | .inr _ :: r => some (pc + 3, l, r)
    | _ => none
  | .ifnonnull off => match st with
    | .inl .null :: r => some (pc + 3, l, r)
    | .inr _ :: r => if 0 ≤ (pc : Int) + off then some (((pc : Int) + off).toNat, l, r) else none
    | _ => none
  | _ => none
/-- how many bytes -/
def xlen : Instr → Nat
  | .aconst_null => 1
  | .iconst _ => 1
  | .bipush _ => 2
  | .sipush _ => 3
  | .lconst _ => 1
  | .fconst 0 => 1
  | .fconst 1 => 1
  | .fconst 2 => 1
  | .dconst 0 => 1
  | .dconst 1 => 1
  | .iadd => 1
  | .isub => 1
  | .imul => 1
  | .iand => 1
  | .ior => 1
  | .ixor => 1
  | .ishl => 1
  | .ishr => 1
  | .iushr => 1
  | .idiv => 1
  | .irem => 1
  | .ineg => 1
  | .ladd => 1
  | .lsub => 1
  | .lmul => 1
  | .land => 1
  | .lor => 1
  | .lxor => 1
  | .ldiv => 1
  | .lrem => 1
  | .lneg => 1
  | .lcmp => 1
  | .lshl => 1
  | .lshr => 1
  | .lushr => 1
  | .i2l => 1
  | .l2i => 1
  | .i2b => 1
  | .i2s => 1
  | .i2c => 1
  | .fadd => 1
  | .fsub => 1
  | .fmul => 1
  | .fdiv => 1
  | .frem => 1
  | .dadd => 1
  | .dsub => 1
  | .dmul => 1
  | .ddiv => 1
  | .drem => 1
  | .fneg => 1
  | .dneg => 1
  | .fcmp _ => 1
  | .dcmp _ => 1
  | .i2f => 1
  | .l2f => 1
  | .f2i => 1
  | .f2l => 1
  | .i2d => 1
  | .l2d => 1
  | .d2i => 1
  | .d2l => 1
  | .f2d => 1
  | .d2f => 1
  | .dup => 1
  | .pop => 1
  | .dup_x1 => 1
  | .dup_x2 => 1
  | .dup2 => 1
  | .iload_n _ => 1
  | .iload _ => 2
  | .lload_n _ => 1
  | .lload _ => 2
  | .fload_n _ => 1
  | .fload _ => 2
  | .dload_n _ => 1
  | .dload _ => 2
  | .aload_n _ => 1
  | .aload _ => 2
  | .istore_n _ => 1
  | .istore _ => 2
  | .lstore_n _ => 1
  | .lstore _ => 2
  | .fstore_n _ => 1
  | .fstore _ => 2
  | .dstore_n _ => 1
  | .dstore _ => 2
  | .astore_n _ => 1
  | .astore _ => 2
  | .iinc _ _ => 3
  | .goto _ => 3
  | .ifnull _ => 3
  | .ifnonnull _ => 3
  | _ => 0
variable {p : Program} {l0 : Launch} {e : Env} {R : Room} {s : State} {m : MethodId} {args : Array Value} {below : List Frame} {meth : Method} {c : Code} {H : Heap} {locs : List Loc} {cells slots : Nat} {Q : State → Prop}
variable {cc : ByteArray} {pc : Nat} {ls : Array Slot} {ad : xN}
theorem xs_aconst_null {Lv : xV → Prop} {l l2 : xL} {st st2 : List xV} {nL pc2 : Nat} (h0 : ∀ v, Lv (.inl v)) (hx : p.tables.exec = Jvm.exec) (hb : c.code = cc) (hd : decode cc pc = .ok (.aconst_null, 1)) (hl : lv_has ls nL (xlm ad l)) (hk : xok Lv l st) (h : xs1 nL (.aconst_null) pc l st = some (pc2, l2, st2)) (k : ∀ ls2 : Array Slot, lv_has ls2 nL (xlm ad l2) → xok Lv l2 st2 → W p l0 e R s m args below meth c H locs cells slots Q (F0 m pc2 ls2 (st2.map (xc ad)))) : W p l0 e R s m args below meth c H locs cells slots Q (F0 m pc ls (st.map (xc ad))) := by
  simp only [xs1] at h
  cases h
  exact lv_null hx hb hd (k _ hl (xok_push hk (h0 _)))
theorem xs_iconst {Lv : xV → Prop} {l l2 : xL} {st st2 : List xV} {nL pc2 : Nat} (h0 : ∀ v, Lv (.inl v)) (hx : p.tables.exec = Jvm.exec) (hb : c.code = cc) {n : Int} (hd : decode cc pc = .ok (.iconst n, 1)) (hl : lv_has ls nL (xlm ad l)) (hk : xok Lv l st) (h : xs1 nL (.iconst n) pc l st = some (pc2, l2, st2)) (k : ∀ ls2 : Array Slot, lv_has ls2 nL (xlm ad l2) → xok Lv l2 st2 → W p l0 e R s m args below meth c H locs cells slots Q (F0 m pc2 ls2 (st2.map (xc ad)))) : W p l0 e R s m args below meth c H locs cells slots Q (F0 m pc ls (st.map (xc ad))) := by
  simp only [xs1] at h
  cases h
  exact lv_iconst hx hb hd rfl (k _ hl (xok_push hk (h0 _)))
theorem xs_bipush {Lv : xV → Prop} {l l2 : xL} {st st2 : List xV} {nL pc2 : Nat} (h0 : ∀ v, Lv (.inl v)) (hx : p.tables.exec = Jvm.exec) (hb : c.code = cc) {n : Int} (hd : decode cc pc = .ok (.bipush n, 2)) (hl : lv_has ls nL (xlm ad l)) (hk : xok Lv l st) (h : xs1 nL (.bipush n) pc l st = some (pc2, l2, st2)) (k : ∀ ls2 : Array Slot, lv_has ls2 nL (xlm ad l2) → xok Lv l2 st2 → W p l0 e R s m args below meth c H locs cells slots Q (F0 m pc2 ls2 (st2.map (xc ad)))) : W p l0 e R s m args below meth c H locs cells slots Q (F0 m pc ls (st.map (xc ad))) := by
  simp only [xs1] at h
  cases h
  exact lv_bipush hx hb hd rfl (k _ hl (xok_push hk (h0 _)))
theorem xs_sipush {Lv : xV → Prop} {l l2 : xL} {st st2 : List xV} {nL pc2 : Nat} (h0 : ∀ v, Lv (.inl v)) (hx : p.tables.exec = Jvm.exec) (hb : c.code = cc) {n : Int} (hd : decode cc pc = .ok (.sipush n, 3)) (hl : lv_has ls nL (xlm ad l)) (hk : xok Lv l st) (h : xs1 nL (.sipush n) pc l st = some (pc2, l2, st2)) (k : ∀ ls2 : Array Slot, lv_has ls2 nL (xlm ad l2) → xok Lv l2 st2 → W p l0 e R s m args below meth c H locs cells slots Q (F0 m pc2 ls2 (st2.map (xc ad)))) : W p l0 e R s m args below meth c H locs cells slots Q (F0 m pc ls (st.map (xc ad))) := by
  simp only [xs1] at h
  cases h
  exact lv_sipush hx hb hd rfl (k _ hl (xok_push hk (h0 _)))
theorem xs_lconst {Lv : xV → Prop} {l l2 : xL} {st st2 : List xV} {nL pc2 : Nat} (h0 : ∀ v, Lv (.inl v)) (hx : p.tables.exec = Jvm.exec) (hb : c.code = cc) {n : Fin 2} (hd : decode cc pc = .ok (.lconst n, 1)) (hl : lv_has ls nL (xlm ad l)) (hk : xok Lv l st) (h : xs1 nL (.lconst n) pc l st = some (pc2, l2, st2)) (k : ∀ ls2 : Array Slot, lv_has ls2 nL (xlm ad l2) → xok Lv l2 st2 → W p l0 e R s m args below meth c H locs cells slots Q (F0 m pc2 ls2 (st2.map (xc ad)))) : W p l0 e R s m args below meth c H locs cells slots Q (F0 m pc ls (st.map (xc ad))) := by
  simp only [xs1] at h
  cases h
  exact lv_lconst hx hb hd rfl (k _ hl (xok_push hk (h0 _)))
theorem xs_fconst0 {Lv : xV → Prop} {l l2 : xL} {st st2 : List xV} {nL pc2 : Nat} (h0 : ∀ v, Lv (.inl v)) (hx : p.tables.exec = Jvm.exec) (hb : c.code = cc) (hd : decode cc pc = .ok (.fconst 0, 1)) (hl : lv_has ls nL (xlm ad l)) (hk : xok Lv l st) (h : xs1 nL (.fconst 0) pc l st = some (pc2, l2, st2)) (k : ∀ ls2 : Array Slot, lv_has ls2 nL (xlm ad l2) → xok Lv l2 st2 → W p l0 e R s m args below meth c H locs cells slots Q (F0 m pc2 ls2 (st2.map (xc ad)))) : W p l0 e R s m args below meth c H locs cells slots Q (F0 m pc ls (st.map (xc ad))) := by
  simp only [xs1] at h
  cases h
  exact lv_fconst0 hx hb hd (k _ hl (xok_push hk (h0 _)))
theorem xs_fconst1 {Lv : xV → Prop} {l l2 : xL} {st st2 : List xV} {nL pc2 : Nat} (h0 : ∀ v, Lv (.inl v)) (hx : p.tables.exec = Jvm.exec) (hb : c.code = cc) (hd : decode cc pc = .ok (.fconst 1, 1)) (hl : lv_has ls nL (xlm ad l)) (hk : xok Lv l st) (h : xs1 nL (.fconst 1) pc l st = some (pc2, l2, st2)) (k : ∀ ls2 : Array Slot, lv_has ls2 nL (xlm ad l2) → xok Lv l2 st2 → W p l0 e R s m args below meth c H locs cells slots Q (F0 m pc2 ls2 (st2.map (xc ad)))) : W p l0 e R s m args below meth c H locs cells slots Q (F0 m pc ls (st.map (xc ad))) := by
  simp only [xs1] at h
  cases h
  exact lv_fconst1 hx hb hd (k _ hl (xok_push hk (h0 _)))
theorem xs_fconst2 {Lv : xV → Prop} {l l2 : xL} {st st2 : List xV} {nL pc2 : Nat} (h0 : ∀ v, Lv (.inl v)) (hx : p.tables.exec = Jvm.exec) (hb : c.code = cc) (hd : decode cc pc = .ok (.fconst 2, 1)) (hl : lv_has ls nL (xlm ad l)) (hk : xok Lv l st) (h : xs1 nL (.fconst 2) pc l st = some (pc2, l2, st2)) (k : ∀ ls2 : Array Slot, lv_has ls2 nL (xlm ad l2) → xok Lv l2 st2 → W p l0 e R s m args below meth c H locs cells slots Q (F0 m pc2 ls2 (st2.map (xc ad)))) : W p l0 e R s m args below meth c H locs cells slots Q (F0 m pc ls (st.map (xc ad))) := by
  simp only [xs1] at h
  cases h
  exact lv_fconst2 hx hb hd (k _ hl (xok_push hk (h0 _)))
theorem xs_dconst0 {Lv : xV → Prop} {l l2 : xL} {st st2 : List xV} {nL pc2 : Nat} (h0 : ∀ v, Lv (.inl v)) (hx : p.tables.exec = Jvm.exec) (hb : c.code = cc) (hd : decode cc pc = .ok (.dconst 0, 1)) (hl : lv_has ls nL (xlm ad l)) (hk : xok Lv l st) (h : xs1 nL (.dconst 0) pc l st = some (pc2, l2, st2)) (k : ∀ ls2 : Array Slot, lv_has ls2 nL (xlm ad l2) → xok Lv l2 st2 → W p l0 e R s m args below meth c H locs cells slots Q (F0 m pc2 ls2 (st2.map (xc ad)))) : W p l0 e R s m args below meth c H locs cells slots Q (F0 m pc ls (st.map (xc ad))) := by
  simp only [xs1] at h
  cases h
  exact lv_dconst0 hx hb hd (k _ hl (xok_push hk (h0 _)))
theorem xs_dconst1 {Lv : xV → Prop} {l l2 : xL} {st st2 : List xV} {nL pc2 : Nat} (h0 : ∀ v, Lv (.inl v)) (hx : p.tables.exec = Jvm.exec) (hb : c.code = cc) (hd : decode cc pc = .ok (.dconst 1, 1)) (hl : lv_has ls nL (xlm ad l)) (hk : xok Lv l st) (h : xs1 nL (.dconst 1) pc l st = some (pc2, l2, st2)) (k : ∀ ls2 : Array Slot, lv_has ls2 nL (xlm ad l2) → xok Lv l2 st2 → W p l0 e R s m args below meth c H locs cells slots Q (F0 m pc2 ls2 (st2.map (xc ad)))) : W p l0 e R s m args below meth c H locs cells slots Q (F0 m pc ls (st.map (xc ad))) := by
  simp only [xs1] at h
  cases h
  exact lv_dconst1 hx hb hd (k _ hl (xok_push hk (h0 _)))
theorem xs_iadd {Lv : xV → Prop} {l l2 : xL} {st st2 : List xV} {nL pc2 : Nat} (h0 : ∀ v, Lv (.inl v)) (hx : p.tables.exec = Jvm.exec) (hb : c.code = cc) (hd : decode cc pc = .ok (.iadd, 1)) (hl : lv_has ls nL (xlm ad l)) (hk : xok Lv l st) (h : xs1 nL (.iadd) pc l st = some (pc2, l2, st2)) (k : ∀ ls2 : Array Slot, lv_has ls2 nL (xlm ad l2) → xok Lv l2 st2 → W p l0 e R s m args below meth c H locs cells slots Q (F0 m pc2 ls2 (st2.map (xc ad)))) : W p l0 e R s m args below meth c H locs cells slots Q (F0 m pc ls (st.map (xc ad))) := by
  simp only [xs1] at h
  split at h
  next =>
    cases h
    exact lv_iadd hx hb hd (k _ hl (xok_push (xok_tl (xok_tl hk)) (h0 _)))
  next => cases h
theorem xs_isub {Lv : xV → Prop} {l l2 : xL} {st st2 : List xV} {nL pc2 : Nat} (h0 : ∀ v, Lv (.inl v)) (hx : p.tables.exec = Jvm.exec) (hb : c.code = cc) (hd : decode cc pc = .ok (.isub, 1)) (hl : lv_has ls nL (xlm ad l)) (hk : xok Lv l st) (h : xs1 nL (.isub) pc l st = some (pc2, l2, st2)) (k : ∀ ls2 : Array Slot, lv_has ls2 nL (xlm ad l2) → xok Lv l2 st2 → W p l0 e R s m args below meth c H locs cells slots Q (F0 m pc2 ls2 (st2.map (xc ad)))) : W p l0 e R s m args below meth c H locs cells slots Q (F0 m pc ls (st.map (xc ad))) := by
  simp only [xs1] at h
  split at h
  next =>
    cases h
    exact lv_isub hx hb hd (k _ hl (xok_push (xok_tl (xok_tl hk)) (h0 _)))
  next => cases h
theorem xs_imul {Lv : xV → Prop} {l l2 : xL} {st st2 : List xV} {nL pc2 : Nat} (h0 : ∀ v, Lv (.inl v)) (hx : p.tables.exec = Jvm.exec) (hb : c.code = cc) (hd : decode cc pc = .ok (.imul, 1)) (hl : lv_has ls nL (xlm ad l)) (hk : xok Lv l st) (h : xs1 nL (.imul) pc l st = some (pc2, l2, st2)) (k : ∀ ls2 : Array Slot, lv_has ls2 nL (xlm ad l2) → xok Lv l2 st2 → W p l0 e R s m args below meth c H locs cells slots Q (F0 m pc2 ls2 (st2.map (xc ad)))) : W p l0 e R s m args below meth c H locs cells slots Q (F0 m pc ls (st.map (xc ad))) := by
  simp only [xs1] at h
  split at h
  next =>
    cases h
    exact lv_imul hx hb hd (k _ hl (xok_push (xok_tl (xok_tl hk)) (h0 _)))
  next => cases h
theorem xs_iand {Lv : xV → Prop} {l l2 : xL} {st st2 : List xV} {nL pc2 : Nat} (h0 : ∀ v, Lv (.inl v)) (hx : p.tables.exec = Jvm.exec) (hb : c.code = cc) (hd : decode cc pc = .ok (.iand, 1)) (hl : lv_has ls nL (xlm ad l)) (hk : xok Lv l st) (h : xs1 nL (.iand) pc l st = some (pc2, l2, st2)) (k : ∀ ls2 : Array Slot, lv_has ls2 nL (xlm ad l2) → xok Lv l2 st2 → W p l0 e R s m args below meth c H locs cells slots Q (F0 m pc2 ls2 (st2.map (xc ad)))) : W p l0 e R s m args below meth c H locs cells slots Q (F0 m pc ls (st.map (xc ad))) := by
  simp only [xs1] at h
  split at h
  next =>
    cases h
    exact lv_iand hx hb hd (k _ hl (xok_push (xok_tl (xok_tl hk)) (h0 _)))
  next => cases h
theorem xs_ior {Lv : xV → Prop} {l l2 : xL} {st st2 : List xV} {nL pc2 : Nat} (h0 : ∀ v, Lv (.inl v)) (hx : p.tables.exec = Jvm.exec) (hb : c.code = cc) (hd : decode cc pc = .ok (.ior, 1)) (hl : lv_has ls nL (xlm ad l)) (hk : xok Lv l st) (h : xs1 nL (.ior) pc l st = some (pc2, l2, st2)) (k : ∀ ls2 : Array Slot, lv_has ls2 nL (xlm ad l2) → xok Lv l2 st2 → W p l0 e R s m args below meth c H locs cells slots Q (F0 m pc2 ls2 (st2.map (xc ad)))) : W p l0 e R s m args below meth c H locs cells slots Q (F0 m pc ls (st.map (xc ad))) := by
  simp only [xs1] at h
  split at h
  next =>
    cases h
    exact lv_ior hx hb hd (k _ hl (xok_push (xok_tl (xok_tl hk)) (h0 _)))
  next => cases h
theorem xs_ixor {Lv : xV → Prop} {l l2 : xL} {st st2 : List xV} {nL pc2 : Nat} (h0 : ∀ v, Lv (.inl v)) (hx : p.tables.exec = Jvm.exec) (hb : c.code = cc) (hd : decode cc pc = .ok (.ixor, 1)) (hl : lv_has ls nL (xlm ad l)) (hk : xok Lv l st) (h : xs1 nL (.ixor) pc l st = some (pc2, l2, st2)) (k : ∀ ls2 : Array Slot, lv_has ls2 nL (xlm ad l2) → xok Lv l2 st2 → W p l0 e R s m args below meth c H locs cells slots Q (F0 m pc2 ls2 (st2.map (xc ad)))) : W p l0 e R s m args below meth c H locs cells slots Q (F0 m pc ls (st.map (xc ad))) := by
  simp only [xs1] at h
  split at h
  next =>
    cases h
    exact lv_ixor hx hb hd (k _ hl (xok_push (xok_tl (xok_tl hk)) (h0 _)))
  next => cases h
theorem xs_ishl {Lv : xV → Prop} {l l2 : xL} {st st2 : List xV} {nL pc2 : Nat} (h0 : ∀ v, Lv (.inl v)) (hx : p.tables.exec = Jvm.exec) (hb : c.code = cc) (hd : decode cc pc = .ok (.ishl, 1)) (hl : lv_has ls nL (xlm ad l)) (hk : xok Lv l st) (h : xs1 nL (.ishl) pc l st = some (pc2, l2, st2)) (k : ∀ ls2 : Array Slot, lv_has ls2 nL (xlm ad l2) → xok Lv l2 st2 → W p l0 e R s m args below meth c H locs cells slots Q (F0 m pc2 ls2 (st2.map (xc ad)))) : W p l0 e R s m args below meth c H locs cells slots Q (F0 m pc ls (st.map (xc ad))) := by
  simp only [xs1] at h
  split at h
  next =>
    cases h
    exact lv_ishl hx hb hd (k _ hl (xok_push (xok_tl (xok_tl hk)) (h0 _)))
  next => cases h
theorem xs_ishr {Lv : xV → Prop} {l l2 : xL} {st st2 : List xV} {nL pc2 : Nat} (h0 : ∀ v, Lv (.inl v)) (hx : p.tables.exec = Jvm.exec) (hb : c.code = cc) (hd : decode cc pc = .ok (.ishr, 1)) (hl : lv_has ls nL (xlm ad l)) (hk : xok Lv l st) (h : xs1 nL (.ishr) pc l st = some (pc2, l2, st2)) (k : ∀ ls2 : Array Slot, lv_has ls2 nL (xlm ad l2) → xok Lv l2 st2 → W p l0 e R s m args below meth c H locs cells slots Q (F0 m pc2 ls2 (st2.map (xc ad)))) : W p l0 e R s m args below meth c H locs cells slots Q (F0 m pc ls (st.map (xc ad))) := by
  simp only [xs1] at h
  split at h
  next =>
    cases h
    exact lv_ishr hx hb hd (k _ hl (xok_push (xok_tl (xok_tl hk)) (h0 _)))
  next => cases h
theorem xs_iushr {Lv : xV → Prop} {l l2 : xL} {st st2 : List xV} {nL pc2 : Nat} (h0 : ∀ v, Lv (.inl v)) (hx : p.tables.exec = Jvm.exec) (hb : c.code = cc) (hd : decode cc pc = .ok (.iushr, 1)) (hl : lv_has ls nL (xlm ad l)) (hk : xok Lv l st) (h : xs1 nL (.iushr) pc l st = some (pc2, l2, st2)) (k : ∀ ls2 : Array Slot, lv_has ls2 nL (xlm ad l2) → xok Lv l2 st2 → W p l0 e R s m args below meth c H locs cells slots Q (F0 m pc2 ls2 (st2.map (xc ad)))) : W p l0 e R s m args below meth c H locs cells slots Q (F0 m pc ls (st.map (xc ad))) := by
  simp only [xs1] at h
  split at h
  next =>
    cases h
    exact lv_iushr hx hb hd rfl (k _ hl (xok_push (xok_tl (xok_tl hk)) (h0 _)))
  next => cases h
theorem xs_idiv {Lv : xV → Prop} {l l2 : xL} {st st2 : List xV} {nL pc2 : Nat} (h0 : ∀ v, Lv (.inl v)) (hx : p.tables.exec = Jvm.exec) (hb : c.code = cc) (hd : decode cc pc = .ok (.idiv, 1)) (hl : lv_has ls nL (xlm ad l)) (hk : xok Lv l st) (h : xs1 nL (.idiv) pc l st = some (pc2, l2, st2)) (k : ∀ ls2 : Array Slot, lv_has ls2 nL (xlm ad l2) → xok Lv l2 st2 → W p l0 e R s m args below meth c H locs cells slots Q (F0 m pc2 ls2 (st2.map (xc ad)))) : W p l0 e R s m args below meth c H locs cells slots Q (F0 m pc ls (st.map (xc ad))) := by
  simp only [xs1] at h
  split at h
  next =>
    split at h
    next hg =>
      cases h
      exact lv_idiv hx hb hd hg (k _ hl (xok_push (xok_tl (xok_tl hk)) (h0 _)))
    next => cases h
  next => cases h
theorem xs_irem {Lv : xV → Prop} {l l2 : xL} {st st2 : List xV} {nL pc2 : Nat} (h0 : ∀ v, Lv (.inl v)) (hx : p.tables.exec = Jvm.exec) (hb : c.code = cc) (hd : decode cc pc = .ok (.irem, 1)) (hl : lv_has ls nL (xlm ad l)) (hk : xok Lv l st) (h : xs1 nL (.irem) pc l st = some (pc2, l2, st2)) (k : ∀ ls2 : Array Slot, lv_has ls2 nL (xlm ad l2) → xok Lv l2 st2 → W p l0 e R s m args below meth c H locs cells slots Q (F0 m pc2 ls2 (st2.map (xc ad)))) : W p l0 e R s m args below meth c H locs cells slots Q (F0 m pc ls (st.map (xc ad))) := by
  simp only [xs1] at h
  split at h
  next =>
    split at h
    next hg =>
      cases h
      exact lv_irem hx hb hd hg (k _ hl (xok_push (xok_tl (xok_tl hk)) (h0 _)))
    next => cases h
  next => cases h
theorem xs_ineg {Lv : xV → Prop} {l l2 : xL} {st st2 : List xV} {nL pc2 : Nat} (h0 : ∀ v, Lv (.inl v)) (hx : p.tables.exec = Jvm.exec) (hb : c.code = cc) (hd : decode cc pc = .ok (.ineg, 1)) (hl : lv_has ls nL (xlm ad l)) (hk : xok Lv l st) (h : xs1 nL (.ineg) pc l st = some (pc2, l2, st2)) (k : ∀ ls2 : Array Slot, lv_has ls2 nL (xlm ad l2) → xok Lv l2 st2 → W p l0 e R s m args below meth c H locs cells slots Q (F0 m pc2 ls2 (st2.map (xc ad)))) : W p l0 e R s m args below meth c H locs cells slots Q (F0 m pc ls (st.map (xc ad))) := by
  simp only [xs1] at h
  split at h
  next =>
    cases h
    exact lv_ineg hx hb hd (k _ hl (xok_push (xok_tl hk) (h0 _)))
  next => cases h
theorem xs_ladd {Lv : xV → Prop} {l l2 : xL} {st st2 : List xV} {nL pc2 : Nat} (h0 : ∀ v, Lv (.inl v)) (hx : p.tables.exec = Jvm.exec) (hb : c.code = cc) (hd : decode cc pc = .ok (.ladd, 1)) (hl : lv_has ls nL (xlm ad l)) (hk : xok Lv l st) (h : xs1 nL (.ladd) pc l st = some (pc2, l2, st2)) (k : ∀ ls2 : Array Slot, lv_has ls2 nL (xlm ad l2) → xok Lv l2 st2 → W p l0 e R s m args below meth c H locs cells slots Q (F0 m pc2 ls2 (st2.map (xc ad)))) : W p l0 e R s m args below meth c H locs cells slots Q (F0 m pc ls (st.map (xc ad))) := by
  simp only [xs1] at h
  split at h
  next =>
    cases h
    exact lv_ladd hx hb hd (k _ hl (xok_push (xok_tl (xok_tl hk)) (h0 _)))
  next => cases h
theorem xs_lsub {Lv : xV → Prop} {l l2 : xL} {st st2 : List xV} {nL pc2 : Nat} (h0 : ∀ v, Lv (.inl v)) (hx : p.tables.exec = Jvm.exec) (hb : c.code = cc) (hd : decode cc pc = .ok (.lsub, 1)) (hl : lv_has ls nL (xlm ad l)) (hk : xok Lv l st) (h : xs1 nL (.lsub) pc l st = some (pc2, l2, st2)) (k : ∀ ls2 : Array Slot, lv_has ls2 nL (xlm ad l2) → xok Lv l2 st2 → W p l0 e R s m args below meth c H locs cells slots Q (F0 m pc2 ls2 (st2.map (xc ad)))) : W p l0 e R s m args below meth c H locs cells slots Q (F0 m pc ls (st.map (xc ad))) := by
  simp only [xs1] at h
  split at h
  next =>
    cases h
    exact lv_lsub hx hb hd (k _ hl (xok_push (xok_tl (xok_tl hk)) (h0 _)))
  next => cases h
theorem xs_lmul {Lv : xV → Prop} {l l2 : xL} {st st2 : List xV} {nL pc2 : Nat} (h0 : ∀ v, Lv (.inl v)) (hx : p.tables.exec = Jvm.exec) (hb : c.code = cc) (hd : decode cc pc = .ok (.lmul, 1)) (hl : lv_has ls nL (xlm ad l)) (hk : xok Lv l st) (h : xs1 nL (.lmul) pc l st = some (pc2, l2, st2)) (k : ∀ ls2 : Array Slot, lv_has ls2 nL (xlm ad l2) → xok Lv l2 st2 → W p l0 e R s m args below meth c H locs cells slots Q (F0 m pc2 ls2 (st2.map (xc ad)))) : W p l0 e R s m args below meth c H locs cells slots Q (F0 m pc ls (st.map (xc ad))) := by
  simp only [xs1] at h
  split at h
  next =>
    cases h
    exact lv_lmul hx hb hd (k _ hl (xok_push (xok_tl (xok_tl hk)) (h0 _)))
  next => cases h
theorem xs_land {Lv : xV → Prop} {l l2 : xL} {st st2 : List xV} {nL pc2 : Nat} (h0 : ∀ v, Lv (.inl v)) (hx : p.tables.exec = Jvm.exec) (hb : c.code = cc) (hd : decode cc pc = .ok (.land, 1)) (hl : lv_has ls nL (xlm ad l)) (hk : xok Lv l st) (h : xs1 nL (.land) pc l st = some (pc2, l2, st2)) (k : ∀ ls2 : Array Slot, lv_has ls2 nL (xlm ad l2) → xok Lv l2 st2 → W p l0 e R s m args below meth c H locs cells slots Q (F0 m pc2 ls2 (st2.map (xc ad)))) : W p l0 e R s m args below meth c H locs cells slots Q (F0 m pc ls (st.map (xc ad))) := by
  simp only [xs1] at h
  split at h
  next =>
    cases h
    exact lv_land hx hb hd (k _ hl (xok_push (xok_tl (xok_tl hk)) (h0 _)))
  next => cases h
theorem xs_lor {Lv : xV → Prop} {l l2 : xL} {st st2 : List xV} {nL pc2 : Nat} (h0 : ∀ v, Lv (.inl v)) (hx : p.tables.exec = Jvm.exec) (hb : c.code = cc) (hd : decode cc pc = .ok (.lor, 1)) (hl : lv_has ls nL (xlm ad l)) (hk : xok Lv l st) (h : xs1 nL (.lor) pc l st = some (pc2, l2, st2)) (k : ∀ ls2 : Array Slot, lv_has ls2 nL (xlm ad l2) → xok Lv l2 st2 → W p l0 e R s m args below meth c H locs cells slots Q (F0 m pc2 ls2 (st2.map (xc ad)))) : W p l0 e R s m args below meth c H locs cells slots Q (F0 m pc ls (st.map (xc ad))) := by
  simp only [xs1] at h
  split at h
  next =>
    cases h
    exact lv_lor hx hb hd (k _ hl (xok_push (xok_tl (xok_tl hk)) (h0 _)))
  next => cases h
theorem xs_lxor {Lv : xV → Prop} {l l2 : xL} {st st2 : List xV} {nL pc2 : Nat} (h0 : ∀ v, Lv (.inl v)) (hx : p.tables.exec = Jvm.exec) (hb : c.code = cc) (hd : decode cc pc = .ok (.lxor, 1)) (hl : lv_has ls nL (xlm ad l)) (hk : xok Lv l st) (h : xs1 nL (.lxor) pc l st = some (pc2, l2, st2)) (k : ∀ ls2 : Array Slot, lv_has ls2 nL (xlm ad l2) → xok Lv l2 st2 → W p l0 e R s m args below meth c H locs cells slots Q (F0 m pc2 ls2 (st2.map (xc ad)))) : W p l0 e R s m args below meth c H locs cells slots Q (F0 m pc ls (st.map (xc ad))) := by
  simp only [xs1] at h
  split at h
  next =>
    cases h
    exact lv_lxor hx hb hd (k _ hl (xok_push (xok_tl (xok_tl hk)) (h0 _)))
  next => cases h
theorem xs_ldiv {Lv : xV → Prop} {l l2 : xL} {st st2 : List xV} {nL pc2 : Nat} (h0 : ∀ v, Lv (.inl v)) (hx : p.tables.exec = Jvm.exec) (hb : c.code = cc) (hd : decode cc pc = .ok (.ldiv, 1)) (hl : lv_has ls nL (xlm ad l)) (hk : xok Lv l st) (h : xs1 nL (.ldiv) pc l st = some (pc2, l2, st2)) (k : ∀ ls2 : Array Slot, lv_has ls2 nL (xlm ad l2) → xok Lv l2 st2 → W p l0 e R s m args below meth c H locs cells slots Q (F0 m pc2 ls2 (st2.map (xc ad)))) : W p l0 e R s m args below meth c H locs cells slots Q (F0 m pc ls (st.map (xc ad))) := by
  simp only [xs1] at h
  split at h
  next =>
    split at h
    next hg =>
      cases h
      exact lv_ldiv hx hb hd hg (k _ hl (xok_push (xok_tl (xok_tl hk)) (h0 _)))
    next => cases h
  next => cases h
theorem xs_lrem {Lv : xV → Prop} {l l2 : xL} {st st2 : List xV} {nL pc2 : Nat} (h0 : ∀ v, Lv (.inl v)) (hx : p.tables.exec = Jvm.exec) (hb : c.code = cc) (hd : decode cc pc = .ok (.lrem, 1)) (hl : lv_has ls nL (xlm ad l)) (hk : xok Lv l st) (h : xs1 nL (.lrem) pc l st = some (pc2, l2, st2)) (k : ∀ ls2 : Array Slot, lv_has ls2 nL (xlm ad l2) → xok Lv l2 st2 → W p l0 e R s m args below meth c H locs cells slots Q (F0 m pc2 ls2 (st2.map (xc ad)))) : W p l0 e R s m args below meth c H locs cells slots Q (F0 m pc ls (st.map (xc ad))) := by
  simp only [xs1] at h
  split at h
  next =>
    split at h
    next hg =>
      cases h
      exact lv_lrem hx hb hd hg (k _ hl (xok_push (xok_tl (xok_tl hk)) (h0 _)))
    next => cases h
  next => cases h
theorem xs_lneg {Lv : xV → Prop} {l l2 : xL} {st st2 : List xV} {nL pc2 : Nat} (h0 : ∀ v, Lv (.inl v)) (hx : p.tables.exec = Jvm.exec) (hb : c.code = cc) (hd : decode cc pc = .ok (.lneg, 1)) (hl : lv_has ls nL (xlm ad l)) (hk : xok Lv l st) (h : xs1 nL (.lneg) pc l st = some (pc2, l2, st2)) (k : ∀ ls2 : Array Slot, lv_has ls2 nL (xlm ad l2) → xok Lv l2 st2 → W p l0 e R s m args below meth c H locs cells slots Q (F0 m pc2 ls2 (st2.map (xc ad)))) : W p l0 e R s m args below meth c H locs cells slots Q (F0 m pc ls (st.map (xc ad))) := by
  simp only [xs1] at h
  split at h
  next =>
    cases h
    exact lv_lneg hx hb hd (k _ hl (xok_push (xok_tl hk) (h0 _)))
  next => cases h
theorem xs_lcmp {Lv : xV → Prop} {l l2 : xL} {st st2 : List xV} {nL pc2 : Nat} (h0 : ∀ v, Lv (.inl v)) (hx : p.tables.exec = Jvm.exec) (hb : c.code = cc) (hd : decode cc pc = .ok (.lcmp, 1)) (hl : lv_has ls nL (xlm ad l)) (hk : xok Lv l st) (h : xs1 nL (.lcmp) pc l st = some (pc2, l2, st2)) (k : ∀ ls2 : Array Slot, lv_has ls2 nL (xlm ad l2) → xok Lv l2 st2 → W p l0 e R s m args below meth c H locs cells slots Q (F0 m pc2 ls2 (st2.map (xc ad)))) : W p l0 e R s m args below meth c H locs cells slots Q (F0 m pc ls (st.map (xc ad))) := by
  simp only [xs1] at h
  split at h
  next =>
    cases h
    exact W.lcmp hx hb hd (k _ hl (xok_push (xok_tl (xok_tl hk)) (h0 _)))
  next => cases h
theorem xs_lshl {Lv : xV → Prop} {l l2 : xL} {st st2 : List xV} {nL pc2 : Nat} (h0 : ∀ v, Lv (.inl v)) (hx : p.tables.exec = Jvm.exec) (hb : c.code = cc) (hd : decode cc pc = .ok (.lshl, 1)) (hl : lv_has ls nL (xlm ad l)) (hk : xok Lv l st) (h : xs1 nL (.lshl) pc l st = some (pc2, l2, st2)) (k : ∀ ls2 : Array Slot, lv_has ls2 nL (xlm ad l2) → xok Lv l2 st2 → W p l0 e R s m args below meth c H locs cells slots Q (F0 m pc2 ls2 (st2.map (xc ad)))) : W p l0 e R s m args below meth c H locs cells slots Q (F0 m pc ls (st.map (xc ad))) := by
  simp only [xs1] at h
  split at h
  next =>
    cases h
    exact lv_lshl hx hb hd rfl (k _ hl (xok_push (xok_tl (xok_tl hk)) (h0 _)))
  next => cases h
theorem xs_lshr {Lv : xV → Prop} {l l2 : xL} {st st2 : List xV} {nL pc2 : Nat} (h0 : ∀ v, Lv (.inl v)) (hx : p.tables.exec = Jvm.exec) (hb : c.code = cc) (hd : decode cc pc = .ok (.lshr, 1)) (hl : lv_has ls nL (xlm ad l)) (hk : xok Lv l st) (h : xs1 nL (.lshr) pc l st = some (pc2, l2, st2)) (k : ∀ ls2 : Array Slot, lv_has ls2 nL (xlm ad l2) → xok Lv l2 st2 → W p l0 e R s m args below meth c H locs cells slots Q (F0 m pc2 ls2 (st2.map (xc ad)))) : W p l0 e R s m args below meth c H locs cells slots Q (F0 m pc ls (st.map (xc ad))) := by
  simp only [xs1] at h
  split at h
  next =>
    cases h
    exact lv_lshr hx hb hd rfl (k _ hl (xok_push (xok_tl (xok_tl hk)) (h0 _)))
  next => cases h
theorem xs_lushr {Lv : xV → Prop} {l l2 : xL} {st st2 : List xV} {nL pc2 : Nat} (h0 : ∀ v, Lv (.inl v)) (hx : p.tables.exec = Jvm.exec) (hb : c.code = cc) (hd : decode cc pc = .ok (.lushr, 1)) (hl : lv_has ls nL (xlm ad l)) (hk : xok Lv l st) (h : xs1 nL (.lushr) pc l st = some (pc2, l2, st2)) (k : ∀ ls2 : Array Slot, lv_has ls2 nL (xlm ad l2) → xok Lv l2 st2 → W p l0 e R s m args below meth c H locs cells slots Q (F0 m pc2 ls2 (st2.map (xc ad)))) : W p l0 e R s m args below meth c H locs cells slots Q (F0 m pc ls (st.map (xc ad))) := by
  simp only [xs1] at h
  split at h
  next =>
    cases h
    exact lv_lushr hx hb hd rfl (k _ hl (xok_push (xok_tl (xok_tl hk)) (h0 _)))
  next => cases h
theorem xs_i2l {Lv : xV → Prop} {l l2 : xL} {st st2 : List xV} {nL pc2 : Nat} (h0 : ∀ v, Lv (.inl v)) (hx : p.tables.exec = Jvm.exec) (hb : c.code = cc) (hd : decode cc pc = .ok (.i2l, 1)) (hl : lv_has ls nL (xlm ad l)) (hk : xok Lv l st) (h : xs1 nL (.i2l) pc l st = some (pc2, l2, st2)) (k : ∀ ls2 : Array Slot, lv_has ls2 nL (xlm ad l2) → xok Lv l2 st2 → W p l0 e R s m args below meth c H locs cells slots Q (F0 m pc2 ls2 (st2.map (xc ad)))) : W p l0 e R s m args below meth c H locs cells slots Q (F0 m pc ls (st.map (xc ad))) := by
  simp only [xs1] at h
  split at h
  next =>
    cases h
    exact lv_i2l hx hb hd rfl (k _ hl (xok_push (xok_tl hk) (h0 _)))
  next => cases h
theorem xs_l2i {Lv : xV → Prop} {l l2 : xL} {st st2 : List xV} {nL pc2 : Nat} (h0 : ∀ v, Lv (.inl v)) (hx : p.tables.exec = Jvm.exec) (hb : c.code = cc) (hd : decode cc pc = .ok (.l2i, 1)) (hl : lv_has ls nL (xlm ad l)) (hk : xok Lv l st) (h : xs1 nL (.l2i) pc l st = some (pc2, l2, st2)) (k : ∀ ls2 : Array Slot, lv_has ls2 nL (xlm ad l2) → xok Lv l2 st2 → W p l0 e R s m args below meth c H locs cells slots Q (F0 m pc2 ls2 (st2.map (xc ad)))) : W p l0 e R s m args below meth c H locs cells slots Q (F0 m pc ls (st.map (xc ad))) := by
  simp only [xs1] at h
  split at h
  next =>
    cases h
    exact lv_l2i hx hb hd rfl (k _ hl (xok_push (xok_tl hk) (h0 _)))
  next => cases h
theorem xs_i2b {Lv : xV → Prop} {l l2 : xL} {st st2 : List xV} {nL pc2 : Nat} (h0 : ∀ v, Lv (.inl v)) (hx : p.tables.exec = Jvm.exec) (hb : c.code = cc) (hd : decode cc pc = .ok (.i2b, 1)) (hl : lv_has ls nL (xlm ad l)) (hk : xok Lv l st) (h : xs1 nL (.i2b) pc l st = some (pc2, l2, st2)) (k : ∀ ls2 : Array Slot, lv_has ls2 nL (xlm ad l2) → xok Lv l2 st2 → W p l0 e R s m args below meth c H locs cells slots Q (F0 m pc2 ls2 (st2.map (xc ad)))) : W p l0 e R s m args below meth c H locs cells slots Q (F0 m pc ls (st.map (xc ad))) := by
  simp only [xs1] at h
  split at h
  next =>
    cases h
    exact lv_i2b hx hb hd rfl (k _ hl (xok_push (xok_tl hk) (h0 _)))
  next => cases h
theorem xs_i2s {Lv : xV → Prop} {l l2 : xL} {st st2 : List xV} {nL pc2 : Nat} (h0 : ∀ v, Lv (.inl v)) (hx : p.tables.exec = Jvm.exec) (hb : c.code = cc) (hd : decode cc pc = .ok (.i2s, 1)) (hl : lv_has ls nL (xlm ad l)) (hk : xok Lv l st) (h : xs1 nL (.i2s) pc l st = some (pc2, l2, st2)) (k : ∀ ls2 : Array Slot, lv_has ls2 nL (xlm ad l2) → xok Lv l2 st2 → W p l0 e R s m args below meth c H locs cells slots Q (F0 m pc2 ls2 (st2.map (xc ad)))) : W p l0 e R s m args below meth c H locs cells slots Q (F0 m pc ls (st.map (xc ad))) := by
  simp only [xs1] at h
  split at h
  next =>
    cases h
    exact lv_i2s hx hb hd rfl (k _ hl (xok_push (xok_tl hk) (h0 _)))
  next => cases h
theorem xs_i2c {Lv : xV → Prop} {l l2 : xL} {st st2 : List xV} {nL pc2 : Nat} (h0 : ∀ v, Lv (.inl v)) (hx : p.tables.exec = Jvm.exec) (hb : c.code = cc) (hd : decode cc pc = .ok (.i2c, 1)) (hl : lv_has ls nL (xlm ad l)) (hk : xok Lv l st) (h : xs1 nL (.i2c) pc l st = some (pc2, l2, st2)) (k : ∀ ls2 : Array Slot, lv_has ls2 nL (xlm ad l2) → xok Lv l2 st2 → W p l0 e R s m args below meth c H locs cells slots Q (F0 m pc2 ls2 (st2.map (xc ad)))) : W p l0 e R s m args below meth c H locs cells slots Q (F0 m pc ls (st.map (xc ad))) := by
  simp only [xs1] at h
  split at h
  next =>
    cases h
    exact lv_i2c hx hb hd rfl (k _ hl (xok_push (xok_tl hk) (h0 _)))
  next => cases h
theorem xs_fadd {Lv : xV → Prop} {l l2 : xL} {st st2 : List xV} {nL pc2 : Nat} (h0 : ∀ v, Lv (.inl v)) (hx : p.tables.exec = Jvm.exec) (hb : c.code = cc) (hd : decode cc pc = .ok (.fadd, 1)) (hl : lv_has ls nL (xlm ad l)) (hk : xok Lv l st) (h : xs1 nL (.fadd) pc l st = some (pc2, l2, st2)) (k : ∀ ls2 : Array Slot, lv_has ls2 nL (xlm ad l2) → xok Lv l2 st2 → W p l0 e R s m args below meth c H locs cells slots Q (F0 m pc2 ls2 (st2.map (xc ad)))) : W p l0 e R s m args below meth c H locs cells slots Q (F0 m pc ls (st.map (xc ad))) := by
  simp only [xs1] at h
  split at h
  next =>
    split at h
    next hg =>
      cases h
      exact lv_fadd hx hb hd hg (k _ hl (xok_push (xok_tl (xok_tl hk)) (h0 _)))
    next => cases h
  next => cases h
theorem xs_fsub {Lv : xV → Prop} {l l2 : xL} {st st2 : List xV} {nL pc2 : Nat} (h0 : ∀ v, Lv (.inl v)) (hx : p.tables.exec = Jvm.exec) (hb : c.code = cc) (hd : decode cc pc = .ok (.fsub, 1)) (hl : lv_has ls nL (xlm ad l)) (hk : xok Lv l st) (h : xs1 nL (.fsub) pc l st = some (pc2, l2, st2)) (k : ∀ ls2 : Array Slot, lv_has ls2 nL (xlm ad l2) → xok Lv l2 st2 → W p l0 e R s m args below meth c H locs cells slots Q (F0 m pc2 ls2 (st2.map (xc ad)))) : W p l0 e R s m args below meth c H locs cells slots Q (F0 m pc ls (st.map (xc ad))) := by
  simp only [xs1] at h
  split at h
  next =>
    split at h
    next hg =>
      cases h
      exact lv_fsub hx hb hd hg (k _ hl (xok_push (xok_tl (xok_tl hk)) (h0 _)))
    next => cases h
  next => cases h
theorem xs_fmul {Lv : xV → Prop} {l l2 : xL} {st st2 : List xV} {nL pc2 : Nat} (h0 : ∀ v, Lv (.inl v)) (hx : p.tables.exec = Jvm.exec) (hb : c.code = cc) (hd : decode cc pc = .ok (.fmul, 1)) (hl : lv_has ls nL (xlm ad l)) (hk : xok Lv l st) (h : xs1 nL (.fmul) pc l st = some (pc2, l2, st2)) (k : ∀ ls2 : Array Slot, lv_has ls2 nL (xlm ad l2) → xok Lv l2 st2 → W p l0 e R s m args below meth c H locs cells slots Q (F0 m pc2 ls2 (st2.map (xc ad)))) : W p l0 e R s m args below meth c H locs cells slots Q (F0 m pc ls (st.map (xc ad))) := by
  simp only [xs1] at h
  split at h
  next =>
    split at h
    next hg =>
      cases h
      exact lv_fmul hx hb hd hg (k _ hl (xok_push (xok_tl (xok_tl hk)) (h0 _)))
    next => cases h
  next => cases h
theorem xs_fdiv {Lv : xV → Prop} {l l2 : xL} {st st2 : List xV} {nL pc2 : Nat} (h0 : ∀ v, Lv (.inl v)) (hx : p.tables.exec = Jvm.exec) (hb : c.code = cc) (hd : decode cc pc = .ok (.fdiv, 1)) (hl : lv_has ls nL (xlm ad l)) (hk : xok Lv l st) (h : xs1 nL (.fdiv) pc l st = some (pc2, l2, st2)) (k : ∀ ls2 : Array Slot, lv_has ls2 nL (xlm ad l2) → xok Lv l2 st2 → W p l0 e R s m args below meth c H locs cells slots Q (F0 m pc2 ls2 (st2.map (xc ad)))) : W p l0 e R s m args below meth c H locs cells slots Q (F0 m pc ls (st.map (xc ad))) := by
  simp only [xs1] at h
  split at h
  next =>
    split at h
    next hg =>
      cases h
      exact lv_fdiv hx hb hd hg (k _ hl (xok_push (xok_tl (xok_tl hk)) (h0 _)))
    next => cases h
  next => cases h
theorem xs_frem {Lv : xV → Prop} {l l2 : xL} {st st2 : List xV} {nL pc2 : Nat} (h0 : ∀ v, Lv (.inl v)) (hx : p.tables.exec = Jvm.exec) (hb : c.code = cc) (hd : decode cc pc = .ok (.frem, 1)) (hl : lv_has ls nL (xlm ad l)) (hk : xok Lv l st) (h : xs1 nL (.frem) pc l st = some (pc2, l2, st2)) (k : ∀ ls2 : Array Slot, lv_has ls2 nL (xlm ad l2) → xok Lv l2 st2 → W p l0 e R s m args below meth c H locs cells slots Q (F0 m pc2 ls2 (st2.map (xc ad)))) : W p l0 e R s m args below meth c H locs cells slots Q (F0 m pc ls (st.map (xc ad))) := by
  simp only [xs1] at h
  split at h
  next =>
    split at h
    next hg =>
      cases h
      exact lv_frem hx hb hd hg (k _ hl (xok_push (xok_tl (xok_tl hk)) (h0 _)))
    next => cases h
  next => cases h
theorem xs_dadd {Lv : xV → Prop} {l l2 : xL} {st st2 : List xV} {nL pc2 : Nat} (h0 : ∀ v, Lv (.inl v)) (hx : p.tables.exec = Jvm.exec) (hb : c.code = cc) (hd : decode cc pc = .ok (.dadd, 1)) (hl : lv_has ls nL (xlm ad l)) (hk : xok Lv l st) (h : xs1 nL (.dadd) pc l st = some (pc2, l2, st2)) (k : ∀ ls2 : Array Slot, lv_has ls2 nL (xlm ad l2) → xok Lv l2 st2 → W p l0 e R s m args below meth c H locs cells slots Q (F0 m pc2 ls2 (st2.map (xc ad)))) : W p l0 e R s m args below meth c H locs cells slots Q (F0 m pc ls (st.map (xc ad))) := by
  simp only [xs1] at h
  split at h
  next =>
    split at h
    next hg =>
      cases h
      exact lv_dadd hx hb hd hg (k _ hl (xok_push (xok_tl (xok_tl hk)) (h0 _)))
    next => cases h
  next => cases h
theorem xs_dsub {Lv : xV → Prop} {l l2 : xL} {st st2 : List xV} {nL pc2 : Nat} (h0 : ∀ v, Lv (.inl v)) (hx : p.tables.exec = Jvm.exec) (hb : c.code = cc) (hd : decode cc pc = .ok (.dsub, 1)) (hl : lv_has ls nL (xlm ad l)) (hk : xok Lv l st) (h : xs1 nL (.dsub) pc l st = some (pc2, l2, st2)) (k : ∀ ls2 : Array Slot, lv_has ls2 nL (xlm ad l2) → xok Lv l2 st2 → W p l0 e R s m args below meth c H locs cells slots Q (F0 m pc2 ls2 (st2.map (xc ad)))) : W p l0 e R s m args below meth c H locs cells slots Q (F0 m pc ls (st.map (xc ad))) := by
  simp only [xs1] at h
  split at h
  next =>
    split at h
    next hg =>
      cases h
      exact lv_dsub hx hb hd hg (k _ hl (xok_push (xok_tl (xok_tl hk)) (h0 _)))
    next => cases h
  next => cases h
theorem xs_dmul {Lv : xV → Prop} {l l2 : xL} {st st2 : List xV} {nL pc2 : Nat} (h0 : ∀ v, Lv (.inl v)) (hx : p.tables.exec = Jvm.exec) (hb : c.code = cc) (hd : decode cc pc = .ok (.dmul, 1)) (hl : lv_has ls nL (xlm ad l)) (hk : xok Lv l st) (h : xs1 nL (.dmul) pc l st = some (pc2, l2, st2)) (k : ∀ ls2 : Array Slot, lv_has ls2 nL (xlm ad l2) → xok Lv l2 st2 → W p l0 e R s m args below meth c H locs cells slots Q (F0 m pc2 ls2 (st2.map (xc ad)))) : W p l0 e R s m args below meth c H locs cells slots Q (F0 m pc ls (st.map (xc ad))) := by
  simp only [xs1] at h
  split at h
  next =>
    split at h
    next hg =>
      cases h
      exact lv_dmul hx hb hd hg (k _ hl (xok_push (xok_tl (xok_tl hk)) (h0 _)))
    next => cases h
  next => cases h
theorem xs_ddiv {Lv : xV → Prop} {l l2 : xL} {st st2 : List xV} {nL pc2 : Nat} (h0 : ∀ v, Lv (.inl v)) (hx : p.tables.exec = Jvm.exec) (hb : c.code = cc) (hd : decode cc pc = .ok (.ddiv, 1)) (hl : lv_has ls nL (xlm ad l)) (hk : xok Lv l st) (h : xs1 nL (.ddiv) pc l st = some (pc2, l2, st2)) (k : ∀ ls2 : Array Slot, lv_has ls2 nL (xlm ad l2) → xok Lv l2 st2 → W p l0 e R s m args below meth c H locs cells slots Q (F0 m pc2 ls2 (st2.map (xc ad)))) : W p l0 e R s m args below meth c H locs cells slots Q (F0 m pc ls (st.map (xc ad))) := by
  simp only [xs1] at h
  split at h
  next =>
    split at h
    next hg =>
      cases h
      exact lv_ddiv hx hb hd hg (k _ hl (xok_push (xok_tl (xok_tl hk)) (h0 _)))
    next => cases h
  next => cases h
theorem xs_drem {Lv : xV → Prop} {l l2 : xL} {st st2 : List xV} {nL pc2 : Nat} (h0 : ∀ v, Lv (.inl v)) (hx : p.tables.exec = Jvm.exec) (hb : c.code = cc) (hd : decode cc pc = .ok (.drem, 1)) (hl : lv_has ls nL (xlm ad l)) (hk : xok Lv l st) (h : xs1 nL (.drem) pc l st = some (pc2, l2, st2)) (k : ∀ ls2 : Array Slot, lv_has ls2 nL (xlm ad l2) → xok Lv l2 st2 → W p l0 e R s m args below meth c H locs cells slots Q (F0 m pc2 ls2 (st2.map (xc ad)))) : W p l0 e R s m args below meth c H locs cells slots Q (F0 m pc ls (st.map (xc ad))) := by
  simp only [xs1] at h
  split at h
  next =>
    split at h
    next hg =>
      cases h
      exact lv_drem hx hb hd hg (k _ hl (xok_push (xok_tl (xok_tl hk)) (h0 _)))
    next => cases h
  next => cases h
theorem xs_fneg {Lv : xV → Prop} {l l2 : xL} {st st2 : List xV} {nL pc2 : Nat} (h0 : ∀ v, Lv (.inl v)) (hx : p.tables.exec = Jvm.exec) (hb : c.code = cc) (hd : decode cc pc = .ok (.fneg, 1)) (hl : lv_has ls nL (xlm ad l)) (hk : xok Lv l st) (h : xs1 nL (.fneg) pc l st = some (pc2, l2, st2)) (k : ∀ ls2 : Array Slot, lv_has ls2 nL (xlm ad l2) → xok Lv l2 st2 → W p l0 e R s m args below meth c H locs cells slots Q (F0 m pc2 ls2 (st2.map (xc ad)))) : W p l0 e R s m args below meth c H locs cells slots Q (F0 m pc ls (st.map (xc ad))) := by
  simp only [xs1] at h
  split at h
  next =>
    cases h
    exact lv_fneg hx hb hd (k _ hl (xok_push (xok_tl hk) (h0 _)))
  next => cases h
theorem xs_dneg {Lv : xV → Prop} {l l2 : xL} {st st2 : List xV} {nL pc2 : Nat} (h0 : ∀ v, Lv (.inl v)) (hx : p.tables.exec = Jvm.exec) (hb : c.code = cc) (hd : decode cc pc = .ok (.dneg, 1)) (hl : lv_has ls nL (xlm ad l)) (hk : xok Lv l st) (h : xs1 nL (.dneg) pc l st = some (pc2, l2, st2)) (k : ∀ ls2 : Array Slot, lv_has ls2 nL (xlm ad l2) → xok Lv l2 st2 → W p l0 e R s m args below meth c H locs cells slots Q (F0 m pc2 ls2 (st2.map (xc ad)))) : W p l0 e R s m args below meth c H locs cells slots Q (F0 m pc ls (st.map (xc ad))) := by
  simp only [xs1] at h
  split at h
  next =>
    cases h
    exact lv_dneg hx hb hd (k _ hl (xok_push (xok_tl hk) (h0 _)))
  next => cases h
theorem xs_fcmp {Lv : xV → Prop} {l l2 : xL} {st st2 : List xV} {nL pc2 : Nat} (h0 : ∀ v, Lv (.inl v)) (hx : p.tables.exec = Jvm.exec) (hb : c.code = cc) {o : CmpOp} (hd : decode cc pc = .ok (.fcmp o, 1)) (hl : lv_has ls nL (xlm ad l)) (hk : xok Lv l st) (h : xs1 nL (.fcmp o) pc l st = some (pc2, l2, st2)) (k : ∀ ls2 : Array Slot, lv_has ls2 nL (xlm ad l2) → xok Lv l2 st2 → W p l0 e R s m args below meth c H locs cells slots Q (F0 m pc2 ls2 (st2.map (xc ad)))) : W p l0 e R s m args below meth c H locs cells slots Q (F0 m pc ls (st.map (xc ad))) := by
  simp only [xs1] at h
  split at h
  next =>
    cases h
    exact lv_fcmp hx hb hd (k _ hl (xok_push (xok_tl (xok_tl hk)) (h0 _)))
  next => cases h
theorem xs_dcmp {Lv : xV → Prop} {l l2 : xL} {st st2 : List xV} {nL pc2 : Nat} (h0 : ∀ v, Lv (.inl v)) (hx : p.tables.exec = Jvm.exec) (hb : c.code = cc) {o : CmpOp} (hd : decode cc pc = .ok (.dcmp o, 1)) (hl : lv_has ls nL (xlm ad l)) (hk : xok Lv l st) (h : xs1 nL (.dcmp o) pc l st = some (pc2, l2, st2)) (k : ∀ ls2 : Array Slot, lv_has ls2 nL (xlm ad l2) → xok Lv l2 st2 → W p l0 e R s m args below meth c H locs cells slots Q (F0 m pc2 ls2 (st2.map (xc ad)))) : W p l0 e R s m args below meth c H locs cells slots Q (F0 m pc ls (st.map (xc ad))) := by
  simp only [xs1] at h
  split at h
  next =>
    cases h
    exact lv_dcmp hx hb hd (k _ hl (xok_push (xok_tl (xok_tl hk)) (h0 _)))
  next => cases h
theorem xs_i2f {Lv : xV → Prop} {l l2 : xL} {st st2 : List xV} {nL pc2 : Nat} (h0 : ∀ v, Lv (.inl v)) (hx : p.tables.exec = Jvm.exec) (hb : c.code = cc) (hd : decode cc pc = .ok (.i2f, 1)) (hl : lv_has ls nL (xlm ad l)) (hk : xok Lv l st) (h : xs1 nL (.i2f) pc l st = some (pc2, l2, st2)) (k : ∀ ls2 : Array Slot, lv_has ls2 nL (xlm ad l2) → xok Lv l2 st2 → W p l0 e R s m args below meth c H locs cells slots Q (F0 m pc2 ls2 (st2.map (xc ad)))) : W p l0 e R s m args below meth c H locs cells slots Q (F0 m pc ls (st.map (xc ad))) := by
  simp only [xs1] at h
  split at h
  next =>
    cases h
    exact lv_i2f hx hb hd (k _ hl (xok_push (xok_tl hk) (h0 _)))
  next => cases h
theorem xs_l2f {Lv : xV → Prop} {l l2 : xL} {st st2 : List xV} {nL pc2 : Nat} (h0 : ∀ v, Lv (.inl v)) (hx : p.tables.exec = Jvm.exec) (hb : c.code = cc) (hd : decode cc pc = .ok (.l2f, 1)) (hl : lv_has ls nL (xlm ad l)) (hk : xok Lv l st) (h : xs1 nL (.l2f) pc l st = some (pc2, l2, st2)) (k : ∀ ls2 : Array Slot, lv_has ls2 nL (xlm ad l2) → xok Lv l2 st2 → W p l0 e R s m args below meth c H locs cells slots Q (F0 m pc2 ls2 (st2.map (xc ad)))) : W p l0 e R s m args below meth c H locs cells slots Q (F0 m pc ls (st.map (xc ad))) := by
  simp only [xs1] at h
  split at h
  next =>
    cases h
    exact lv_l2f hx hb hd (k _ hl (xok_push (xok_tl hk) (h0 _)))
  next => cases h
theorem xs_f2i {Lv : xV → Prop} {l l2 : xL} {st st2 : List xV} {nL pc2 : Nat} (h0 : ∀ v, Lv (.inl v)) (hx : p.tables.exec = Jvm.exec) (hb : c.code = cc) (hd : decode cc pc = .ok (.f2i, 1)) (hl : lv_has ls nL (xlm ad l)) (hk : xok Lv l st) (h : xs1 nL (.f2i) pc l st = some (pc2, l2, st2)) (k : ∀ ls2 : Array Slot, lv_has ls2 nL (xlm ad l2) → xok Lv l2 st2 → W p l0 e R s m args below meth c H locs cells slots Q (F0 m pc2 ls2 (st2.map (xc ad)))) : W p l0 e R s m args below meth c H locs cells slots Q (F0 m pc ls (st.map (xc ad))) := by
  simp only [xs1] at h
  split at h
  next =>
    cases h
    exact lv_f2i hx hb hd (k _ hl (xok_push (xok_tl hk) (h0 _)))
  next => cases h
theorem xs_f2l {Lv : xV → Prop} {l l2 : xL} {st st2 : List xV} {nL pc2 : Nat} (h0 : ∀ v, Lv (.inl v)) (hx : p.tables.exec = Jvm.exec) (hb : c.code = cc) (hd : decode cc pc = .ok (.f2l, 1)) (hl : lv_has ls nL (xlm ad l)) (hk : xok Lv l st) (h : xs1 nL (.f2l) pc l st = some (pc2, l2, st2)) (k : ∀ ls2 : Array Slot, lv_has ls2 nL (xlm ad l2) → xok Lv l2 st2 → W p l0 e R s m args below meth c H locs cells slots Q (F0 m pc2 ls2 (st2.map (xc ad)))) : W p l0 e R s m args below meth c H locs cells slots Q (F0 m pc ls (st.map (xc ad))) := by
  simp only [xs1] at h
  split at h
  next =>
    cases h
    exact lv_f2l hx hb hd (k _ hl (xok_push (xok_tl hk) (h0 _)))
  next => cases h
theorem xs_i2d {Lv : xV → Prop} {l l2 : xL} {st st2 : List xV} {nL pc2 : Nat} (h0 : ∀ v, Lv (.inl v)) (hx : p.tables.exec = Jvm.exec) (hb : c.code = cc) (hd : decode cc pc = .ok (.i2d, 1)) (hl : lv_has ls nL (xlm ad l)) (hk : xok Lv l st) (h : xs1 nL (.i2d) pc l st = some (pc2, l2, st2)) (k : ∀ ls2 : Array Slot, lv_has ls2 nL (xlm ad l2) → xok Lv l2 st2 → W p l0 e R s m args below meth c H locs cells slots Q (F0 m pc2 ls2 (st2.map (xc ad)))) : W p l0 e R s m args below meth c H locs cells slots Q (F0 m pc ls (st.map (xc ad))) := by
  simp only [xs1] at h
  split at h
  next =>
    cases h
    exact lv_i2d hx hb hd (k _ hl (xok_push (xok_tl hk) (h0 _)))
  next => cases h
theorem xs_l2d {Lv : xV → Prop} {l l2 : xL} {st st2 : List xV} {nL pc2 : Nat} (h0 : ∀ v, Lv (.inl v)) (hx : p.tables.exec = Jvm.exec) (hb : c.code = cc) (hd : decode cc pc = .ok (.l2d, 1)) (hl : lv_has ls nL (xlm ad l)) (hk : xok Lv l st) (h : xs1 nL (.l2d) pc l st = some (pc2, l2, st2)) (k : ∀ ls2 : Array Slot, lv_has ls2 nL (xlm ad l2) → xok Lv l2 st2 → W p l0 e R s m args below meth c H locs cells slots Q (F0 m pc2 ls2 (st2.map (xc ad)))) : W p l0 e R s m args below meth c H locs cells slots Q (F0 m pc ls (st.map (xc ad))) := by
  simp only [xs1] at h
  split at h
  next =>
    cases h
    exact lv_l2d hx hb hd (k _ hl (xok_push (xok_tl hk) (h0 _)))
  next => cases h
theorem xs_d2i {Lv : xV → Prop} {l l2 : xL} {st st2 : List xV} {nL pc2 : Nat} (h0 : ∀ v, Lv (.inl v)) (hx : p.tables.exec = Jvm.exec) (hb : c.code = cc) (hd : decode cc pc = .ok (.d2i, 1)) (hl : lv_has ls nL (xlm ad l)) (hk : xok Lv l st) (h : xs1 nL (.d2i) pc l st = some (pc2, l2, st2)) (k : ∀ ls2 : Array Slot, lv_has ls2 nL (xlm ad l2) → xok Lv l2 st2 → W p l0 e R s m args below meth c H locs cells slots Q (F0 m pc2 ls2 (st2.map (xc ad)))) : W p l0 e R s m args below meth c H locs cells slots Q (F0 m pc ls (st.map (xc ad))) := by
  simp only [xs1] at h
  split at h
  next =>
    cases h
    exact lv_d2i hx hb hd (k _ hl (xok_push (xok_tl hk) (h0 _)))
  next => cases h
theorem xs_d2l {Lv : xV → Prop} {l l2 : xL} {st st2 : List xV} {nL pc2 : Nat} (h0 : ∀ v, Lv (.inl v)) (hx : p.tables.exec = Jvm.exec) (hb : c.code = cc) (hd : decode cc pc = .ok (.d2l, 1)) (hl : lv_has ls nL (xlm ad l)) (hk : xok Lv l st) (h : xs1 nL (.d2l) pc l st = some (pc2, l2, st2)) (k : ∀ ls2 : Array Slot, lv_has ls2 nL (xlm ad l2) → xok Lv l2 st2 → W p l0 e R s m args below meth c H locs cells slots Q (F0 m pc2 ls2 (st2.map (xc ad)))) : W p l0 e R s m args below meth c H locs cells slots Q (F0 m pc ls (st.map (xc ad))) := by
  simp only [xs1] at h
  split at h
  next =>
    cases h
    exact lv_d2l hx hb hd (k _ hl (xok_push (xok_tl hk) (h0 _)))
  next => cases h
theorem xs_f2d {Lv : xV → Prop} {l l2 : xL} {st st2 : List xV} {nL pc2 : Nat} (h0 : ∀ v, Lv (.inl v)) (hx : p.tables.exec = Jvm.exec) (hb : c.code = cc) (hd : decode cc pc = .ok (.f2d, 1)) (hl : lv_has ls nL (xlm ad l)) (hk : xok Lv l st) (h : xs1 nL (.f2d) pc l st = some (pc2, l2, st2)) (k : ∀ ls2 : Array Slot, lv_has ls2 nL (xlm ad l2) → xok Lv l2 st2 → W p l0 e R s m args below meth c H locs cells slots Q (F0 m pc2 ls2 (st2.map (xc ad)))) : W p l0 e R s m args below meth c H locs cells slots Q (F0 m pc ls (st.map (xc ad))) := by
  simp only [xs1] at h
  split at h
  next =>
    split at h
    next hg =>
      cases h
      exact lv_f2d hx hb hd hg (k _ hl (xok_push (xok_tl hk) (h0 _)))
    next => cases h
  next => cases h
theorem xs_d2f {Lv : xV → Prop} {l l2 : xL} {st st2 : List xV} {nL pc2 : Nat} (h0 : ∀ v, Lv (.inl v)) (hx : p.tables.exec = Jvm.exec) (hb : c.code = cc) (hd : decode cc pc = .ok (.d2f, 1)) (hl : lv_has ls nL (xlm ad l)) (hk : xok Lv l st) (h : xs1 nL (.d2f) pc l st = some (pc2, l2, st2)) (k : ∀ ls2 : Array Slot, lv_has ls2 nL (xlm ad l2) → xok Lv l2 st2 → W p l0 e R s m args below meth c H locs cells slots Q (F0 m pc2 ls2 (st2.map (xc ad)))) : W p l0 e R s m args below meth c H locs cells slots Q (F0 m pc ls (st.map (xc ad))) := by
  simp only [xs1] at h
  split at h
  next =>
    split at h
    next hg =>
      cases h
      exact lv_d2f hx hb hd hg (k _ hl (xok_push (xok_tl hk) (h0 _)))
    next => cases h
  next => cases h
theorem xs_dup {Lv : xV → Prop} {l l2 : xL} {st st2 : List xV} {nL pc2 : Nat} (h0 : ∀ v, Lv (.inl v)) (hx : p.tables.exec = Jvm.exec) (hb : c.code = cc) (hd : decode cc pc = .ok (.dup, 1)) (hl : lv_has ls nL (xlm ad l)) (hk : xok Lv l st) (h : xs1 nL (.dup) pc l st = some (pc2, l2, st2)) (k : ∀ ls2 : Array Slot, lv_has ls2 nL (xlm ad l2) → xok Lv l2 st2 → W p l0 e R s m args below meth c H locs cells slots Q (F0 m pc2 ls2 (st2.map (xc ad)))) : W p l0 e R s m args below meth c H locs cells slots Q (F0 m pc ls (st.map (xc ad))) := by
  simp only [xs1] at h
  split at h
  next =>
    split at h
    next hg =>
      cases h
      exact lv_dup hx hb hd (by rw [xc_cat]; exact hg) (k _ hl (xok_push hk (xok_hd hk)))
    next => cases h
  next => cases h
theorem xs_pop {Lv : xV → Prop} {l l2 : xL} {st st2 : List xV} {nL pc2 : Nat} (h0 : ∀ v, Lv (.inl v)) (hx : p.tables.exec = Jvm.exec) (hb : c.code = cc) (hd : decode cc pc = .ok (.pop, 1)) (hl : lv_has ls nL (xlm ad l)) (hk : xok Lv l st) (h : xs1 nL (.pop) pc l st = some (pc2, l2, st2)) (k : ∀ ls2 : Array Slot, lv_has ls2 nL (xlm ad l2) → xok Lv l2 st2 → W p l0 e R s m args below meth c H locs cells slots Q (F0 m pc2 ls2 (st2.map (xc ad)))) : W p l0 e R s m args below meth c H locs cells slots Q (F0 m pc ls (st.map (xc ad))) := by
  simp only [xs1] at h
  split at h
  next =>
    split at h
    next hg =>
      cases h
      exact lv_pop hx hb hd (by rw [xc_cat]; exact hg) (k _ hl (xok_tl hk))
    next => cases h
  next => cases h
theorem xs_dup_x1 {Lv : xV → Prop} {l l2 : xL} {st st2 : List xV} {nL pc2 : Nat} (h0 : ∀ v, Lv (.inl v)) (hx : p.tables.exec = Jvm.exec) (hb : c.code = cc) (hd : decode cc pc = .ok (.dup_x1, 1)) (hl : lv_has ls nL (xlm ad l)) (hk : xok Lv l st) (h : xs1 nL (.dup_x1) pc l st = some (pc2, l2, st2)) (k : ∀ ls2 : Array Slot, lv_has ls2 nL (xlm ad l2) → xok Lv l2 st2 → W p l0 e R s m args below meth c H locs cells slots Q (F0 m pc2 ls2 (st2.map (xc ad)))) : W p l0 e R s m args below meth c H locs cells slots Q (F0 m pc ls (st.map (xc ad))) := by
  simp only [xs1] at h
  split at h
  next =>
    split at h
    next hg =>
      cases h
      exact lv_dup_x1 hx hb hd (by rw [xc_cat]; exact hg.1) (by rw [xc_cat]; exact hg.2) (k _ hl (xok_push (xok_push (xok_push (xok_tl (xok_tl hk)) (xok_hd hk)) (xok_hd (xok_tl hk))) (xok_hd hk)))
    next => cases h
  next => cases h
theorem xs_dup_x2 {Lv : xV → Prop} {l l2 : xL} {st st2 : List xV} {nL pc2 : Nat} (h0 : ∀ v, Lv (.inl v)) (hx : p.tables.exec = Jvm.exec) (hb : c.code = cc) (hd : decode cc pc = .ok (.dup_x2, 1)) (hl : lv_has ls nL (xlm ad l)) (hk : xok Lv l st) (h : xs1 nL (.dup_x2) pc l st = some (pc2, l2, st2)) (k : ∀ ls2 : Array Slot, lv_has ls2 nL (xlm ad l2) → xok Lv l2 st2 → W p l0 e R s m args below meth c H locs cells slots Q (F0 m pc2 ls2 (st2.map (xc ad)))) : W p l0 e R s m args below meth c H locs cells slots Q (F0 m pc ls (st.map (xc ad))) := by
  simp only [xs1] at h
  split at h
  next =>
    split at h
    next hg =>
      cases h
      exact lv_dup_x2 hx hb hd (by rw [xc_cat]; exact hg.1) (by rw [xc_cat]; exact hg.2.1) (by rw [xc_cat]; exact hg.2.2) (k _ hl (xok_push (xok_push (xok_push (xok_push (xok_tl (xok_tl (xok_tl hk))) (xok_hd hk)) (xok_hd (xok_tl (xok_tl hk)))) (xok_hd (xok_tl hk))) (xok_hd hk)))
    next => cases h
  next => cases h
theorem xs_dup2 {Lv : xV → Prop} {l l2 : xL} {st st2 : List xV} {nL pc2 : Nat} (h0 : ∀ v, Lv (.inl v)) (hx : p.tables.exec = Jvm.exec) (hb : c.code = cc) (hd : decode cc pc = .ok (.dup2, 1)) (hl : lv_has ls nL (xlm ad l)) (hk : xok Lv l st) (h : xs1 nL (.dup2) pc l st = some (pc2, l2, st2)) (k : ∀ ls2 : Array Slot, lv_has ls2 nL (xlm ad l2) → xok Lv l2 st2 → W p l0 e R s m args below meth c H locs cells slots Q (F0 m pc2 ls2 (st2.map (xc ad)))) : W p l0 e R s m args below meth c H locs cells slots Q (F0 m pc ls (st.map (xc ad))) := by
  simp only [xs1] at h
  split at h
  next =>
    split at h
    next hg =>
      cases h
      exact lv_dup2_11 hx hb hd (by rw [xc_cat]; exact hg.1) (by rw [xc_cat]; exact hg.2) (k _ hl (xok_push (xok_push hk (xok_hd (xok_tl hk))) (xok_hd hk)))
    next => cases h
  next => cases h
theorem xs_iload_n {Lv : xV → Prop} {l l2 : xL} {st st2 : List xV} {nL pc2 : Nat} (h0 : ∀ v, Lv (.inl v)) (hx : p.tables.exec = Jvm.exec) (hb : c.code = cc) {n : Fin 4} (hd : decode cc pc = .ok (.iload_n n, 1)) (hl : lv_has ls nL (xlm ad l)) (hk : xok Lv l st) (h : xs1 nL (.iload_n n) pc l st = some (pc2, l2, st2)) (k : ∀ ls2 : Array Slot, lv_has ls2 nL (xlm ad l2) → xok Lv l2 st2 → W p l0 e R s m args below meth c H locs cells slots Q (F0 m pc2 ls2 (st2.map (xc ad)))) : W p l0 e R s m args below meth c H locs cells slots Q (F0 m pc ls (st.map (xc ad))) := by
  simp only [xs1] at h
  split at h
  next e0 =>
    cases h
    exact lv_iload_n hx hb hd rfl (xl_at hl e0) (k _ hl (xok_push hk (h0 _)))
  next => cases h
theorem xs_iload {Lv : xV → Prop} {l l2 : xL} {st st2 : List xV} {nL pc2 : Nat} (h0 : ∀ v, Lv (.inl v)) (hx : p.tables.exec = Jvm.exec) (hb : c.code = cc) {n : Nat} (hd : decode cc pc = .ok (.iload n, 2)) (hl : lv_has ls nL (xlm ad l)) (hk : xok Lv l st) (h : xs1 nL (.iload n) pc l st = some (pc2, l2, st2)) (k : ∀ ls2 : Array Slot, lv_has ls2 nL (xlm ad l2) → xok Lv l2 st2 → W p l0 e R s m args below meth c H locs cells slots Q (F0 m pc2 ls2 (st2.map (xc ad)))) : W p l0 e R s m args below meth c H locs cells slots Q (F0 m pc ls (st.map (xc ad))) := by
  simp only [xs1] at h
  split at h
  next e0 =>
    cases h
    exact lv_iload hx hb hd (xl_at hl e0) (k _ hl (xok_push hk (h0 _)))
  next => cases h
theorem xs_lload_n {Lv : xV → Prop} {l l2 : xL} {st st2 : List xV} {nL pc2 : Nat} (h0 : ∀ v, Lv (.inl v)) (hx : p.tables.exec = Jvm.exec) (hb : c.code = cc) {n : Fin 4} (hd : decode cc pc = .ok (.lload_n n, 1)) (hl : lv_has ls nL (xlm ad l)) (hk : xok Lv l st) (h : xs1 nL (.lload_n n) pc l st = some (pc2, l2, st2)) (k : ∀ ls2 : Array Slot, lv_has ls2 nL (xlm ad l2) → xok Lv l2 st2 → W p l0 e R s m args below meth c H locs cells slots Q (F0 m pc2 ls2 (st2.map (xc ad)))) : W p l0 e R s m args below meth c H locs cells slots Q (F0 m pc ls (st.map (xc ad))) := by
  simp only [xs1] at h
  split at h
  next e0 =>
    cases h
    exact lv_lload_n hx hb hd rfl (xl_at hl e0) (k _ hl (xok_push hk (h0 _)))
  next => cases h
theorem xs_lload {Lv : xV → Prop} {l l2 : xL} {st st2 : List xV} {nL pc2 : Nat} (h0 : ∀ v, Lv (.inl v)) (hx : p.tables.exec = Jvm.exec) (hb : c.code = cc) {n : Nat} (hd : decode cc pc = .ok (.lload n, 2)) (hl : lv_has ls nL (xlm ad l)) (hk : xok Lv l st) (h : xs1 nL (.lload n) pc l st = some (pc2, l2, st2)) (k : ∀ ls2 : Array Slot, lv_has ls2 nL (xlm ad l2) → xok Lv l2 st2 → W p l0 e R s m args below meth c H locs cells slots Q (F0 m pc2 ls2 (st2.map (xc ad)))) : W p l0 e R s m args below meth c H locs cells slots Q (F0 m pc ls (st.map (xc ad))) := by
  simp only [xs1] at h
  split at h
  next e0 =>
    cases h
    exact lv_lload hx hb hd (xl_at hl e0) (k _ hl (xok_push hk (h0 _)))
  next => cases h
theorem xs_fload_n {Lv : xV → Prop} {l l2 : xL} {st st2 : List xV} {nL pc2 : Nat} (h0 : ∀ v, Lv (.inl v)) (hx : p.tables.exec = Jvm.exec) (hb : c.code = cc) {n : Fin 4} (hd : decode cc pc = .ok (.fload_n n, 1)) (hl : lv_has ls nL (xlm ad l)) (hk : xok Lv l st) (h : xs1 nL (.fload_n n) pc l st = some (pc2, l2, st2)) (k : ∀ ls2 : Array Slot, lv_has ls2 nL (xlm ad l2) → xok Lv l2 st2 → W p l0 e R s m args below meth c H locs cells slots Q (F0 m pc2 ls2 (st2.map (xc ad)))) : W p l0 e R s m args below meth c H locs cells slots Q (F0 m pc ls (st.map (xc ad))) := by
  simp only [xs1] at h
  split at h
  next e0 =>
    cases h
    exact lv_fload_n hx hb hd rfl (xl_at hl e0) (k _ hl (xok_push hk (h0 _)))
  next => cases h
theorem xs_fload {Lv : xV → Prop} {l l2 : xL} {st st2 : List xV} {nL pc2 : Nat} (h0 : ∀ v, Lv (.inl v)) (hx : p.tables.exec = Jvm.exec) (hb : c.code = cc) {n : Nat} (hd : decode cc pc = .ok (.fload n, 2)) (hl : lv_has ls nL (xlm ad l)) (hk : xok Lv l st) (h : xs1 nL (.fload n) pc l st = some (pc2, l2, st2)) (k : ∀ ls2 : Array Slot, lv_has ls2 nL (xlm ad l2) → xok Lv l2 st2 → W p l0 e R s m args below meth c H locs cells slots Q (F0 m pc2 ls2 (st2.map (xc ad)))) : W p l0 e R s m args below meth c H locs cells slots Q (F0 m pc ls (st.map (xc ad))) := by
  simp only [xs1] at h
  split at h
  next e0 =>
    cases h
    exact lv_fload hx hb hd (xl_at hl e0) (k _ hl (xok_push hk (h0 _)))
  next => cases h
theorem xs_dload_n {Lv : xV → Prop} {l l2 : xL} {st st2 : List xV} {nL pc2 : Nat} (h0 : ∀ v, Lv (.inl v)) (hx : p.tables.exec = Jvm.exec) (hb : c.code = cc) {n : Fin 4} (hd : decode cc pc = .ok (.dload_n n, 1)) (hl : lv_has ls nL (xlm ad l)) (hk : xok Lv l st) (h : xs1 nL (.dload_n n) pc l st = some (pc2, l2, st2)) (k : ∀ ls2 : Array Slot, lv_has ls2 nL (xlm ad l2) → xok Lv l2 st2 → W p l0 e R s m args below meth c H locs cells slots Q (F0 m pc2 ls2 (st2.map (xc ad)))) : W p l0 e R s m args below meth c H locs cells slots Q (F0 m pc ls (st.map (xc ad))) := by
  simp only [xs1] at h
  split at h
  next e0 =>
    cases h
    exact lv_dload_n hx hb hd rfl (xl_at hl e0) (k _ hl (xok_push hk (h0 _)))
  next => cases h
theorem xs_dload {Lv : xV → Prop} {l l2 : xL} {st st2 : List xV} {nL pc2 : Nat} (h0 : ∀ v, Lv (.inl v)) (hx : p.tables.exec = Jvm.exec) (hb : c.code = cc) {n : Nat} (hd : decode cc pc = .ok (.dload n, 2)) (hl : lv_has ls nL (xlm ad l)) (hk : xok Lv l st) (h : xs1 nL (.dload n) pc l st = some (pc2, l2, st2)) (k : ∀ ls2 : Array Slot, lv_has ls2 nL (xlm ad l2) → xok Lv l2 st2 → W p l0 e R s m args below meth c H locs cells slots Q (F0 m pc2 ls2 (st2.map (xc ad)))) : W p l0 e R s m args below meth c H locs cells slots Q (F0 m pc ls (st.map (xc ad))) := by
  simp only [xs1] at h
  split at h
  next e0 =>
    cases h
    exact lv_dload hx hb hd (xl_at hl e0) (k _ hl (xok_push hk (h0 _)))
  next => cases h
theorem xs_aload_n {Lv : xV → Prop} {l l2 : xL} {st st2 : List xV} {nL pc2 : Nat} (h0 : ∀ v, Lv (.inl v)) (hx : p.tables.exec = Jvm.exec) (hb : c.code = cc) {n : Fin 4} (hd : decode cc pc = .ok (.aload_n n, 1)) (hl : lv_has ls nL (xlm ad l)) (hk : xok Lv l st) (h : xs1 nL (.aload_n n) pc l st = some (pc2, l2, st2)) (k : ∀ ls2 : Array Slot, lv_has ls2 nL (xlm ad l2) → xok Lv l2 st2 → W p l0 e R s m args below meth c H locs cells slots Q (F0 m pc2 ls2 (st2.map (xc ad)))) : W p l0 e R s m args below meth c H locs cells slots Q (F0 m pc ls (st.map (xc ad))) := by
  simp only [xs1] at h
  split at h
  next e0 =>
    cases h
    exact lv_aload_nN hx hb hd rfl (xl_at hl e0) (k _ hl (xok_push hk (h0 _)))
  next e0 =>
    cases h
    exact lv_aload_n hx hb hd rfl (xl_at hl e0) (k _ hl (xok_push hk (h0 _)))
  next e0 =>
    cases h
    exact lv_aload_n hx hb hd rfl (xl_at hl e0) (k _ hl (xok_push hk (xok_l hk e0)))
  next => cases h
theorem xs_aload {Lv : xV → Prop} {l l2 : xL} {st st2 : List xV} {nL pc2 : Nat} (h0 : ∀ v, Lv (.inl v)) (hx : p.tables.exec = Jvm.exec) (hb : c.code = cc) {n : Nat} (hd : decode cc pc = .ok (.aload n, 2)) (hl : lv_has ls nL (xlm ad l)) (hk : xok Lv l st) (h : xs1 nL (.aload n) pc l st = some (pc2, l2, st2)) (k : ∀ ls2 : Array Slot, lv_has ls2 nL (xlm ad l2) → xok Lv l2 st2 → W p l0 e R s m args below meth c H locs cells slots Q (F0 m pc2 ls2 (st2.map (xc ad)))) : W p l0 e R s m args below meth c H locs cells slots Q (F0 m pc ls (st.map (xc ad))) := by
  simp only [xs1] at h
  split at h
  next e0 =>
    cases h
    exact lv_aloadN hx hb hd (xl_at hl e0) (k _ hl (xok_push hk (h0 _)))
  next e0 =>
    cases h
    exact lv_aload hx hb hd (xl_at hl e0) (k _ hl (xok_push hk (h0 _)))
  next e0 =>
    cases h
    exact lv_aload hx hb hd (xl_at hl e0) (k _ hl (xok_push hk (xok_l hk e0)))
  next => cases h
theorem xs_istore_n {Lv : xV → Prop} {l l2 : xL} {st st2 : List xV} {nL pc2 : Nat} (h0 : ∀ v, Lv (.inl v)) (hx : p.tables.exec = Jvm.exec) (hb : c.code = cc) {n : Fin 4} (hd : decode cc pc = .ok (.istore_n n, 1)) (hl : lv_has ls nL (xlm ad l)) (hk : xok Lv l st) (h : xs1 nL (.istore_n n) pc l st = some (pc2, l2, st2)) (k : ∀ ls2 : Array Slot, lv_has ls2 nL (xlm ad l2) → xok Lv l2 st2 → W p l0 e R s m args below meth c H locs cells slots Q (F0 m pc2 ls2 (st2.map (xc ad)))) : W p l0 e R s m args below meth c H locs cells slots Q (F0 m pc ls (st.map (xc ad))) := by
  simp only [xs1] at h
  split at h
  next =>
    split at h
    next hg =>
      cases h
      exact lv_istore_n hx hb hd rfl hl hg (xst1_map ad l _ (.inl (.int _))) (fun ls2 hl2 => k ls2 hl2 (xok_1 (xok_tl hk) _ (h0 _)))
    next => cases h
  next => cases h
theorem xs_istore {Lv : xV → Prop} {l l2 : xL} {st st2 : List xV} {nL pc2 : Nat} (h0 : ∀ v, Lv (.inl v)) (hx : p.tables.exec = Jvm.exec) (hb : c.code = cc) {n : Nat} (hd : decode cc pc = .ok (.istore n, 2)) (hl : lv_has ls nL (xlm ad l)) (hk : xok Lv l st) (h : xs1 nL (.istore n) pc l st = some (pc2, l2, st2)) (k : ∀ ls2 : Array Slot, lv_has ls2 nL (xlm ad l2) → xok Lv l2 st2 → W p l0 e R s m args below meth c H locs cells slots Q (F0 m pc2 ls2 (st2.map (xc ad)))) : W p l0 e R s m args below meth c H locs cells slots Q (F0 m pc ls (st.map (xc ad))) := by
  simp only [xs1] at h
  split at h
  next =>
    split at h
    next hg =>
      cases h
      exact lv_istore hx hb hd hl hg (xst1_map ad l _ (.inl (.int _))) (fun ls2 hl2 => k ls2 hl2 (xok_1 (xok_tl hk) _ (h0 _)))
    next => cases h
  next => cases h
theorem xs_lstore_n {Lv : xV → Prop} {l l2 : xL} {st st2 : List xV} {nL pc2 : Nat} (h0 : ∀ v, Lv (.inl v)) (hx : p.tables.exec = Jvm.exec) (hb : c.code = cc) {n : Fin 4} (hd : decode cc pc = .ok (.lstore_n n, 1)) (hl : lv_has ls nL (xlm ad l)) (hk : xok Lv l st) (h : xs1 nL (.lstore_n n) pc l st = some (pc2, l2, st2)) (k : ∀ ls2 : Array Slot, lv_has ls2 nL (xlm ad l2) → xok Lv l2 st2 → W p l0 e R s m args below meth c H locs cells slots Q (F0 m pc2 ls2 (st2.map (xc ad)))) : W p l0 e R s m args below meth c H locs cells slots Q (F0 m pc ls (st.map (xc ad))) := by
  simp only [xs1] at h
  split at h
  next =>
    split at h
    next hg =>
      cases h
      exact lv_lstore_n hx hb hd rfl hl hg (xst2_map ad l _ (.inl (.long _))) (fun ls2 hl2 => k ls2 hl2 (xok_2 (xok_tl hk) _ (h0 _)))
    next => cases h
  next => cases h
theorem xs_lstore {Lv : xV → Prop} {l l2 : xL} {st st2 : List xV} {nL pc2 : Nat} (h0 : ∀ v, Lv (.inl v)) (hx : p.tables.exec = Jvm.exec) (hb : c.code = cc) {n : Nat} (hd : decode cc pc = .ok (.lstore n, 2)) (hl : lv_has ls nL (xlm ad l)) (hk : xok Lv l st) (h : xs1 nL (.lstore n) pc l st = some (pc2, l2, st2)) (k : ∀ ls2 : Array Slot, lv_has ls2 nL (xlm ad l2) → xok Lv l2 st2 → W p l0 e R s m args below meth c H locs cells slots Q (F0 m pc2 ls2 (st2.map (xc ad)))) : W p l0 e R s m args below meth c H locs cells slots Q (F0 m pc ls (st.map (xc ad))) := by
  simp only [xs1] at h
  split at h
  next =>
    split at h
    next hg =>
      cases h
      exact lv_lstore hx hb hd hl hg (xst2_map ad l _ (.inl (.long _))) (fun ls2 hl2 => k ls2 hl2 (xok_2 (xok_tl hk) _ (h0 _)))
    next => cases h
  next => cases h
theorem xs_fstore_n {Lv : xV → Prop} {l l2 : xL} {st st2 : List xV} {nL pc2 : Nat} (h0 : ∀ v, Lv (.inl v)) (hx : p.tables.exec = Jvm.exec) (hb : c.code = cc) {n : Fin 4} (hd : decode cc pc = .ok (.fstore_n n, 1)) (hl : lv_has ls nL (xlm ad l)) (hk : xok Lv l st) (h : xs1 nL (.fstore_n n) pc l st = some (pc2, l2, st2)) (k : ∀ ls2 : Array Slot, lv_has ls2 nL (xlm ad l2) → xok Lv l2 st2 → W p l0 e R s m args below meth c H locs cells slots Q (F0 m pc2 ls2 (st2.map (xc ad)))) : W p l0 e R s m args below meth c H locs cells slots Q (F0 m pc ls (st.map (xc ad))) := by
  simp only [xs1] at h
  split at h
  next =>
    split at h
    next hg =>
      cases h
      exact lv_fstore_n hx hb hd rfl hl hg (xst1_map ad l _ (.inl (.float _))) (fun ls2 hl2 => k ls2 hl2 (xok_1 (xok_tl hk) _ (h0 _)))
    next => cases h
  next => cases h
theorem xs_fstore {Lv : xV → Prop} {l l2 : xL} {st st2 : List xV} {nL pc2 : Nat} (h0 : ∀ v, Lv (.inl v)) (hx : p.tables.exec = Jvm.exec) (hb : c.code = cc) {n : Nat} (hd : decode cc pc = .ok (.fstore n, 2)) (hl : lv_has ls nL (xlm ad l)) (hk : xok Lv l st) (h : xs1 nL (.fstore n) pc l st = some (pc2, l2, st2)) (k : ∀ ls2 : Array Slot, lv_has ls2 nL (xlm ad l2) → xok Lv l2 st2 → W p l0 e R s m args below meth c H locs cells slots Q (F0 m pc2 ls2 (st2.map (xc ad)))) : W p l0 e R s m args below meth c H locs cells slots Q (F0 m pc ls (st.map (xc ad))) := by
  simp only [xs1] at h
  split at h
  next =>
    split at h
    next hg =>
      cases h
      exact lv_fstore hx hb hd hl hg (xst1_map ad l _ (.inl (.float _))) (fun ls2 hl2 => k ls2 hl2 (xok_1 (xok_tl hk) _ (h0 _)))
    next => cases h
  next => cases h
theorem xs_dstore_n {Lv : xV → Prop} {l l2 : xL} {st st2 : List xV} {nL pc2 : Nat} (h0 : ∀ v, Lv (.inl v)) (hx : p.tables.exec = Jvm.exec) (hb : c.code = cc) {n : Fin 4} (hd : decode cc pc = .ok (.dstore_n n, 1)) (hl : lv_has ls nL (xlm ad l)) (hk : xok Lv l st) (h : xs1 nL (.dstore_n n) pc l st = some (pc2, l2, st2)) (k : ∀ ls2 : Array Slot, lv_has ls2 nL (xlm ad l2) → xok Lv l2 st2 → W p l0 e R s m args below meth c H locs cells slots Q (F0 m pc2 ls2 (st2.map (xc ad)))) : W p l0 e R s m args below meth c H locs cells slots Q (F0 m pc ls (st.map (xc ad))) := by
  simp only [xs1] at h
  split at h
  next =>
    split at h
    next hg =>
      cases h
      exact lv_dstore_n hx hb hd rfl hl hg (xst2_map ad l _ (.inl (.double _))) (fun ls2 hl2 => k ls2 hl2 (xok_2 (xok_tl hk) _ (h0 _)))
    next => cases h
  next => cases h
theorem xs_dstore {Lv : xV → Prop} {l l2 : xL} {st st2 : List xV} {nL pc2 : Nat} (h0 : ∀ v, Lv (.inl v)) (hx : p.tables.exec = Jvm.exec) (hb : c.code = cc) {n : Nat} (hd : decode cc pc = .ok (.dstore n, 2)) (hl : lv_has ls nL (xlm ad l)) (hk : xok Lv l st) (h : xs1 nL (.dstore n) pc l st = some (pc2, l2, st2)) (k : ∀ ls2 : Array Slot, lv_has ls2 nL (xlm ad l2) → xok Lv l2 st2 → W p l0 e R s m args below meth c H locs cells slots Q (F0 m pc2 ls2 (st2.map (xc ad)))) : W p l0 e R s m args below meth c H locs cells slots Q (F0 m pc ls (st.map (xc ad))) := by
  simp only [xs1] at h
  split at h
  next =>
    split at h
    next hg =>
      cases h
      exact lv_dstore hx hb hd hl hg (xst2_map ad l _ (.inl (.double _))) (fun ls2 hl2 => k ls2 hl2 (xok_2 (xok_tl hk) _ (h0 _)))
    next => cases h
  next => cases h
theorem xs_astore_n {Lv : xV → Prop} {l l2 : xL} {st st2 : List xV} {nL pc2 : Nat} (h0 : ∀ v, Lv (.inl v)) (hx : p.tables.exec = Jvm.exec) (hb : c.code = cc) {n : Fin 4} (hd : decode cc pc = .ok (.astore_n n, 1)) (hl : lv_has ls nL (xlm ad l)) (hk : xok Lv l st) (h : xs1 nL (.astore_n n) pc l st = some (pc2, l2, st2)) (k : ∀ ls2 : Array Slot, lv_has ls2 nL (xlm ad l2) → xok Lv l2 st2 → W p l0 e R s m args below meth c H locs cells slots Q (F0 m pc2 ls2 (st2.map (xc ad)))) : W p l0 e R s m args below meth c H locs cells slots Q (F0 m pc ls (st.map (xc ad))) := by
  simp only [xs1] at h
  split at h
  next =>
    split at h
    next hg =>
      cases h
      exact lv_astore_nN hx hb hd rfl hl hg (xst1_map ad l _ (.inl .null)) (fun ls2 hl2 => k ls2 hl2 (xok_1 (xok_tl hk) _ (h0 _)))
    next => cases h
  next q r =>
    split at h
    next hg =>
      cases h
      exact lv_astore_n hx hb hd rfl hl hg (xst1_map ad l _ (.inr q)) (fun ls2 hl2 => k ls2 hl2 (xok_1 (xok_tl hk) _ (xok_hd hk)))
    next => cases h
  next => cases h
theorem xs_astore {Lv : xV → Prop} {l l2 : xL} {st st2 : List xV} {nL pc2 : Nat} (h0 : ∀ v, Lv (.inl v)) (hx : p.tables.exec = Jvm.exec) (hb : c.code = cc) {n : Nat} (hd : decode cc pc = .ok (.astore n, 2)) (hl : lv_has ls nL (xlm ad l)) (hk : xok Lv l st) (h : xs1 nL (.astore n) pc l st = some (pc2, l2, st2)) (k : ∀ ls2 : Array Slot, lv_has ls2 nL (xlm ad l2) → xok Lv l2 st2 → W p l0 e R s m args below meth c H locs cells slots Q (F0 m pc2 ls2 (st2.map (xc ad)))) : W p l0 e R s m args below meth c H locs cells slots Q (F0 m pc ls (st.map (xc ad))) := by
  simp only [xs1] at h
  split at h
  next =>
    split at h
    next hg =>
      cases h
      exact lv_astoreN hx hb hd hl hg (xst1_map ad l _ (.inl .null)) (fun ls2 hl2 => k ls2 hl2 (xok_1 (xok_tl hk) _ (h0 _)))
    next => cases h
  next q r =>
    split at h
    next hg =>
      cases h
      exact lv_astore hx hb hd hl hg (xst1_map ad l _ (.inr q)) (fun ls2 hl2 => k ls2 hl2 (xok_1 (xok_tl hk) _ (xok_hd hk)))
    next => cases h
  next => cases h
theorem xs_iinc {Lv : xV → Prop} {l l2 : xL} {st st2 : List xV} {nL pc2 : Nat} (h0 : ∀ v, Lv (.inl v)) (hx : p.tables.exec = Jvm.exec) (hb : c.code = cc) {i : Nat} {n : Int} (hd : decode cc pc = .ok (.iinc i n, 3)) (hl : lv_has ls nL (xlm ad l)) (hk : xok Lv l st) (h : xs1 nL (.iinc i n) pc l st = some (pc2, l2, st2)) (k : ∀ ls2 : Array Slot, lv_has ls2 nL (xlm ad l2) → xok Lv l2 st2 → W p l0 e R s m args below meth c H locs cells slots Q (F0 m pc2 ls2 (st2.map (xc ad)))) : W p l0 e R s m args below meth c H locs cells slots Q (F0 m pc ls (st.map (xc ad))) := by
  simp only [xs1] at h
  split at h
  next e0 =>
    split at h
    next hg =>
      cases h
      obtain ⟨k0, hk0⟩ := List.getElem?_of_mem (xl_mem e0)
      exact lv_iinc hx hb hd hl (k := k0) (by rw [List.getElem?_map, hk0]; rfl) rfl hg (xst1_map ad l _ (.inl (.int _))) (fun ls2 hl2 => k ls2 hl2 (xok_1 hk _ (h0 _)))
    next => cases h
  next => cases h
theorem xs_goto {Lv : xV → Prop} {l l2 : xL} {st st2 : List xV} {nL pc2 : Nat} (h0 : ∀ v, Lv (.inl v)) (hx : p.tables.exec = Jvm.exec) (hb : c.code = cc) {off : Int} (hd : decode cc pc = .ok (.goto off, 3)) (hl : lv_has ls nL (xlm ad l)) (hk : xok Lv l st) (h : xs1 nL (.goto off) pc l st = some (pc2, l2, st2)) (k : ∀ ls2 : Array Slot, lv_has ls2 nL (xlm ad l2) → xok Lv l2 st2 → W p l0 e R s m args below meth c H locs cells slots Q (F0 m pc2 ls2 (st2.map (xc ad)))) : W p l0 e R s m args below meth c H locs cells slots Q (F0 m pc ls (st.map (xc ad))) := by
  simp only [xs1] at h
  split at h
  next hg =>
    cases h
    exact lv_goto hx hb hd (Int.toNat_of_nonneg hg).symm (k _ hl hk)
  next => cases h
theorem xs_ifnull {Lv : xV → Prop} {l l2 : xL} {st st2 : List xV} {nL pc2 : Nat} (h0 : ∀ v, Lv (.inl v)) (hx : p.tables.exec = Jvm.exec) (hb : c.code = cc) {off : Int} (hd : decode cc pc = .ok (.ifnull off, 3)) (hl : lv_has ls nL (xlm ad l)) (hk : xok Lv l st) (h : xs1 nL (.ifnull off) pc l st = some (pc2, l2, st2)) (k : ∀ ls2 : Array Slot, lv_has ls2 nL (xlm ad l2) → xok Lv l2 st2 → W p l0 e R s m args below meth c H locs cells slots Q (F0 m pc2 ls2 (st2.map (xc ad)))) : W p l0 e R s m args below meth c H locs cells slots Q (F0 m pc ls (st.map (xc ad))) := by
  simp only [xs1] at h
  split at h
  next =>
    split at h
    next hg =>
      cases h
      exact lv_ifnullN hx hb hd (Int.toNat_of_nonneg hg).symm (k _ hl (xok_tl hk))
    next => cases h
  next =>
    cases h
    exact lv_ifnull hx hb hd (k _ hl (xok_tl hk))
  next => cases h
theorem xs_ifnonnull {Lv : xV → Prop} {l l2 : xL} {st st2 : List xV} {nL pc2 : Nat} (h0 : ∀ v, Lv (.inl v)) (hx : p.tables.exec = Jvm.exec) (hb : c.code = cc) {off : Int} (hd : decode cc pc = .ok (.ifnonnull off, 3)) (hl : lv_has ls nL (xlm ad l)) (hk : xok Lv l st) (h : xs1 nL (.ifnonnull off) pc l st = some (pc2, l2, st2)) (k : ∀ ls2 : Array Slot, lv_has ls2 nL (xlm ad l2) → xok Lv l2 st2 → W p l0 e R s m args below meth c H locs cells slots Q (F0 m pc2 ls2 (st2.map (xc ad)))) : W p l0 e R s m args below meth c H locs cells slots Q (F0 m pc ls (st.map (xc ad))) := by
  simp only [xs1] at h
  split at h
  next =>
    cases h
    exact lv_ifnonnullN hx hb hd (k _ hl (xok_tl hk))
  next =>
    split at h
    next hg =>
      cases h
      exact lv_ifnonnull hx hb hd (Int.toNat_of_nonneg hg).symm (k _ hl (xok_tl hk))
    next => cases h
  next => cases h
set_option maxHeartbeats 4000000 in
/-- each plain instruction is the machine's own -/
theorem xs1_ok {Lv : xV → Prop} {l l2 : xL} {st st2 : List xV} {nL pc2 : Nat} {i : Instr} (h0 : ∀ v, Lv (.inl v)) (hx : p.tables.exec = Jvm.exec) (hb : c.code = cc) (hd : decode cc pc = .ok (i, xlen i)) (hl : lv_has ls nL (xlm ad l)) (hk : xok Lv l st) (h : xs1 nL i pc l st = some (pc2, l2, st2)) (k : ∀ ls2 : Array Slot, lv_has ls2 nL (xlm ad l2) → xok Lv l2 st2 → W p l0 e R s m args below meth c H locs cells slots Q (F0 m pc2 ls2 (st2.map (xc ad)))) : W p l0 e R s m args below meth c H locs cells slots Q (F0 m pc ls (st.map (xc ad))) := by
  cases i
  case aconst_null => exact xs_aconst_null h0 hx hb hd hl hk h k
  case iconst _ => exact xs_iconst h0 hx hb hd hl hk h k
  case bipush _ => exact xs_bipush h0 hx hb hd hl hk h k
  case sipush _ => exact xs_sipush h0 hx hb hd hl hk h k
  case lconst _ => exact xs_lconst h0 hx hb hd hl hk h k
  case iadd => exact xs_iadd h0 hx hb hd hl hk h k
  case isub => exact xs_isub h0 hx hb hd hl hk h k
  case imul => exact xs_imul h0 hx hb hd hl hk h k
  case iand => exact xs_iand h0 hx hb hd hl hk h k
  case ior => exact xs_ior h0 hx hb hd hl hk h k
  case ixor => exact xs_ixor h0 hx hb hd hl hk h k
  case ishl => exact xs_ishl h0 hx hb hd hl hk h k
  case ishr => exact xs_ishr h0 hx hb hd hl hk h k
  case iushr => exact xs_iushr h0 hx hb hd hl hk h k
  case idiv => exact xs_idiv h0 hx hb hd hl hk h k
  case irem => exact xs_irem h0 hx hb hd hl hk h k
  case ineg => exact xs_ineg h0 hx hb hd hl hk h k
  case ladd => exact xs_ladd h0 hx hb hd hl hk h k
  case lsub => exact xs_lsub h0 hx hb hd hl hk h k
  case lmul => exact xs_lmul h0 hx hb hd hl hk h k
  case land => exact xs_land h0 hx hb hd hl hk h k
  case lor => exact xs_lor h0 hx hb hd hl hk h k
  case lxor => exact xs_lxor h0 hx hb hd hl hk h k
  case ldiv => exact xs_ldiv h0 hx hb hd hl hk h k
  case lrem => exact xs_lrem h0 hx hb hd hl hk h k
  case lneg => exact xs_lneg h0 hx hb hd hl hk h k
  case lcmp => exact xs_lcmp h0 hx hb hd hl hk h k
  case lshl => exact xs_lshl h0 hx hb hd hl hk h k
  case lshr => exact xs_lshr h0 hx hb hd hl hk h k
  case lushr => exact xs_lushr h0 hx hb hd hl hk h k
  case i2l => exact xs_i2l h0 hx hb hd hl hk h k
  case l2i => exact xs_l2i h0 hx hb hd hl hk h k
  case i2b => exact xs_i2b h0 hx hb hd hl hk h k
  case i2s => exact xs_i2s h0 hx hb hd hl hk h k
  case i2c => exact xs_i2c h0 hx hb hd hl hk h k
  case fadd => exact xs_fadd h0 hx hb hd hl hk h k
  case fsub => exact xs_fsub h0 hx hb hd hl hk h k
  case fmul => exact xs_fmul h0 hx hb hd hl hk h k
  case fdiv => exact xs_fdiv h0 hx hb hd hl hk h k
  case frem => exact xs_frem h0 hx hb hd hl hk h k
  case dadd => exact xs_dadd h0 hx hb hd hl hk h k
  case dsub => exact xs_dsub h0 hx hb hd hl hk h k
  case dmul => exact xs_dmul h0 hx hb hd hl hk h k
  case ddiv => exact xs_ddiv h0 hx hb hd hl hk h k
  case drem => exact xs_drem h0 hx hb hd hl hk h k
  case fneg => exact xs_fneg h0 hx hb hd hl hk h k
  case dneg => exact xs_dneg h0 hx hb hd hl hk h k
  case fcmp _ => exact xs_fcmp h0 hx hb hd hl hk h k
  case dcmp _ => exact xs_dcmp h0 hx hb hd hl hk h k
  case i2f => exact xs_i2f h0 hx hb hd hl hk h k
  case l2f => exact xs_l2f h0 hx hb hd hl hk h k
  case f2i => exact xs_f2i h0 hx hb hd hl hk h k
  case f2l => exact xs_f2l h0 hx hb hd hl hk h k
  case i2d => exact xs_i2d h0 hx hb hd hl hk h k
  case l2d => exact xs_l2d h0 hx hb hd hl hk h k
  case d2i => exact xs_d2i h0 hx hb hd hl hk h k
  case d2l => exact xs_d2l h0 hx hb hd hl hk h k
  case f2d => exact xs_f2d h0 hx hb hd hl hk h k
  case d2f => exact xs_d2f h0 hx hb hd hl hk h k
  case dup => exact xs_dup h0 hx hb hd hl hk h k
  case pop => exact xs_pop h0 hx hb hd hl hk h k
  case dup_x1 => exact xs_dup_x1 h0 hx hb hd hl hk h k
  case dup_x2 => exact xs_dup_x2 h0 hx hb hd hl hk h k
  case dup2 => exact xs_dup2 h0 hx hb hd hl hk h k
  case iload_n _ => exact xs_iload_n h0 hx hb hd hl hk h k
  case iload _ => exact xs_iload h0 hx hb hd hl hk h k
  case lload_n _ => exact xs_lload_n h0 hx hb hd hl hk h k
  case lload _ => exact xs_lload h0 hx hb hd hl hk h k
  case fload_n _ => exact xs_fload_n h0 hx hb hd hl hk h k
  case fload _ => exact xs_fload h0 hx hb hd hl hk h k
  case dload_n _ => exact xs_dload_n h0 hx hb hd hl hk h k
  case dload _ => exact xs_dload h0 hx hb hd hl hk h k
  case aload_n _ => exact xs_aload_n h0 hx hb hd hl hk h k
  case aload _ => exact xs_aload h0 hx hb hd hl hk h k
  case istore_n _ => exact xs_istore_n h0 hx hb hd hl hk h k
  case istore _ => exact xs_istore h0 hx hb hd hl hk h k
  case lstore_n _ => exact xs_lstore_n h0 hx hb hd hl hk h k
  case lstore _ => exact xs_lstore h0 hx hb hd hl hk h k
  case fstore_n _ => exact xs_fstore_n h0 hx hb hd hl hk h k
  case fstore _ => exact xs_fstore h0 hx hb hd hl hk h k
  case dstore_n _ => exact xs_dstore_n h0 hx hb hd hl hk h k
  case dstore _ => exact xs_dstore h0 hx hb hd hl hk h k
  case astore_n _ => exact xs_astore_n h0 hx hb hd hl hk h k
  case astore _ => exact xs_astore h0 hx hb hd hl hk h k
  case iinc _ _ => exact xs_iinc h0 hx hb hd hl hk h k
  case goto _ => exact xs_goto h0 hx hb hd hl hk h k
  case ifnull _ => exact xs_ifnull h0 hx hb hd hl hk h k
  case ifnonnull _ => exact xs_ifnonnull h0 hx hb hd hl hk h k
  case fconst n =>
    match n, hd, h with
    | 0, hd, h => exact xs_fconst0 h0 hx hb hd hl hk h k
    | 1, hd, h => exact xs_fconst1 h0 hx hb hd hl hk h k
    | 2, hd, h => exact xs_fconst2 h0 hx hb hd hl hk h k
  case dconst n =>
    match n, hd, h with
    | 0, hd, h => exact xs_dconst0 h0 hx hb hd hl hk h k
    | 1, hd, h => exact xs_dconst1 h0 hx hb hd hl hk h k
  all_goals (cases h)
end XJ
