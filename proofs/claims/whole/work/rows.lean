section
set_option maxRecDepth 20000
section XJ
/-- a value of the small machine: a number, null or a raw address; or an object by its name -/
abbrev xV : Type := Value ⊕ (Nat × Nat)
/-- an object: class and fields; or kind, length and content of an array -/
abbrev xO : Type := (Nat × List xV) ⊕ (Nat × Nat × (Nat → xV))
abbrev xL : Type := List (Nat × xV)
abbrev xH : Type := Nat × Nat → Option xO
/-- names to be given, cells made, slots made, heap -/
abbrev xA : Type := List (Nat × Nat) × Nat × Nat × xH
abbrev xN : Type := Nat × Nat → Nat
def xcat : xV → Nat
  | .inl v => v.category
  | .inr _ => 1
def xc (ad : xN) : xV → Value
  | .inl v => v
  | .inr q => .ref (ad q)
theorem xc_cat (ad : xN) (v : xV) : (xc ad v).category = xcat v := by cases v <;> rfl
abbrev xlm (ad : xN) (l : xL) : List (Nat × Value) := l.map (fun q => (q.1, xc ad q.2))
def xl : xL → Nat → Option xV
  | [], _ => none
  | q :: r, i => if q.1 = i then some q.2 else xl r i
theorem xl_mem {l : xL} {i : Nat} {v : xV} (h : xl l i = some v) : (i, v) ∈ l := by
  induction l with
  | nil => cases h
  | cons q r ih =>
    unfold xl at h
    split at h
    next e => cases h; subst e; exact List.mem_cons_self
    next e => exact List.mem_cons_of_mem _ (ih h)
theorem xl_at {ls : Array Slot} {nL : Nat} {ad : xN} {l : xL} (hl : lv_has ls nL (xlm ad l)) {i : Nat} {v : xV} (h : xl l i = some v) : ls[i]? = some (.val (xc ad v)) :=
  hl.2.2 (i, xc ad v) (List.mem_map.mpr ⟨(i, v), xl_mem h, rfl⟩)
def xst1 (l : xL) (i : Nat) (v : xV) : xL := (i, v) :: l.filter (fun q => !(q.1 == i) && !(q.1 + 1 == i && xcat q.2 == 2))
def xst2 (l : xL) (i : Nat) (v : xV) : xL := (i, v) :: l.filter (fun q => !(q.1 == i) && (!(q.1 == i + 1) && !(q.1 + 1 == i && xcat q.2 == 2)))
theorem xst1_map (ad : xN) (l : xL) (i : Nat) (v : xV) : (i, xc ad v) :: (xlm ad l).filter (fun q => !(q.1 == i) && !(q.1 + 1 == i && q.2.category == 2)) = xlm ad (xst1 l i v) := by
  unfold xst1 xlm
  rw [List.map_cons, List.filter_map]
  congr 2
  refine List.filter_congr fun q _ => ?_
  simp only [Function.comp, xc_cat]
theorem xst2_map (ad : xN) (l : xL) (i : Nat) (v : xV) : (i, xc ad v) :: (xlm ad l).filter (fun q => !(q.1 == i) && (!(q.1 == i + 1) && !(q.1 + 1 == i && q.2.category == 2))) = xlm ad (xst2 l i v) := by
  unfold xst2 xlm
  rw [List.map_cons, List.filter_map]
  congr 2
  refine List.filter_congr fun q _ => ?_
  simp only [Function.comp, xc_cat]
/-- all values of a frame are live -/
def xok (Lv : xV → Prop) (l : xL) (st : List xV) : Prop := (∀ q ∈ l, Lv q.2) ∧ ∀ v ∈ st, Lv v
theorem xok_l {Lv : xV → Prop} {l : xL} {st : List xV} (h : xok Lv l st) {i : Nat} {v : xV} (e : xl l i = some v) : Lv v := h.1 _ (xl_mem e)
theorem xok_push {Lv : xV → Prop} {l : xL} {st : List xV} (h : xok Lv l st) {v : xV} (e : Lv v) : xok Lv l (v :: st) := ⟨h.1, List.forall_mem_cons.mpr ⟨e, h.2⟩⟩
theorem xok_tl {Lv : xV → Prop} {l : xL} {st : List xV} {v : xV} (h : xok Lv l (v :: st)) : xok Lv l st := ⟨h.1, (List.forall_mem_cons.mp h.2).2⟩
theorem xok_hd {Lv : xV → Prop} {l : xL} {st : List xV} {v : xV} (h : xok Lv l (v :: st)) : Lv v := (List.forall_mem_cons.mp h.2).1
theorem xok_1 {Lv : xV → Prop} {l : xL} {st : List xV} (h : xok Lv l st) (i : Nat) {v : xV} (e : Lv v) : xok Lv (xst1 l i v) st :=
  ⟨List.forall_mem_cons.mpr ⟨e, fun q hq => h.1 q (List.mem_filter.mp hq).1⟩, h.2⟩
theorem xok_2 {Lv : xV → Prop} {l : xL} {st : List xV} (h : xok Lv l st) (i : Nat) {v : xV} (e : Lv v) : xok Lv (xst2 l i v) st :=
  ⟨List.forall_mem_cons.mpr ⟨e, fun q hq => h.1 q (List.mem_filter.mp hq).1⟩, h.2⟩

/-- one plain instruction: the next place, locals, stack -/
def xs1 (nL : Nat) (i : Instr) (pc : Nat) (l : xL) (st : List xV) : Option (Nat × xL × List xV) :=
  match i with
  | .aconst_null => some (pc + 1, l, .inl .null :: st)
  | .iconst n => some (pc + 1, l, .inl (.int (Int32.ofInt n)) :: st)
  | .bipush n => some (pc + 2, l, .inl (.int (Int8.ofInt n).toInt32) :: st)
  | .sipush n => some (pc + 3, l, .inl (.int (Int16.ofInt n).toInt32) :: st)
  | .lconst n => some (pc + 1, l, .inl (.long (Int64.ofNat n)) :: st)
  | .fconst 0 => some (pc + 1, l, .inl (.float FP.fconst0) :: st)
  | .fconst 1 => some (pc + 1, l, .inl (.float FP.fconst1) :: st)
  | .fconst 2 => some (pc + 1, l, .inl (.float FP.fconst2) :: st)
  | .dconst 0 => some (pc + 1, l, .inl (.double FP.dconst0) :: st)
  | .dconst 1 => some (pc + 1, l, .inl (.double FP.dconst1) :: st)
  | .iadd => match st with
    | .inl (.int y) :: .inl (.int x) :: r => some (pc + 1, l, .inl (.int (x + y)) :: r)
    | _ => none
  | .isub => match st with
    | .inl (.int y) :: .inl (.int x) :: r => some (pc + 1, l, .inl (.int (x - y)) :: r)
    | _ => none
  | .imul => match st with
    | .inl (.int y) :: .inl (.int x) :: r => some (pc + 1, l, .inl (.int (x * y)) :: r)
    | _ => none
  | .iand => match st with
    | .inl (.int y) :: .inl (.int x) :: r => some (pc + 1, l, .inl (.int (x &&& y)) :: r)
    | _ => none
  | .ior => match st with
    | .inl (.int y) :: .inl (.int x) :: r => some (pc + 1, l, .inl (.int (x ||| y)) :: r)
    | _ => none
  | .ixor => match st with
    | .inl (.int y) :: .inl (.int x) :: r => some (pc + 1, l, .inl (.int (x ^^^ y)) :: r)
    | _ => none
  | .ishl => match st with
    | .inl (.int y) :: .inl (.int x) :: r => some (pc + 1, l, .inl (.int (x <<< (y &&& 31))) :: r)
    | _ => none
  | .ishr => match st with
    | .inl (.int y) :: .inl (.int x) :: r => some (pc + 1, l, .inl (.int (x >>> (y &&& 31))) :: r)
    | _ => none
  | .iushr => match st with
    | .inl (.int y) :: .inl (.int x) :: r => some (pc + 1, l, .inl (.int (x.toUInt32 >>> (y.toUInt32 &&& Int32.toUInt32 31)).toInt32) :: r)
    | _ => none
  | .idiv => match st with
    | .inl (.int y) :: .inl (.int x) :: r => if ¬ y = 0 then some (pc + 1, l, .inl (.int (x / y)) :: r) else none
    | _ => none
  | .irem => match st with
    | .inl (.int y) :: .inl (.int x) :: r => if ¬ y = 0 then some (pc + 1, l, .inl (.int (x - x / y * y)) :: r) else none
    | _ => none
  | .ineg => match st with
    | .inl (.int x) :: r => some (pc + 1, l, .inl (.int (-x)) :: r)
    | _ => none
  | .ladd => match st with
    | .inl (.long y) :: .inl (.long x) :: r => some (pc + 1, l, .inl (.long (x + y)) :: r)
    | _ => none
  | .lsub => match st with
    | .inl (.long y) :: .inl (.long x) :: r => some (pc + 1, l, .inl (.long (x - y)) :: r)
    | _ => none
  | .lmul => match st with
    | .inl (.long y) :: .inl (.long x) :: r => some (pc + 1, l, .inl (.long (x * y)) :: r)
    | _ => none
  | .land => match st with
    | .inl (.long y) :: .inl (.long x) :: r => some (pc + 1, l, .inl (.long (x &&& y)) :: r)
    | _ => none
  | .lor => match st with
    | .inl (.long y) :: .inl (.long x) :: r => some (pc + 1, l, .inl (.long (x ||| y)) :: r)
    | _ => none
  | .lxor => match st with
    | .inl (.long y) :: .inl (.long x) :: r => some (pc + 1, l, .inl (.long (x ^^^ y)) :: r)
    | _ => none
  | .ldiv => match st with
    | .inl (.long y) :: .inl (.long x) :: r => if ¬ y = 0 then some (pc + 1, l, .inl (.long (x / y)) :: r) else none
    | _ => none
  | .lrem => match st with
    | .inl (.long y) :: .inl (.long x) :: r => if ¬ y = 0 then some (pc + 1, l, .inl (.long (x - x / y * y)) :: r) else none
    | _ => none
  | .lneg => match st with
    | .inl (.long x) :: r => some (pc + 1, l, .inl (.long (-x)) :: r)
    | _ => none
  | .lcmp => match st with
    | .inl (.long y) :: .inl (.long x) :: r => some (pc + 1, l, .inl (.int (lg_cmp x y)) :: r)
    | _ => none
  | .lshl => match st with
    | .inl (.int y) :: .inl (.long x) :: r => some (pc + 1, l, .inl (.long (x <<< (y.toInt64 &&& 63))) :: r)
    | _ => none
  | .lshr => match st with
    | .inl (.int y) :: .inl (.long x) :: r => some (pc + 1, l, .inl (.long (x >>> (y.toInt64 &&& 63))) :: r)
    | _ => none
  | .lushr => match st with
    | .inl (.int y) :: .inl (.long x) :: r => some (pc + 1, l, .inl (.long (x.toUInt64 >>> (y.toInt64.toUInt64 &&& Int64.toUInt64 63)).toInt64) :: r)
    | _ => none
  | .i2l => match st with
    | .inl (.int x) :: r => some (pc + 1, l, .inl (.long x.toInt64) :: r)
    | _ => none
  | .l2i => match st with
    | .inl (.long x) :: r => some (pc + 1, l, .inl (.int x.toInt32) :: r)
    | _ => none
  | .i2b => match st with
    | .inl (.int x) :: r => some (pc + 1, l, .inl (.int x.toInt8.toInt32) :: r)
    | _ => none
  | .i2s => match st with
    | .inl (.int x) :: r => some (pc + 1, l, .inl (.int x.toInt16.toInt32) :: r)
    | _ => none
  | .i2c => match st with
    | .inl (.int x) :: r => some (pc + 1, l, .inl (.int (x.toUInt32 % 65536).toInt32) :: r)
    | _ => none
  | .fadd => match st with
    | .inl (.float y) :: .inl (.float x) :: r => if FP.fadd x y &&& 0x7fffffff ≤ 0x7f800000 then some (pc + 1, l, .inl (.float (FP.fadd x y)) :: r) else none
    | _ => none
  | .fsub => match st with
    | .inl (.float y) :: .inl (.float x) :: r => if FP.fsub x y &&& 0x7fffffff ≤ 0x7f800000 then some (pc + 1, l, .inl (.float (FP.fsub x y)) :: r) else none
    | _ => none
  | .fmul => match st with
    | .inl (.float y) :: .inl (.float x) :: r => if FP.fmul x y &&& 0x7fffffff ≤ 0x7f800000 then some (pc + 1, l, .inl (.float (FP.fmul x y)) :: r) else none
    | _ => none
  | .fdiv => match st with
    | .inl (.float y) :: .inl (.float x) :: r => if FP.fdiv x y &&& 0x7fffffff ≤ 0x7f800000 then some (pc + 1, l, .inl (.float (FP.fdiv x y)) :: r) else none
    | _ => none
  | .frem => match st with
    | .inl (.float y) :: .inl (.float x) :: r => if FP.frem x y &&& 0x7fffffff ≤ 0x7f800000 then some (pc + 1, l, .inl (.float (FP.frem x y)) :: r) else none
    | _ => none
  | .dadd => match st with
    | .inl (.double y) :: .inl (.double x) :: r => if FP.dadd x y &&& 0x7fffffffffffffff ≤ 0x7ff0000000000000 then some (pc + 1, l, .inl (.double (FP.dadd x y)) :: r) else none
    | _ => none
  | .dsub => match st with
    | .inl (.double y) :: .inl (.double x) :: r => if FP.dsub x y &&& 0x7fffffffffffffff ≤ 0x7ff0000000000000 then some (pc + 1, l, .inl (.double (FP.dsub x y)) :: r) else none
    | _ => none
  | .dmul => match st with
    | .inl (.double y) :: .inl (.double x) :: r => if FP.dmul x y &&& 0x7fffffffffffffff ≤ 0x7ff0000000000000 then some (pc + 1, l, .inl (.double (FP.dmul x y)) :: r) else none
    | _ => none
  | .ddiv => match st with
    | .inl (.double y) :: .inl (.double x) :: r => if FP.ddiv x y &&& 0x7fffffffffffffff ≤ 0x7ff0000000000000 then some (pc + 1, l, .inl (.double (FP.ddiv x y)) :: r) else none
    | _ => none
  | .drem => match st with
    | .inl (.double y) :: .inl (.double x) :: r => if FP.drem x y &&& 0x7fffffffffffffff ≤ 0x7ff0000000000000 then some (pc + 1, l, .inl (.double (FP.drem x y)) :: r) else none
    | _ => none
  | .fneg => match st with
    | .inl (.float x) :: r => some (pc + 1, l, .inl (.float (FP.fneg x)) :: r)
    | _ => none
  | .dneg => match st with
    | .inl (.double x) :: r => some (pc + 1, l, .inl (.double (FP.dneg x)) :: r)
    | _ => none
  | .fcmp o => match st with
    | .inl (.float y) :: .inl (.float x) :: r => some (pc + 1, l, .inl (.int (Op.cmpValue (FP.fcmp x y) o)) :: r)
    | _ => none
  | .dcmp o => match st with
    | .inl (.double y) :: .inl (.double x) :: r => some (pc + 1, l, .inl (.int (Op.cmpValue (FP.dcmp x y) o)) :: r)
    | _ => none
  | .i2f => match st with
    | .inl (.int x) :: r => some (pc + 1, l, .inl (.float (FP.i2f x)) :: r)
    | _ => none
  | .l2f => match st with
    | .inl (.long x) :: r => some (pc + 1, l, .inl (.float (FP.l2f x)) :: r)
    | _ => none
  | .f2i => match st with
    | .inl (.float x) :: r => some (pc + 1, l, .inl (.int (FP.f2i x)) :: r)
    | _ => none
  | .f2l => match st with
    | .inl (.float x) :: r => some (pc + 1, l, .inl (.long (FP.f2l x)) :: r)
    | _ => none
  | .i2d => match st with
    | .inl (.int x) :: r => some (pc + 1, l, .inl (.double (FP.i2d x)) :: r)
    | _ => none
  | .l2d => match st with
    | .inl (.long x) :: r => some (pc + 1, l, .inl (.double (FP.l2d x)) :: r)
    | _ => none
  | .d2i => match st with
    | .inl (.double x) :: r => some (pc + 1, l, .inl (.int (FP.d2i x)) :: r)
    | _ => none
  | .d2l => match st with
    | .inl (.double x) :: r => some (pc + 1, l, .inl (.long (FP.d2l x)) :: r)
    | _ => none
  | .f2d => match st with
    | .inl (.float x) :: r => if FP.f2d x &&& 0x7fffffffffffffff ≤ 0x7ff0000000000000 then some (pc + 1, l, .inl (.double (FP.f2d x)) :: r) else none
    | _ => none
  | .d2f => match st with
    | .inl (.double x) :: r => if FP.d2f x &&& 0x7fffffff ≤ 0x7f800000 then some (pc + 1, l, .inl (.float (FP.d2f x)) :: r) else none
    | _ => none
  | .dup => match st with
    | v :: r => if xcat v = 1 then some (pc + 1, l, v :: v :: r) else none
    | _ => none
  | .pop => match st with
    | v :: r => if xcat v = 1 then some (pc + 1, l, r) else none
    | _ => none
  | .dup_x1 => match st with
    | v :: w :: r => if xcat v = 1 ∧ xcat w = 1 then some (pc + 1, l, v :: w :: v :: r) else none
    | _ => none
  | .dup_x2 => match st with
    | v :: w :: u :: r => if xcat v = 1 ∧ xcat w = 1 ∧ xcat u = 1 then some (pc + 1, l, v :: w :: u :: v :: r) else none
    | _ => none
  | .dup2 => match st with
    | v :: w :: r => if xcat v = 1 ∧ xcat w = 1 then some (pc + 1, l, v :: w :: v :: w :: r) else none
    | _ => none
  | .iload_n n => match xl l n.val with
    | some (.inl (.int x)) => some (pc + 1, l, .inl (.int x) :: st)
    | _ => none
  | .iload n => match xl l n with
    | some (.inl (.int x)) => some (pc + 2, l, .inl (.int x) :: st)
    | _ => none
  | .lload_n n => match xl l n.val with
    | some (.inl (.long x)) => some (pc + 1, l, .inl (.long x) :: st)
    | _ => none
  | .lload n => match xl l n with
    | some (.inl (.long x)) => some (pc + 2, l, .inl (.long x) :: st)
    | _ => none
  | .fload_n n => match xl l n.val with
    | some (.inl (.float x)) => some (pc + 1, l, .inl (.float x) :: st)
    | _ => none
  | .fload n => match xl l n with
    | some (.inl (.float x)) => some (pc + 2, l, .inl (.float x) :: st)
    | _ => none
  | .dload_n n => match xl l n.val with
    | some (.inl (.double x)) => some (pc + 1, l, .inl (.double x) :: st)
    | _ => none
  | .dload n => match xl l n with
    | some (.inl (.double x)) => some (pc + 2, l, .inl (.double x) :: st)
    | _ => none
  | .aload_n n => match xl l n.val with
    | some (.inl .null) => some (pc + 1, l, .inl .null :: st)
    | some (.inl (.ref a)) => some (pc + 1, l, .inl (.ref a) :: st)
    | some (.inr q) => some (pc + 1, l, .inr q :: st)
    | _ => none
  | .aload n => match xl l n with
    | some (.inl .null) => some (pc + 2, l, .inl .null :: st)
    | some (.inl (.ref a)) => some (pc + 2, l, .inl (.ref a) :: st)
    | some (.inr q) => some (pc + 2, l, .inr q :: st)
    | _ => none
  | .istore_n n => match st with
    | .inl (.int x) :: r => if n.val < nL then some (pc + 1, xst1 l n.val (.inl (.int x)), r) else none
    | _ => none
  | .istore n => match st with
    | .inl (.int x) :: r => if n < nL then some (pc + 2, xst1 l n (.inl (.int x)), r) else none
    | _ => none
  | .lstore_n n => match st with
    | .inl (.long x) :: r => if n.val + 1 < nL then some (pc + 1, xst2 l n.val (.inl (.long x)), r) else none
    | _ => none
  | .lstore n => match st with
    | .inl (.long x) :: r => if n + 1 < nL then some (pc + 2, xst2 l n (.inl (.long x)), r) else none
    | _ => none
  | .fstore_n n => match st with
    | .inl (.float x) :: r => if n.val < nL then some (pc + 1, xst1 l n.val (.inl (.float x)), r) else none
    | _ => none
  | .fstore n => match st with
    | .inl (.float x) :: r => if n < nL then some (pc + 2, xst1 l n (.inl (.float x)), r) else none
    | _ => none
  | .dstore_n n => match st with
    | .inl (.double x) :: r => if n.val + 1 < nL then some (pc + 1, xst2 l n.val (.inl (.double x)), r) else none
    | _ => none
  | .dstore n => match st with
    | .inl (.double x) :: r => if n + 1 < nL then some (pc + 2, xst2 l n (.inl (.double x)), r) else none
    | _ => none
  | .astore_n n => match st with
    | .inl .null :: r => if n.val < nL then some (pc + 1, xst1 l n.val (.inl .null), r) else none
    | .inr q :: r => if n.val < nL then some (pc + 1, xst1 l n.val (.inr q), r) else none
    | _ => none
  | .astore n => match st with
    | .inl .null :: r => if n < nL then some (pc + 2, xst1 l n (.inl .null), r) else none
    | .inr q :: r => if n < nL then some (pc + 2, xst1 l n (.inr q), r) else none
    | _ => none
  | .iinc i n => match xl l i with
    | some (.inl (.int x)) => if i < nL then some (pc + 3, xst1 l i (.inl (.int (x + Int32.ofInt n))), st) else none
    | _ => none
  | .goto off => if 0 ≤ (pc : Int) + off then some (((pc : Int) + off).toNat, l, st) else none
  | .ifnull off => match st with
    | .inl .null :: r => if 0 ≤ (pc : Int) + off then some (((pc : Int) + off).toNat, l, r) else none
    | .inr _ :: r => some (pc + 3, l, r)
    | _ => none
  | .ifnonnull off => match st with
    | .inl .null :: r => some (pc + 3, l, r)
    | .inr _ :: r => if 0 ≤ (pc : Int) + off then some (((pc : Int) + off).toNat, l, r) else none
    | _ => none
  | _ => none
/-- how many bytes -/
def xlen : Instr → Nat
  | .aconst_null => 1
  | .iconst _ => 1
  | .bipush _ => 2
  | .sipush _ => 3
  | .lconst _ => 1
  | .fconst 0 => 1
  | .fconst 1 => 1
  | .fconst 2 => 1
  | .dconst 0 => 1
  | .dconst 1 => 1
  | .iadd => 1
  | .isub => 1
  | .imul => 1
  | .iand => 1
  | .ior => 1
  | .ixor => 1
  | .ishl => 1
  | .ishr => 1
  | .iushr => 1
  | .idiv => 1
  | .irem => 1
  | .ineg => 1
  | .ladd => 1
  | .lsub => 1
  | .lmul => 1
  | .land => 1
  | .lor => 1
  | .lxor => 1
  | .ldiv => 1
  | .lrem => 1
  | .lneg => 1
  | .lcmp => 1
  | .lshl => 1
  | .lshr => 1
  | .lushr => 1
  | .i2l => 1
  | .l2i => 1
  | .i2b => 1
  | .i2s => 1
  | .i2c => 1
  | .fadd => 1
  | .fsub => 1
  | .fmul => 1
  | .fdiv => 1
  | .frem => 1
  | .dadd => 1
  | .dsub => 1
  | .dmul => 1
  | .ddiv => 1
  | .drem => 1
  | .fneg => 1
  | .dneg => 1
  | .fcmp _ => 1
  | .dcmp _ => 1
  | .i2f => 1
  | .l2f => 1
  | .f2i => 1
  | .f2l => 1
  | .i2d => 1
  | .l2d => 1
  | .d2i => 1
  | .d2l => 1
  | .f2d => 1
  | .d2f => 1
  | .dup => 1
  | .pop => 1
  | .dup_x1 => 1
  | .dup_x2 => 1
  | .dup2 => 1
  | .iload_n _ => 1
  | .iload _ => 2
  | .lload_n _ => 1
  | .lload _ => 2
  | .fload_n _ => 1
  | .fload _ => 2
  | .dload_n _ => 1
  | .dload _ => 2
  | .aload_n _ => 1
  | .aload _ => 2
  | .istore_n _ => 1
  | .istore _ => 2
  | .lstore_n _ => 1
  | .lstore _ => 2
  | .fstore_n _ => 1
  | .fstore _ => 2
  | .dstore_n _ => 1
  | .dstore _ => 2
  | .astore_n _ => 1
  | .astore _ => 2
  | .iinc _ _ => 3
  | .goto _ => 3
  | .ifnull _ => 3
  | .ifnonnull _ => 3
  | _ => 0
variable {p : Program} {l0 : Launch} {e : Env} {R : Room} {s : State} {m : MethodId} {args : Array Value} {below : List Frame} {meth : Method} {c : Code} {H : Heap} {locs : List Loc} {cells slots : Nat} {Q : State → Prop}
variable {cc : ByteArray} {pc : Nat} {ls : Array Slot} {ad : xN}
theorem xs_aconst_null {Lv : xV → Prop} {l l2 : xL} {st st2 : List xV} {nL pc2 : Nat} (h0 : ∀ v, Lv (.inl v)) (hx : p.tables.exec = Jvm.exec) (hb : c.code = cc) (hd : decode cc pc = .ok (.aconst_null, 1)) (hl : lv_has ls nL (xlm ad l)) (hk : xok Lv l st) (h : xs1 nL (.aconst_null) pc l st = some (pc2, l2, st2)) (k : ∀ ls2 : Array Slot, lv_has ls2 nL (xlm ad l2) → xok Lv l2 st2 → W p l0 e R s m args below meth c H locs cells slots Q (F0 m pc2 ls2 (st2.map (xc ad)))) : W p l0 e R s m args below meth c H locs cells slots Q (F0 m pc ls (st.map (xc ad))) := by
  simp only [xs1] at h
  cases h
  exact lv_null hx hb hd (k _ hl (xok_push hk (h0 _)))
theorem xs_iconst {Lv : xV → Prop} {l l2 : xL} {st st2 : List xV} {nL pc2 : Nat} (h0 : ∀ v, Lv (.inl v)) (hx : p.tables.exec = Jvm.exec) (hb : c.code = cc) {n : Int} (hd : decode cc pc = .ok (.iconst n, 1)) (hl : lv_has ls nL (xlm ad l)) (hk : xok Lv l st) (h : xs1 nL (.iconst n) pc l st = some (pc2, l2, st2)) (k : ∀ ls2 : Array Slot, lv_has ls2 nL (xlm ad l2) → xok Lv l2 st2 → W p l0 e R s m args below meth c H locs cells slots Q (F0 m pc2 ls2 (st2.map (xc ad)))) : W p l0 e R s m args below meth c H locs cells slots Q (F0 m pc ls (st.map (xc ad))) := by
  simp only [xs1] at h
  cases h
  exact lv_iconst hx hb hd rfl (k _ hl (xok_push hk (h0 _)))
theorem xs_bipush {Lv : xV → Prop} {l l2 : xL} {st st2 : List xV} {nL pc2 : Nat} (h0 : ∀ v, Lv (.inl v)) (hx : p.tables.exec = Jvm.exec) (hb : c.code = cc) {n : Int} (hd : decode cc pc = .ok (.bipush n, 2)) (hl : lv_has ls nL (xlm ad l)) (hk : xok Lv l st) (h : xs1 nL (.bipush n) pc l st = some (pc2, l2, st2)) (k : ∀ ls2 : Array Slot, lv_has ls2 nL (xlm ad l2) → xok Lv l2 st2 → W p l0 e R s m args below meth c H locs cells slots Q (F0 m pc2 ls2 (st2.map (xc ad)))) : W p l0 e R s m args below meth c H locs cells slots Q (F0 m pc ls (st.map (xc ad))) := by
  simp only [xs1] at h
  cases h
  exact lv_bipush hx hb hd rfl (k _ hl (xok_push hk (h0 _)))
theorem xs_sipush {Lv : xV → Prop} {l l2 : xL} {st st2 : List xV} {nL pc2 : Nat} (h0 : ∀ v, Lv (.inl v)) (hx : p.tables.exec = Jvm.exec) (hb : c.code = cc) {n : Int} (hd : decode cc pc = .ok (.sipush n, 3)) (hl : lv_has ls nL (xlm ad l)) (hk : xok Lv l st) (h : xs1 nL (.sipush n) pc l st = some (pc2, l2, st2)) (k : ∀ ls2 : Array Slot, lv_has ls2 nL (xlm ad l2) → xok Lv l2 st2 → W p l0 e R s m args below meth c H locs cells slots Q (F0 m pc2 ls2 (st2.map (xc ad)))) : W p l0 e R s m args below meth c H locs cells slots Q (F0 m pc ls (st.map (xc ad))) := by
  simp only [xs1] at h
  cases h
  exact lv_sipush hx hb hd rfl (k _ hl (xok_push hk (h0 _)))
theorem xs_lconst {Lv : xV → Prop} {l l2 : xL} {st st2 : List xV} {nL pc2 : Nat} (h0 : ∀ v, Lv (.inl v)) (hx : p.tables.exec = Jvm.exec) (hb : c.code = cc) {n : Fin 2} (hd : decode cc pc = .ok (.lconst n, 1)) (hl : lv_has ls nL (xlm ad l)) (hk : xok Lv l st) (h : xs1 nL (.lconst n) pc l st = some (pc2, l2, st2)) (k : ∀ ls2 : Array Slot, lv_has ls2 nL (xlm ad l2) → xok Lv l2 st2 → W p l0 e R s m args below meth c H locs cells slots Q (F0 m pc2 ls2 (st2.map (xc ad)))) : W p l0 e R s m args below meth c H locs cells slots Q (F0 m pc ls (st.map (xc ad))) := by
  simp only [xs1] at h
  cases h
  exact lv_lconst hx hb hd rfl (k _ hl (xok_push hk (h0 _)))
theorem xs_fconst0 {Lv : xV → Prop} {l l2 : xL} {st st2 : List xV} {nL pc2 : Nat} (h0 : ∀ v, Lv (.inl v)) (hx : p.tables.exec = Jvm.exec) (hb : c.code = cc) (hd : decode cc pc = .ok (.fconst 0, 1)) (hl : lv_has ls nL (xlm ad l)) (hk : xok Lv l st) (h : xs1 nL (.fconst 0) pc l st = some (pc2, l2, st2)) (k : ∀ ls2 : Array Slot, lv_has ls2 nL (xlm ad l2) → xok Lv l2 st2 → W p l0 e R s m args below meth c H locs cells slots Q (F0 m pc2 ls2 (st2.map (xc ad)))) : W p l0 e R s m args below meth c H locs cells slots Q (F0 m pc ls (st.map (xc ad))) := by
  simp only [xs1] at h
  cases h
  exact lv_fconst0 hx hb hd (k _ hl (xok_push hk (h0 _)))
theorem xs_fconst1 {Lv : xV → Prop} {l l2 : xL} {st st2 : List xV} {nL pc2 : Nat} (h0 : ∀ v, Lv (.inl v)) (hx : p.tables.exec = Jvm.exec) (hb : c.code = cc) (hd : decode cc pc = .ok (.fconst 1, 1)) (hl : lv_has ls nL (xlm ad l)) (hk : xok Lv l st) (h : xs1 nL (.fconst 1) pc l st = some (pc2, l2, st2)) (k : ∀ ls2 : Array Slot, lv_has ls2 nL (xlm ad l2) → xok Lv l2 st2 → W p l0 e R s m args below meth c H locs cells slots Q (F0 m pc2 ls2 (st2.map (xc ad)))) : W p l0 e R s m args below meth c H locs cells slots Q (F0 m pc ls (st.map (xc ad))) := by
  simp only [xs1] at h
  cases h
  exact lv_fconst1 hx hb hd (k _ hl (xok_push hk (h0 _)))
theorem xs_fconst2 {Lv : xV → Prop} {l l2 : xL} {st st2 : List xV} {nL pc2 : Nat} (h0 : ∀ v, Lv (.inl v)) (hx : p.tables.exec = Jvm.exec) (hb : c.code = cc) (hd : decode cc pc = .ok (.fconst 2, 1)) (hl : lv_has ls nL (xlm ad l)) (hk : xok Lv l st) (h : xs1 nL (.fconst 2) pc l st = some (pc2, l2, st2)) (k : ∀ ls2 : Array Slot, lv_has ls2 nL (xlm ad l2) → xok Lv l2 st2 → W p l0 e R s m args below meth c H locs cells slots Q (F0 m pc2 ls2 (st2.map (xc ad)))) : W p l0 e R s m args below meth c H locs cells slots Q (F0 m pc ls (st.map (xc ad))) := by
  simp only [xs1] at h
  cases h
  exact lv_fconst2 hx hb hd (k _ hl (xok_push hk (h0 _)))
theorem xs_dconst0 {Lv : xV → Prop} {l l2 : xL} {st st2 : List xV} {nL pc2 : Nat} (h0 : ∀ v, Lv (.inl v)) (hx : p.tables.exec = Jvm.exec) (hb : c.code = cc) (hd : decode cc pc = .ok (.dconst 0, 1)) (hl : lv_has ls nL (xlm ad l)) (hk : xok Lv l st) (h : xs1 nL (.dconst 0) pc l st = some (pc2, l2, st2)) (k : ∀ ls2 : Array Slot, lv_has ls2 nL (xlm ad l2) → xok Lv l2 st2 → W p l0 e R s m args below meth c H locs cells slots Q (F0 m pc2 ls2 (st2.map (xc ad)))) : W p l0 e R s m args below meth c H locs cells slots Q (F0 m pc ls (st.map (xc ad))) := by
  simp only [xs1] at h
  cases h
  exact lv_dconst0 hx hb hd (k _ hl (xok_push hk (h0 _)))
theorem xs_dconst1 {Lv : xV → Prop} {l l2 : xL} {st st2 : List xV} {nL pc2 : Nat} (h0 : ∀ v, Lv (.inl v)) (hx : p.tables.exec = Jvm.exec) (hb : c.code = cc) (hd : decode cc pc = .ok (.dconst 1, 1)) (hl : lv_has ls nL (xlm ad l)) (hk : xok Lv l st) (h : xs1 nL (.dconst 1) pc l st = some (pc2, l2, st2)) (k : ∀ ls2 : Array Slot, lv_has ls2 nL (xlm ad l2) → xok Lv l2 st2 → W p l0 e R s m args below meth c H locs cells slots Q (F0 m pc2 ls2 (st2.map (xc ad)))) : W p l0 e R s m args below meth c H locs cells slots Q (F0 m pc ls (st.map (xc ad))) := by
  simp only [xs1] at h
  cases h
  exact lv_dconst1 hx hb hd (k _ hl (xok_push hk (h0 _)))
theorem xs_iadd {Lv : xV → Prop} {l l2 : xL} {st st2 : List xV} {nL pc2 : Nat} (h0 : ∀ v, Lv (.inl v)) (hx : p.tables.exec = Jvm.exec) (hb : c.code = cc) (hd : decode cc pc = .ok (.iadd, 1)) (hl : lv_has ls nL (xlm ad l)) (hk : xok Lv l st) (h : xs1 nL (.iadd) pc l st = some (pc2, l2, st2)) (k : ∀ ls2 : Array Slot, lv_has ls2 nL (xlm ad l2) → xok Lv l2 st2 → W p l0 e R s m args below meth c H locs cells slots Q (F0 m pc2 ls2 (st2.map (xc ad)))) : W p l0 e R s m args below meth c H locs cells slots Q (F0 m pc ls (st.map (xc ad))) := by
  simp only [xs1] at h
  split at h
  next =>
    cases h
    exact lv_iadd hx hb hd (k _ hl (xok_push (xok_tl (xok_tl hk)) (h0 _)))
  next => cases h
theorem xs_isub {Lv : xV → Prop} {l l2 : xL} {st st2 : List xV} {nL pc2 : Nat} (h0 : ∀ v, Lv (.inl v)) (hx : p.tables.exec = Jvm.exec) (hb : c.code = cc) (hd : decode cc pc = .ok (.isub, 1)) (hl : lv_has ls nL (xlm ad l)) (hk : xok Lv l st) (h : xs1 nL (.isub) pc l st = some (pc2, l2, st2)) (k : ∀ ls2 : Array Slot, lv_has ls2 nL (xlm ad l2) → xok Lv l2 st2 → W p l0 e R s m args below meth c H locs cells slots Q (F0 m pc2 ls2 (st2.map (xc ad)))) : W p l0 e R s m args below meth c H locs cells slots Q (F0 m pc ls (st.map (xc ad))) := by
  simp only [xs1] at h
  split at h
  next =>
    cases h
    exact lv_isub hx hb hd (k _ hl (xok_push (xok_tl (xok_tl hk)) (h0 _)))
  next => cases h
theorem xs_imul {Lv : xV → Prop} {l l2 : xL} {st st2 : List xV} {nL pc2 : Nat} (h0 : ∀ v, Lv (.inl v)) (hx : p.tables.exec = Jvm.exec) (hb : c.code = cc) (hd : decode cc pc = .ok (.imul, 1)) (hl : lv_has ls nL (xlm ad l)) (hk : xok Lv l st) (h : xs1 nL (.imul) pc l st = some (pc2, l2, st2)) (k : ∀ ls2 : Array Slot, lv_has ls2 nL (xlm ad l2) → xok Lv l2 st2 → W p l0 e R s m args below meth c H locs cells slots Q (F0 m pc2 ls2 (st2.map (xc ad)))) : W p l0 e R s m args below meth c H locs cells slots Q (F0 m pc ls (st.map (xc ad))) := by
  simp only [xs1] at h
  split at h
  next =>
    cases h
    exact lv_imul hx hb hd (k _ hl (xok_push (xok_tl (xok_tl hk)) (h0 _)))
  next => cases h
theorem xs_iand {Lv : xV → Prop} {l l2 : xL} {st st2 : List xV} {nL pc2 : Nat} (h0 : ∀ v, Lv (.inl v)) (hx : p.tables.exec = Jvm.exec) (hb : c.code = cc) (hd : decode cc pc = .ok (.iand, 1)) (hl : lv_has ls nL (xlm ad l)) (hk : xok Lv l st) (h : xs1 nL (.iand) pc l st = some (pc2, l2, st2)) (k : ∀ ls2 : Array Slot, lv_has ls2 nL (xlm ad l2) → xok Lv l2 st2 → W p l0 e R s m args below meth c H locs cells slots Q (F0 m pc2 ls2 (st2.map (xc ad)))) : W p l0 e R s m args below meth c H locs cells slots Q (F0 m pc ls (st.map (xc ad))) := by
  simp only [xs1] at h
  split at h
  next =>
    cases h
    exact lv_iand hx hb hd (k _ hl (xok_push (xok_tl (xok_tl hk)) (h0 _)))
  next => cases h
theorem xs_ior {Lv : xV → Prop} {l l2 : xL} {st st2 : List xV} {nL pc2 : Nat} (h0 : ∀ v, Lv (.inl v)) (hx : p.tables.exec = Jvm.exec) (hb : c.code = cc) (hd : decode cc pc = .ok (.ior, 1)) (hl : lv_has ls nL (xlm ad l)) (hk : xok Lv l st) (h : xs1 nL (.ior) pc l st = some (pc2, l2, st2)) (k : ∀ ls2 : Array Slot, lv_has ls2 nL (xlm ad l2) → xok Lv l2 st2 → W p l0 e R s m args below meth c H locs cells slots Q (F0 m pc2 ls2 (st2.map (xc ad)))) : W p l0 e R s m args below meth c H locs cells slots Q (F0 m pc ls (st.map (xc ad))) := by
  simp only [xs1] at h
  split at h
  next =>
    cases h
    exact lv_ior hx hb hd (k _ hl (xok_push (xok_tl (xok_tl hk)) (h0 _)))
  next => cases h
theorem xs_ixor {Lv : xV → Prop} {l l2 : xL} {st st2 : List xV} {nL pc2 : Nat} (h0 : ∀ v, Lv (.inl v)) (hx : p.tables.exec = Jvm.exec) (hb : c.code = cc) (hd : decode cc pc = .ok (.ixor, 1)) (hl : lv_has ls nL (xlm ad l)) (hk : xok Lv l st) (h : xs1 nL (.ixor) pc l st = some (pc2, l2, st2)) (k : ∀ ls2 : Array Slot, lv_has ls2 nL (xlm ad l2) → xok Lv l2 st2 → W p l0 e R s m args below meth c H locs cells slots Q (F0 m pc2 ls2 (st2.map (xc ad)))) : W p l0 e R s m args below meth c H locs cells slots Q (F0 m pc ls (st.map (xc ad))) := by
  simp only [xs1] at h
  split at h
  next =>
    cases h
    exact lv_ixor hx hb hd (k _ hl (xok_push (xok_tl (xok_tl hk)) (h0 _)))
  next => cases h
theorem xs_ishl {Lv : xV → Prop} {l l2 : xL} {st st2 : List xV} {nL pc2 : Nat} (h0 : ∀ v, Lv (.inl v)) (hx : p.tables.exec = Jvm.exec) (hb : c.code = cc) (hd : decode cc pc = .ok (.ishl, 1)) (hl : lv_has ls nL (xlm ad l)) (hk : xok Lv l st) (h : xs1 nL (.ishl) pc l st = some (pc2, l2, st2)) (k : ∀ ls2 : Array Slot, lv_has ls2 nL (xlm ad l2) → xok Lv l2 st2 → W p l0 e R s m args below meth c H locs cells slots Q (F0 m pc2 ls2 (st2.map (xc ad)))) : W p l0 e R s m args below meth c H locs cells slots Q (F0 m pc ls (st.map (xc ad))) := by
  simp only [xs1] at h
  split at h
  next =>
    cases h
    exact lv_ishl hx hb hd (k _ hl (xok_push (xok_tl (xok_tl hk)) (h0 _)))
  next => cases h
theorem xs_ishr {Lv : xV → Prop} {l l2 : xL} {st st2 : List xV} {nL pc2 : Nat} (h0 : ∀ v, Lv (.inl v)) (hx : p.tables.exec = Jvm.exec) (hb : c.code = cc) (hd : decode cc pc = .ok (.ishr, 1)) (hl : lv_has ls nL (xlm ad l)) (hk : xok Lv l st) (h : xs1 nL (.ishr) pc l st = some (pc2, l2, st2)) (k : ∀ ls2 : Array Slot, lv_has ls2 nL (xlm ad l2) → xok Lv l2 st2 → W p l0 e R s m args below meth c H locs cells slots Q (F0 m pc2 ls2 (st2.map (xc ad)))) : W p l0 e R s m args below meth c H locs cells slots Q (F0 m pc ls (st.map (xc ad))) := by
  simp only [xs1] at h
  split at h
  next =>
    cases h
    exact lv_ishr hx hb hd (k _ hl (xok_push (xok_tl (xok_tl hk)) (h0 _)))
  next => cases h
theorem xs_iushr {Lv : xV → Prop} {l l2 : xL} {st st2 : List xV} {nL pc2 : Nat} (h0 : ∀ v, Lv (.inl v)) (hx : p.tables.exec = Jvm.exec) (hb : c.code = cc) (hd : decode cc pc = .ok (.iushr, 1)) (hl : lv_has ls nL (xlm ad l)) (hk : xok Lv l st) (h : xs1 nL (.iushr) pc l st = some (pc2, l2, st2)) (k : ∀ ls2 : Array Slot, lv_has ls2 nL (xlm ad l2) → xok Lv l2 st2 → W p l0 e R s m args below meth c H locs cells slots Q (F0 m pc2 ls2 (st2.map (xc ad)))) : W p l0 e R s m args below meth c H locs cells slots Q (F0 m pc ls (st.map (xc ad))) := by
  simp only [xs1] at h
  split at h
  next =>
    cases h
    exact lv_iushr hx hb hd rfl (k _ hl (xok_push (xok_tl (xok_tl hk)) (h0 _)))
  next => cases h
theorem xs_idiv {Lv : xV → Prop} {l l2 : xL} {st st2 : List xV} {nL pc2 : Nat} (h0 : ∀ v, Lv (.inl v)) (hx : p.tables.exec = Jvm.exec) (hb : c.code = cc) (hd : decode cc pc = .ok (.idiv, 1)) (hl : lv_has ls nL (xlm ad l)) (hk : xok Lv l st) (h : xs1 nL (.idiv) pc l st = some (pc2, l2, st2)) (k : ∀ ls2 : Array Slot, lv_has ls2 nL (xlm ad l2) → xok Lv l2 st2 → W p l0 e R s m args below meth c H locs cells slots Q (F0 m pc2 ls2 (st2.map (xc ad)))) : W p l0 e R s m args below meth c H locs cells slots Q (F0 m pc ls (st.map (xc ad))) := by
  simp only [xs1] at h
  split at h
  next =>
    split at h
    next hg =>
      cases h
      exact lv_idiv hx hb hd hg (k _ hl (xok_push (xok_tl (xok_tl hk)) (h0 _)))
    next => cases h
  next => cases h
theorem xs_irem {Lv : xV → Prop} {l l2 : xL} {st st2 : List xV} {nL pc2 : Nat} (h0 : ∀ v, Lv (.inl v)) (hx : p.tables.exec = Jvm.exec) (hb : c.code = cc) (hd : decode cc pc = .ok (.irem, 1)) (hl : lv_has ls nL (xlm ad l)) (hk : xok Lv l st) (h : xs1 nL (.irem) pc l st = some (pc2, l2, st2)) (k : ∀ ls2 : Array Slot, lv_has ls2 nL (xlm ad l2) → xok Lv l2 st2 → W p l0 e R s m args below meth c H locs cells slots Q (F0 m pc2 ls2 (st2.map (xc ad)))) : W p l0 e R s m args below meth c H locs cells slots Q (F0 m pc ls (st.map (xc ad))) := by
  simp only [xs1] at h
  split at h
  next =>
    split at h
    next hg =>
      cases h
      exact lv_irem hx hb hd hg (k _ hl (xok_push (xok_tl (xok_tl hk)) (h0 _)))
    next => cases h
  next => cases h
theorem xs_ineg {Lv : xV → Prop} {l l2 : xL} {st st2 : List xV} {nL pc2 : Nat} (h0 : ∀ v, Lv (.inl v)) (hx : p.tables.exec = Jvm.exec) (hb : c.code = cc) (hd : decode cc pc = .ok (.ineg, 1)) (hl : lv_has ls nL (xlm ad l)) (hk : xok Lv l st) (h : xs1 nL (.ineg) pc l st = some (pc2, l2, st2)) (k : ∀ ls2 : Array Slot, lv_has ls2 nL (xlm ad l2) → xok Lv l2 st2 → W p l0 e R s m args below meth c H locs cells slots Q (F0 m pc2 ls2 (st2.map (xc ad)))) : W p l0 e R s m args below meth c H locs cells slots Q (F0 m pc ls (st.map (xc ad))) := by
  simp only [xs1] at h
  split at h
  next =>
    cases h
    exact lv_ineg hx hb hd (k _ hl (xok_push (xok_tl hk) (h0 _)))
  next => cases h
theorem xs_ladd {Lv : xV → Prop} {l l2 : xL} {st st2 : List xV} {nL pc2 : Nat} (h0 : ∀ v, Lv (.inl v)) (hx : p.tables.exec = Jvm.exec) (hb : c.code = cc) (hd : decode cc pc = .ok (.ladd, 1)) (hl : lv_has ls nL (xlm ad l)) (hk : xok Lv l st) (h : xs1 nL (.ladd) pc l st = some (pc2, l2, st2)) (k : ∀ ls2 : Array Slot, lv_has ls2 nL (xlm ad l2) → xok Lv l2 st2 → W p l0 e R s m args below meth c H locs cells slots Q (F0 m pc2 ls2 (st2.map (xc ad)))) : W p l0 e R s m args below meth c H locs cells slots Q (F0 m pc ls (st.map (xc ad))) := by
  simp only [xs1] at h
  split at h
  next =>
    cases h
    exact lv_ladd hx hb hd (k _ hl (xok_push (xok_tl (xok_tl hk)) (h0 _)))
  next => cases h
theorem xs_lsub {Lv : xV → Prop} {l l2 : xL} {st st2 : List xV} {nL pc2 : Nat} (h0 : ∀ v, Lv (.inl v)) (hx : p.tables.exec = Jvm.exec) (hb : c.code = cc) (hd : decode cc pc = .ok (.lsub, 1)) (hl : lv_has ls nL (xlm ad l)) (hk : xok Lv l st) (h : xs1 nL (.lsub) pc l st = some (pc2, l2, st2)) (k : ∀ ls2 : Array Slot, lv_has ls2 nL (xlm ad l2) → xok Lv l2 st2 → W p l0 e R s m args below meth c H locs cells slots Q (F0 m pc2 ls2 (st2.map (xc ad)))) : W p l0 e R s m args below meth c H locs cells slots Q (F0 m pc ls (st.map (xc ad))) := by
  simp only [xs1] at h
  split at h
  next =>
    cases h
    exact lv_lsub hx hb hd (k _ hl (xok_push (xok_tl (xok_tl hk)) (h0 _)))
  next => cases h
theorem xs_lmul {Lv : xV → Prop} {l l2 : xL} {st st2 : List xV} {nL pc2 : Nat} (h0 : ∀ v, Lv (.inl v)) (hx : p.tables.exec = Jvm.exec) (hb : c.code = cc) (hd : decode cc pc = .ok (.lmul, 1)) (hl : lv_has ls nL (xlm ad l)) (hk : xok Lv l st) (h : xs1 nL (.lmul) pc l st = some (pc2, l2, st2)) (k : ∀ ls2 : Array Slot, lv_has ls2 nL (xlm ad l2) → xok Lv l2 st2 → W p l0 e R s m args below meth c H locs cells slots Q (F0 m pc2 ls2 (st2.map (xc ad)))) : W p l0 e R s m args below meth c H locs cells slots Q (F0 m pc ls (st.map (xc ad))) := by
  simp only [xs1] at h
  split at h
  next =>
    cases h
    exact lv_lmul hx hb hd (k _ hl (xok_push (xok_tl (xok_tl hk)) (h0 _)))
  next => cases h
theorem xs_land {Lv : xV → Prop} {l l2 : xL} {st st2 : List xV} {nL pc2 : Nat} (h0 : ∀ v, Lv (.inl v)) (hx : p.tables.exec = Jvm.exec) (hb : c.code = cc) (hd : decode cc pc = .ok (.land, 1)) (hl : lv_has ls nL (xlm ad l)) (hk : xok Lv l st) (h : xs1 nL (.land) pc l st = some (pc2, l2, st2)) (k : ∀ ls2 : Array Slot, lv_has ls2 nL (xlm ad l2) → xok Lv l2 st2 → W p l0 e R s m args below meth c H locs cells slots Q (F0 m pc2 ls2 (st2.map (xc ad)))) : W p l0 e R s m args below meth c H locs cells slots Q (F0 m pc ls (st.map (xc ad))) := by
  simp only [xs1] at h
  split at h
  next =>
    cases h
    exact lv_land hx hb hd (k _ hl (xok_push (xok_tl (xok_tl hk)) (h0 _)))
  next => cases h
theorem xs_lor {Lv : xV → Prop} {l l2 : xL} {st st2 : List xV} {nL pc2 : Nat} (h0 : ∀ v, Lv (.inl v)) (hx : p.tables.exec = Jvm.exec) (hb : c.code = cc) (hd : decode cc pc = .ok (.lor, 1)) (hl : lv_has ls nL (xlm ad l)) (hk : xok Lv l st) (h : xs1 nL (.lor) pc l st = some (pc2, l2, st2)) (k : ∀ ls2 : Array Slot, lv_has ls2 nL (xlm ad l2) → xok Lv l2 st2 → W p l0 e R s m args below meth c H locs cells slots Q (F0 m pc2 ls2 (st2.map (xc ad)))) : W p l0 e R s m args below meth c H locs cells slots Q (F0 m pc ls (st.map (xc ad))) := by
  simp only [xs1] at h
  split at h
  next =>
    cases h
    exact lv_lor hx hb hd (k _ hl (xok_push (xok_tl (xok_tl hk)) (h0 _)))
  next => cases h
theorem xs_lxor {Lv : xV → Prop} {l l2 : xL} {st st2 : List xV} {nL pc2 : Nat} (h0 : ∀ v, Lv (.inl v)) (hx : p.tables.exec = Jvm.exec) (hb : c.code = cc) (hd : decode cc pc = .ok (.lxor, 1)) (hl : lv_has ls nL (xlm ad l)) (hk : xok Lv l st) (h : xs1 nL (.lxor) pc l st = some (pc2, l2, st2)) (k : ∀ ls2 : Array Slot, lv_has ls2 nL (xlm ad l2) → xok Lv l2 st2 → W p l0 e R s m args below meth c H locs cells slots Q (F0 m pc2 ls2 (st2.map (xc ad)))) : W p l0 e R s m args below meth c H locs cells slots Q (F0 m pc ls (st.map (xc ad))) := by
  simp only [xs1] at h
  split at h
  next =>
    cases h
    exact lv_lxor hx hb hd (k _ hl (xok_push (xok_tl (xok_tl hk)) (h0 _)))
  next => cases h
theorem xs_ldiv {Lv : xV → Prop} {l l2 : xL} {st st2 : List xV} {nL pc2 : Nat} (h0 : ∀ v, Lv (.inl v)) (hx : p.tables.exec = Jvm.exec) (hb : c.code = cc) (hd : decode cc pc = .ok (.ldiv, 1)) (hl : lv_has ls nL (xlm ad l)) (hk : xok Lv l st) (h : xs1 nL (.ldiv) pc l st = some (pc2, l2, st2)) (k : ∀ ls2 : Array Slot, lv_has ls2 nL (xlm ad l2) → xok Lv l2 st2 → W p l0 e R s m args below meth c H locs cells slots Q (F0 m pc2 ls2 (st2.map (xc ad)))) : W p l0 e R s m args below meth c H locs cells slots Q (F0 m pc ls (st.map (xc ad))) := by
  simp only [xs1] at h
  split at h
  next =>
    split at h
    next hg =>
      cases h
      exact lv_ldiv hx hb hd hg (k _ hl (xok_push (xok_tl (xok_tl hk)) (h0 _)))
    next => cases h
  next => cases h
theorem xs_lrem {Lv : xV → Prop} {l l2 : xL} {st st2 : List xV} {nL pc2 : Nat} (h0 : ∀ v, Lv (.inl v)) (hx : p.tables.exec = Jvm.exec) (hb : c.code = cc) (hd : decode cc pc = .ok (.lrem, 1)) (hl : lv_has ls nL (xlm ad l)) (hk : xok Lv l st) (h : xs1 nL (.lrem) pc l st = some (pc2, l2, st2)) (k : ∀ ls2 : Array Slot, lv_has ls2 nL (xlm ad l2) → xok Lv l2 st2 → W p l0 e R s m args below meth c H locs cells slots Q (F0 m pc2 ls2 (st2.map (xc ad)))) : W p l0 e R s m args below meth c H locs cells slots Q (F0 m pc ls (st.map (xc ad))) := by
  simp only [xs1] at h
  split at h
  next =>
    split at h
    next hg =>
      cases h
      exact lv_lrem hx hb hd hg (k _ hl (xok_push (xok_tl (xok_tl hk)) (h0 _)))
    next => cases h
  next => cases h
theorem xs_lneg {Lv : xV → Prop} {l l2 : xL} {st st2 : List xV} {nL pc2 : Nat} (h0 : ∀ v, Lv (.inl v)) (hx : p.tables.exec = Jvm.exec) (hb : c.code = cc) (hd : decode cc pc = .ok (.lneg, 1)) (hl : lv_has ls nL (xlm ad l)) (hk : xok Lv l st) (h : xs1 nL (.lneg) pc l st = some (pc2, l2, st2)) (k : ∀ ls2 : Array Slot, lv_has ls2 nL (xlm ad l2) → xok Lv l2 st2 → W p l0 e R s m args below meth c H locs cells slots Q (F0 m pc2 ls2 (st2.map (xc ad)))) : W p l0 e R s m args below meth c H locs cells slots Q (F0 m pc ls (st.map (xc ad))) := by
  simp only [xs1] at h
  split at h
  next =>
    cases h
    exact lv_lneg hx hb hd (k _ hl (xok_push (xok_tl hk) (h0 _)))
  next => cases h
theorem xs_lcmp {Lv : xV → Prop} {l l2 : xL} {st st2 : List xV} {nL pc2 : Nat} (h0 : ∀ v, Lv (.inl v)) (hx : p.tables.exec = Jvm.exec) (hb : c.code = cc) (hd : decode cc pc = .ok (.lcmp, 1)) (hl : lv_has ls nL (xlm ad l)) (hk : xok Lv l st) (h : xs1 nL (.lcmp) pc l st = some (pc2, l2, st2)) (k : ∀ ls2 : Array Slot, lv_has ls2 nL (xlm ad l2) → xok Lv l2 st2 → W p l0 e R s m args below meth c H locs cells slots Q (F0 m pc2 ls2 (st2.map (xc ad)))) : W p l0 e R s m args below meth c H locs cells slots Q (F0 m pc ls (st.map (xc ad))) := by
  simp only [xs1] at h
  split at h
  next =>
    cases h
    exact W.lcmp hx hb hd (k _ hl (xok_push (xok_tl (xok_tl hk)) (h0 _)))
  next => cases h
theorem xs_lshl {Lv : xV → Prop} {l l2 : xL} {st st2 : List xV} {nL pc2 : Nat} (h0 : ∀ v, Lv (.inl v)) (hx : p.tables.exec = Jvm.exec) (hb : c.code = cc) (hd : decode cc pc = .ok (.lshl, 1)) (hl : lv_has ls nL (xlm ad l)) (hk : xok Lv l st) (h : xs1 nL (.lshl) pc l st = some (pc2, l2, st2)) (k : ∀ ls2 : Array Slot, lv_has ls2 nL (xlm ad l2) → xok Lv l2 st2 → W p l0 e R s m args below meth c H locs cells slots Q (F0 m pc2 ls2 (st2.map (xc ad)))) : W p l0 e R s m args below meth c H locs cells slots Q (F0 m pc ls (st.map (xc ad))) := by
  simp only [xs1] at h
  split at h
  next =>
    cases h
    exact lv_lshl hx hb hd rfl (k _ hl (xok_push (xok_tl (xok_tl hk)) (h0 _)))
  next => cases h
theorem xs_lshr {Lv : xV → Prop} {l l2 : xL} {st st2 : List xV} {nL pc2 : Nat} (h0 : ∀ v, Lv (.inl v)) (hx : p.tables.exec = Jvm.exec) (hb : c.code = cc) (hd : decode cc pc = .ok (.lshr, 1)) (hl : lv_has ls nL (xlm ad l)) (hk : xok Lv l st) (h : xs1 nL (.lshr) pc l st = some (pc2, l2, st2)) (k : ∀ ls2 : Array Slot, lv_has ls2 nL (xlm ad l2) → xok Lv l2 st2 → W p l0 e R s m args below meth c H locs cells slots Q (F0 m pc2 ls2 (st2.map (xc ad)))) : W p l0 e R s m args below meth c H locs cells slots Q (F0 m pc ls (st.map (xc ad))) := by
  simp only [xs1] at h
  split at h
  next =>
    cases h
    exact lv_lshr hx hb hd rfl (k _ hl (xok_push (xok_tl (xok_tl hk)) (h0 _)))
  next => cases h
theorem xs_lushr {Lv : xV → Prop} {l l2 : xL} {st st2 : List xV} {nL pc2 : Nat} (h0 : ∀ v, Lv (.inl v)) (hx : p.tables.exec = Jvm.exec) (hb : c.code = cc) (hd : decode cc pc = .ok (.lushr, 1)) (hl : lv_has ls nL (xlm ad l)) (hk : xok Lv l st) (h : xs1 nL (.lushr) pc l st = some (pc2, l2, st2)) (k : ∀ ls2 : Array Slot, lv_has ls2 nL (xlm ad l2) → xok Lv l2 st2 → W p l0 e R s m args below meth c H locs cells slots Q (F0 m pc2 ls2 (st2.map (xc ad)))) : W p l0 e R s m args below meth c H locs cells slots Q (F0 m pc ls (st.map (xc ad))) := by
  simp only [xs1] at h
  split at h
  next =>
    cases h
    exact lv_lushr hx hb hd rfl (k _ hl (xok_push (xok_tl (xok_tl hk)) (h0 _)))
  next => cases h
theorem xs_i2l {Lv : xV → Prop} {l l2 : xL} {st st2 : List xV} {nL pc2 : Nat} (h0 : ∀ v, Lv (.inl v)) (hx : p.tables.exec = Jvm.exec) (hb : c.code = cc) (hd : decode cc pc = .ok (.i2l, 1)) (hl : lv_has ls nL (xlm ad l)) (hk : xok Lv l st) (h : xs1 nL (.i2l) pc l st = some (pc2, l2, st2)) (k : ∀ ls2 : Array Slot, lv_has ls2 nL (xlm ad l2) → xok Lv l2 st2 → W p l0 e R s m args below meth c H locs cells slots Q (F0 m pc2 ls2 (st2.map (xc ad)))) : W p l0 e R s m args below meth c H locs cells slots Q (F0 m pc ls (st.map (xc ad))) := by
  simp only [xs1] at h
  split at h
  next =>
    cases h
    exact lv_i2l hx hb hd rfl (k _ hl (xok_push (xok_tl hk) (h0 _)))
  next => cases h
theorem xs_l2i {Lv : xV → Prop} {l l2 : xL} {st st2 : List xV} {nL pc2 : Nat} (h0 : ∀ v, Lv (.inl v)) (hx : p.tables.exec = Jvm.exec) (hb : c.code = cc) (hd : decode cc pc = .ok (.l2i, 1)) (hl : lv_has ls nL (xlm ad l)) (hk : xok Lv l st) (h : xs1 nL (.l2i) pc l st = some (pc2, l2, st2)) (k : ∀ ls2 : Array Slot, lv_has ls2 nL (xlm ad l2) → xok Lv l2 st2 → W p l0 e R s m args below meth c H locs cells slots Q (F0 m pc2 ls2 (st2.map (xc ad)))) : W p l0 e R s m args below meth c H locs cells slots Q (F0 m pc ls (st.map (xc ad))) := by
  simp only [xs1] at h
  split at h
  next =>
    cases h
    exact lv_l2i hx hb hd rfl (k _ hl (xok_push (xok_tl hk) (h0 _)))
  next => cases h
theorem xs_i2b {Lv : xV → Prop} {l l2 : xL} {st st2 : List xV} {nL pc2 : Nat} (h0 : ∀ v, Lv (.inl v)) (hx : p.tables.exec = Jvm.exec) (hb : c.code = cc) (hd : decode cc pc = .ok (.i2b, 1)) (hl : lv_has ls nL (xlm ad l)) (hk : xok Lv l st) (h : xs1 nL (.i2b) pc l st = some (pc2, l2, st2)) (k : ∀ ls2 : Array Slot, lv_has ls2 nL (xlm ad l2) → xok Lv l2 st2 → W p l0 e R s m args below meth c H locs cells slots Q (F0 m pc2 ls2 (st2.map (xc ad)))) : W p l0 e R s m args below meth c H locs cells slots Q (F0 m pc ls (st.map (xc ad))) := by
  simp only [xs1] at h
  split at h
  next =>
    cases h
    exact lv_i2b hx hb hd rfl (k _ hl (xok_push (xok_tl hk) (h0 _)))
  next => cases h
theorem xs_i2s {Lv : xV → Prop} {l l2 : xL} {st st2 : List xV} {nL pc2 : Nat} (h0 : ∀ v, Lv (.inl v)) (hx : p.tables.exec = Jvm.exec) (hb : c.code = cc) (hd : decode cc pc = .ok (.i2s, 1)) (hl : lv_has ls nL (xlm ad l)) (hk : xok Lv l st) (h : xs1 nL (.i2s) pc l st = some (pc2, l2, st2)) (k : ∀ ls2 : Array Slot, lv_has ls2 nL (xlm ad l2) → xok Lv l2 st2 → W p l0 e R s m args below meth c H locs cells slots Q (F0 m pc2 ls2 (st2.map (xc ad)))) : W p l0 e R s m args below meth c H locs cells slots Q (F0 m pc ls (st.map (xc ad))) := by
  simp only [xs1] at h
  split at h
  next =>
    cases h
    exact lv_i2s hx hb hd rfl (k _ hl (xok_push (xok_tl hk) (h0 _)))
  next => cases h
theorem xs_i2c {Lv : xV → Prop} {l l2 : xL} {st st2 : List xV} {nL pc2 : Nat} (h0 : ∀ v, Lv (.inl v)) (hx : p.tables.exec = Jvm.exec) (hb : c.code = cc) (hd : decode cc pc = .ok (.i2c, 1)) (hl : lv_has ls nL (xlm ad l)) (hk : xok Lv l st) (h : xs1 nL (.i2c) pc l st = some (pc2, l2, st2)) (k : ∀ ls2 : Array Slot, lv_has ls2 nL (xlm ad l2) → xok Lv l2 st2 → W p l0 e R s m args below meth c H locs cells slots Q (F0 m pc2 ls2 (st2.map (xc ad)))) : W p l0 e R s m args below meth c H locs cells slots Q (F0 m pc ls (st.map (xc ad))) := by
  simp only [xs1] at h
  split at h
  next =>
    cases h
    exact lv_i2c hx hb hd rfl (k _ hl (xok_push (xok_tl hk) (h0 _)))
  next => cases h
theorem xs_fadd {Lv : xV → Prop} {l l2 : xL} {st st2 : List xV} {nL pc2 : Nat} (h0 : ∀ v, Lv (.inl v)) (hx : p.tables.exec = Jvm.exec) (hb : c.code = cc) (hd : decode cc pc = .ok (.fadd, 1)) (hl : lv_has ls nL (xlm ad l)) (hk : xok Lv l st) (h : xs1 nL (.fadd) pc l st = some (pc2, l2, st2)) (k : ∀ ls2 : Array Slot, lv_has ls2 nL (xlm ad l2) → xok Lv l2 st2 → W p l0 e R s m args below meth c H locs cells slots Q (F0 m pc2 ls2 (st2.map (xc ad)))) : W p l0 e R s m args below meth c H locs cells slots Q (F0 m pc ls (st.map (xc ad))) := by
  simp only [xs1] at h
  split at h
  next =>
    split at h
    next hg =>
      cases h
      exact lv_fadd hx hb hd hg (k _ hl (xok_push (xok_tl (xok_tl hk)) (h0 _)))
    next => cases h
  next => cases h
theorem xs_fsub {Lv : xV → Prop} {l l2 : xL} {st st2 : List xV} {nL pc2 : Nat} (h0 : ∀ v, Lv (.inl v)) (hx : p.tables.exec = Jvm.exec) (hb : c.code = cc) (hd : decode cc pc = .ok (.fsub, 1)) (hl : lv_has ls nL (xlm ad l)) (hk : xok Lv l st) (h : xs1 nL (.fsub) pc l st = some (pc2, l2, st2)) (k : ∀ ls2 : Array Slot, lv_has ls2 nL (xlm ad l2) → xok Lv l2 st2 → W p l0 e R s m args below meth c H locs cells slots Q (F0 m pc2 ls2 (st2.map (xc ad)))) : W p l0 e R s m args below meth c H locs cells slots Q (F0 m pc ls (st.map (xc ad))) := by
  simp only [xs1] at h
  split at h
  next =>
    split at h
    next hg =>
      cases h
      exact lv_fsub hx hb hd hg (k _ hl (xok_push (xok_tl (xok_tl hk)) (h0 _)))
    next => cases h
  next => cases h
theorem xs_fmul {Lv : xV → Prop} {l l2 : xL} {st st2 : List xV} {nL pc2 : Nat} (h0 : ∀ v, Lv (.inl v)) (hx : p.tables.exec = Jvm.exec) (hb : c.code = cc) (hd : decode cc pc = .ok (.fmul, 1)) (hl : lv_has ls nL (xlm ad l)) (hk : xok Lv l st) (h : xs1 nL (.fmul) pc l st = some (pc2, l2, st2)) (k : ∀ ls2 : Array Slot, lv_has ls2 nL (xlm ad l2) → xok Lv l2 st2 → W p l0 e R s m args below meth c H locs cells slots Q (F0 m pc2 ls2 (st2.map (xc ad)))) : W p l0 e R s m args below meth c H locs cells slots Q (F0 m pc ls (st.map (xc ad))) := by
  simp only [xs1] at h
  split at h
  next =>
    split at h
    next hg =>
      cases h
      exact lv_fmul hx hb hd hg (k _ hl (xok_push (xok_tl (xok_tl hk)) (h0 _)))
    next => cases h
  next => cases h
theorem xs_fdiv {Lv : xV → Prop} {l l2 : xL} {st st2 : List xV} {nL pc2 : Nat} (h0 : ∀ v, Lv (.inl v)) (hx : p.tables.exec = Jvm.exec) (hb : c.code = cc) (hd : decode cc pc = .ok (.fdiv, 1)) (hl : lv_has ls nL (xlm ad l)) (hk : xok Lv l st) (h : xs1 nL (.fdiv) pc l st = some (pc2, l2, st2)) (k : ∀ ls2 : Array Slot, lv_has ls2 nL (xlm ad l2) → xok Lv l2 st2 → W p l0 e R s m args below meth c H locs cells slots Q (F0 m pc2 ls2 (st2.map (xc ad)))) : W p l0 e R s m args below meth c H locs cells slots Q (F0 m pc ls (st.map (xc ad))) := by
  simp only [xs1] at h
  split at h
  next =>
    split at h
    next hg =>
      cases h
      exact lv_fdiv hx hb hd hg (k _ hl (xok_push (xok_tl (xok_tl hk)) (h0 _)))
    next => cases h
  next => cases h
theorem xs_frem {Lv : xV → Prop} {l l2 : xL} {st st2 : List xV} {nL pc2 : Nat} (h0 : ∀ v, Lv (.inl v)) (hx : p.tables.exec = Jvm.exec) (hb : c.code = cc) (hd : decode cc pc = .ok (.frem, 1)) (hl : lv_has ls nL (xlm ad l)) (hk : xok Lv l st) (h : xs1 nL (.frem) pc l st = some (pc2, l2, st2)) (k : ∀ ls2 : Array Slot, lv_has ls2 nL (xlm ad l2) → xok Lv l2 st2 → W p l0 e R s m args below meth c H locs cells slots Q (F0 m pc2 ls2 (st2.map (xc ad)))) : W p l0 e R s m args below meth c H locs cells slots Q (F0 m pc ls (st.map (xc ad))) := by
  simp only [xs1] at h
  split at h
  next =>
    split at h
    next hg =>
      cases h
      exact lv_frem hx hb hd hg (k _ hl (xok_push (xok_tl (xok_tl hk)) (h0 _)))
    next => cases h
  next => cases h
theorem xs_dadd {Lv : xV → Prop} {l l2 : xL} {st st2 : List xV} {nL pc2 : Nat} (h0 : ∀ v, Lv (.inl v)) (hx : p.tables.exec = Jvm.exec) (hb : c.code = cc) (hd : decode cc pc = .ok (.dadd, 1)) (hl : lv_has ls nL (xlm ad l)) (hk : xok Lv l st) (h : xs1 nL (.dadd) pc l st = some (pc2, l2, st2)) (k : ∀ ls2 : Array Slot, lv_has ls2 nL (xlm ad l2) → xok Lv l2 st2 → W p l0 e R s m args below meth c H locs cells slots Q (F0 m pc2 ls2 (st2.map (xc ad)))) : W p l0 e R s m args below meth c H locs cells slots Q (F0 m pc ls (st.map (xc ad))) := by
  simp only [xs1] at h
  split at h
  next =>
    split at h
    next hg =>
      cases h
      exact lv_dadd hx hb hd hg (k _ hl (xok_push (xok_tl (xok_tl hk)) (h0 _)))
    next => cases h
  next => cases h
theorem xs_dsub {Lv : xV → Prop} {l l2 : xL} {st st2 : List xV} {nL pc2 : Nat} (h0 : ∀ v, Lv (.inl v)) (hx : p.tables.exec = Jvm.exec) (hb : c.code = cc) (hd : decode cc pc = .ok (.dsub, 1)) (hl : lv_has ls nL (xlm ad l)) (hk : xok Lv l st) (h : xs1 nL (.dsub) pc l st = some (pc2, l2, st2)) (k : ∀ ls2 : Array Slot, lv_has ls2 nL (xlm ad l2) → xok Lv l2 st2 → W p l0 e R s m args below meth c H locs cells slots Q (F0 m pc2 ls2 (st2.map (xc ad)))) : W p l0 e R s m args below meth c H locs cells slots Q (F0 m pc ls (st.map (xc ad))) := by
  simp only [xs1] at h
  split at h
  next =>
    split at h
    next hg =>
      cases h
      exact lv_dsub hx hb hd hg (k _ hl (xok_push (xok_tl (xok_tl hk)) (h0 _)))
    next => cases h
  next => cases h
theorem xs_dmul {Lv : xV → Prop} {l l2 : xL} {st st2 : List xV} {nL pc2 : Nat} (h0 : ∀ v, Lv (.inl v)) (hx : p.tables.exec = Jvm.exec) (hb : c.code = cc) (hd : decode cc pc = .ok (.dmul, 1)) (hl : lv_has ls nL (xlm ad l)) (hk : xok Lv l st) (h : xs1 nL (.dmul) pc l st = some (pc2, l2, st2)) (k : ∀ ls2 : Array Slot, lv_has ls2 nL (xlm ad l2) → xok Lv l2 st2 → W p l0 e R s m args below meth c H locs cells slots Q (F0 m pc2 ls2 (st2.map (xc ad)))) : W p l0 e R s m args below meth c H locs cells slots Q (F0 m pc ls (st.map (xc ad))) := by
  simp only [xs1] at h
  split at h
  next =>
    split at h
    next hg =>
      cases h
      exact lv_dmul hx hb hd hg (k _ hl (xok_push (xok_tl (xok_tl hk)) (h0 _)))
    next => cases h
  next => cases h
theorem xs_ddiv {Lv : xV → Prop} {l l2 : xL} {st st2 : List xV} {nL pc2 : Nat} (h0 : ∀ v, Lv (.inl v)) (hx : p.tables.exec = Jvm.exec) (hb : c.code = cc) (hd : decode cc pc = .ok (.ddiv, 1)) (hl : lv_has ls nL (xlm ad l)) (hk : xok Lv l st) (h : xs1 nL (.ddiv) pc l st = some (pc2, l2, st2)) (k : ∀ ls2 : Array Slot, lv_has ls2 nL (xlm ad l2) → xok Lv l2 st2 → W p l0 e R s m args below meth c H locs cells slots Q (F0 m pc2 ls2 (st2.map (xc ad)))) : W p l0 e R s m args below meth c H locs cells slots Q (F0 m pc ls (st.map (xc ad))) := by
  simp only [xs1] at h
  split at h
  next =>
    split at h
    next hg =>
      cases h
      exact lv_ddiv hx hb hd hg (k _ hl (xok_push (xok_tl (xok_tl hk)) (h0 _)))
    next => cases h
  next => cases h
theorem xs_drem {Lv : xV → Prop} {l l2 : xL} {st st2 : List xV} {nL pc2 : Nat} (h0 : ∀ v, Lv (.inl v)) (hx : p.tables.exec = Jvm.exec) (hb : c.code = cc) (hd : decode cc pc = .ok (.drem, 1)) (hl : lv_has ls nL (xlm ad l)) (hk : xok Lv l st) (h : xs1 nL (.drem) pc l st = some (pc2, l2, st2)) (k : ∀ ls2 : Array Slot, lv_has ls2 nL (xlm ad l2) → xok Lv l2 st2 → W p l0 e R s m args below meth c H locs cells slots Q (F0 m pc2 ls2 (st2.map (xc ad)))) : W p l0 e R s m args below meth c H locs cells slots Q (F0 m pc ls (st.map (xc ad))) := by
  simp only [xs1] at h
  split at h
  next =>
    split at h
    next hg =>
      cases h
      exact lv_drem hx hb hd hg (k _ hl (xok_push (xok_tl (xok_tl hk)) (h0 _)))
    next => cases h
  next => cases h
theorem xs_fneg {Lv : xV → Prop} {l l2 : xL} {st st2 : List xV} {nL pc2 : Nat} (h0 : ∀ v, Lv (.inl v)) (hx : p.tables.exec = Jvm.exec) (hb : c.code = cc) (hd : decode cc pc = .ok (.fneg, 1)) (hl : lv_has ls nL (xlm ad l)) (hk : xok Lv l st) (h : xs1 nL (.fneg) pc l st = some (pc2, l2, st2)) (k : ∀ ls2 : Array Slot, lv_has ls2 nL (xlm ad l2) → xok Lv l2 st2 → W p l0 e R s m args below meth c H locs cells slots Q (F0 m pc2 ls2 (st2.map (xc ad)))) : W p l0 e R s m args below meth c H locs cells slots Q (F0 m pc ls (st.map (xc ad))) := by
  simp only [xs1] at h
  split at h
  next =>
    cases h
    exact lv_fneg hx hb hd (k _ hl (xok_push (xok_tl hk) (h0 _)))
  next => cases h
theorem xs_dneg {Lv : xV → Prop} {l l2 : xL} {st st2 : List xV} {nL pc2 : Nat} (h0 : ∀ v, Lv (.inl v)) (hx : p.tables.exec = Jvm.exec) (hb : c.code = cc) (hd : decode cc pc = .ok (.dneg, 1)) (hl : lv_has ls nL (xlm ad l)) (hk : xok Lv l st) (h : xs1 nL (.dneg) pc l st = some (pc2, l2, st2)) (k : ∀ ls2 : Array Slot, lv_has ls2 nL (xlm ad l2) → xok Lv l2 st2 → W p l0 e R s m args below meth c H locs cells slots Q (F0 m pc2 ls2 (st2.map (xc ad)))) : W p l0 e R s m args below meth c H locs cells slots Q (F0 m pc ls (st.map (xc ad))) := by
  simp only [xs1] at h
  split at h
  next =>
    cases h
    exact lv_dneg hx hb hd (k _ hl (xok_push (xok_tl hk) (h0 _)))
  next => cases h
theorem xs_fcmp {Lv : xV → Prop} {l l2 : xL} {st st2 : List xV} {nL pc2 : Nat} (h0 : ∀ v, Lv (.inl v)) (hx : p.tables.exec = Jvm.exec) (hb : c.code = cc) {o : CmpOp} (hd : decode cc pc = .ok (.fcmp o, 1)) (hl : lv_has ls nL (xlm ad l)) (hk : xok Lv l st) (h : xs1 nL (.fcmp o) pc l st = some (pc2, l2, st2)) (k : ∀ ls2 : Array Slot, lv_has ls2 nL (xlm ad l2) → xok Lv l2 st2 → W p l0 e R s m args below meth c H locs cells slots Q (F0 m pc2 ls2 (st2.map (xc ad)))) : W p l0 e R s m args below meth c H locs cells slots Q (F0 m pc ls (st.map (xc ad))) := by
  simp only [xs1] at h
  split at h
  next =>
    cases h
    exact lv_fcmp hx hb hd (k _ hl (xok_push (xok_tl (xok_tl hk)) (h0 _)))
  next => cases h
theorem xs_dcmp {Lv : xV → Prop} {l l2 : xL} {st st2 : List xV} {nL pc2 : Nat} (h0 : ∀ v, Lv (.inl v)) (hx : p.tables.exec = Jvm.exec) (hb : c.code = cc) {o : CmpOp} (hd : decode cc pc = .ok (.dcmp o, 1)) (hl : lv_has ls nL (xlm ad l)) (hk : xok Lv l st) (h : xs1 nL (.dcmp o) pc l st = some (pc2, l2, st2)) (k : ∀ ls2 : Array Slot, lv_has ls2 nL (xlm ad l2) → xok Lv l2 st2 → W p l0 e R s m args below meth c H locs cells slots Q (F0 m pc2 ls2 (st2.map (xc ad)))) : W p l0 e R s m args below meth c H locs cells slots Q (F0 m pc ls (st.map (xc ad))) := by
  simp only [xs1] at h
  split at h
  next =>
    cases h
    exact lv_dcmp hx hb hd (k _ hl (xok_push (xok_tl (xok_tl hk)) (h0 _)))
  next => cases h
theorem xs_i2f {Lv : xV → Prop} {l l2 : xL} {st st2 : List xV} {nL pc2 : Nat} (h0 : ∀ v, Lv (.inl v)) (hx : p.tables.exec = Jvm.exec) (hb : c.code = cc) (hd : decode cc pc = .ok (.i2f, 1)) (hl : lv_has ls nL (xlm ad l)) (hk : xok Lv l st) (h : xs1 nL (.i2f) pc l st = some (pc2, l2, st2)) (k : ∀ ls2 : Array Slot, lv_has ls2 nL (xlm ad l2) → xok Lv l2 st2 → W p l0 e R s m args below meth c H locs cells slots Q (F0 m pc2 ls2 (st2.map (xc ad)))) : W p l0 e R s m args below meth c H locs cells slots Q (F0 m pc ls (st.map (xc ad))) := by
  simp only [xs1] at h
  split at h
  next =>
    cases h
    exact lv_i2f hx hb hd (k _ hl (xok_push (xok_tl hk) (h0 _)))
  next => cases h
theorem xs_l2f {Lv : xV → Prop} {l l2 : xL} {st st2 : List xV} {nL pc2 : Nat} (h0 : ∀ v, Lv (.inl v)) (hx : p.tables.exec = Jvm.exec) (hb : c.code = cc) (hd : decode cc pc = .ok (.l2f, 1)) (hl : lv_has ls nL (xlm ad l)) (hk : xok Lv l st) (h : xs1 nL (.l2f) pc l st = some (pc2, l2, st2)) (k : ∀ ls2 : Array Slot, lv_has ls2 nL (xlm ad l2) → xok Lv l2 st2 → W p l0 e R s m args below meth c H locs cells slots Q (F0 m pc2 ls2 (st2.map (xc ad)))) : W p l0 e R s m args below meth c H locs cells slots Q (F0 m pc ls (st.map (xc ad))) := by
  simp only [xs1] at h
  split at h
  next =>
    cases h
    exact lv_l2f hx hb hd (k _ hl (xok_push (xok_tl hk) (h0 _)))
  next => cases h
theorem xs_f2i {Lv : xV → Prop} {l l2 : xL} {st st2 : List xV} {nL pc2 : Nat} (h0 : ∀ v, Lv (.inl v)) (hx : p.tables.exec = Jvm.exec) (hb : c.code = cc) (hd : decode cc pc = .ok (.f2i, 1)) (hl : lv_has ls nL (xlm ad l)) (hk : xok Lv l st) (h : xs1 nL (.f2i) pc l st = some (pc2, l2, st2)) (k : ∀ ls2 : Array Slot, lv_has ls2 nL (xlm ad l2) → xok Lv l2 st2 → W p l0 e R s m args below meth c H locs cells slots Q (F0 m pc2 ls2 (st2.map (xc ad)))) : W p l0 e R s m args below meth c H locs cells slots Q (F0 m pc ls (st.map (xc ad))) := by
  simp only [xs1] at h
  split at h
  next =>
    cases h
    exact lv_f2i hx hb hd (k _ hl (xok_push (xok_tl hk) (h0 _)))
  next => cases h
theorem xs_f2l {Lv : xV → Prop} {l l2 : xL} {st st2 : List xV} {nL pc2 : Nat} (h0 : ∀ v, Lv (.inl v)) (hx : p.tables.exec = Jvm.exec) (hb : c.code = cc) (hd : decode cc pc = .ok (.f2l, 1)) (hl : lv_has ls nL (xlm ad l)) (hk : xok Lv l st) (h : xs1 nL (.f2l) pc l st = some (pc2, l2, st2)) (k : ∀ ls2 : Array Slot, lv_has ls2 nL (xlm ad l2) → xok Lv l2 st2 → W p l0 e R s m args below meth c H locs cells slots Q (F0 m pc2 ls2 (st2.map (xc ad)))) : W p l0 e R s m args below meth c H locs cells slots Q (F0 m pc ls (st.map (xc ad))) := by
  simp only [xs1] at h
  split at h
  next =>
    cases h
    exact lv_f2l hx hb hd (k _ hl (xok_push (xok_tl hk) (h0 _)))
  next => cases h
theorem xs_i2d {Lv : xV → Prop} {l l2 : xL} {st st2 : List xV} {nL pc2 : Nat} (h0 : ∀ v, Lv (.inl v)) (hx : p.tables.exec = Jvm.exec) (hb : c.code = cc) (hd : decode cc pc = .ok (.i2d, 1)) (hl : lv_has ls nL (xlm ad l)) (hk : xok Lv l st) (h : xs1 nL (.i2d) pc l st = some (pc2, l2, st2)) (k : ∀ ls2 : Array Slot, lv_has ls2 nL (xlm ad l2) → xok Lv l2 st2 → W p l0 e R s m args below meth c H locs cells slots Q (F0 m pc2 ls2 (st2.map (xc ad)))) : W p l0 e R s m args below meth c H locs cells slots Q (F0 m pc ls (st.map (xc ad))) := by
  simp only [xs1] at h
  split at h
  next =>
    cases h
    exact lv_i2d hx hb hd (k _ hl (xok_push (xok_tl hk) (h0 _)))
  next => cases h
theorem xs_l2d {Lv : xV → Prop} {l l2 : xL} {st st2 : List xV} {nL pc2 : Nat} (h0 : ∀ v, Lv (.inl v)) (hx : p.tables.exec = Jvm.exec) (hb : c.code = cc) (hd : decode cc pc = .ok (.l2d, 1)) (hl : lv_has ls nL (xlm ad l)) (hk : xok Lv l st) (h : xs1 nL (.l2d) pc l st = some (pc2, l2, st2)) (k : ∀ ls2 : Array Slot, lv_has ls2 nL (xlm ad l2) → xok Lv l2 st2 → W p l0 e R s m args below meth c H locs cells slots Q (F0 m pc2 ls2 (st2.map (xc ad)))) : W p l0 e R s m args below meth c H locs cells slots Q (F0 m pc ls (st.map (xc ad))) := by
  simp only [xs1] at h
  split at h
  next =>
    cases h
    exact lv_l2d hx hb hd (k _ hl (xok_push (xok_tl hk) (h0 _)))
  next => cases h
theorem xs_d2i {Lv : xV → Prop} {l l2 : xL} {st st2 : List xV} {nL pc2 : Nat} (h0 : ∀ v, Lv (.inl v)) (hx : p.tables.exec = Jvm.exec) (hb : c.code = cc) (hd : decode cc pc = .ok (.d2i, 1)) (hl : lv_has ls nL (xlm ad l)) (hk : xok Lv l st) (h : xs1 nL (.d2i) pc l st = some (pc2, l2, st2)) (k : ∀ ls2 : Array Slot, lv_has ls2 nL (xlm ad l2) → xok Lv l2 st2 → W p l0 e R s m args below meth c H locs cells slots Q (F0 m pc2 ls2 (st2.map (xc ad)))) : W p l0 e R s m args below meth c H locs cells slots Q (F0 m pc ls (st.map (xc ad))) := by
  simp only [xs1] at h
  split at h
  next =>
    cases h
    exact lv_d2i hx hb hd (k _ hl (xok_push (xok_tl hk) (h0 _)))
  next => cases h
theorem xs_d2l {Lv : xV → Prop} {l l2 : xL} {st st2 : List xV} {nL pc2 : Nat} (h0 : ∀ v, Lv (.inl v)) (hx : p.tables.exec = Jvm.exec) (hb : c.code = cc) (hd : decode cc pc = .ok (.d2l, 1)) (hl : lv_has ls nL (xlm ad l)) (hk : xok Lv l st) (h : xs1 nL (.d2l) pc l st = some (pc2, l2, st2)) (k : ∀ ls2 : Array Slot, lv_has ls2 nL (xlm ad l2) → xok Lv l2 st2 → W p l0 e R s m args below meth c H locs cells slots Q (F0 m pc2 ls2 (st2.map (xc ad)))) : W p l0 e R s m args below meth c H locs cells slots Q (F0 m pc ls (st.map (xc ad))) := by
  simp only [xs1] at h
  split at h
  next =>
    cases h
    exact lv_d2l hx hb hd (k _ hl (xok_push (xok_tl hk) (h0 _)))
  next => cases h
theorem xs_f2d {Lv : xV → Prop} {l l2 : xL} {st st2 : List xV} {nL pc2 : Nat} (h0 : ∀ v, Lv (.inl v)) (hx : p.tables.exec = Jvm.exec) (hb : c.code = cc) (hd : decode cc pc = .ok (.f2d, 1)) (hl : lv_has ls nL (xlm ad l)) (hk : xok Lv l st) (h : xs1 nL (.f2d) pc l st = some (pc2, l2, st2)) (k : ∀ ls2 : Array Slot, lv_has ls2 nL (xlm ad l2) → xok Lv l2 st2 → W p l0 e R s m args below meth c H locs cells slots Q (F0 m pc2 ls2 (st2.map (xc ad)))) : W p l0 e R s m args below meth c H locs cells slots Q (F0 m pc ls (st.map (xc ad))) := by
  simp only [xs1] at h
  split at h
  next =>
    split at h
    next hg =>
      cases h
      exact lv_f2d hx hb hd hg (k _ hl (xok_push (xok_tl hk) (h0 _)))
    next => cases h
  next => cases h
theorem xs_d2f {Lv : xV → Prop} {l l2 : xL} {st st2 : List xV} {nL pc2 : Nat} (h0 : ∀ v, Lv (.inl v)) (hx : p.tables.exec = Jvm.exec) (hb : c.code = cc) (hd : decode cc pc = .ok (.d2f, 1)) (hl : lv_has ls nL (xlm ad l)) (hk : xok Lv l st) (h : xs1 nL (.d2f) pc l st = some (pc2, l2, st2)) (k : ∀ ls2 : Array Slot, lv_has ls2 nL (xlm ad l2) → xok Lv l2 st2 → W p l0 e R s m args below meth c H locs cells slots Q (F0 m pc2 ls2 (st2.map (xc ad)))) : W p l0 e R s m args below meth c H locs cells slots Q (F0 m pc ls (st.map (xc ad))) := by
  simp only [xs1] at h
  split at h
  next =>
    split at h
    next hg =>
      cases h
      exact lv_d2f hx hb hd hg (k _ hl (xok_push (xok_tl hk) (h0 _)))
    next => cases h
  next => cases h
theorem xs_dup {Lv : xV → Prop} {l l2 : xL} {st st2 : List xV} {nL pc2 : Nat} (h0 : ∀ v, Lv (.inl v)) (hx : p.tables.exec = Jvm.exec) (hb : c.code = cc) (hd : decode cc pc = .ok (.dup, 1)) (hl : lv_has ls nL (xlm ad l)) (hk : xok Lv l st) (h : xs1 nL (.dup) pc l st = some (pc2, l2, st2)) (k : ∀ ls2 : Array Slot, lv_has ls2 nL (xlm ad l2) → xok Lv l2 st2 → W p l0 e R s m args below meth c H locs cells slots Q (F0 m pc2 ls2 (st2.map (xc ad)))) : W p l0 e R s m args below meth c H locs cells slots Q (F0 m pc ls (st.map (xc ad))) := by
  simp only [xs1] at h
  split at h
  next =>
    split at h
    next hg =>
      cases h
      exact lv_dup hx hb hd (by rw [xc_cat]; exact hg) (k _ hl (xok_push hk (xok_hd hk)))
    next => cases h
  next => cases h
theorem xs_pop {Lv : xV → Prop} {l l2 : xL} {st st2 : List xV} {nL pc2 : Nat} (h0 : ∀ v, Lv (.inl v)) (hx : p.tables.exec = Jvm.exec) (hb : c.code = cc) (hd : decode cc pc = .ok (.pop, 1)) (hl : lv_has ls nL (xlm ad l)) (hk : xok Lv l st) (h : xs1 nL (.pop) pc l st = some (pc2, l2, st2)) (k : ∀ ls2 : Array Slot, lv_has ls2 nL (xlm ad l2) → xok Lv l2 st2 → W p l0 e R s m args below meth c H locs cells slots Q (F0 m pc2 ls2 (st2.map (xc ad)))) : W p l0 e R s m args below meth c H locs cells slots Q (F0 m pc ls (st.map (xc ad))) := by
  simp only [xs1] at h
  split at h
  next =>
    split at h
    next hg =>
      cases h
      exact lv_pop hx hb hd (by rw [xc_cat]; exact hg) (k _ hl (xok_tl hk))
    next => cases h
  next => cases h
theorem xs_dup_x1 {Lv : xV → Prop} {l l2 : xL} {st st2 : List xV} {nL pc2 : Nat} (h0 : ∀ v, Lv (.inl v)) (hx : p.tables.exec = Jvm.exec) (hb : c.code = cc) (hd : decode cc pc = .ok (.dup_x1, 1)) (hl : lv_has ls nL (xlm ad l)) (hk : xok Lv l st) (h : xs1 nL (.dup_x1) pc l st = some (pc2, l2, st2)) (k : ∀ ls2 : Array Slot, lv_has ls2 nL (xlm ad l2) → xok Lv l2 st2 → W p l0 e R s m args below meth c H locs cells slots Q (F0 m pc2 ls2 (st2.map (xc ad)))) : W p l0 e R s m args below meth c H locs cells slots Q (F0 m pc ls (st.map (xc ad))) := by
  simp only [xs1] at h
  split at h
  next =>
    split at h
    next hg =>
      cases h
      exact lv_dup_x1 hx hb hd (by rw [xc_cat]; exact hg.1) (by rw [xc_cat]; exact hg.2) (k _ hl (xok_push (xok_push (xok_push (xok_tl (xok_tl hk)) (xok_hd hk)) (xok_hd (xok_tl hk))) (xok_hd hk)))
    next => cases h
  next => cases h
theorem xs_dup_x2 {Lv : xV → Prop} {l l2 : xL} {st st2 : List xV} {nL pc2 : Nat} (h0 : ∀ v, Lv (.inl v)) (hx : p.tables.exec = Jvm.exec) (hb : c.code = cc) (hd : decode cc pc = .ok (.dup_x2, 1)) (hl : lv_has ls nL (xlm ad l)) (hk : xok Lv l st) (h : xs1 nL (.dup_x2) pc l st = some (pc2, l2, st2)) (k : ∀ ls2 : Array Slot, lv_has ls2 nL (xlm ad l2) → xok Lv l2 st2 → W p l0 e R s m args below meth c H locs cells slots Q (F0 m pc2 ls2 (st2.map (xc ad)))) : W p l0 e R s m args below meth c H locs cells slots Q (F0 m pc ls (st.map (xc ad))) := by
  simp only [xs1] at h
  split at h
  next =>
    split at h
    next hg =>
      cases h
      exact lv_dup_x2 hx hb hd (by rw [xc_cat]; exact hg.1) (by rw [xc_cat]; exact hg.2.1) (by rw [xc_cat]; exact hg.2.2) (k _ hl (xok_push (xok_push (xok_push (xok_push (xok_tl (xok_tl (xok_tl hk))) (xok_hd hk)) (xok_hd (xok_tl (xok_tl hk)))) (xok_hd (xok_tl hk))) (xok_hd hk)))
    next => cases h
  next => cases h
theorem xs_dup2 {Lv : xV → Prop} {l l2 : xL} {st st2 : List xV} {nL pc2 : Nat} (h0 : ∀ v, Lv (.inl v)) (hx : p.tables.exec = Jvm.exec) (hb : c.code = cc) (hd : decode cc pc = .ok (.dup2, 1)) (hl : lv_has ls nL (xlm ad l)) (hk : xok Lv l st) (h : xs1 nL (.dup2) pc l st = some (pc2, l2, st2)) (k : ∀ ls2 : Array Slot, lv_has ls2 nL (xlm ad l2) → xok Lv l2 st2 → W p l0 e R s m args below meth c H locs cells slots Q (F0 m pc2 ls2 (st2.map (xc ad)))) : W p l0 e R s m args below meth c H locs cells slots Q (F0 m pc ls (st.map (xc ad))) := by
  simp only [xs1] at h
  split at h
  next =>
    split at h
    next hg =>
      cases h
      exact lv_dup2_11 hx hb hd (by rw [xc_cat]; exact hg.1) (by rw [xc_cat]; exact hg.2) (k _ hl (xok_push (xok_push hk (xok_hd (xok_tl hk))) (xok_hd hk)))
    next => cases h
  next => cases h
theorem xs_iload_n {Lv : xV → Prop} {l l2 : xL} {st st2 : List xV} {nL pc2 : Nat} (h0 : ∀ v, Lv (.inl v)) (hx : p.tables.exec = Jvm.exec) (hb : c.code = cc) {n : Fin 4} (hd : decode cc pc = .ok (.iload_n n, 1)) (hl : lv_has ls nL (xlm ad l)) (hk : xok Lv l st) (h : xs1 nL (.iload_n n) pc l st = some (pc2, l2, st2)) (k : ∀ ls2 : Array Slot, lv_has ls2 nL (xlm ad l2) → xok Lv l2 st2 → W p l0 e R s m args below meth c H locs cells slots Q (F0 m pc2 ls2 (st2.map (xc ad)))) : W p l0 e R s m args below meth c H locs cells slots Q (F0 m pc ls (st.map (xc ad))) := by
  simp only [xs1] at h
  split at h
  next e0 =>
    cases h
    exact lv_iload_n hx hb hd rfl (xl_at hl e0) (k _ hl (xok_push hk (h0 _)))
  next => cases h
theorem xs_iload {Lv : xV → Prop} {l l2 : xL} {st st2 : List xV} {nL pc2 : Nat} (h0 : ∀ v, Lv (.inl v)) (hx : p.tables.exec = Jvm.exec) (hb : c.code = cc) {n : Nat} (hd : decode cc pc = .ok (.iload n, 2)) (hl : lv_has ls nL (xlm ad l)) (hk : xok Lv l st) (h : xs1 nL (.iload n) pc l st = some (pc2, l2, st2)) (k : ∀ ls2 : Array Slot, lv_has ls2 nL (xlm ad l2) → xok Lv l2 st2 → W p l0 e R s m args below meth c H locs cells slots Q (F0 m pc2 ls2 (st2.map (xc ad)))) : W p l0 e R s m args below meth c H locs cells slots Q (F0 m pc ls (st.map (xc ad))) := by
  simp only [xs1] at h
  split at h
  next e0 =>
    cases h
    exact lv_iload hx hb hd (xl_at hl e0) (k _ hl (xok_push hk (h0 _)))
  next => cases h
theorem xs_lload_n {Lv : xV → Prop} {l l2 : xL} {st st2 : List xV} {nL pc2 : Nat} (h0 : ∀ v, Lv (.inl v)) (hx : p.tables.exec = Jvm.exec) (hb : c.code = cc) {n : Fin 4} (hd : decode cc pc = .ok (.lload_n n, 1)) (hl : lv_has ls nL (xlm ad l)) (hk : xok Lv l st) (h : xs1 nL (.lload_n n) pc l st = some (pc2, l2, st2)) (k : ∀ ls2 : Array Slot, lv_has ls2 nL (xlm ad l2) → xok Lv l2 st2 → W p l0 e R s m args below meth c H locs cells slots Q (F0 m pc2 ls2 (st2.map (xc ad)))) : W p l0 e R s m args below meth c H locs cells slots Q (F0 m pc ls (st.map (xc ad))) := by
  simp only [xs1] at h
  split at h
  next e0 =>
    cases h
    exact lv_lload_n hx hb hd rfl (xl_at hl e0) (k _ hl (xok_push hk (h0 _)))
  next => cases h
theorem xs_lload {Lv : xV → Prop} {l l2 : xL} {st st2 : List xV} {nL pc2 : Nat} (h0 : ∀ v, Lv (.inl v)) (hx : p.tables.exec = Jvm.exec) (hb : c.code = cc) {n : Nat} (hd : decode cc pc = .ok (.lload n, 2)) (hl : lv_has ls nL (xlm ad l)) (hk : xok Lv l st) (h : xs1 nL (.lload n) pc l st = some (pc2, l2, st2)) (k : ∀ ls2 : Array Slot, lv_has ls2 nL (xlm ad l2) → xok Lv l2 st2 → W p l0 e R s m args below meth c H locs cells slots Q (F0 m pc2 ls2 (st2.map (xc ad)))) : W p l0 e R s m args below meth c H locs cells slots Q (F0 m pc ls (st.map (xc ad))) := by
  simp only [xs1] at h
  split at h
  next e0 =>
    cases h
    exact lv_lload hx hb hd (xl_at hl e0) (k _ hl (xok_push hk (h0 _)))
  next => cases h
theorem xs_fload_n {Lv : xV → Prop} {l l2 : xL} {st st2 : List xV} {nL pc2 : Nat} (h0 : ∀ v, Lv (.inl v)) (hx : p.tables.exec = Jvm.exec) (hb : c.code = cc) {n : Fin 4} (hd : decode cc pc = .ok (.fload_n n, 1)) (hl : lv_has ls nL (xlm ad l)) (hk : xok Lv l st) (h : xs1 nL (.fload_n n) pc l st = some (pc2, l2, st2)) (k : ∀ ls2 : Array Slot, lv_has ls2 nL (xlm ad l2) → xok Lv l2 st2 → W p l0 e R s m args below meth c H locs cells slots Q (F0 m pc2 ls2 (st2.map (xc ad)))) : W p l0 e R s m args below meth c H locs cells slots Q (F0 m pc ls (st.map (xc ad))) := by
  simp only [xs1] at h
  split at h
  next e0 =>
    cases h
    exact lv_fload_n hx hb hd rfl (xl_at hl e0) (k _ hl (xok_push hk (h0 _)))
  next => cases h
theorem xs_fload {Lv : xV → Prop} {l l2 : xL} {st st2 : List xV} {nL pc2 : Nat} (h0 : ∀ v, Lv (.inl v)) (hx : p.tables.exec = Jvm.exec) (hb : c.code = cc) {n : Nat} (hd : decode cc pc = .ok (.fload n, 2)) (hl : lv_has ls nL (xlm ad l)) (hk : xok Lv l st) (h : xs1 nL (.fload n) pc l st = some (pc2, l2, st2)) (k : ∀ ls2 : Array Slot, lv_has ls2 nL (xlm ad l2) → xok Lv l2 st2 → W p l0 e R s m args below meth c H locs cells slots Q (F0 m pc2 ls2 (st2.map (xc ad)))) : W p l0 e R s m args below meth c H locs cells slots Q (F0 m pc ls (st.map (xc ad))) := by
  simp only [xs1] at h
  split at h
  next e0 =>
    cases h
    exact lv_fload hx hb hd (xl_at hl e0) (k _ hl (xok_push hk (h0 _)))
  next => cases h
theorem xs_dload_n {Lv : xV → Prop} {l l2 : xL} {st st2 : List xV} {nL pc2 : Nat} (h0 : ∀ v, Lv (.inl v)) (hx : p.tables.exec = Jvm.exec) (hb : c.code = cc) {n : Fin 4} (hd : decode cc pc = .ok (.dload_n n, 1)) (hl : lv_has ls nL (xlm ad l)) (hk : xok Lv l st) (h : xs1 nL (.dload_n n) pc l st = some (pc2, l2, st2)) (k : ∀ ls2 : Array Slot, lv_has ls2 nL (xlm ad l2) → xok Lv l2 st2 → W p l0 e R s m args below meth c H locs cells slots Q (F0 m pc2 ls2 (st2.map (xc ad)))) : W p l0 e R s m args below meth c H locs cells slots Q (F0 m pc ls (st.map (xc ad))) := by
  simp only [xs1] at h
  split at h
  next e0 =>
    cases h
    exact lv_dload_n hx hb hd rfl (xl_at hl e0) (k _ hl (xok_push hk (h0 _)))
  next => cases h
theorem xs_dload {Lv : xV → Prop} {l l2 : xL} {st st2 : List xV} {nL pc2 : Nat} (h0 : ∀ v, Lv (.inl v)) (hx : p.tables.exec = Jvm.exec) (hb : c.code = cc) {n : Nat} (hd : decode cc pc = .ok (.dload n, 2)) (hl : lv_has ls nL (xlm ad l)) (hk : xok Lv l st) (h : xs1 nL (.dload n) pc l st = some (pc2, l2, st2)) (k : ∀ ls2 : Array Slot, lv_has ls2 nL (xlm ad l2) → xok Lv l2 st2 → W p l0 e R s m args below meth c H locs cells slots Q (F0 m pc2 ls2 (st2.map (xc ad)))) : W p l0 e R s m args below meth c H locs cells slots Q (F0 m pc ls (st.map (xc ad))) := by
  simp only [xs1] at h
  split at h
  next e0 =>
    cases h
    exact lv_dload hx hb hd (xl_at hl e0) (k _ hl (xok_push hk (h0 _)))
  next => cases h
theorem xs_aload_n {Lv : xV → Prop} {l l2 : xL} {st st2 : List xV} {nL pc2 : Nat} (h0 : ∀ v, Lv (.inl v)) (hx : p.tables.exec = Jvm.exec) (hb : c.code = cc) {n : Fin 4} (hd : decode cc pc = .ok (.aload_n n, 1)) (hl : lv_has ls nL (xlm ad l)) (hk : xok Lv l st) (h : xs1 nL (.aload_n n) pc l st = some (pc2, l2, st2)) (k : ∀ ls2 : Array Slot, lv_has ls2 nL (xlm ad l2) → xok Lv l2 st2 → W p l0 e R s m args below meth c H locs cells slots Q (F0 m pc2 ls2 (st2.map (xc ad)))) : W p l0 e R s m args below meth c H locs cells slots Q (F0 m pc ls (st.map (xc ad))) := by
  simp only [xs1] at h
  split at h
  next e0 =>
    cases h
    exact lv_aload_nN hx hb hd rfl (xl_at hl e0) (k _ hl (xok_push hk (h0 _)))
  next e0 =>
    cases h
    exact lv_aload_n hx hb hd rfl (xl_at hl e0) (k _ hl (xok_push hk (h0 _)))
  next e0 =>
    cases h
    exact lv_aload_n hx hb hd rfl (xl_at hl e0) (k _ hl (xok_push hk (xok_l hk e0)))
  next => cases h
theorem xs_aload {Lv : xV → Prop} {l l2 : xL} {st st2 : List xV} {nL pc2 : Nat} (h0 : ∀ v, Lv (.inl v)) (hx : p.tables.exec = Jvm.exec) (hb : c.code = cc) {n : Nat} (hd : decode cc pc = .ok (.aload n, 2)) (hl : lv_has ls nL (xlm ad l)) (hk : xok Lv l st) (h : xs1 nL (.aload n) pc l st = some (pc2, l2, st2)) (k : ∀ ls2 : Array Slot, lv_has ls2 nL (xlm ad l2) → xok Lv l2 st2 → W p l0 e R s m args below meth c H locs cells slots Q (F0 m pc2 ls2 (st2.map (xc ad)))) : W p l0 e R s m args below meth c H locs cells slots Q (F0 m pc ls (st.map (xc ad))) := by
  simp only [xs1] at h
  split at h
  next e0 =>
    cases h
    exact lv_aloadN hx hb hd (xl_at hl e0) (k _ hl (xok_push hk (h0 _)))
  next e0 =>
    cases h
    exact lv_aload hx hb hd (xl_at hl e0) (k _ hl (xok_push hk (h0 _)))
  next e0 =>
    cases h
    exact lv_aload hx hb hd (xl_at hl e0) (k _ hl (xok_push hk (xok_l hk e0)))
  next => cases h
theorem xs_istore_n {Lv : xV → Prop} {l l2 : xL} {st st2 : List xV} {nL pc2 : Nat} (h0 : ∀ v, Lv (.inl v)) (hx : p.tables.exec = Jvm.exec) (hb : c.code = cc) {n : Fin 4} (hd : decode cc pc = .ok (.istore_n n, 1)) (hl : lv_has ls nL (xlm ad l)) (hk : xok Lv l st) (h : xs1 nL (.istore_n n) pc l st = some (pc2, l2, st2)) (k : ∀ ls2 : Array Slot, lv_has ls2 nL (xlm ad l2) → xok Lv l2 st2 → W p l0 e R s m args below meth c H locs cells slots Q (F0 m pc2 ls2 (st2.map (xc ad)))) : W p l0 e R s m args below meth c H locs cells slots Q (F0 m pc ls (st.map (xc ad))) := by
  simp only [xs1] at h
  split at h
  next =>
    split at h
    next hg =>
      cases h
      exact lv_istore_n hx hb hd rfl hl hg (xst1_map ad l _ (.inl (.int _))) (fun ls2 hl2 => k ls2 hl2 (xok_1 (xok_tl hk) _ (h0 _)))
    next => cases h
  next => cases h
theorem xs_istore {Lv : xV → Prop} {l l2 : xL} {st st2 : List xV} {nL pc2 : Nat} (h0 : ∀ v, Lv (.inl v)) (hx : p.tables.exec = Jvm.exec) (hb : c.code = cc) {n : Nat} (hd : decode cc pc = .ok (.istore n, 2)) (hl : lv_has ls nL (xlm ad l)) (hk : xok Lv l st) (h : xs1 nL (.istore n) pc l st = some (pc2, l2, st2)) (k : ∀ ls2 : Array Slot, lv_has ls2 nL (xlm ad l2) → xok Lv l2 st2 → W p l0 e R s m args below meth c H locs cells slots Q (F0 m pc2 ls2 (st2.map (xc ad)))) : W p l0 e R s m args below meth c H locs cells slots Q (F0 m pc ls (st.map (xc ad))) := by
  simp only [xs1] at h
  split at h
  next =>
    split at h
    next hg =>
      cases h
      exact lv_istore hx hb hd hl hg (xst1_map ad l _ (.inl (.int _))) (fun ls2 hl2 => k ls2 hl2 (xok_1 (xok_tl hk) _ (h0 _)))
    next => cases h
  next => cases h
theorem xs_lstore_n {Lv : xV → Prop} {l l2 : xL} {st st2 : List xV} {nL pc2 : Nat} (h0 : ∀ v, Lv (.inl v)) (hx : p.tables.exec = Jvm.exec) (hb : c.code = cc) {n : Fin 4} (hd : decode cc pc = .ok (.lstore_n n, 1)) (hl : lv_has ls nL (xlm ad l)) (hk : xok Lv l st) (h : xs1 nL (.lstore_n n) pc l st = some (pc2, l2, st2)) (k : ∀ ls2 : Array Slot, lv_has ls2 nL (xlm ad l2) → xok Lv l2 st2 → W p l0 e R s m args below meth c H locs cells slots Q (F0 m pc2 ls2 (st2.map (xc ad)))) : W p l0 e R s m args below meth c H locs cells slots Q (F0 m pc ls (st.map (xc ad))) := by
  simp only [xs1] at h
  split at h
  next =>
    split at h
    next hg =>
      cases h
      exact lv_lstore_n hx hb hd rfl hl hg (xst2_map ad l _ (.inl (.long _))) (fun ls2 hl2 => k ls2 hl2 (xok_2 (xok_tl hk) _ (h0 _)))
    next => cases h
  next => cases h
theorem xs_lstore {Lv : xV → Prop} {l l2 : xL} {st st2 : List xV} {nL pc2 : Nat} (h0 : ∀ v, Lv (.inl v)) (hx : p.tables.exec = Jvm.exec) (hb : c.code = cc) {n : Nat} (hd : decode cc pc = .ok (.lstore n, 2)) (hl : lv_has ls nL (xlm ad l)) (hk : xok Lv l st) (h : xs1 nL (.lstore n) pc l st = some (pc2, l2, st2)) (k : ∀ ls2 : Array Slot, lv_has ls2 nL (xlm ad l2) → xok Lv l2 st2 → W p l0 e R s m args below meth c H locs cells slots Q (F0 m pc2 ls2 (st2.map (xc ad)))) : W p l0 e R s m args below meth c H locs cells slots Q (F0 m pc ls (st.map (xc ad))) := by
  simp only [xs1] at h
  split at h
  next =>
    split at h
    next hg =>
      cases h
      exact lv_lstore hx hb hd hl hg (xst2_map ad l _ (.inl (.long _))) (fun ls2 hl2 => k ls2 hl2 (xok_2 (xok_tl hk) _ (h0 _)))
    next => cases h
  next => cases h
theorem xs_fstore_n {Lv : xV → Prop} {l l2 : xL} {st st2 : List xV} {nL pc2 : Nat} (h0 : ∀ v, Lv (.inl v)) (hx : p.tables.exec = Jvm.exec) (hb : c.code = cc) {n : Fin 4} (hd : decode cc pc = .ok (.fstore_n n, 1)) (hl : lv_has ls nL (xlm ad l)) (hk : xok Lv l st) (h : xs1 nL (.fstore_n n) pc l st = some (pc2, l2, st2)) (k : ∀ ls2 : Array Slot, lv_has ls2 nL (xlm ad l2) → xok Lv l2 st2 → W p l0 e R s m args below meth c H locs cells slots Q (F0 m pc2 ls2 (st2.map (xc ad)))) : W p l0 e R s m args below meth c H locs cells slots Q (F0 m pc ls (st.map (xc ad))) := by
  simp only [xs1] at h
  split at h
  next =>
    split at h
    next hg =>
      cases h
      exact lv_fstore_n hx hb hd rfl hl hg (xst1_map ad l _ (.inl (.float _))) (fun ls2 hl2 => k ls2 hl2 (xok_1 (xok_tl hk) _ (h0 _)))
    next => cases h
  next => cases h
theorem xs_fstore {Lv : xV → Prop} {l l2 : xL} {st st2 : List xV} {nL pc2 : Nat} (h0 : ∀ v, Lv (.inl v)) (hx : p.tables.exec = Jvm.exec) (hb : c.code = cc) {n : Nat} (hd : decode cc pc = .ok (.fstore n, 2)) (hl : lv_has ls nL (xlm ad l)) (hk : xok Lv l st) (h : xs1 nL (.fstore n) pc l st = some (pc2, l2, st2)) (k : ∀ ls2 : Array Slot, lv_has ls2 nL (xlm ad l2) → xok Lv l2 st2 → W p l0 e R s m args below meth c H locs cells slots Q (F0 m pc2 ls2 (st2.map (xc ad)))) : W p l0 e R s m args below meth c H locs cells slots Q (F0 m pc ls (st.map (xc ad))) := by
  simp only [xs1] at h
  split at h
  next =>
    split at h
    next hg =>
      cases h
      exact lv_fstore hx hb hd hl hg (xst1_map ad l _ (.inl (.float _))) (fun ls2 hl2 => k ls2 hl2 (xok_1 (xok_tl hk) _ (h0 _)))
    next => cases h
  next => cases h
theorem xs_dstore_n {Lv : xV → Prop} {l l2 : xL} {st st2 : List xV} {nL pc2 : Nat} (h0 : ∀ v, Lv (.inl v)) (hx : p.tables.exec = Jvm.exec) (hb : c.code = cc) {n : Fin 4} (hd : decode cc pc = .ok (.dstore_n n, 1)) (hl : lv_has ls nL (xlm ad l)) (hk : xok Lv l st) (h : xs1 nL (.dstore_n n) pc l st = some (pc2, l2, st2)) (k : ∀ ls2 : Array Slot, lv_has ls2 nL (xlm ad l2) → xok Lv l2 st2 → W p l0 e R s m args below meth c H locs cells slots Q (F0 m pc2 ls2 (st2.map (xc ad)))) : W p l0 e R s m args below meth c H locs cells slots Q (F0 m pc ls (st.map (xc ad))) := by
  simp only [xs1] at h
  split at h
  next =>
    split at h
    next hg =>
      cases h
      exact lv_dstore_n hx hb hd rfl hl hg (xst2_map ad l _ (.inl (.double _))) (fun ls2 hl2 => k ls2 hl2 (xok_2 (xok_tl hk) _ (h0 _)))
    next => cases h
  next => cases h
theorem xs_dstore {Lv : xV → Prop} {l l2 : xL} {st st2 : List xV} {nL pc2 : Nat} (h0 : ∀ v, Lv (.inl v)) (hx : p.tables.exec = Jvm.exec) (hb : c.code = cc) {n : Nat} (hd : decode cc pc = .ok (.dstore n, 2)) (hl : lv_has ls nL (xlm ad l)) (hk : xok Lv l st) (h : xs1 nL (.dstore n) pc l st = some (pc2, l2, st2)) (k : ∀ ls2 : Array Slot, lv_has ls2 nL (xlm ad l2) → xok Lv l2 st2 → W p l0 e R s m args below meth c H locs cells slots Q (F0 m pc2 ls2 (st2.map (xc ad)))) : W p l0 e R s m args below meth c H locs cells slots Q (F0 m pc ls (st.map (xc ad))) := by
  simp only [xs1] at h
  split at h
  next =>
    split at h
    next hg =>
      cases h
      exact lv_dstore hx hb hd hl hg (xst2_map ad l _ (.inl (.double _))) (fun ls2 hl2 => k ls2 hl2 (xok_2 (xok_tl hk) _ (h0 _)))
    next => cases h
  next => cases h
theorem xs_astore_n {Lv : xV → Prop} {l l2 : xL} {st st2 : List xV} {nL pc2 : Nat} (h0 : ∀ v, Lv (.inl v)) (hx : p.tables.exec = Jvm.exec) (hb : c.code = cc) {n : Fin 4} (hd : decode cc pc = .ok (.astore_n n, 1)) (hl : lv_has ls nL (xlm ad l)) (hk : xok Lv l st) (h : xs1 nL (.astore_n n) pc l st = some (pc2, l2, st2)) (k : ∀ ls2 : Array Slot, lv_has ls2 nL (xlm ad l2) → xok Lv l2 st2 → W p l0 e R s m args below meth c H locs cells slots Q (F0 m pc2 ls2 (st2.map (xc ad)))) : W p l0 e R s m args below meth c H locs cells slots Q (F0 m pc ls (st.map (xc ad))) := by
  simp only [xs1] at h
  split at h
  next =>
    split at h
    next hg =>
      cases h
      exact lv_astore_nN hx hb hd rfl hl hg (xst1_map ad l _ (.inl .null)) (fun ls2 hl2 => k ls2 hl2 (xok_1 (xok_tl hk) _ (h0 _)))
    next => cases h
  next q r =>
    split at h
    next hg =>
      cases h
      exact lv_astore_n hx hb hd rfl hl hg (xst1_map ad l _ (.inr q)) (fun ls2 hl2 => k ls2 hl2 (xok_1 (xok_tl hk) _ (xok_hd hk)))
    next => cases h
  next => cases h
theorem xs_astore {Lv : xV → Prop} {l l2 : xL} {st st2 : List xV} {nL pc2 : Nat} (h0 : ∀ v, Lv (.inl v)) (hx : p.tables.exec = Jvm.exec) (hb : c.code = cc) {n : Nat} (hd : decode cc pc = .ok (.astore n, 2)) (hl : lv_has ls nL (xlm ad l)) (hk : xok Lv l st) (h : xs1 nL (.astore n) pc l st = some (pc2, l2, st2)) (k : ∀ ls2 : Array Slot, lv_has ls2 nL (xlm ad l2) → xok Lv l2 st2 → W p l0 e R s m args below meth c H locs cells slots Q (F0 m pc2 ls2 (st2.map (xc ad)))) : W p l0 e R s m args below meth c H locs cells slots Q (F0 m pc ls (st.map (xc ad))) := by
  simp only [xs1] at h
  split at h
  next =>
    split at h
    next hg =>
      cases h
      exact lv_astoreN hx hb hd hl hg (xst1_map ad l _ (.inl .null)) (fun ls2 hl2 => k ls2 hl2 (xok_1 (xok_tl hk) _ (h0 _)))
    next => cases h
  next q r =>
    split at h
    next hg =>
      cases h
      exact lv_astore hx hb hd hl hg (xst1_map ad l _ (.inr q)) (fun ls2 hl2 => k ls2 hl2 (xok_1 (xok_tl hk) _ (xok_hd hk)))
    next => cases h
  next => cases h
theorem xs_iinc {Lv : xV → Prop} {l l2 : xL} {st st2 : List xV} {nL pc2 : Nat} (h0 : ∀ v, Lv (.inl v)) (hx : p.tables.exec = Jvm.exec) (hb : c.code = cc) {i : Nat} {n : Int} (hd : decode cc pc = .ok (.iinc i n, 3)) (hl : lv_has ls nL (xlm ad l)) (hk : xok Lv l st) (h : xs1 nL (.iinc i n) pc l st = some (pc2, l2, st2)) (k : ∀ ls2 : Array Slot, lv_has ls2 nL (xlm ad l2) → xok Lv l2 st2 → W p l0 e R s m args below meth c H locs cells slots Q (F0 m pc2 ls2 (st2.map (xc ad)))) : W p l0 e R s m args below meth c H locs cells slots Q (F0 m pc ls (st.map (xc ad))) := by
  simp only [xs1] at h
  split at h
  next e0 =>
    split at h
    next hg =>
      cases h
      obtain ⟨k0, hk0⟩ := List.getElem?_of_mem (xl_mem e0)
      exact lv_iinc hx hb hd hl (k := k0) (by rw [List.getElem?_map, hk0]; rfl) rfl hg (xst1_map ad l _ (.inl (.int _))) (fun ls2 hl2 => k ls2 hl2 (xok_1 hk _ (h0 _)))
    next => cases h
  next => cases h
theorem xs_goto {Lv : xV → Prop} {l l2 : xL} {st st2 : List xV} {nL pc2 : Nat} (h0 : ∀ v, Lv (.inl v)) (hx : p.tables.exec = Jvm.exec) (hb : c.code = cc) {off : Int} (hd : decode cc pc = .ok (.goto off, 3)) (hl : lv_has ls nL (xlm ad l)) (hk : xok Lv l st) (h : xs1 nL (.goto off) pc l st = some (pc2, l2, st2)) (k : ∀ ls2 : Array Slot, lv_has ls2 nL (xlm ad l2) → xok Lv l2 st2 → W p l0 e R s m args below meth c H locs cells slots Q (F0 m pc2 ls2 (st2.map (xc ad)))) : W p l0 e R s m args below meth c H locs cells slots Q (F0 m pc ls (st.map (xc ad))) := by
  simp only [xs1] at h
  split at h
  next hg =>
    cases h
    exact lv_goto hx hb hd (Int.toNat_of_nonneg hg).symm (k _ hl hk)
  next => cases h
theorem xs_ifnull {Lv : xV → Prop} {l l2 : xL} {st st2 : List xV} {nL pc2 : Nat} (h0 : ∀ v, Lv (.inl v)) (hx : p.tables.exec = Jvm.exec) (hb : c.code = cc) {off : Int} (hd : decode cc pc = .ok (.ifnull off, 3)) (hl : lv_has ls nL (xlm ad l)) (hk : xok Lv l st) (h : xs1 nL (.ifnull off) pc l st = some (pc2, l2, st2)) (k : ∀ ls2 : Array Slot, lv_has ls2 nL (xlm ad l2) → xok Lv l2 st2 → W p l0 e R s m args below meth c H locs cells slots Q (F0 m pc2 ls2 (st2.map (xc ad)))) : W p l0 e R s m args below meth c H locs cells slots Q (F0 m pc ls (st.map (xc ad))) := by
  simp only [xs1] at h
  split at h
  next =>
    split at h
    next hg =>
      cases h
      exact lv_ifnullN hx hb hd (Int.toNat_of_nonneg hg).symm (k _ hl (xok_tl hk))
    next => cases h
  next =>
    cases h
    exact lv_ifnull hx hb hd (k _ hl (xok_tl hk))
  next => cases h
theorem xs_ifnonnull {Lv : xV → Prop} {l l2 : xL} {st st2 : List xV} {nL pc2 : Nat} (h0 : ∀ v, Lv (.inl v)) (hx : p.tables.exec = Jvm.exec) (hb : c.code = cc) {off : Int} (hd : decode cc pc = .ok (.ifnonnull off, 3)) (hl : lv_has ls nL (xlm ad l)) (hk : xok Lv l st) (h : xs1 nL (.ifnonnull off) pc l st = some (pc2, l2, st2)) (k : ∀ ls2 : Array Slot, lv_has ls2 nL (xlm ad l2) → xok Lv l2 st2 → W p l0 e R s m args below meth c H locs cells slots Q (F0 m pc2 ls2 (st2.map (xc ad)))) : W p l0 e R s m args below meth c H locs cells slots Q (F0 m pc ls (st.map (xc ad))) := by
  simp only [xs1] at h
  split at h
  next =>
    cases h
    exact lv_ifnonnullN hx hb hd (k _ hl (xok_tl hk))
  next =>
    split at h
    next hg =>
      cases h
      exact lv_ifnonnull hx hb hd (Int.toNat_of_nonneg hg).symm (k _ hl (xok_tl hk))
    next => cases h
  next => cases h
set_option maxHeartbeats 4000000 in
/-- each plain instruction is the machine's own -/
theorem xs1_ok {Lv : xV → Prop} {l l2 : xL} {st st2 : List xV} {nL pc2 : Nat} {i : Instr} (h0 : ∀ v, Lv (.inl v)) (hx : p.tables.exec = Jvm.exec) (hb : c.code = cc) (hd : decode cc pc = .ok (i, xlen i)) (hl : lv_has ls nL (xlm ad l)) (hk : xok Lv l st) (h : xs1 nL i pc l st = some (pc2, l2, st2)) (k : ∀ ls2 : Array Slot, lv_has ls2 nL (xlm ad l2) → xok Lv l2 st2 → W p l0 e R s m args below meth c H locs cells slots Q (F0 m pc2 ls2 (st2.map (xc ad)))) : W p l0 e R s m args below meth c H locs cells slots Q (F0 m pc ls (st.map (xc ad))) := by
  cases i
  case aconst_null => exact xs_aconst_null h0 hx hb hd hl hk h k
  case iconst _ => exact xs_iconst h0 hx hb hd hl hk h k
  case bipush _ => exact xs_bipush h0 hx hb hd hl hk h k
  case sipush _ => exact xs_sipush h0 hx hb hd hl hk h k
  case lconst _ => exact xs_lconst h0 hx hb hd hl hk h k
  case iadd => exact xs_iadd h0 hx hb hd hl hk h k
  case isub => exact xs_isub h0 hx hb hd hl hk h k
  case imul => exact xs_imul h0 hx hb hd hl hk h k
  case iand => exact xs_iand h0 hx hb hd hl hk h k
  case ior => exact xs_ior h0 hx hb hd hl hk h k
  case ixor => exact xs_ixor h0 hx hb hd hl hk h k
  case ishl => exact xs_ishl h0 hx hb hd hl hk h k
  case ishr => exact xs_ishr h0 hx hb hd hl hk h k
  case iushr => exact xs_iushr h0 hx hb hd hl hk h k
  case idiv => exact xs_idiv h0 hx hb hd hl hk h k
  case irem => exact xs_irem h0 hx hb hd hl hk h k
  case ineg => exact xs_ineg h0 hx hb hd hl hk h k
  case ladd => exact xs_ladd h0 hx hb hd hl hk h k
  case lsub => exact xs_lsub h0 hx hb hd hl hk h k
  case lmul => exact xs_lmul h0 hx hb hd hl hk h k
  case land => exact xs_land h0 hx hb hd hl hk h k
  case lor => exact xs_lor h0 hx hb hd hl hk h k
  case lxor => exact xs_lxor h0 hx hb hd hl hk h k
  case ldiv => exact xs_ldiv h0 hx hb hd hl hk h k
  case lrem => exact xs_lrem h0 hx hb hd hl hk h k
  case lneg => exact xs_lneg h0 hx hb hd hl hk h k
  case lcmp => exact xs_lcmp h0 hx hb hd hl hk h k
  case lshl => exact xs_lshl h0 hx hb hd hl hk h k
  case lshr => exact xs_lshr h0 hx hb hd hl hk h k
  case lushr => exact xs_lushr h0 hx hb hd hl hk h k
  case i2l => exact xs_i2l h0 hx hb hd hl hk h k
  case l2i => exact xs_l2i h0 hx hb hd hl hk h k
  case i2b => exact xs_i2b h0 hx hb hd hl hk h k
  case i2s => exact xs_i2s h0 hx hb hd hl hk h k
  case i2c => exact xs_i2c h0 hx hb hd hl hk h k
  case fadd => exact xs_fadd h0 hx hb hd hl hk h k
  case fsub => exact xs_fsub h0 hx hb hd hl hk h k
  case fmul => exact xs_fmul h0 hx hb hd hl hk h k
  case fdiv => exact xs_fdiv h0 hx hb hd hl hk h k
  case frem => exact xs_frem h0 hx hb hd hl hk h k
  case dadd => exact xs_dadd h0 hx hb hd hl hk h k
  case dsub => exact xs_dsub h0 hx hb hd hl hk h k
  case dmul => exact xs_dmul h0 hx hb hd hl hk h k
  case ddiv => exact xs_ddiv h0 hx hb hd hl hk h k
  case drem => exact xs_drem h0 hx hb hd hl hk h k
  case fneg => exact xs_fneg h0 hx hb hd hl hk h k
  case dneg => exact xs_dneg h0 hx hb hd hl hk h k
  case fcmp _ => exact xs_fcmp h0 hx hb hd hl hk h k
  case dcmp _ => exact xs_dcmp h0 hx hb hd hl hk h k
  case i2f => exact xs_i2f h0 hx hb hd hl hk h k
  case l2f => exact xs_l2f h0 hx hb hd hl hk h k
  case f2i => exact xs_f2i h0 hx hb hd hl hk h k
  case f2l => exact xs_f2l h0 hx hb hd hl hk h k
  case i2d => exact xs_i2d h0 hx hb hd hl hk h k
  case l2d => exact xs_l2d h0 hx hb hd hl hk h k
  case d2i => exact xs_d2i h0 hx hb hd hl hk h k
  case d2l => exact xs_d2l h0 hx hb hd hl hk h k
  case f2d => exact xs_f2d h0 hx hb hd hl hk h k
  case d2f => exact xs_d2f h0 hx hb hd hl hk h k
  case dup => exact xs_dup h0 hx hb hd hl hk h k
  case pop => exact xs_pop h0 hx hb hd hl hk h k
  case dup_x1 => exact xs_dup_x1 h0 hx hb hd hl hk h k
  case dup_x2 => exact xs_dup_x2 h0 hx hb hd hl hk h k
  case dup2 => exact xs_dup2 h0 hx hb hd hl hk h k
  case iload_n _ => exact xs_iload_n h0 hx hb hd hl hk h k
  case iload _ => exact xs_iload h0 hx hb hd hl hk h k
  case lload_n _ => exact xs_lload_n h0 hx hb hd hl hk h k
  case lload _ => exact xs_lload h0 hx hb hd hl hk h k
  case fload_n _ => exact xs_fload_n h0 hx hb hd hl hk h k
  case fload _ => exact xs_fload h0 hx hb hd hl hk h k
  case dload_n _ => exact xs_dload_n h0 hx hb hd hl hk h k
  case dload _ => exact xs_dload h0 hx hb hd hl hk h k
  case aload_n _ => exact xs_aload_n h0 hx hb hd hl hk h k
  case aload _ => exact xs_aload h0 hx hb hd hl hk h k
  case istore_n _ => exact xs_istore_n h0 hx hb hd hl hk h k
  case istore _ => exact xs_istore h0 hx hb hd hl hk h k
  case lstore_n _ => exact xs_lstore_n h0 hx hb hd hl hk h k
  case lstore _ => exact xs_lstore h0 hx hb hd hl hk h k
  case fstore_n _ => exact xs_fstore_n h0 hx hb hd hl hk h k
  case fstore _ => exact xs_fstore h0 hx hb hd hl hk h k
  case dstore_n _ => exact xs_dstore_n h0 hx hb hd hl hk h k
  case dstore _ => exact xs_dstore h0 hx hb hd hl hk h k
  case astore_n _ => exact xs_astore_n h0 hx hb hd hl hk h k
  case astore _ => exact xs_astore h0 hx hb hd hl hk h k
  case iinc _ _ => exact xs_iinc h0 hx hb hd hl hk h k
  case goto _ => exact xs_goto h0 hx hb hd hl hk h k
  case ifnull _ => exact xs_ifnull h0 hx hb hd hl hk h k
  case ifnonnull _ => exact xs_ifnonnull h0 hx hb hd hl hk h k
  case fconst n =>
    match n, hd, h with
    | 0, hd, h => exact xs_fconst0 h0 hx hb hd hl hk h k
    | 1, hd, h => exact xs_fconst1 h0 hx hb hd hl hk h k
    | 2, hd, h => exact xs_fconst2 h0 hx hb hd hl hk h k
  case dconst n =>
    match n, hd, h with
    | 0, hd, h => exact xs_dconst0 h0 hx hb hd hl hk h k
    | 1, hd, h => exact xs_dconst1 h0 hx hb hd hl hk h k
  all_goals (cases h)
end XJ
end
section
set_option maxRecDepth 20000
section XH
/-- the kinds of arrays: 0 int, 1 long, 2 char, 3 double, 4 objects, 5 the reference's holders, 9 an int array that is only read -/
def xak (k : Nat) : FieldType := match k with
  | 1 => .long
  | 2 => .char
  | 3 => .double
  | 4 => .object "java/lang/Object"
  | 5 => .object "ViewFoundryModel$Held"
  | _ => .int
def xlv (h : xH) : xV → Prop
  | .inl _ => True
  | .inr q => h q ≠ none
def xOl (h : xH) : xO → Prop
  | .inl w => ∀ v ∈ w.2, xlv h v
  | .inr w => ∀ j, xlv h (w.2.2 j)
def xup (h : xH) (q : Nat × Nat) (o : xO) : xH := fun z => if z = q then some o else h z
def xan (ad : xN) (q : Nat × Nat) (a : Nat) : xN := fun z => if z = q then a else ad z
def xfu (f : Nat → xV) (i : Nat) (v : xV) : Nat → xV := fun j => if j = i then v else f j
theorem xup_dom {h : xH} {q z : Nat × Nat} {o : xO} (hz : h z ≠ none) : xup h q o z ≠ none := by
  unfold xup
  split
  · simp
  · exact hz
theorem xup_lv {h : xH} {q : Nat × Nat} {o : xO} {v : xV} (hv : xlv h v) : xlv (xup h q o) v := by
  cases v with
  | inl v => trivial
  | inr z => exact xup_dom hv
theorem xup_Ol {h : xH} {q : Nat × Nat} {o o1 : xO} (ho : xOl h o1) : xOl (xup h q o) o1 := by
  cases o1 with
  | inl w => exact fun v hv => xup_lv (ho v hv)
  | inr w => exact fun j => xup_lv (ho j)
theorem xan_c {h : xH} {ad : xN} {q : Nat × Nat} {a : Nat} (hq : h q = none) {v : xV} (hv : xlv h v) : xc (xan ad q a) v = xc ad v := by
  cases v with
  | inl v => rfl
  | inr z =>
    show Value.ref (xan ad q a z) = Value.ref (ad z)
    unfold xan
    exact congrArg Value.ref (if_neg (fun e : z = q => hv (by rw [e]; exact hq)))
/-- what a cell of the machine is of an object -/
def xcell (s : State) (D : va_G) (cl : List vw_C) (ad : xN) (a : Nat) (o : xO) (H : Heap) : Prop := match o with
  | .inl w => ∃ r : vw_C, cl[w.1]? = some r ∧ w.2.length = r.2.2 ∧ t_OB a (D.1 w.1) r.2.2 (D.2 w.1) H (vp_V (w.2.map (xc ad)))
  | .inr w => ∃ cell : Cell, H[a]? = some cell ∧ s.isArrayOf cell (xak w.1) ∧ (w.1 = 9 ∨ va_RA s cell.cls (xak w.1)) ∧ cell.vm ≠ .unknown ∧ cell.slots.size = w.2.1 ∧ ∀ j, j < w.2.1 → cell.slots[j]? = some (xc ad (w.2.2 j))
theorem xcell.kept {s : State} {D : va_G} {cl : List vw_C} {ad : xN} {a : Nat} {o : xO} {H H1 : Heap} (h : xcell s D cl ad a o H) (e : H1[a]? = H[a]?) : xcell s D cl ad a o H1 := by
  cases o with
  | inl w =>
    obtain ⟨r, h1, h2, h3⟩ := h
    exact ⟨r, h1, h2, h3.kept e⟩
  | inr w =>
    obtain ⟨cell, h1, h2⟩ := h
    exact ⟨cell, by rw [e]; exact h1, h2⟩
theorem xcell.lt {s : State} {D : va_G} {cl : List vw_C} {ad : xN} {a : Nat} {o : xO} {H : Heap} (h : xcell s D cl ad a o H) : a < H.size := by
  cases o with
  | inl w =>
    obtain ⟨r, h1, h2, cell, h3, -⟩ := h
    exact (Array.getElem?_eq_some_iff.mp h3).1
  | inr w =>
    obtain ⟨cell, h1, -⟩ := h
    exact (Array.getElem?_eq_some_iff.mp h1).1
theorem xcell.ad {s : State} {D : va_G} {cl : List vw_C} {ad ad2 : xN} {a : Nat} {o : xO} {H : Heap} {h : xH} (hc : xcell s D cl ad a o H) (ho : xOl h o) (e : ∀ v, xlv h v → xc ad2 v = xc ad v) : xcell s D cl ad2 a o H := by
  cases o with
  | inl w =>
    obtain ⟨r, h1, h2, h3⟩ := hc
    refine ⟨r, h1, h2, ?_⟩
    rw [List.map_congr_left (fun v hv => e v (ho v hv))]
    exact h3
  | inr w =>
    obtain ⟨cell, h1, h2, h3, h4, h5, h6⟩ := hc
    exact ⟨cell, h1, h2, h3, h4, h5, fun j hj => by rw [e _ (ho j)]; exact h6 j hj⟩
theorem xcell.moved {s U : State} {D : va_G} {cl : List vw_C} {ad : xN} {a : Nat} {o : xO} {H : Heap} (hvm : s.vm.Alike U.vm) (h : xcell s D cl ad a o H) : xcell U D cl ad a o H := by
  cases o with
  | inl w => exact h
  | inr w =>
    obtain ⟨cell, h1, h2, h3, h4⟩ := h
    exact ⟨cell, h1, State.isArrayOf_alike hvm h2, h3.imp id (fun z => z.moved hvm), h4⟩
/-- the machine's heap holds the small machine's objects, each at the address of its name -/
def xRep (s : State) (D : va_G) (cl : List vw_C) (B : Nat) (ad : xN) (h : xH) (H : Heap) : Prop :=
  (∀ q o, h q = some o → xcell s D cl ad (ad q) o H) ∧ (∀ q z, h q ≠ none → h z ≠ none → ad q = ad z → q = z) ∧ (∀ q, h q ≠ none → q.1 ≠ 0 → B ≤ ad q) ∧ ∀ q o, h q = some o → xOl h o
theorem xRep.moved {s U : State} {D : va_G} {cl : List vw_C} {B : Nat} {ad : xN} {h : xH} {H : Heap} (hvm : s.vm.Alike U.vm) (hR : xRep s D cl B ad h H) : xRep U D cl B ad h H :=
  ⟨fun q o hq => (hR.1 q o hq).moved hvm, hR.2⟩
theorem xRep.put {s : State} {D : va_G} {cl : List vw_C} {B : Nat} {ad : xN} {h : xH} {H H1 : Heap} {q : Nat × Nat} {o o1 : xO} (hR : xRep s D cl B ad h H) (hq : h q = some o) (hc : xcell s D cl ad (ad q) o1 H1) (hk : ∀ a, a ≠ ad q → H1[a]? = H[a]?) (ho : xOl h o1) : xRep s D cl B ad (xup h q o1) H1 := by
  obtain ⟨r1, r2, r3, r4⟩ := hR
  have hq0 : h q ≠ none := by rw [hq]; simp
  have dom : ∀ z, xup h q o1 z ≠ none → h z ≠ none := by
    intro z hz
    unfold xup at hz
    split at hz
    next e => subst e; exact hq0
    next => exact hz
  refine ⟨fun z oz hz => ?_, fun z y hz hy e => r2 z y (dom z hz) (dom y hy) e, fun z hz h0 => r3 z (dom z hz) h0, fun z oz hz => ?_⟩
  · unfold xup at hz
    split at hz
    next e => cases hz; subst e; exact hc
    next e => exact (r1 z oz hz).kept (hk _ (fun a => e (r2 z q (by rw [hz]; simp) hq0 a)))
  · unfold xup at hz
    split at hz
    next e => cases hz; exact xup_Ol ho
    next e => exact xup_Ol (r4 z oz hz)
theorem xRep.new {s : State} {D : va_G} {cl : List vw_C} {B : Nat} {ad : xN} {h : xH} {H H1 : Heap} {q : Nat × Nat} {o1 : xO} (hR : xRep s D cl B ad h H) (hq : h q = none) (hB : B ≤ H.size) (hc : xcell s D cl (xan ad q H.size) H.size o1 H1) (hk : ∀ x, x < H.size → H1[x]? = H[x]?) (ho : xOl (xup h q o1) o1) : xRep s D cl B (xan ad q H.size) (xup h q o1) H1 := by
  obtain ⟨r1, r2, r3, r4⟩ := hR
  have hlt : ∀ z, h z ≠ none → ad z < H.size := by
    intro z hz
    cases e : h z with
    | none => exact absurd e hz
    | some o => exact (r1 z o e).lt
  have hae : ∀ z, h z ≠ none → xan ad q H.size z = ad z := fun z hz => by
    unfold xan
    exact if_neg (fun e : z = q => hz (by rw [e]; exact hq))
  have hself : xan ad q H.size q = H.size := by unfold xan; rw [if_pos rfl]
  have dom : ∀ z, xup h q o1 z ≠ none → z = q ∨ h z ≠ none := by
    intro z hz
    unfold xup at hz
    split at hz
    next e => exact Or.inl e
    next => exact Or.inr hz
  refine ⟨fun z oz hz => ?_, fun z y hz hy e => ?_, fun z hz h0 => ?_, fun z oz hz => ?_⟩
  · unfold xup at hz
    split at hz
    next e =>
      cases hz
      subst e
      rw [hself]
      exact hc
    next e =>
      have hz0 : h z ≠ none := by rw [hz]; simp
      rw [hae z hz0]
      exact ((r1 z oz hz).ad (r4 z oz hz) (fun v hv => xan_c hq hv)).kept (hk _ (hlt z hz0))
  · rcases dom z hz with rfl | hz0 <;> rcases dom y hy with rfl | hy0
    · rfl
    · rw [hself, hae y hy0] at e
      exact absurd (hlt y hy0) (by omega)
    · rw [hself, hae z hz0] at e
      exact absurd (hlt z hz0) (by omega)
    · rw [hae z hz0, hae y hy0] at e
      exact r2 z y hz0 hy0 e
  · rcases dom z hz with rfl | hz0
    · rw [hself]; exact hB
    · rw [hae z hz0]; exact r3 z hz0 h0
  · unfold xup at hz
    split at hz
    next e => cases hz; exact ho
    next e => exact xup_Ol (r4 z oz hz)
theorem xarr_set {ad : xN} {cell : Cell} {n : Nat} {f : Nat → xV} {i : Nat} {v : xV} (hsz : cell.slots.size = n) (hv : ∀ j, j < n → cell.slots[j]? = some (xc ad (f j))) (hi : i < n) :
    (cell.setSlot i (xc ad v)).slots.size = n ∧ ∀ j, j < n → (cell.setSlot i (xc ad v)).slots[j]? = some (xc ad (xfu f i v j)) := by
  refine ⟨by simp [Cell.setSlot, hsz], fun j hj => ?_⟩
  show (cell.slots.setIfInBounds i (xc ad v))[j]? = _
  unfold xfu
  by_cases e : j = i
  · subst e
    rw [if_pos rfl, Array.getElem?_setIfInBounds_self_of_lt (by omega)]
  · rw [if_neg e, Array.getElem?_setIfInBounds_ne (fun z => e z.symm)]
    exact hv j hj
/-- what a frame knows of the heap: the objects, and that nothing else that was there at its start has changed -/
def xI (s : State) (D : va_G) (cl : List vw_C) (B : Nat) (ad : xN) (h : xH) (H : Heap) (locs : List Loc) : Prop :=
  xRep s D cl B ad h H ∧ va_S (fun q => B ≤ q) s.heap H locs ∧ B ≤ s.heap.size
/-- one address more was written -/
theorem xS_put {B : Nat} {H0 H H1 : Heap} {locs : List Loc} {a i : Nat} (hS : va_S (fun q => B ≤ q) H0 H locs) (hz : H1.size = H.size) (hk : ∀ x, x ≠ a → H1[x]? = H[x]?) (ha : B ≤ a) : va_S (fun q => B ≤ q) H0 H1 (locs ++ [⟨a, i⟩]) := by
  refine ⟨by rw [hz]; exact hS.1, fun q h1 h2 => ?_, fun l hl => ?_⟩
  · have h2' : ¬ B ≤ q := h2
    rw [hk q (fun e => h2' (e ▸ ha))]
    exact hS.2.1 q h1 h2
  · rcases List.mem_append.mp hl with h | h
    · exact hS.2.2 l h
    · rw [List.mem_singleton.mp h]
      exact ha
theorem xS_new {B : Nat} {H0 H H1 : Heap} {locs : List Loc} (hS : va_S (fun q => B ≤ q) H0 H locs) (hz : H.size ≤ H1.size) (hk : ∀ x, x < H.size → H1[x]? = H[x]?) : va_S (fun q => B ≤ q) H0 H1 locs :=
  ⟨Nat.le_trans hS.1 hz, fun q h1 h2 => by rw [hk q (Nat.lt_of_lt_of_le h1 hS.1)]; exact hS.2.1 q h1 h2, hS.2.2⟩
/-- a write of an object that is there, but not one that is only read -/
theorem xI.put {s : State} {D : va_G} {cl : List vw_C} {B : Nat} {ad : xN} {h : xH} {H H1 : Heap} {locs : List Loc} {q : Nat × Nat} {o o1 : xO} {i : Nat} (hI : xI s D cl B ad h H locs) (hq : h q = some o) (h0 : q.1 ≠ 0) (hc : xcell s D cl ad (ad q) o1 H1) (hz : H1.size = H.size) (hk : ∀ a, a ≠ ad q → H1[a]? = H[a]?) (ho : xOl h o1) : xI s D cl B ad (xup h q o1) H1 (locs ++ [⟨ad q, i⟩]) :=
  ⟨hI.1.put hq hc hk ho, xS_put hI.2.1 hz hk (hI.1.2.2.1 q (by rw [hq]; simp) h0), hI.2.2⟩
theorem xI.new {s : State} {D : va_G} {cl : List vw_C} {B : Nat} {ad : xN} {h : xH} {H H1 : Heap} {locs : List Loc} {q : Nat × Nat} {o1 : xO} (hI : xI s D cl B ad h H locs) (hq : h q = none) (hc : xcell s D cl (xan ad q H.size) H.size o1 H1) (hz : H.size ≤ H1.size) (hk : ∀ x, x < H.size → H1[x]? = H[x]?) (ho : xOl (xup h q o1) o1) : xI s D cl B (xan ad q H.size) (xup h q o1) H1 locs :=
  ⟨hI.1.new hq (Nat.le_trans hI.2.2 hI.2.1.1) hc hk ho, xS_new hI.2.1 hz hk, hI.2.2⟩
theorem xlm_an {h : xH} {ad : xN} {q : Nat × Nat} {a : Nat} {l : xL} (hq : h q = none) (hl : ∀ z ∈ l, xlv h z.2) : xlm (xan ad q a) l = xlm ad l :=
  List.map_congr_left (fun z hz => by rw [xan_c hq (hl z hz)])
theorem xst_an {h : xH} {ad : xN} {q : Nat × Nat} {a : Nat} {st : List xV} (hq : h q = none) (hl : ∀ v ∈ st, xlv h v) : st.map (xc (xan ad q a)) = st.map (xc ad) :=
  List.map_congr_left (fun z hz => xan_c hq (hl z hz))
theorem xok_up {h : xH} {q : Nat × Nat} {o : xO} {l : xL} {st : List xV} (hk : xok (xlv h) l st) : xok (xlv (xup h q o)) l st := ⟨fun z hz => xup_lv (hk.1 z hz), fun v hv => xup_lv (hk.2 v hv)⟩
theorem xlv_self {h : xH} {q : Nat × Nat} {o : xO} : xlv (xup h q o) (.inr q) := by
  show xup h q o q ≠ none
  unfold xup
  rw [if_pos rfl]
  simp
end XH
end
section
set_option maxRecDepth 20000
section XT
def xtyc (t : Nat) (ty : FieldType) : Prop := match t, ty with
  | 0, .int => True
  | 1, .long => True
  | 2, .object _ => True
  | 2, .array _ => True
  | 3, .boolean => True
  | 4, .char => True
  | _, _ => False
def xfit (t : Nat) (v : xV) : Bool := match t, v with
  | 0, .inl (.int _) => true
  | 1, .inl (.long _) => true
  | 2, .inl .null => true
  | 2, .inr _ => true
  | 3, .inl (.int x) => decide (x = 0 ∨ x = 1)
  | 4, .inl (.int x) => decide (0 ≤ x ∧ x ≤ 65535)
  | _, _ => false
theorem xfit_char {x : Int32} (h : 0 ≤ x ∧ x ≤ 65535) : narrow .char (.int x) = .int x ∧ fits .char (.int x) = true := by
  obtain ⟨j, hj, rfl⟩ := nI_of2 (M := 65535) (n := 65535) rfl (by
    have h2 := Int32.le_iff_toInt_le.mp h.1
    intro q
    have h3 := Int32.lt_iff_toInt_lt.mp q
    omega) h.2
  exact pk_charN (by omega)
theorem xfit_ok {t : Nat} {ty : FieldType} {v : xV} {ad : xN} (ht : xtyc t ty) (h : xfit t v = true) : narrow ty (xc ad v) = xc ad v ∧ fits ty (xc ad v) = true := by
  unfold xfit at h
  split at h
  next => cases ty <;> first | exact ⟨rfl, rfl⟩ | exact absurd ht id
  next => cases ty <;> first | exact ⟨rfl, rfl⟩ | exact absurd ht id
  next => cases ty <;> first | exact ⟨rfl, rfl⟩ | exact absurd ht id
  next => cases ty <;> first | exact ⟨rfl, rfl⟩ | exact absurd ht id
  next x =>
    have h := of_decide_eq_true h
    cases ty <;> first | exact absurd ht id | (rcases h with rfl | rfl <;> exact ⟨rfl, rfl⟩)
  next x =>
    have h := of_decide_eq_true h
    cases ty <;> first | exact absurd ht id | exact xfit_char h
  next => cases h
/-- a fresh field of a type -/
def xd0 (t : Nat) : xV := match t with
  | 0 => .inl (.int 0)
  | 1 => .inl (.long 0)
  | 2 => .inl .null
  | 3 => .inl (.int 0)
  | 4 => .inl (.int 0)
  | _ => .inl (.double 0)
def xcd (o : Jvm.ClassFile.Cond) (x y : Int32) : Bool := match o with
  | .eq => decide (x = y)
  | .ne => decide (¬ x = y)
  | .lt => decide (x < y)
  | .ge => decide (y ≤ x)
  | .gt => decide (y < x)
  | .le => decide (x ≤ y)
def xjmp (pc : Nat) (off : Int) (l : xL) (st : List xV) (A : xA) : Option (Nat × xL × List xV × xA) := if 0 ≤ (pc : Int) + off then some (((pc : Int) + off).toNat, l, st, A) else none
def xbr (b : Bool) (pc : Nat) (off : Int) (l : xL) (st : List xV) (A : xA) : Option (Nat × xL × List xV × xA) := if 0 ≤ (pc : Int) + off then (if b = true then some (((pc : Int) + off).toNat, l, st, A) else some (pc + 3, l, st, A)) else none
/-- how many bytes -/
def xlen2 : Instr → Nat
  | .ifCond _ _ => 3
  | .if_icmp _ _ => 3
  | .if_acmp _ _ => 3
  | .getfield _ => 3
  | .putfield _ => 3
  | .newarray _ => 2
  | .anewarray _ => 3
  | .new _ => 3
  | .checkcast _ => 3
  | .ldc _ => 2
  | .ldc_w _ => 3
  | .ldc2_w _ => 3
  | .getstatic _ => 3
  | _ => 1
def xarr (kd : Nat) (i : Int32) (n : Nat) (f : Nat → xV) (want : Nat) : Option xV := if (kd = want ∨ want = 0 ∧ kd = 9) ∧ ¬ (i < 0 ∨ n ≤ i.toNatClampNeg) then some (f i.toNatClampNeg) else none
def xsto (A : xA) (q : Nat × Nat) (kd : Nat) (i : Int32) (n : Nat) (f : Nat → xV) (want : Nat) (v : xV) : Option xA := if kd = want ∧ q.1 ≠ 0 ∧ ¬ (i < 0 ∨ n ≤ i.toNatClampNeg) then some (A.1, A.2.1, A.2.2.1, xup A.2.2.2 q (.inr (kd, n, xfu f i.toNatClampNeg v))) else none
/-- one instruction that branches or touches the heap -/
def xs2 (i : Instr) (ops : List Nat) (pc : Nat) (l : xL) (st : List xV) (A : xA) : Option (Nat × xL × List xV × xA) :=
  match i with
  | .ifCond o off => match st with
    | .inl (.int x) :: r => xbr (xcd o x 0) pc off l r A
    | _ => none
  | .if_icmp o off => match st with
    | .inl (.int y) :: .inl (.int x) :: r => xbr (xcd o x y) pc off l r A
    | _ => none
  | .if_acmp .eq off => match st with
    | .inr q :: .inr z :: r => xbr (decide (z = q)) pc off l r A
    | .inl .null :: .inr _ :: r => xbr false pc off l r A
    | .inr _ :: .inl .null :: r => xbr false pc off l r A
    | .inl .null :: .inl .null :: r => xbr true pc off l r A
    | _ => none
  | .if_acmp .ne off => match st with
    | .inr q :: .inr z :: r => xbr (decide (¬ z = q)) pc off l r A
    | .inl .null :: .inr _ :: r => xbr true pc off l r A
    | .inr _ :: .inl .null :: r => xbr true pc off l r A
    | .inl .null :: .inl .null :: r => xbr false pc off l r A
    | _ => none
  | .tableswitch dflt lo hi offs => match st with
    | .inl (.int x) :: r => if x.toInt < lo ∨ hi < x.toInt then xjmp pc dflt l r A else (match offs[(x.toInt - lo).toNat]? with
      | some off => xjmp pc off l r A
      | none => none)
    | _ => none
  | .getfield _ => match st with
    | .inr q :: r => match A.2.2.2 q with
      | some (.inl (ci, fs)) => match ops with
        | kx :: cis => if cis.elem ci = true then (match fs[kx]? with
          | some v => some (pc + 3, l, v :: r, A)
          | none => none) else none
        | _ => none
      | _ => none
    | _ => none
  | .putfield _ => match st with
    | v :: .inr q :: r => match A.2.2.2 q with
      | some (.inl (ci, fs)) => match ops with
        | kx :: t :: cis => if cis.elem ci = true ∧ q.1 ≠ 0 ∧ xfit t v = true then some (pc + 3, l, r, (A.1, A.2.1, A.2.2.1, xup A.2.2.2 q (.inl (ci, fs.set kx v)))) else none
        | _ => none
      | _ => none
    | _ => none
  | .iaload => match st with
    | .inl (.int j) :: .inr q :: r => match A.2.2.2 q with
      | some (.inr (kd, n, f)) => match xarr kd j n f 0 with
        | some v => some (pc + 1, l, v :: r, A)
        | none => none
      | _ => none
    | _ => none
  | .laload => match st with
    | .inl (.int j) :: .inr q :: r => match A.2.2.2 q with
      | some (.inr (kd, n, f)) => match xarr kd j n f 1 with
        | some v => some (pc + 1, l, v :: r, A)
        | none => none
      | _ => none
    | _ => none
  | .caload => match st with
    | .inl (.int j) :: .inr q :: r => match A.2.2.2 q with
      | some (.inr (kd, n, f)) => match xarr kd j n f 2 with
        | some v => some (pc + 1, l, v :: r, A)
        | none => none
      | _ => none
    | _ => none
  | .daload => match st with
    | .inl (.int j) :: .inr q :: r => match A.2.2.2 q with
      | some (.inr (kd, n, f)) => match xarr kd j n f 3 with
        | some v => some (pc + 1, l, v :: r, A)
        | none => none
      | _ => none
    | _ => none
  | .aaload => match st with
    | .inl (.int j) :: .inr q :: r => match A.2.2.2 q with
      | some (.inr (kd, n, f)) => match xarr kd j n f (if kd = 5 then 5 else 4) with
        | some v => some (pc + 1, l, v :: r, A)
        | none => none
      | _ => none
    | _ => none
  | .iastore => match st with
    | .inl (.int x) :: .inl (.int j) :: .inr q :: r => match A.2.2.2 q with
      | some (.inr (kd, n, f)) => match xsto A q kd j n f 0 (.inl (.int x)) with
        | some A1 => some (pc + 1, l, r, A1)
        | none => none
      | _ => none
    | _ => none
  | .lastore => match st with
    | .inl (.long x) :: .inl (.int j) :: .inr q :: r => match A.2.2.2 q with
      | some (.inr (kd, n, f)) => match xsto A q kd j n f 1 (.inl (.long x)) with
        | some A1 => some (pc + 1, l, r, A1)
        | none => none
      | _ => none
    | _ => none
  | .castore => match st with
    | .inl (.int x) :: .inl (.int j) :: .inr q :: r => match A.2.2.2 q with
      | some (.inr (kd, n, f)) => if 0 ≤ x ∧ x ≤ 65535 then (match xsto A q kd j n f 2 (.inl (.int x)) with
        | some A1 => some (pc + 1, l, r, A1)
        | none => none) else none
      | _ => none
    | _ => none
  | .dastore => match st with
    | .inl (.double x) :: .inl (.int j) :: .inr q :: r => match A.2.2.2 q with
      | some (.inr (kd, n, f)) => match xsto A q kd j n f 3 (.inl (.double x)) with
        | some A1 => some (pc + 1, l, r, A1)
        | none => none
      | _ => none
    | _ => none
  | .aastore => match st with
    | .inr z :: .inl (.int j) :: .inr q :: r => match A.2.2.2 q, A.2.2.2 z with
      | some (.inr (kd, n, f)), some (.inl (ci, _)) => if ops.elem ci = true ∧ (kd = 4 ∨ kd = 5 ∧ ops[0]? = some ci) then (match xsto A q kd j n f kd (.inr z) with
        | some A1 => some (pc + 1, l, r, A1)
        | none => none) else none
      | _, _ => none
    | .inl .null :: .inl (.int j) :: .inr q :: r => match A.2.2.2 q with
      | some (.inr (kd, n, f)) => if kd = 4 ∨ kd = 5 then (match xsto A q kd j n f kd (.inl .null) with
        | some A1 => some (pc + 1, l, r, A1)
        | none => none) else none
      | _ => none
    | _ => none
  | .arraylength => match st with
    | .inr q :: r => match A.2.2.2 q with
      | some (.inr (_, n, _)) => some (pc + 1, l, .inl (.int (Int32.ofNat n)) :: r, A)
      | _ => none
    | _ => none
  | .newarray _ => match st, ops, A.1 with
    | .inl (.int n) :: r, [kd], q :: nm => if ¬ n < 0 ∧ n.toNatClampNeg ≤ 67108864 ∧ (A.2.2.2 q).isNone = true ∧ q.1 ≠ 0 then some (pc + 2, l, .inr q :: r, (nm, A.2.1 + 1, A.2.2.1 + n.toNatClampNeg, xup A.2.2.2 q (.inr (kd, n.toNatClampNeg, fun _ => .inl (defaultValue (xak kd)))))) else none
    | _, _, _ => none
  | .anewarray _ => match st, ops, A.1 with
    | .inl (.int n) :: r, [kd], q :: nm => if ¬ n < 0 ∧ n.toNatClampNeg ≤ 67108864 ∧ (A.2.2.2 q).isNone = true ∧ q.1 ≠ 0 then some (pc + 3, l, .inr q :: r, (nm, A.2.1 + 1, A.2.2.1 + n.toNatClampNeg, xup A.2.2.2 q (.inr (kd, n.toNatClampNeg, fun _ => .inl .null)))) else none
    | _, _, _ => none
  | .new _ => match ops, A.1 with
    | ci :: tc, q :: nm => if (A.2.2.2 q).isNone = true ∧ q.1 ≠ 0 then some (pc + 3, l, .inr q :: st, (nm, A.2.1 + 1, A.2.2.1 + tc.length, xup A.2.2.2 q (.inl (ci, tc.map xd0)))) else none
    | _, _ => none
  | .checkcast _ => match st with
    | .inl .null :: r => some (pc + 3, l, .inl .null :: r, A)
    | .inr q :: r => match A.2.2.2 q with
      | some (.inl (ci, _)) => if ops.elem ci = true then some (pc + 3, l, .inr q :: r, A) else none
      | _ => none
    | _ => none
  | .ldc _ => match ops with
    | [0, v] => some (pc + 2, l, .inl (.int (Int32.ofNat v)) :: st, A)
    | [5, v] => some (pc + 2, l, .inl (.float (UInt32.ofNat v)) :: st, A)
    | _ => none
  | .ldc_w _ => match ops with
    | [0, v] => some (pc + 3, l, .inl (.int (Int32.ofNat v)) :: st, A)
    | _ => none
  | .ldc2_w _ => match ops with
    | [1, v] => some (pc + 3, l, .inl (.long (Int64.ofNat v)) :: st, A)
    | [6, v] => some (pc + 3, l, .inl (.double (UInt64.ofNat v)) :: st, A)
    | _ => none
  | .getstatic _ => if ops = [77] then some (pc + 3, l, .inr (0, 1) :: st, A) else none
  | _ => none
/-- a field of a class by its place: what the tables say -/
def xfld (Ts : List Cond) (cl : List vw_C) (own : String) (idx k ci : Nat) : Prop := ∃ (r : vw_C) (ref : String), cl[ci]? = some r ∧ k < r.2.2 ∧ (Cond.fieldLink own idx ref (r.2.1 k).2.1 (r.2.1 k).2.2.1 ∈ Ts ∨ ∃ host, Cond.fieldLinkNest own idx ref (r.2.1 k).2.1 (r.2.1 k).2.2.1 host ∈ Ts) ∧ (ref = (r.2.1 k).1 ∨ Cond.sameField ref (r.2.1 k).1 (r.2.1 k).2.1 (r.2.1 k).2.2.1 ∈ Ts)
def xput (Ts : List Cond) (cl : List vw_C) (own nm : String) (idx k t ci : Nat) : Prop := ∃ (r : vw_C) (ref : String) (ty : FieldType), cl[ci]? = some r ∧ k < r.2.2 ∧ parseFieldDescriptor (r.2.1 k).2.2.1 = some ty ∧ xtyc t ty ∧ (ref = (r.2.1 k).1 ∨ Cond.sameField ref (r.2.1 k).1 (r.2.1 k).2.1 (r.2.1 k).2.2.1 ∈ Ts) ∧
  ((Cond.fieldLink own idx ref (r.2.1 k).2.1 (r.2.1 k).2.2.1 ∈ Ts ∧ ((r.2.1 k).2.2.2 = false ∨ (r.2.1 k).2.2.2 = true ∧ nm = "<init>" ∧ (r.2.1 k).1 = own)) ∨ (∃ host, Cond.fieldLinkNest own idx ref (r.2.1 k).2.1 (r.2.1 k).2.2.1 host ∈ Ts) ∧ (r.2.1 k).2.2.2 = false)
def xcls (Ts : List Cond) (r : vw_C) : Prop := (∀ w ∈ u_ws r.1 r.2.1 r.2.2, w ∈ Ts) ∧ (∃ ty : Nat → FieldType, ∀ k, k < r.2.2 → parseFieldDescriptor (r.2.1 k).2.2.1 = some (ty k)) ∧ ∀ a, a < r.2.2 → ∀ b, b < r.2.2 → a ≠ b → (r.2.1 a).2.1 ≠ (r.2.1 b).2.1
/-- what the tables must say of an instruction with its operands -/
def xT (Ts : List Cond) (cl : List vw_C) (own nm : String) (i : Instr) (ops : List Nat) : Prop := match i with
  | .getfield idx => match ops with
    | kx :: cis => ∀ ci ∈ cis, xfld Ts cl own idx kx ci
    | _ => True
  | .putfield idx => match ops with
    | kx :: t :: cis => ∀ ci ∈ cis, xput Ts cl own nm idx kx t ci
    | _ => True
  | .newarray at_ => match ops with
    | [kd] => newarray.typeOf at_ = xak kd ∧ Cond.arrayClass (newarray.typeOf at_) ∈ Ts ∧ kd ≠ 4 ∧ kd ≠ 5
    | _ => True
  | .anewarray idx => match ops with
    | [kd] => ∃ C, xak kd = .object C ∧ Cond.classLink own idx C ∈ Ts ∧ Cond.arrayOver (.object C) ∈ Ts
    | _ => True
  | .new idx => match ops with
    | ci :: tc => ∃ r : vw_C, cl[ci]? = some r ∧ tc.length = r.2.2 ∧ Cond.classLink own idx r.1 ∈ Ts ∧ Cond.instantiable r.1 r.2.2 ∈ Ts ∧ Cond.initialized r.1 ∈ Ts ∧ ∀ j, j < r.2.2 → ∃ ty t, parseFieldDescriptor (r.2.1 j).2.2.1 = some ty ∧ tc[j]? = some t ∧ .inl (defaultValue ty) = xd0 t
    | _ => True
  | .checkcast idx => ∀ ci ∈ ops, ∃ (r : vw_C) (nm : String), cl[ci]? = some r ∧ Cond.classLink own idx nm ∈ Ts ∧ Cond.castable r.1 nm ∈ Ts
  | .aastore => ∀ ci ∈ ops, ∃ r : vw_C, cl[ci]? = some r ∧ Cond.castable r.1 "java/lang/Object" ∈ Ts ∧ (ops[0]? = some ci → r.1 = "ViewFoundryModel$Held")
  | .ldc idx => match ops with
    | [0, v] => Cond.constant own idx (Int32.ofNat v) ∈ Ts
    | [5, v] => Cond.constantFloat own idx (UInt32.ofNat v) ∈ Ts
    | _ => True
  | .ldc_w idx => match ops with
    | [0, v] => Cond.constant own idx (Int32.ofNat v) ∈ Ts
    | _ => True
  | .ldc2_w idx => match ops with
    | [1, v] => Cond.constantLong own idx (Int64.ofNat v) ∈ Ts
    | [6, v] => Cond.constantDouble own idx (UInt64.ofNat v) ∈ Ts
    | _ => True
  | .getstatic idx => ops = [77] → Cond.fieldLink own idx "java/util/ArrayList" "DEFAULTCAPACITY_EMPTY_ELEMENTDATA" "[Ljava/lang/Object;" ∈ Ts
  | _ => True
/-- the statics that a run reads, as they were at the frame's start -/
def xE (s : State) (B : Nat) (ad : xN) (h : xH) : Prop := h (0, 1) ≠ none ∧ va_Z "java/util/ArrayList" "DEFAULTCAPACITY_EMPTY_ELEMENTDATA" "[Ljava/lang/Object;" (.ref (ad (0, 1))) (fun q => B ≤ q) s s.heap
/-- a frame's machine, tables and code -/
def xCx (p : Program) (s : State) (m : MethodId) (args : Array Value) (meth : Method) (c : Code) (D : va_G) (cl : List vw_C) (Ts : List Cond) (own nm : String) (cc : ByteArray) : Prop :=
  p.tables.exec = Jvm.exec ∧ c.code = cc ∧ s.vm.findClass own = some m.cls ∧ (∀ w ∈ Ts, w.before args s = true) ∧ meth.name = nm ∧ va_K D cl [] s ∧ ∀ (ci : Nat) (r : vw_C), cl[ci]? = some r → xcls Ts r
/-- from the next place on, whatever addresses the new names have -/
def xCont (p : Program) (l0 : Launch) (e : Env) (R : Room) (s : State) (m : MethodId) (args : Array Value) (below : List Frame) (meth : Method) (c : Code) (D : va_G) (cl : List vw_C) (B : Nat) (ad : xN) (A A2 : xA) (l2 : xL) (st2 : List xV) (nL pc2 cells slots : Nat) (Q : State → Prop) : Prop :=
  ∀ (ad2 : xN) (H2 : Heap) (locs2 : List Loc) (ls2 : Array Slot) (cells2 slots2 : Nat), (∀ v, xlv A.2.2.2 v → xlv A2.2.2.2 v ∧ xc ad2 v = xc ad v) → (∀ z : Nat × Nat, z.1 = 0 → ad2 z = ad z) → xI s D cl B ad2 A2.2.2.2 H2 locs2 → lv_has ls2 nL (xlm ad2 l2) → xok (xlv A2.2.2.2) l2 st2 → cells2 + A.2.1 = cells + A2.2.1 → slots2 + A.2.2.1 = slots + A2.2.2.1 →
    W p l0 e R s m args below meth c H2 locs2 cells2 slots2 Q (F0 m pc2 ls2 (st2.map (xc ad2)))
variable {p : Program} {l0 : Launch} {e : Env} {R : Room} {s : State} {m : MethodId} {args : Array Value} {below : List Frame} {meth : Method} {c : Code} {H : Heap} {locs : List Loc} {cells slots : Nat} {Q : State → Prop}
variable {cc : ByteArray} {pc : Nat} {ls : Array Slot} {ad : xN} {D : va_G} {cl : List vw_C} {Ts : List Cond} {own nm : String} {B : Nat}
/-- the heap stays -/
theorem xCont.same {A : xA} {l2 : xL} {st2 : List xV} {nL pc2 : Nat} (k : xCont p l0 e R s m args below meth c D cl B ad A A l2 st2 nL pc2 cells slots Q) (hl : lv_has ls nL (xlm ad l2)) (hk : xok (xlv A.2.2.2) l2 st2) (hI : xI s D cl B ad A.2.2.2 H locs) : W p l0 e R s m args below meth c H locs cells slots Q (F0 m pc2 ls (st2.map (xc ad))) :=
  k ad H locs ls cells slots (fun v hv => ⟨hv, rfl⟩) (fun _ _ => rfl) hI hl hk rfl rfl
theorem xjmp_ok {off : Int} {tgt : Nat} {l l2 : xL} {st st2 : List xV} {A A2 : xA} (h : xjmp pc off l st A = some (tgt, l2, st2, A2)) : (pc : Int) + off = (tgt : Int) ∧ l2 = l ∧ st2 = st ∧ A2 = A := by
  unfold xjmp at h
  split at h
  next hg =>
    cases h
    exact ⟨(Int.toNat_of_nonneg hg).symm, rfl, rfl, rfl⟩
  next => cases h
theorem xbr_ok {b : Bool} {off : Int} {pc2 : Nat} {l l2 : xL} {st st2 : List xV} {A A2 : xA} (h : xbr b pc off l st A = some (pc2, l2, st2, A2)) : ∃ tgt : Nat, (pc : Int) + off = (tgt : Int) ∧ l2 = l ∧ st2 = st ∧ A2 = A ∧ (b = true ∧ pc2 = tgt ∨ b = false ∧ pc2 = pc + 3) := by
  unfold xbr at h
  split at h
  next hg =>
    refine ⟨((pc : Int) + off).toNat, (Int.toNat_of_nonneg hg).symm, ?_⟩
    split at h
    next hc => cases h; exact ⟨rfl, rfl, rfl, Or.inl ⟨hc, rfl⟩⟩
    next hc => cases h; exact ⟨rfl, rfl, rfl, Or.inr ⟨by cases b <;> simp_all, rfl⟩⟩
  next => cases h
theorem xsame_ok {args : Array Value} {ref owner name desc : String} (hts : ∀ w ∈ Ts, w.before args s = true) (h : ref = owner ∨ Cond.sameField ref owner name desc ∈ Ts) : ∀ x, s.fieldFound? owner name desc = some x → s.fieldFound? ref name desc = some x := by
  rcases h with rfl | h
  · exact fun _ z => z
  · exact u_same (hts _ h)
theorem xarr_ok {kd want n : Nat} {i : Int32} {f : Nat → xV} {v : xV} (h : xarr kd i n f want = some v) : (kd = want ∨ want = 0 ∧ kd = 9) ∧ ¬ (i < 0 ∨ n ≤ i.toNatClampNeg) ∧ v = f i.toNatClampNeg := by
  unfold xarr at h
  by_cases hg : (kd = want ∨ want = 0 ∧ kd = 9) ∧ ¬ (i < 0 ∨ n ≤ i.toNatClampNeg)
  · rw [if_pos hg] at h
    exact ⟨hg.1, hg.2, (Option.some.inj h).symm⟩
  · rw [if_neg hg] at h
    cases h
theorem xelem {n : Nat} {xs : List Nat} (h : xs.elem n = true) : n ∈ xs := by simpa using h

theorem xt_ifCond {l l2 : xL} {st st2 : List xV} {A A2 : xA} {nL pc2 : Nat} {ops : List Nat} {o : Jvm.ClassFile.Cond} {off : Int} (X : xCx p s m args meth c D cl Ts own nm cc) (hd : decode cc pc = .ok (.ifCond o off, xlen2 (.ifCond o off))) (hT : xT Ts cl own nm (.ifCond o off) ops) (hl : lv_has ls nL (xlm ad l)) (hk : xok (xlv A.2.2.2) l st) (hI : xI s D cl B ad A.2.2.2 H locs) (hE : xE s B ad A.2.2.2) (h : xs2 (.ifCond o off) ops pc l st A = some (pc2, l2, st2, A2)) (hbud : cells + A2.2.1 ≤ R.cells + A.2.1 ∧ slots + A2.2.2.1 ≤ R.slots + A.2.2.1)
    (k : xCont p l0 e R s m args below meth c D cl B ad A A2 l2 st2 nL pc2 cells slots Q) : W p l0 e R s m args below meth c H locs cells slots Q (F0 m pc ls (st.map (xc ad))) := by
  simp only [xs2] at h
  obtain ⟨hx, hb, hown, hts, hnm, hK, hcl⟩ := X
  split at h
  next =>
    obtain ⟨tgt, ht, rfl, rfl, rfl, hc⟩ := xbr_ok h
    cases o
    case eq =>
      refine lv_if_eq hx hb hd ht (fun z => ?_) (fun z => ?_)
      · rcases hc with ⟨q, rfl⟩ | ⟨q, rfl⟩
        · exact k.same hl (xok_tl hk) hI
        · exact absurd z (of_decide_eq_false q)
      · rcases hc with ⟨q, rfl⟩ | ⟨q, rfl⟩
        · first | exact absurd (of_decide_eq_true q) z | exact absurd z (of_decide_eq_true q)
        · exact k.same hl (xok_tl hk) hI
    case ne =>
      refine lv_if_ne hx hb hd ht (fun z => ?_) (fun z => ?_)
      · rcases hc with ⟨q, rfl⟩ | ⟨q, rfl⟩
        · exact k.same hl (xok_tl hk) hI
        · exact absurd z (of_decide_eq_false q)
      · rcases hc with ⟨q, rfl⟩ | ⟨q, rfl⟩
        · first | exact absurd (of_decide_eq_true q) z | exact absurd z (of_decide_eq_true q)
        · exact k.same hl (xok_tl hk) hI
    case lt =>
      refine lv_if_lt hx hb hd ht (fun z => ?_) (fun z => ?_)
      · rcases hc with ⟨q, rfl⟩ | ⟨q, rfl⟩
        · exact k.same hl (xok_tl hk) hI
        · exact absurd z (of_decide_eq_false q)
      · rcases hc with ⟨q, rfl⟩ | ⟨q, rfl⟩
        · first | exact absurd (of_decide_eq_true q) z | exact absurd z (of_decide_eq_true q)
        · exact k.same hl (xok_tl hk) hI
    case ge =>
      refine lv_if_ge hx hb hd ht (fun z => ?_) (fun z => ?_)
      · rcases hc with ⟨q, rfl⟩ | ⟨q, rfl⟩
        · exact k.same hl (xok_tl hk) hI
        · exact absurd z (of_decide_eq_false q)
      · rcases hc with ⟨q, rfl⟩ | ⟨q, rfl⟩
        · first | exact absurd (of_decide_eq_true q) z | exact absurd z (of_decide_eq_true q)
        · exact k.same hl (xok_tl hk) hI
    case gt =>
      refine lv_if_gt hx hb hd ht (fun z => ?_) (fun z => ?_)
      · rcases hc with ⟨q, rfl⟩ | ⟨q, rfl⟩
        · exact k.same hl (xok_tl hk) hI
        · exact absurd z (of_decide_eq_false q)
      · rcases hc with ⟨q, rfl⟩ | ⟨q, rfl⟩
        · first | exact absurd (of_decide_eq_true q) z | exact absurd z (of_decide_eq_true q)
        · exact k.same hl (xok_tl hk) hI
    case le =>
      refine lv_if_le hx hb hd ht (fun z => ?_) (fun z => ?_)
      · rcases hc with ⟨q, rfl⟩ | ⟨q, rfl⟩
        · exact k.same hl (xok_tl hk) hI
        · exact absurd z (of_decide_eq_false q)
      · rcases hc with ⟨q, rfl⟩ | ⟨q, rfl⟩
        · first | exact absurd (of_decide_eq_true q) z | exact absurd z (of_decide_eq_true q)
        · exact k.same hl (xok_tl hk) hI
  next => cases h

theorem xt_if_icmp {l l2 : xL} {st st2 : List xV} {A A2 : xA} {nL pc2 : Nat} {ops : List Nat} {o : Jvm.ClassFile.Cond} {off : Int} (X : xCx p s m args meth c D cl Ts own nm cc) (hd : decode cc pc = .ok (.if_icmp o off, xlen2 (.if_icmp o off))) (hT : xT Ts cl own nm (.if_icmp o off) ops) (hl : lv_has ls nL (xlm ad l)) (hk : xok (xlv A.2.2.2) l st) (hI : xI s D cl B ad A.2.2.2 H locs) (hE : xE s B ad A.2.2.2) (h : xs2 (.if_icmp o off) ops pc l st A = some (pc2, l2, st2, A2)) (hbud : cells + A2.2.1 ≤ R.cells + A.2.1 ∧ slots + A2.2.2.1 ≤ R.slots + A.2.2.1)
    (k : xCont p l0 e R s m args below meth c D cl B ad A A2 l2 st2 nL pc2 cells slots Q) : W p l0 e R s m args below meth c H locs cells slots Q (F0 m pc ls (st.map (xc ad))) := by
  simp only [xs2] at h
  obtain ⟨hx, hb, hown, hts, hnm, hK, hcl⟩ := X
  split at h
  next =>
    obtain ⟨tgt, ht, rfl, rfl, rfl, hc⟩ := xbr_ok h
    cases o
    case eq =>
      refine lv_icmp_eq hx hb hd ht (fun z => ?_) (fun z => ?_)
      · rcases hc with ⟨q, rfl⟩ | ⟨q, rfl⟩
        · exact k.same hl (xok_tl (xok_tl hk)) hI
        · exact absurd z (of_decide_eq_false q)
      · rcases hc with ⟨q, rfl⟩ | ⟨q, rfl⟩
        · first | exact absurd (of_decide_eq_true q) z | exact absurd z (of_decide_eq_true q)
        · exact k.same hl (xok_tl (xok_tl hk)) hI
    case ne =>
      refine lv_icmp_ne hx hb hd ht (fun z => ?_) (fun z => ?_)
      · rcases hc with ⟨q, rfl⟩ | ⟨q, rfl⟩
        · exact k.same hl (xok_tl (xok_tl hk)) hI
        · exact absurd z (of_decide_eq_false q)
      · rcases hc with ⟨q, rfl⟩ | ⟨q, rfl⟩
        · first | exact absurd (of_decide_eq_true q) z | exact absurd z (of_decide_eq_true q)
        · exact k.same hl (xok_tl (xok_tl hk)) hI
    case lt =>
      refine lv_icmp_lt hx hb hd ht (fun z => ?_) (fun z => ?_)
      · rcases hc with ⟨q, rfl⟩ | ⟨q, rfl⟩
        · exact k.same hl (xok_tl (xok_tl hk)) hI
        · exact absurd z (of_decide_eq_false q)
      · rcases hc with ⟨q, rfl⟩ | ⟨q, rfl⟩
        · first | exact absurd (of_decide_eq_true q) z | exact absurd z (of_decide_eq_true q)
        · exact k.same hl (xok_tl (xok_tl hk)) hI
    case ge =>
      refine lv_icmp_ge hx hb hd ht (fun z => ?_) (fun z => ?_)
      · rcases hc with ⟨q, rfl⟩ | ⟨q, rfl⟩
        · exact k.same hl (xok_tl (xok_tl hk)) hI
        · exact absurd z (of_decide_eq_false q)
      · rcases hc with ⟨q, rfl⟩ | ⟨q, rfl⟩
        · first | exact absurd (of_decide_eq_true q) z | exact absurd z (of_decide_eq_true q)
        · exact k.same hl (xok_tl (xok_tl hk)) hI
    case gt =>
      refine lv_icmp_gt hx hb hd ht (fun z => ?_) (fun z => ?_)
      · rcases hc with ⟨q, rfl⟩ | ⟨q, rfl⟩
        · exact k.same hl (xok_tl (xok_tl hk)) hI
        · exact absurd z (of_decide_eq_false q)
      · rcases hc with ⟨q, rfl⟩ | ⟨q, rfl⟩
        · first | exact absurd (of_decide_eq_true q) z | exact absurd z (of_decide_eq_true q)
        · exact k.same hl (xok_tl (xok_tl hk)) hI
    case le =>
      refine lv_icmp_le hx hb hd ht (fun z => ?_) (fun z => ?_)
      · rcases hc with ⟨q, rfl⟩ | ⟨q, rfl⟩
        · exact k.same hl (xok_tl (xok_tl hk)) hI
        · exact absurd z (of_decide_eq_false q)
      · rcases hc with ⟨q, rfl⟩ | ⟨q, rfl⟩
        · first | exact absurd (of_decide_eq_true q) z | exact absurd z (of_decide_eq_true q)
        · exact k.same hl (xok_tl (xok_tl hk)) hI
  next => cases h

theorem xt_if_acmp_eq {l l2 : xL} {st st2 : List xV} {A A2 : xA} {nL pc2 : Nat} {ops : List Nat} {off : Int} (X : xCx p s m args meth c D cl Ts own nm cc) (hd : decode cc pc = .ok (.if_acmp .eq off, xlen2 (.if_acmp .eq off))) (hT : xT Ts cl own nm (.if_acmp .eq off) ops) (hl : lv_has ls nL (xlm ad l)) (hk : xok (xlv A.2.2.2) l st) (hI : xI s D cl B ad A.2.2.2 H locs) (hE : xE s B ad A.2.2.2) (h : xs2 (.if_acmp .eq off) ops pc l st A = some (pc2, l2, st2, A2)) (hbud : cells + A2.2.1 ≤ R.cells + A.2.1 ∧ slots + A2.2.2.1 ≤ R.slots + A.2.2.1)
    (k : xCont p l0 e R s m args below meth c D cl B ad A A2 l2 st2 nL pc2 cells slots Q) : W p l0 e R s m args below meth c H locs cells slots Q (F0 m pc ls (st.map (xc ad))) := by
  simp only [xs2] at h
  obtain ⟨hx, hb, hown, hts, hnm, hK, hcl⟩ := X
  split at h
  next q z r =>
    obtain ⟨tgt, ht, rfl, rfl, rfl, hc⟩ := xbr_ok h
    refine lv_acmp_eq (ry := some (ad q)) (rx := some (ad z)) hx hb hd ht (fun w => ?_) (fun w => ?_)
    · rcases hc with ⟨u, rfl⟩ | ⟨u, rfl⟩
      · exact k.same hl (xok_tl (xok_tl hk)) hI
      · exact absurd (hI.1.2.1 _ _ (xok_hd (xok_tl hk)) (xok_hd hk) (Option.some.inj w)) (of_decide_eq_false u)
    · rcases hc with ⟨u, rfl⟩ | ⟨u, rfl⟩
      · exact absurd (by rw [of_decide_eq_true u]) w
      · exact k.same hl (xok_tl (xok_tl hk)) hI
  next z r =>
    obtain ⟨tgt, ht, rfl, rfl, rfl, hc⟩ := xbr_ok h
    refine lv_acmp_eq (ry := none) (rx := some (ad z)) hx hb hd ht (fun w => ?_) (fun w => ?_)
    · rcases hc with ⟨u, rfl⟩ | ⟨u, rfl⟩
      · exact k.same hl (xok_tl (xok_tl hk)) hI
      · first | exact absurd u (by decide) | exact absurd rfl w | (cases w; done)
    · rcases hc with ⟨u, rfl⟩ | ⟨u, rfl⟩
      · first | exact absurd u (by decide) | exact absurd rfl w | (cases w; done)
      · exact k.same hl (xok_tl (xok_tl hk)) hI
  next q r =>
    obtain ⟨tgt, ht, rfl, rfl, rfl, hc⟩ := xbr_ok h
    refine lv_acmp_eq (ry := some (ad q)) (rx := none) hx hb hd ht (fun w => ?_) (fun w => ?_)
    · rcases hc with ⟨u, rfl⟩ | ⟨u, rfl⟩
      · exact k.same hl (xok_tl (xok_tl hk)) hI
      · first | exact absurd u (by decide) | exact absurd rfl w | (cases w; done)
    · rcases hc with ⟨u, rfl⟩ | ⟨u, rfl⟩
      · first | exact absurd u (by decide) | exact absurd rfl w | (cases w; done)
      · exact k.same hl (xok_tl (xok_tl hk)) hI
  next r =>
    obtain ⟨tgt, ht, rfl, rfl, rfl, hc⟩ := xbr_ok h
    refine lv_acmp_eq (ry := none) (rx := none) hx hb hd ht (fun w => ?_) (fun w => ?_)
    · rcases hc with ⟨u, rfl⟩ | ⟨u, rfl⟩
      · exact k.same hl (xok_tl (xok_tl hk)) hI
      · first | exact absurd u (by decide) | exact absurd rfl w | (cases w; done)
    · rcases hc with ⟨u, rfl⟩ | ⟨u, rfl⟩
      · first | exact absurd u (by decide) | exact absurd rfl w | (cases w; done)
      · exact k.same hl (xok_tl (xok_tl hk)) hI
  next => cases h

theorem xt_if_acmp_ne {l l2 : xL} {st st2 : List xV} {A A2 : xA} {nL pc2 : Nat} {ops : List Nat} {off : Int} (X : xCx p s m args meth c D cl Ts own nm cc) (hd : decode cc pc = .ok (.if_acmp .ne off, xlen2 (.if_acmp .ne off))) (hT : xT Ts cl own nm (.if_acmp .ne off) ops) (hl : lv_has ls nL (xlm ad l)) (hk : xok (xlv A.2.2.2) l st) (hI : xI s D cl B ad A.2.2.2 H locs) (hE : xE s B ad A.2.2.2) (h : xs2 (.if_acmp .ne off) ops pc l st A = some (pc2, l2, st2, A2)) (hbud : cells + A2.2.1 ≤ R.cells + A.2.1 ∧ slots + A2.2.2.1 ≤ R.slots + A.2.2.1)
    (k : xCont p l0 e R s m args below meth c D cl B ad A A2 l2 st2 nL pc2 cells slots Q) : W p l0 e R s m args below meth c H locs cells slots Q (F0 m pc ls (st.map (xc ad))) := by
  simp only [xs2] at h
  obtain ⟨hx, hb, hown, hts, hnm, hK, hcl⟩ := X
  split at h
  next q z r =>
    obtain ⟨tgt, ht, rfl, rfl, rfl, hc⟩ := xbr_ok h
    refine lv_acmp_ne (ry := some (ad q)) (rx := some (ad z)) hx hb hd ht (fun w => ?_) (fun w => ?_)
    · rcases hc with ⟨u, rfl⟩ | ⟨u, rfl⟩
      · exact k.same hl (xok_tl (xok_tl hk)) hI
      · exact absurd (by rw [Decidable.of_not_not (of_decide_eq_false u)]) w
    · rcases hc with ⟨u, rfl⟩ | ⟨u, rfl⟩
      · exact absurd (hI.1.2.1 _ _ (xok_hd (xok_tl hk)) (xok_hd hk) (Option.some.inj w)) (of_decide_eq_true u)
      · exact k.same hl (xok_tl (xok_tl hk)) hI
  next z r =>
    obtain ⟨tgt, ht, rfl, rfl, rfl, hc⟩ := xbr_ok h
    refine lv_acmp_ne (ry := none) (rx := some (ad z)) hx hb hd ht (fun w => ?_) (fun w => ?_)
    · rcases hc with ⟨u, rfl⟩ | ⟨u, rfl⟩
      · exact k.same hl (xok_tl (xok_tl hk)) hI
      · first | exact absurd u (by decide) | exact absurd rfl w | (cases w; done)
    · rcases hc with ⟨u, rfl⟩ | ⟨u, rfl⟩
      · first | exact absurd u (by decide) | exact absurd rfl w | (cases w; done)
      · exact k.same hl (xok_tl (xok_tl hk)) hI
  next q r =>
    obtain ⟨tgt, ht, rfl, rfl, rfl, hc⟩ := xbr_ok h
    refine lv_acmp_ne (ry := some (ad q)) (rx := none) hx hb hd ht (fun w => ?_) (fun w => ?_)
    · rcases hc with ⟨u, rfl⟩ | ⟨u, rfl⟩
      · exact k.same hl (xok_tl (xok_tl hk)) hI
      · first | exact absurd u (by decide) | exact absurd rfl w | (cases w; done)
    · rcases hc with ⟨u, rfl⟩ | ⟨u, rfl⟩
      · first | exact absurd u (by decide) | exact absurd rfl w | (cases w; done)
      · exact k.same hl (xok_tl (xok_tl hk)) hI
  next r =>
    obtain ⟨tgt, ht, rfl, rfl, rfl, hc⟩ := xbr_ok h
    refine lv_acmp_ne (ry := none) (rx := none) hx hb hd ht (fun w => ?_) (fun w => ?_)
    · rcases hc with ⟨u, rfl⟩ | ⟨u, rfl⟩
      · exact k.same hl (xok_tl (xok_tl hk)) hI
      · first | exact absurd u (by decide) | exact absurd rfl w | (cases w; done)
    · rcases hc with ⟨u, rfl⟩ | ⟨u, rfl⟩
      · first | exact absurd u (by decide) | exact absurd rfl w | (cases w; done)
      · exact k.same hl (xok_tl (xok_tl hk)) hI
  next => cases h

theorem xt_tableswitch {l l2 : xL} {st st2 : List xV} {A A2 : xA} {nL pc2 : Nat} {ops : List Nat} {dflt lo hi : Int} {offs : Array Int} {len : Nat} (X : xCx p s m args meth c D cl Ts own nm cc) (hd : decode cc pc = .ok (.tableswitch dflt lo hi offs, len)) (hT : xT Ts cl own nm (.tableswitch dflt lo hi offs) ops) (hl : lv_has ls nL (xlm ad l)) (hk : xok (xlv A.2.2.2) l st) (hI : xI s D cl B ad A.2.2.2 H locs) (hE : xE s B ad A.2.2.2) (h : xs2 (.tableswitch dflt lo hi offs) ops pc l st A = some (pc2, l2, st2, A2)) (hbud : cells + A2.2.1 ≤ R.cells + A.2.1 ∧ slots + A2.2.2.1 ≤ R.slots + A.2.2.1)
    (k : xCont p l0 e R s m args below meth c D cl B ad A A2 l2 st2 nL pc2 cells slots Q) : W p l0 e R s m args below meth c H locs cells slots Q (F0 m pc ls (st.map (xc ad))) := by
  simp only [xs2] at h
  obtain ⟨hx, hb, hown, hts, hnm, hK, hcl⟩ := X
  split at h
  next =>
    split at h
    next hc =>
      obtain ⟨ht, rfl, rfl, rfl⟩ := xjmp_ok h
      exact lv_tableOut hx hb hd hc ht (k.same hl (xok_tl hk) hI)
    next hc =>
      split at h
      next ho =>
        obtain ⟨ht, rfl, rfl, rfl⟩ := xjmp_ok h
        exact lv_tableIn hx hb hd (fun z => hc (Or.inl z)) (fun z => hc (Or.inr z)) ho ht (k.same hl (xok_tl hk) hI)
      next => cases h
  next => cases h

theorem xt_getfield {l l2 : xL} {st st2 : List xV} {A A2 : xA} {nL pc2 : Nat} {ops : List Nat} {idx : Nat} (X : xCx p s m args meth c D cl Ts own nm cc) (hd : decode cc pc = .ok (.getfield idx, xlen2 (.getfield idx))) (hT : xT Ts cl own nm (.getfield idx) ops) (hl : lv_has ls nL (xlm ad l)) (hk : xok (xlv A.2.2.2) l st) (hI : xI s D cl B ad A.2.2.2 H locs) (hE : xE s B ad A.2.2.2) (h : xs2 (.getfield idx) ops pc l st A = some (pc2, l2, st2, A2)) (hbud : cells + A2.2.1 ≤ R.cells + A.2.1 ∧ slots + A2.2.2.1 ≤ R.slots + A.2.2.1)
    (k : xCont p l0 e R s m args below meth c D cl B ad A A2 l2 st2 nL pc2 cells slots Q) : W p l0 e R s m args below meth c H locs cells slots Q (F0 m pc ls (st.map (xc ad))) := by
  simp only [xs2] at h
  obtain ⟨hx, hb, hown, hts, hnm, hK, hcl⟩ := X
  split at h
  next q r =>
    split at h
    next ci fs hq =>
      split at h
      next kx cis =>
        split at h
        next hci =>
          split at h
          next v hv =>
            cases h
            obtain ⟨w, ref, hc, hkx, hlk, hsm⟩ := hT ci (xelem hci)
            obtain ⟨w2, h1, hlen, cell, q1, q2, q3, q4⟩ := hI.1.1 q _ hq
            cases Option.some.inj (hc.symm.trans h1)
            obtain ⟨hS, hfc, kC, hkC, hkind⟩ := hK.1 ci _ hc
            obtain ⟨cf, kf, fi, f, hi, hsl⟩ := hS kx hkx
            have hst := (u_facts hfc hkC (u_lays hts (hcl ci _ hc).1 hkx) hi).1
            have hi2 := xsame_ok hts hsm _ hi
            have hval : cell.slots[f.slot]? = some (xc ad v) := by
              rw [hsl, q4 kx hkx]
              simp [vp_V, hv]
            have hlv : xlv A.2.2.2 v := hI.1.2.2.2 q _ hq v (List.mem_of_getElem? hv)
            have kk := k.same (H := H) (locs := locs) hl (xok_push (xok_tl hk) hlv) hI
            rcases hlk with hlk | ⟨host, hlk⟩
            · exact W.getf hx hb hown (hts _ hlk) hi2 hst q1 (by rw [q3]; exact fun z => by cases z) hval rfl rfl hd kk
            · exact va_Wgetf hx hb hown (hts _ hlk) hi2 hst q1 (by rw [q3]; exact fun z => by cases z) hval rfl rfl hd kk
          next => cases h
        next => cases h
      next => cases h
    next => cases h
  next => cases h

theorem xt_putfield {l l2 : xL} {st st2 : List xV} {A A2 : xA} {nL pc2 : Nat} {ops : List Nat} {idx : Nat} (X : xCx p s m args meth c D cl Ts own nm cc) (hd : decode cc pc = .ok (.putfield idx, xlen2 (.putfield idx))) (hT : xT Ts cl own nm (.putfield idx) ops) (hl : lv_has ls nL (xlm ad l)) (hk : xok (xlv A.2.2.2) l st) (hI : xI s D cl B ad A.2.2.2 H locs) (hE : xE s B ad A.2.2.2) (h : xs2 (.putfield idx) ops pc l st A = some (pc2, l2, st2, A2)) (hbud : cells + A2.2.1 ≤ R.cells + A.2.1 ∧ slots + A2.2.2.1 ≤ R.slots + A.2.2.1)
    (k : xCont p l0 e R s m args below meth c D cl B ad A A2 l2 st2 nL pc2 cells slots Q) : W p l0 e R s m args below meth c H locs cells slots Q (F0 m pc ls (st.map (xc ad))) := by
  simp only [xs2] at h
  obtain ⟨hx, hb, hown, hts, hnm, hK, hcl⟩ := X
  split at h
  next v q r =>
    split at h
    next ci fs hq =>
      split at h
      next kx t cis =>
        split at h
        next hg =>
          cases h
          obtain ⟨hci, h0, hfit⟩ := hg
          obtain ⟨w, ref, ty, hc, hkx, hdesc, hty, hsm, hlk⟩ := hT ci (xelem hci)
          obtain ⟨w2, h1, hlen, cell, q1, q2, q3, q4⟩ := hI.1.1 q _ hq
          cases Option.some.inj (hc.symm.trans h1)
          obtain ⟨hin, ⟨ty0, hty0⟩, hnm2⟩ := hcl ci _ hc
          have hap : ∀ x y, x < w.2.2 → y < w.2.2 → x ≠ y → (D.2 ci) x ≠ (D.2 ci) y := va_apart (own := own) (C := w.1) (T := w.2.1) (N := w.2.2) hts hin ty0 hty0 hnm2 hK hc
          obtain ⟨hS, hfc, kC, hkC, hkind⟩ := hK.1 ci _ hc
          obtain ⟨cf, kf, fi, f, hi, hsl⟩ := hS kx hkx
          have hst := (u_facts hfc hkC (u_lays hts hin hkx) hi).1
          have hi2 := xsame_ok hts hsm _ hi
          obtain ⟨hn1, hf1⟩ := xfit_ok (ad := ad) hty hfit
          have hsz : f.slot < cell.slots.size := by rw [hsl]; exact k2_hasslot (q4 kx hkx)
          have hlv : xlv A.2.2.2 v := xok_hd hk
          have kk : ∀ H1 : Heap, H1[ad q]? = some (cell.setSlot f.slot (xc ad v)) → H1.size = H.size → (∀ z, z ≠ ad q → H1[z]? = H[z]?) → W p l0 e R s m args below meth c H1 (locs ++ [⟨ad q, f.slot⟩]) cells slots Q (F0 m (pc + 3) ls (st2.map (xc ad))) := by
            intro H1 e1 e2 e3
            have hcell : xcell s D cl ad (ad q) (.inl (ci, fs.set kx v)) H1 := by
              refine ⟨w, hc, by rw [List.length_set]; exact hlen, t_OB.to (V := updV (vp_V (fs.map (xc ad))) kx (xc ad v)) ⟨_, e1, q2, q3, ?_⟩ (fun j _ => ?_)⟩
              · rw [hsl]
                exact t_set q4 hap hkx _
              · rw [vp_updV_set (by rw [List.length_map]; exact Nat.lt_of_lt_of_eq hkx hlen.symm), List.map_set]
            refine k ad H1 _ ls cells slots (fun u hu => ⟨xup_lv hu, rfl⟩) (fun _ _ => rfl) (hI.put hq h0 hcell e2 e3 ?_) hl (xok_up (xok_tl (xok_tl hk))) rfl rfl
            intro u hu
            rcases List.mem_or_eq_of_mem_set hu with hu | rfl
            · exact hI.1.2.2.2 q _ hq u hu
            · exact hlv
          have hlay := hts _ (hin _ (u_in_lay hkx))
          unfold u_lay at hlay
          rcases hlk with ⟨hlk, hfin⟩ | ⟨⟨host, hlk⟩, hfin⟩
          · rcases hfin with hfin | ⟨hfin, hinit, hdecl⟩
            · rw [if_neg (by rw [hfin]; decide)] at hlay
              exact W.putK hx hb (f := f) ⟨hown, hts _ hlk, ⟨_, _, _, hi2⟩, hst⟩ (by rw [q2]; exact u_store hfc hkC hkind hlay hi hdesc hn1 hf1) q1 q3 hsz rfl rfl hd kk
            · rw [if_pos hfin] at hlay
              have hcf : m.cls = cf := by
                obtain ⟨_, _, c2, _, _, _, -, -, hf2, -, -, -, hown2, -⟩ := Cond.laysFinal_spec hlay
                have e1 : c2 = cf := by have := hi.symm.trans hf2; simp at this; exact this.1.symm
                rw [hdecl] at hown2
                rw [← e1]; exact Option.some.inj (hown.symm.trans hown2)
              exact W.putFinK hx hb hown (hts _ hlk) hi2 hst hcf (hnm.trans hinit) (by rw [q2]; exact u_fits hfc hkC hkind (Or.inr hlay) hi hdesc hn1 hf1) q1 q3 hsz rfl rfl hd kk
          · rw [if_neg (by rw [hfin]; decide)] at hlay
            exact va_WputK hx hb (f := f) hown (hts _ hlk) hi2 hst (by rw [q2]; exact u_store hfc hkC hkind hlay hi hdesc hn1 hf1) q1 q3 hsz rfl rfl hd kk
        next => cases h
      next => cases h
    next => cases h
  next => cases h

theorem xt_iaload {l l2 : xL} {st st2 : List xV} {A A2 : xA} {nL pc2 : Nat} {ops : List Nat} (X : xCx p s m args meth c D cl Ts own nm cc) (hd : decode cc pc = .ok (.iaload, xlen2 (.iaload))) (hT : xT Ts cl own nm (.iaload) ops) (hl : lv_has ls nL (xlm ad l)) (hk : xok (xlv A.2.2.2) l st) (hI : xI s D cl B ad A.2.2.2 H locs) (hE : xE s B ad A.2.2.2) (h : xs2 (.iaload) ops pc l st A = some (pc2, l2, st2, A2)) (hbud : cells + A2.2.1 ≤ R.cells + A.2.1 ∧ slots + A2.2.2.1 ≤ R.slots + A.2.2.1)
    (k : xCont p l0 e R s m args below meth c D cl B ad A A2 l2 st2 nL pc2 cells slots Q) : W p l0 e R s m args below meth c H locs cells slots Q (F0 m pc ls (st.map (xc ad))) := by
  simp only [xs2] at h
  obtain ⟨hx, hb, hown, hts, hnm, hK, hcl⟩ := X
  split at h
  next j q r =>
    split at h
    next kd n f hq =>
      split at h
      next v hv =>
        cases h
        · obtain ⟨hkd, hin, rfl⟩ := xarr_ok hv
          obtain ⟨cell, h1, h2, h3, h4, h5, h6⟩ := hI.1.1 q _ hq
          have hty : xak kd = .int := by rcases hkd with rfl | ⟨hw, rfl⟩ <;> first | rfl | exact absurd hw (by decide)
          exact W.iald hx hb h1 (by rw [← hty]; exact h2) h4 (by rw [h5]; exact hin) (h6 _ (Nat.not_le.mp fun z => hin (Or.inr z))) rfl rfl hd (k.same hl (xok_push (xok_tl (xok_tl hk)) (hI.1.2.2.2 q _ hq _)) hI)
      next => cases h
    next => cases h
  next => cases h

theorem xt_laload {l l2 : xL} {st st2 : List xV} {A A2 : xA} {nL pc2 : Nat} {ops : List Nat} (X : xCx p s m args meth c D cl Ts own nm cc) (hd : decode cc pc = .ok (.laload, xlen2 (.laload))) (hT : xT Ts cl own nm (.laload) ops) (hl : lv_has ls nL (xlm ad l)) (hk : xok (xlv A.2.2.2) l st) (hI : xI s D cl B ad A.2.2.2 H locs) (hE : xE s B ad A.2.2.2) (h : xs2 (.laload) ops pc l st A = some (pc2, l2, st2, A2)) (hbud : cells + A2.2.1 ≤ R.cells + A.2.1 ∧ slots + A2.2.2.1 ≤ R.slots + A.2.2.1)
    (k : xCont p l0 e R s m args below meth c D cl B ad A A2 l2 st2 nL pc2 cells slots Q) : W p l0 e R s m args below meth c H locs cells slots Q (F0 m pc ls (st.map (xc ad))) := by
  simp only [xs2] at h
  obtain ⟨hx, hb, hown, hts, hnm, hK, hcl⟩ := X
  split at h
  next j q r =>
    split at h
    next kd n f hq =>
      split at h
      next v hv =>
        cases h
        · obtain ⟨hkd, hin, rfl⟩ := xarr_ok hv
          obtain ⟨cell, h1, h2, h3, h4, h5, h6⟩ := hI.1.1 q _ hq
          have hty : xak kd = .long := by rcases hkd with rfl | ⟨hw, rfl⟩ <;> first | rfl | exact absurd hw (by decide)
          exact W.lald hx hb h1 (by rw [← hty]; exact h2) h4 (by rw [h5]; exact hin) (h6 _ (Nat.not_le.mp fun z => hin (Or.inr z))) rfl rfl hd (k.same hl (xok_push (xok_tl (xok_tl hk)) (hI.1.2.2.2 q _ hq _)) hI)
      next => cases h
    next => cases h
  next => cases h

theorem xt_caload {l l2 : xL} {st st2 : List xV} {A A2 : xA} {nL pc2 : Nat} {ops : List Nat} (X : xCx p s m args meth c D cl Ts own nm cc) (hd : decode cc pc = .ok (.caload, xlen2 (.caload))) (hT : xT Ts cl own nm (.caload) ops) (hl : lv_has ls nL (xlm ad l)) (hk : xok (xlv A.2.2.2) l st) (hI : xI s D cl B ad A.2.2.2 H locs) (hE : xE s B ad A.2.2.2) (h : xs2 (.caload) ops pc l st A = some (pc2, l2, st2, A2)) (hbud : cells + A2.2.1 ≤ R.cells + A.2.1 ∧ slots + A2.2.2.1 ≤ R.slots + A.2.2.1)
    (k : xCont p l0 e R s m args below meth c D cl B ad A A2 l2 st2 nL pc2 cells slots Q) : W p l0 e R s m args below meth c H locs cells slots Q (F0 m pc ls (st.map (xc ad))) := by
  simp only [xs2] at h
  obtain ⟨hx, hb, hown, hts, hnm, hK, hcl⟩ := X
  split at h
  next j q r =>
    split at h
    next kd n f hq =>
      split at h
      next v hv =>
        cases h
        · obtain ⟨hkd, hin, rfl⟩ := xarr_ok hv
          obtain ⟨cell, h1, h2, h3, h4, h5, h6⟩ := hI.1.1 q _ hq
          have hty : xak kd = .char := by rcases hkd with rfl | ⟨hw, rfl⟩ <;> first | rfl | exact absurd hw (by decide)
          exact W.cald hx hb h1 (by rw [← hty]; exact h2) h4 (by rw [h5]; exact hin) (h6 _ (Nat.not_le.mp fun z => hin (Or.inr z))) rfl rfl hd (k.same hl (xok_push (xok_tl (xok_tl hk)) (hI.1.2.2.2 q _ hq _)) hI)
      next => cases h
    next => cases h
  next => cases h

theorem xt_daload {l l2 : xL} {st st2 : List xV} {A A2 : xA} {nL pc2 : Nat} {ops : List Nat} (X : xCx p s m args meth c D cl Ts own nm cc) (hd : decode cc pc = .ok (.daload, xlen2 (.daload))) (hT : xT Ts cl own nm (.daload) ops) (hl : lv_has ls nL (xlm ad l)) (hk : xok (xlv A.2.2.2) l st) (hI : xI s D cl B ad A.2.2.2 H locs) (hE : xE s B ad A.2.2.2) (h : xs2 (.daload) ops pc l st A = some (pc2, l2, st2, A2)) (hbud : cells + A2.2.1 ≤ R.cells + A.2.1 ∧ slots + A2.2.2.1 ≤ R.slots + A.2.2.1)
    (k : xCont p l0 e R s m args below meth c D cl B ad A A2 l2 st2 nL pc2 cells slots Q) : W p l0 e R s m args below meth c H locs cells slots Q (F0 m pc ls (st.map (xc ad))) := by
  simp only [xs2] at h
  obtain ⟨hx, hb, hown, hts, hnm, hK, hcl⟩ := X
  split at h
  next j q r =>
    split at h
    next kd n f hq =>
      split at h
      next v hv =>
        cases h
        · obtain ⟨hkd, hin, rfl⟩ := xarr_ok hv
          obtain ⟨cell, h1, h2, h3, h4, h5, h6⟩ := hI.1.1 q _ hq
          have hty : xak kd = .double := by rcases hkd with rfl | ⟨hw, rfl⟩ <;> first | rfl | exact absurd hw (by decide)
          exact W.dald hx hb h1 (by rw [← hty]; exact h2) h4 (by rw [h5]; exact hin) (h6 _ (Nat.not_le.mp fun z => hin (Or.inr z))) rfl rfl hd (k.same hl (xok_push (xok_tl (xok_tl hk)) (hI.1.2.2.2 q _ hq _)) hI)
      next => cases h
    next => cases h
  next => cases h

theorem xt_aaload {l l2 : xL} {st st2 : List xV} {A A2 : xA} {nL pc2 : Nat} {ops : List Nat} (X : xCx p s m args meth c D cl Ts own nm cc) (hd : decode cc pc = .ok (.aaload, xlen2 (.aaload))) (hT : xT Ts cl own nm (.aaload) ops) (hl : lv_has ls nL (xlm ad l)) (hk : xok (xlv A.2.2.2) l st) (hI : xI s D cl B ad A.2.2.2 H locs) (hE : xE s B ad A.2.2.2) (h : xs2 (.aaload) ops pc l st A = some (pc2, l2, st2, A2)) (hbud : cells + A2.2.1 ≤ R.cells + A.2.1 ∧ slots + A2.2.2.1 ≤ R.slots + A.2.2.1)
    (k : xCont p l0 e R s m args below meth c D cl B ad A A2 l2 st2 nL pc2 cells slots Q) : W p l0 e R s m args below meth c H locs cells slots Q (F0 m pc ls (st.map (xc ad))) := by
  simp only [xs2] at h
  obtain ⟨hx, hb, hown, hts, hnm, hK, hcl⟩ := X
  split at h
  next j q r =>
    split at h
    next kd n f hq =>
      split at h
      next v hv =>
        cases h
        · obtain ⟨hkd, hin, rfl⟩ := xarr_ok hv
          obtain ⟨cell, h1, h2, h3, h4, h5, h6⟩ := hI.1.1 q _ hq
          have hty : (xak kd).isReference = true := by
            by_cases h55 : kd = 5
            · subst h55; rfl
            · rw [if_neg h55] at hkd
              rcases hkd with rfl | ⟨hw, rfl⟩
              · rfl
              · exact absurd hw (by decide)
          exact W.aald hx hb h1 h2 hty h4 (by rw [h5]; exact hin) (h6 _ (Nat.not_le.mp fun z => hin (Or.inr z))) rfl rfl hd (k.same hl (xok_push (xok_tl (xok_tl hk)) (hI.1.2.2.2 q _ hq _)) hI)
      next => cases h
    next => cases h
  next => cases h

/-- a store into an array -/
theorem xsto_ok {A A1 : xA} {q : Nat × Nat} {kd n want : Nat} {j : Int32} {f : Nat → xV} {v : xV} {l2 : xL} {st2 : List xV} {nL pc2 : Nat} (hq : A.2.2.2 q = some (.inr (kd, n, f))) (h : xsto A q kd j n f want v = some A1) (hl : lv_has ls nL (xlm ad l2)) (hk : xok (xlv A.2.2.2) l2 st2) (hv : xlv A.2.2.2 v) (hI : xI s D cl B ad A.2.2.2 H locs) (k : xCont p l0 e R s m args below meth c D cl B ad A A1 l2 st2 nL pc2 cells slots Q) :
    kd = want ∧ ¬ (j < 0 ∨ n ≤ j.toNatClampNeg) ∧ ∃ cell : Cell, H[ad q]? = some cell ∧ s.isArrayOf cell (xak kd) ∧ (kd = 9 ∨ va_RA s cell.cls (xak kd)) ∧ cell.vm ≠ .unknown ∧ cell.slots.size = n ∧ ∀ H1 : Heap, H1[ad q]? = some (cell.setSlot j.toNatClampNeg (xc ad v)) → H1.size = H.size → (∀ z, z ≠ ad q → H1[z]? = H[z]?) → W p l0 e R s m args below meth c H1 (locs ++ [⟨ad q, j.toNatClampNeg⟩]) cells slots Q (F0 m pc2 ls (st2.map (xc ad))) := by
  unfold xsto at h
  split at h
  next hg =>
    cases h
    obtain ⟨hw, h0, hin⟩ := hg
    obtain ⟨cell, h1, h2, h3, h4, h5, h6⟩ := hI.1.1 q _ hq
    refine ⟨hw, hin, cell, h1, h2, h3, h4, h5, fun H1 e1 e2 e3 => ?_⟩
    obtain ⟨g1, g2⟩ := xarr_set (v := v) h5 h6 (Nat.not_le.mp fun z => hin (Or.inr z))
    refine k ad H1 _ ls cells slots (fun u hu => ⟨xup_lv hu, rfl⟩) (fun _ _ => rfl) (hI.put hq h0 ⟨_, e1, h2, h3, h4, g1, g2⟩ e2 e3 ?_) hl (xok_up hk) rfl rfl
    intro i
    show xlv A.2.2.2 (xfu f j.toNatClampNeg v i)
    unfold xfu
    split
    · exact hv
    · exact hI.1.2.2.2 q _ hq i
  next => cases h

theorem xt_iastore {l l2 : xL} {st st2 : List xV} {A A2 : xA} {nL pc2 : Nat} {ops : List Nat} (X : xCx p s m args meth c D cl Ts own nm cc) (hd : decode cc pc = .ok (.iastore, xlen2 (.iastore))) (hT : xT Ts cl own nm (.iastore) ops) (hl : lv_has ls nL (xlm ad l)) (hk : xok (xlv A.2.2.2) l st) (hI : xI s D cl B ad A.2.2.2 H locs) (hE : xE s B ad A.2.2.2) (h : xs2 (.iastore) ops pc l st A = some (pc2, l2, st2, A2)) (hbud : cells + A2.2.1 ≤ R.cells + A.2.1 ∧ slots + A2.2.2.1 ≤ R.slots + A.2.2.1)
    (k : xCont p l0 e R s m args below meth c D cl B ad A A2 l2 st2 nL pc2 cells slots Q) : W p l0 e R s m args below meth c H locs cells slots Q (F0 m pc ls (st.map (xc ad))) := by
  simp only [xs2] at h
  obtain ⟨hx, hb, hown, hts, hnm, hK, hcl⟩ := X
  split at h
  next x j q r =>
    split at h
    next kd n f hq =>
      split at h
      next A1 ha =>
        cases h
        obtain ⟨rfl, hin, cell, h1, h2, h3, h4, h5, kk⟩ := xsto_ok hq ha hl (xok_tl (xok_tl (xok_tl hk))) (xok_hd hk) hI k
        exact W.iast hx hb h1 h2 h4 (by rw [h5]; exact hin) rfl rfl hd kk
      next => cases h
    next => cases h
  next => cases h

theorem xt_lastore {l l2 : xL} {st st2 : List xV} {A A2 : xA} {nL pc2 : Nat} {ops : List Nat} (X : xCx p s m args meth c D cl Ts own nm cc) (hd : decode cc pc = .ok (.lastore, xlen2 (.lastore))) (hT : xT Ts cl own nm (.lastore) ops) (hl : lv_has ls nL (xlm ad l)) (hk : xok (xlv A.2.2.2) l st) (hI : xI s D cl B ad A.2.2.2 H locs) (hE : xE s B ad A.2.2.2) (h : xs2 (.lastore) ops pc l st A = some (pc2, l2, st2, A2)) (hbud : cells + A2.2.1 ≤ R.cells + A.2.1 ∧ slots + A2.2.2.1 ≤ R.slots + A.2.2.1)
    (k : xCont p l0 e R s m args below meth c D cl B ad A A2 l2 st2 nL pc2 cells slots Q) : W p l0 e R s m args below meth c H locs cells slots Q (F0 m pc ls (st.map (xc ad))) := by
  simp only [xs2] at h
  obtain ⟨hx, hb, hown, hts, hnm, hK, hcl⟩ := X
  split at h
  next x j q r =>
    split at h
    next kd n f hq =>
      split at h
      next A1 ha =>
        cases h
        obtain ⟨rfl, hin, cell, h1, h2, h3, h4, h5, kk⟩ := xsto_ok hq ha hl (xok_tl (xok_tl (xok_tl hk))) (xok_hd hk) hI k
        exact W.last hx hb h1 h2 h4 (by rw [h5]; exact hin) rfl rfl hd kk
      next => cases h
    next => cases h
  next => cases h

theorem xt_dastore {l l2 : xL} {st st2 : List xV} {A A2 : xA} {nL pc2 : Nat} {ops : List Nat} (X : xCx p s m args meth c D cl Ts own nm cc) (hd : decode cc pc = .ok (.dastore, xlen2 (.dastore))) (hT : xT Ts cl own nm (.dastore) ops) (hl : lv_has ls nL (xlm ad l)) (hk : xok (xlv A.2.2.2) l st) (hI : xI s D cl B ad A.2.2.2 H locs) (hE : xE s B ad A.2.2.2) (h : xs2 (.dastore) ops pc l st A = some (pc2, l2, st2, A2)) (hbud : cells + A2.2.1 ≤ R.cells + A.2.1 ∧ slots + A2.2.2.1 ≤ R.slots + A.2.2.1)
    (k : xCont p l0 e R s m args below meth c D cl B ad A A2 l2 st2 nL pc2 cells slots Q) : W p l0 e R s m args below meth c H locs cells slots Q (F0 m pc ls (st.map (xc ad))) := by
  simp only [xs2] at h
  obtain ⟨hx, hb, hown, hts, hnm, hK, hcl⟩ := X
  split at h
  next x j q r =>
    split at h
    next kd n f hq =>
      split at h
      next A1 ha =>
        cases h
        obtain ⟨rfl, hin, cell, h1, h2, h3, h4, h5, kk⟩ := xsto_ok hq ha hl (xok_tl (xok_tl (xok_tl hk))) (xok_hd hk) hI k
        exact W.dast hx hb h1 h2 h4 (by rw [h5]; exact hin) rfl rfl hd kk
      next => cases h
    next => cases h
  next => cases h

theorem xt_castore {l l2 : xL} {st st2 : List xV} {A A2 : xA} {nL pc2 : Nat} {ops : List Nat} (X : xCx p s m args meth c D cl Ts own nm cc) (hd : decode cc pc = .ok (.castore, xlen2 (.castore))) (hT : xT Ts cl own nm (.castore) ops) (hl : lv_has ls nL (xlm ad l)) (hk : xok (xlv A.2.2.2) l st) (hI : xI s D cl B ad A.2.2.2 H locs) (hE : xE s B ad A.2.2.2) (h : xs2 (.castore) ops pc l st A = some (pc2, l2, st2, A2)) (hbud : cells + A2.2.1 ≤ R.cells + A.2.1 ∧ slots + A2.2.2.1 ≤ R.slots + A.2.2.1)
    (k : xCont p l0 e R s m args below meth c D cl B ad A A2 l2 st2 nL pc2 cells slots Q) : W p l0 e R s m args below meth c H locs cells slots Q (F0 m pc ls (st.map (xc ad))) := by
  simp only [xs2] at h
  obtain ⟨hx, hb, hown, hts, hnm, hK, hcl⟩ := X
  split at h
  next x j q r =>
    split at h
    next kd n f hq =>
      split at h
      next hch =>
        split at h
        next A1 ha =>
          cases h
          obtain ⟨rfl, hin, cell, h1, h2, h3, h4, h5, kk⟩ := xsto_ok hq ha hl (xok_tl (xok_tl (xok_tl hk))) (xok_hd hk) hI k
          exact W.cast hx hb h1 h2 h4 (by rw [h5]; exact hin) rfl rfl hd (fun H1 e1 e2 e3 => kk H1 (by rw [(xfit_char hch).1] at e1; exact e1) e2 e3)
        next => cases h
      next => cases h
    next => cases h
  next => cases h

theorem xt_arraylength {l l2 : xL} {st st2 : List xV} {A A2 : xA} {nL pc2 : Nat} {ops : List Nat} (X : xCx p s m args meth c D cl Ts own nm cc) (hd : decode cc pc = .ok (.arraylength, xlen2 (.arraylength))) (hT : xT Ts cl own nm (.arraylength) ops) (hl : lv_has ls nL (xlm ad l)) (hk : xok (xlv A.2.2.2) l st) (hI : xI s D cl B ad A.2.2.2 H locs) (hE : xE s B ad A.2.2.2) (h : xs2 (.arraylength) ops pc l st A = some (pc2, l2, st2, A2)) (hbud : cells + A2.2.1 ≤ R.cells + A.2.1 ∧ slots + A2.2.2.1 ≤ R.slots + A.2.2.1)
    (k : xCont p l0 e R s m args below meth c D cl B ad A A2 l2 st2 nL pc2 cells slots Q) : W p l0 e R s m args below meth c H locs cells slots Q (F0 m pc ls (st.map (xc ad))) := by
  simp only [xs2] at h
  obtain ⟨hx, hb, hown, hts, hnm, hK, hcl⟩ := X
  split at h
  next q r =>
    split at h
    next kd n f hq =>
      cases h
      obtain ⟨cell, h1, h2, h3, h4, h5, h6⟩ := hI.1.1 q _ hq
      exact W.alen hx hb h1 h2 (by rw [h5]) rfl rfl hd (k.same hl (xok_push (xok_tl hk) trivial) hI)
    next => cases h
  next => cases h

/-- a fresh name gets a fresh address -/
theorem xnew_ok {A : xA} {q : Nat × Nat} {nm2 : List (Nat × Nat)} {sz : Nat} {o : xO} {l2 : xL} {st2 : List xV} {nL pc2 : Nat} {H1 : Heap} (hq : A.2.2.2 q = none) (h0 : q.1 ≠ 0) (hl : lv_has ls nL (xlm ad l2)) (hk : xok (xlv A.2.2.2) l2 st2) (hI : xI s D cl B ad A.2.2.2 H locs) (k : xCont p l0 e R s m args below meth c D cl B ad A (nm2, A.2.1 + 1, A.2.2.1 + sz, xup A.2.2.2 q o) l2 (.inr q :: st2) nL pc2 cells slots Q) (hc : xcell s D cl (xan ad q H.size) H.size o H1) (hz : H1.size = H.size + 1) (o1 : ∀ x, x < H.size → H1[x]? = H[x]?) (ho : xOl (xup A.2.2.2 q o) o) :
    W p l0 e R s m args below meth c H1 locs (cells + 1) (slots + sz) Q (F0 m pc2 ls (.ref H.size :: st2.map (xc ad))) := by
  have hst : (.inr q :: st2).map (xc (xan ad q H.size)) = .ref H.size :: st2.map (xc ad) := by
    show .ref (xan ad q H.size q) :: st2.map (xc (xan ad q H.size)) = _
    rw [xst_an hq hk.2]
    unfold xan
    rw [if_pos rfl]
  rw [← hst]
  refine k (xan ad q H.size) H1 locs ls (cells + 1) (slots + sz) (fun u hu => ⟨xup_lv hu, xan_c hq hu⟩) (fun z hz => ?_) (hI.new hq hc (by omega) o1 ho) (by rw [xlm_an hq hk.1]; exact hl) (xok_push (xok_up hk) xlv_self) ?_ ?_
  · unfold xan
    exact if_neg (fun e : z = q => h0 (by rw [← e]; exact hz))
  · show cells + 1 + A.2.1 = cells + (A.2.1 + 1)
    omega
  · show slots + sz + A.2.2.1 = slots + (A.2.2.1 + sz)
    omega

theorem xt_newarray {l l2 : xL} {st st2 : List xV} {A A2 : xA} {nL pc2 : Nat} {ops : List Nat} {at_ : ArrayType} (X : xCx p s m args meth c D cl Ts own nm cc) (hd : decode cc pc = .ok (.newarray at_, xlen2 (.newarray at_))) (hT : xT Ts cl own nm (.newarray at_) ops) (hl : lv_has ls nL (xlm ad l)) (hk : xok (xlv A.2.2.2) l st) (hI : xI s D cl B ad A.2.2.2 H locs) (hE : xE s B ad A.2.2.2) (h : xs2 (.newarray at_) ops pc l st A = some (pc2, l2, st2, A2)) (hbud : cells + A2.2.1 ≤ R.cells + A.2.1 ∧ slots + A2.2.2.1 ≤ R.slots + A.2.2.1)
    (k : xCont p l0 e R s m args below meth c D cl B ad A A2 l2 st2 nL pc2 cells slots Q) : W p l0 e R s m args below meth c H locs cells slots Q (F0 m pc ls (st.map (xc ad))) := by
  simp only [xs2] at h
  obtain ⟨hx, hb, hown, hts, hnm, hK, hcl⟩ := X
  split at h
  next n r kd q nm2 hn =>
    split at h
    next hg =>
      obtain ⟨hn0, hbig, hq, h0⟩ := hg
      have hq : A.2.2.2 q = none := Option.isNone_iff_eq_none.mp hq
      cases h
      obtain ⟨hty, harr, hk4, hk5⟩ := hT
      have hb1 : cells + 1 ≤ R.cells := by have := hbud.1; dsimp only at this; omega
      have hb2 : slots + n.toNatClampNeg ≤ R.slots := by have := hbud.2; dsimp only at this; omega
      have hcb : componentBytes (newarray.typeOf at_) ≤ 8 := by cases at_ <;> decide
      refine va_newaK (atype := at_) hx hb (hts _ harr) rfl hd rfl hn0 rfl (Nat.le_trans (Nat.mul_le_mul hbig hcb) (by decide)) hb1 hb2 rfl fun H1 cA e1 z1 o1 hAr hNm => ?_
      refine xnew_ok hq h0 hl (xok_tl hk) hI k ⟨_, e1, ?_, Or.inr ?_, (fun z => by cases z), arrV_size _ _ _, fun j hj => ?_⟩ z1 o1 (fun _ => trivial)
      · show s.isArrayOf _ (xak kd)
        rw [← hty]
        exact hAr _ _
      · show va_RA s cA (xak kd)
        rw [← hty]
        cases at_ <;> exact hNm
      · show (arrV _ _ _).slots[j]? = some (defaultValue (xak kd))
        rw [← hty]
        simp [arrV, hj]
    next => cases h
  next => cases h

theorem xt_anewarray {l l2 : xL} {st st2 : List xV} {A A2 : xA} {nL pc2 : Nat} {ops : List Nat} {idx : Nat} (X : xCx p s m args meth c D cl Ts own nm cc) (hd : decode cc pc = .ok (.anewarray idx, xlen2 (.anewarray idx))) (hT : xT Ts cl own nm (.anewarray idx) ops) (hl : lv_has ls nL (xlm ad l)) (hk : xok (xlv A.2.2.2) l st) (hI : xI s D cl B ad A.2.2.2 H locs) (hE : xE s B ad A.2.2.2) (h : xs2 (.anewarray idx) ops pc l st A = some (pc2, l2, st2, A2)) (hbud : cells + A2.2.1 ≤ R.cells + A.2.1 ∧ slots + A2.2.2.1 ≤ R.slots + A.2.2.1)
    (k : xCont p l0 e R s m args below meth c D cl B ad A A2 l2 st2 nL pc2 cells slots Q) : W p l0 e R s m args below meth c H locs cells slots Q (F0 m pc ls (st.map (xc ad))) := by
  simp only [xs2] at h
  obtain ⟨hx, hb, hown, hts, hnm, hK, hcl⟩ := X
  split at h
  next n r kd q nm2 hn =>
    split at h
    next hg =>
      obtain ⟨hn0, hbig, hq, h0⟩ := hg
      have hq : A.2.2.2 q = none := Option.isNone_iff_eq_none.mp hq
      cases h
      obtain ⟨C, hty, hlk, hov⟩ := hT
      have hb1 : cells + 1 ≤ R.cells := by have := hbud.1; dsimp only at this; omega
      have hb2 : slots + n.toNatClampNeg ≤ R.slots := by have := hbud.2; dsimp only at this; omega
      refine W.anew hx hb hown (hts _ hlk) (hts _ hov) rfl hd rfl hn0 (Nat.le_trans (Nat.mul_le_mul_right 4 hbig) (by decide)) hb1 hb2 fun cA kA comp g1 g2 g3 g4 => ?_
      refine xnew_ok hq h0 hl (xok_tl hk) hI k ⟨{ cls := cA, slots := Array.replicate n.toNatClampNeg .null, vm := .none }, Array.getElem?_push_size, ?_, Or.inr ?_, (fun z => by cases z), Array.size_replicate, fun j hj => ?_⟩ (Array.size_push _) (fun x hx => ?_) (fun _ => trivial)
      · show s.isArrayOf _ (xak kd)
        rw [hty]
        exact ⟨fun z w => (by cases w), kA, g2, comp, g3⟩
      · show va_RA s cA (xak kd)
        rw [hty]
        exact ⟨kA, comp, g2, g3, g4, g1⟩
      · show (Array.replicate n.toNatClampNeg Value.null)[j]? = some Value.null
        rw [Array.getElem?_replicate, if_pos hj]
      · rw [Array.getElem?_push, if_neg (Nat.ne_of_lt hx)]
    next => cases h
  next => cases h

theorem xt_new {l l2 : xL} {st st2 : List xV} {A A2 : xA} {nL pc2 : Nat} {ops : List Nat} {idx : Nat} (X : xCx p s m args meth c D cl Ts own nm cc) (hd : decode cc pc = .ok (.new idx, xlen2 (.new idx))) (hT : xT Ts cl own nm (.new idx) ops) (hl : lv_has ls nL (xlm ad l)) (hk : xok (xlv A.2.2.2) l st) (hI : xI s D cl B ad A.2.2.2 H locs) (hE : xE s B ad A.2.2.2) (h : xs2 (.new idx) ops pc l st A = some (pc2, l2, st2, A2)) (hbud : cells + A2.2.1 ≤ R.cells + A.2.1 ∧ slots + A2.2.2.1 ≤ R.slots + A.2.2.1)
    (k : xCont p l0 e R s m args below meth c D cl B ad A A2 l2 st2 nL pc2 cells slots Q) : W p l0 e R s m args below meth c H locs cells slots Q (F0 m pc ls (st.map (xc ad))) := by
  simp only [xs2] at h
  obtain ⟨hx, hb, hown, hts, hnm, hK, hcl⟩ := X
  split at h
  next ci tc q nm2 hn =>
    split at h
    next hg =>
      obtain ⟨hq, h0⟩ := hg
      have hq : A.2.2.2 q = none := Option.isNone_iff_eq_none.mp hq
      cases h
      obtain ⟨w, hc, hlen, hlk, hins, hini, hf⟩ := hT
      obtain ⟨hin, ⟨ty0, hty0⟩, hnm2⟩ := hcl ci _ hc
      have hb1 : cells + 1 ≤ R.cells := by have := hbud.1; dsimp only at this; omega
      have hb2 : slots + tc.length ≤ R.slots := by have := hbud.2; dsimp only at this; omega
      have hKn := hK.1 ci _ hc
      refine W.newcK hx hb hown (hts _ hlk) (n := tc.length) (by rw [hlen]; exact hts _ hins) (hts _ hini) rfl hd hb1 hb2 hKn.2.1 rfl fun H1 kC hkC e1 z1 o1 => ?_
      refine xnew_ok hq h0 hl hk hI k ⟨w, hc, by rw [List.length_map]; exact hlen, t_OB.to (u_born (C := w.1) (T := w.2.1) (N := w.2.2) ty0 hts hin hKn hkC e1 hty0) (fun j hj => ?_)⟩ z1 o1 (fun v hv => ?_)
      · obtain ⟨ty, t, g1, g2, g3⟩ := hf j hj
        cases Option.some.inj (g1.symm.trans (hty0 j hj))
        show defaultValue (ty0 j) = (((tc.map xd0).map (xc _)).getD j .null)
        rw [List.getD_eq_getElem?_getD, List.getElem?_map, List.getElem?_map, g2]
        show defaultValue (ty0 j) = xc _ (xd0 t)
        rw [← g3]
        rfl
      · obtain ⟨t, -, rfl⟩ := List.mem_map.mp hv
        unfold xd0
        split <;> trivial
    next => cases h
  next => cases h

theorem xt_checkcast {l l2 : xL} {st st2 : List xV} {A A2 : xA} {nL pc2 : Nat} {ops : List Nat} {idx : Nat} (X : xCx p s m args meth c D cl Ts own nm cc) (hd : decode cc pc = .ok (.checkcast idx, xlen2 (.checkcast idx))) (hT : xT Ts cl own nm (.checkcast idx) ops) (hl : lv_has ls nL (xlm ad l)) (hk : xok (xlv A.2.2.2) l st) (hI : xI s D cl B ad A.2.2.2 H locs) (hE : xE s B ad A.2.2.2) (h : xs2 (.checkcast idx) ops pc l st A = some (pc2, l2, st2, A2)) (hbud : cells + A2.2.1 ≤ R.cells + A.2.1 ∧ slots + A2.2.2.1 ≤ R.slots + A.2.2.1)
    (k : xCont p l0 e R s m args below meth c D cl B ad A A2 l2 st2 nL pc2 cells slots Q) : W p l0 e R s m args below meth c H locs cells slots Q (F0 m pc ls (st.map (xc ad))) := by
  simp only [xs2] at h
  obtain ⟨hx, hb, hown, hts, hnm, hK, hcl⟩ := X
  split at h
  next r =>
    cases h
    exact lv_castN hx hb hd (k.same hl hk hI)
  next q r =>
    split at h
    next ci fs hq =>
      split at h
      next hci =>
        cases h
        obtain ⟨w, nm3, hc, hlk, hca⟩ := hT ci (xelem hci)
        obtain ⟨w2, h1, hlen, cell, q1, q2, q3, q4⟩ := hI.1.1 q _ hq
        cases Option.some.inj (hc.symm.trans h1)
        exact va_castY (a := ad q) hx hb hown (hts _ hlk) (va_Nw.of rfl (hts _ hca)) ⟨cell, q1, by rw [q3]; rfl, by rw [q2]; exact (hK.1 ci w hc).2.1⟩ hd (k.same hl hk hI)
      next => cases h
    next => cases h
  next => cases h

theorem xt_ldc {l l2 : xL} {st st2 : List xV} {A A2 : xA} {nL pc2 : Nat} {ops : List Nat} {idx : Nat} (X : xCx p s m args meth c D cl Ts own nm cc) (hd : decode cc pc = .ok (.ldc idx, xlen2 (.ldc idx))) (hT : xT Ts cl own nm (.ldc idx) ops) (hl : lv_has ls nL (xlm ad l)) (hk : xok (xlv A.2.2.2) l st) (hI : xI s D cl B ad A.2.2.2 H locs) (hE : xE s B ad A.2.2.2) (h : xs2 (.ldc idx) ops pc l st A = some (pc2, l2, st2, A2)) (hbud : cells + A2.2.1 ≤ R.cells + A.2.1 ∧ slots + A2.2.2.1 ≤ R.slots + A.2.2.1)
    (k : xCont p l0 e R s m args below meth c D cl B ad A A2 l2 st2 nL pc2 cells slots Q) : W p l0 e R s m args below meth c H locs cells slots Q (F0 m pc ls (st.map (xc ad))) := by
  simp only [xs2] at h
  obtain ⟨hx, hb, hown, hts, hnm, hK, hcl⟩ := X
  split at h
  next => cases h; exact lv_ldc hx hb hown (hts _ hT) hd (k.same hl (xok_push hk trivial) hI)
  next => cases h; exact lv_ldcf hx hb hown (hts _ hT) hd (k.same hl (xok_push hk trivial) hI)
  next => cases h

theorem xt_ldc_w {l l2 : xL} {st st2 : List xV} {A A2 : xA} {nL pc2 : Nat} {ops : List Nat} {idx : Nat} (X : xCx p s m args meth c D cl Ts own nm cc) (hd : decode cc pc = .ok (.ldc_w idx, xlen2 (.ldc_w idx))) (hT : xT Ts cl own nm (.ldc_w idx) ops) (hl : lv_has ls nL (xlm ad l)) (hk : xok (xlv A.2.2.2) l st) (hI : xI s D cl B ad A.2.2.2 H locs) (hE : xE s B ad A.2.2.2) (h : xs2 (.ldc_w idx) ops pc l st A = some (pc2, l2, st2, A2)) (hbud : cells + A2.2.1 ≤ R.cells + A.2.1 ∧ slots + A2.2.2.1 ≤ R.slots + A.2.2.1)
    (k : xCont p l0 e R s m args below meth c D cl B ad A A2 l2 st2 nL pc2 cells slots Q) : W p l0 e R s m args below meth c H locs cells slots Q (F0 m pc ls (st.map (xc ad))) := by
  simp only [xs2] at h
  obtain ⟨hx, hb, hown, hts, hnm, hK, hcl⟩ := X
  split at h
  next => cases h; exact lv_ldcw hx hb hown (hts _ hT) hd (k.same hl (xok_push hk trivial) hI)
  next => cases h

theorem xt_ldc2_w {l l2 : xL} {st st2 : List xV} {A A2 : xA} {nL pc2 : Nat} {ops : List Nat} {idx : Nat} (X : xCx p s m args meth c D cl Ts own nm cc) (hd : decode cc pc = .ok (.ldc2_w idx, xlen2 (.ldc2_w idx))) (hT : xT Ts cl own nm (.ldc2_w idx) ops) (hl : lv_has ls nL (xlm ad l)) (hk : xok (xlv A.2.2.2) l st) (hI : xI s D cl B ad A.2.2.2 H locs) (hE : xE s B ad A.2.2.2) (h : xs2 (.ldc2_w idx) ops pc l st A = some (pc2, l2, st2, A2)) (hbud : cells + A2.2.1 ≤ R.cells + A.2.1 ∧ slots + A2.2.2.1 ≤ R.slots + A.2.2.1)
    (k : xCont p l0 e R s m args below meth c D cl B ad A A2 l2 st2 nL pc2 cells slots Q) : W p l0 e R s m args below meth c H locs cells slots Q (F0 m pc ls (st.map (xc ad))) := by
  simp only [xs2] at h
  obtain ⟨hx, hb, hown, hts, hnm, hK, hcl⟩ := X
  split at h
  next => cases h; exact lv_ldc2 hx hb hown (hts _ hT) hd (k.same hl (xok_push hk trivial) hI)
  next => cases h; exact lv_ldc2d hx hb hown (hts _ hT) hd (k.same hl (xok_push hk trivial) hI)
  next => cases h

theorem xt_getstatic {l l2 : xL} {st st2 : List xV} {A A2 : xA} {nL pc2 : Nat} {ops : List Nat} {idx : Nat} (X : xCx p s m args meth c D cl Ts own nm cc) (hd : decode cc pc = .ok (.getstatic idx, xlen2 (.getstatic idx))) (hT : xT Ts cl own nm (.getstatic idx) ops) (hl : lv_has ls nL (xlm ad l)) (hk : xok (xlv A.2.2.2) l st) (hI : xI s D cl B ad A.2.2.2 H locs) (hE : xE s B ad A.2.2.2) (h : xs2 (.getstatic idx) ops pc l st A = some (pc2, l2, st2, A2)) (hbud : cells + A2.2.1 ≤ R.cells + A.2.1 ∧ slots + A2.2.2.1 ≤ R.slots + A.2.2.1)
    (k : xCont p l0 e R s m args below meth c D cl B ad A A2 l2 st2 nL pc2 cells slots Q) : W p l0 e R s m args below meth c H locs cells slots Q (F0 m pc ls (st.map (xc ad))) := by
  simp only [xs2] at h
  obtain ⟨hx, hb, hown, hts, hnm, hK, hcl⟩ := X
  split at h
  next ho =>
    cases h
    exact va_gets hx hb hE.2 hI.2.1 hown (hts _ (hT ho)) (fun _ z => z) hd (k.same hl (xok_push hk hE.1) hI)
  next => cases h

theorem xt_aastore {l l2 : xL} {st st2 : List xV} {A A2 : xA} {nL pc2 : Nat} {ops : List Nat} (X : xCx p s m args meth c D cl Ts own nm cc) (hd : decode cc pc = .ok (.aastore, xlen2 (.aastore))) (hT : xT Ts cl own nm (.aastore) ops) (hl : lv_has ls nL (xlm ad l)) (hk : xok (xlv A.2.2.2) l st) (hI : xI s D cl B ad A.2.2.2 H locs) (hE : xE s B ad A.2.2.2) (h : xs2 (.aastore) ops pc l st A = some (pc2, l2, st2, A2)) (hbud : cells + A2.2.1 ≤ R.cells + A.2.1 ∧ slots + A2.2.2.1 ≤ R.slots + A.2.2.1)
    (k : xCont p l0 e R s m args below meth c D cl B ad A A2 l2 st2 nL pc2 cells slots Q) : W p l0 e R s m args below meth c H locs cells slots Q (F0 m pc ls (st.map (xc ad))) := by
  simp only [xs2] at h
  obtain ⟨hx, hb, hown, hts, hnm, hK, hcl⟩ := X
  split at h
  next z j q r =>
    split at h
    next kd n f ci fs hq hz =>
      split at h
      next hg =>
        split at h
        next A1 ha =>
          cases h
          obtain ⟨hci, hkd⟩ := hg
          obtain ⟨-, hin, cell, h1, h2, h3, h4, h5, kk⟩ := xsto_ok hq ha hl (xok_tl (xok_tl (xok_tl hk))) (xok_hd hk) hI k
          obtain ⟨w, hc, hob, hhe⟩ := hT ci (xelem hci)
          obtain ⟨w2, g1, hlen, cv, q1, q2, q3, q4⟩ := hI.1.1 z _ hz
          cases Option.some.inj (hc.symm.trans g1)
          have hcls := (hK.1 ci w hc).2
          obtain ⟨kC, hkC, -⟩ := hcls.2
          have hra : ∃ E, xak kd = .object E ∧ va_RA s cell.cls (.object E) ∧ ∀ comp, s.vm.findClass E = some comp → s.vm.assignable cv.cls comp = true := by
            rcases hkd with rfl | ⟨rfl, h5⟩
            · refine ⟨"java/lang/Object", rfl, h3.resolve_left (by decide), fun comp hcomp => ?_⟩
              obtain ⟨c0, t0, f1, f2, f3⟩ := Cond.castable_spec (hts _ hob)
              cases Option.some.inj (hcls.1.symm.trans f1)
              cases Option.some.inj (hcomp.symm.trans f2)
              rw [q2]
              exact f3
            · refine ⟨"ViewFoundryModel$Held", rfl, h3.resolve_left (by decide), fun comp hcomp => ?_⟩
              rw [← hhe h5] at hcomp
              cases Option.some.inj (hcls.1.symm.trans hcomp)
              rw [q2]
              exact va_assign hcls
          obtain ⟨E, hE2, ⟨kA, comp, k1, k2, k3, k4⟩, hasg⟩ := hra
          obtain ⟨kE, hkE, -⟩ := Vm.findClass_spec k3
          exact W.aast (v := ad z) hx hb h1 h2.1 h4 k1 k2 rfl hkE ⟨fun y => hin (Or.inl y), by rw [h5]; exact Nat.not_le.mp fun y => hin (Or.inr y)⟩ q1 (fun y hy => by rw [q3] at hy; cases hy) (by rw [q2]; exact hkC) (hasg _ k3) rfl rfl hd kk
        next => cases h
      next => cases h
    next => cases h
  next j q r =>
    split at h
    next kd n f hq =>
      split at h
      next hkd =>
        split at h
        next A1 ha =>
          cases h
          obtain ⟨-, hin, cell, h1, h2, h3, h4, h5, kk⟩ := xsto_ok (v := .inl .null) hq ha hl (xok_tl (xok_tl (xok_tl hk))) trivial hI k
          have hra : ∃ E, xak kd = .object E := by
            rcases hkd with rfl | rfl
            · exact ⟨_, rfl⟩
            · exact ⟨_, rfl⟩
          obtain ⟨E, hE2⟩ := hra
          exact va_WaastN hx hb h1 (by rw [← hE2]; exact h2) h4 (by rw [h5]; exact hin) rfl rfl hd kk
        next => cases h
      next => cases h
    next => cases h
  next => cases h

end XT
end
