set_option maxRecDepth 20000
section YS
def yint : xV → Bool
  | .inl (.int _) => true
  | .inl (.ref _) => true
  | _ => false
def yref : xV → Bool
  | .inl .null => true
  | .inr _ => true
  | _ => false
/-- plain instructions that are taken as the small machine has them -/
def yw : Instr → Bool
  | .aconst_null => true
  | .iconst _ => true
  | .bipush _ => true
  | .sipush _ => true
  | .fconst _ => true
  | .dconst _ => true
  | .iadd => true
  | .isub => true
  | .imul => true
  | .idiv => true
  | .irem => true
  | .lcmp => true
  | .i2l => true
  | .dup => true
  | .pop => true
  | .dup_x1 => true
  | .dup2 => true
  | .fstore_n _ => true
  | .fstore _ => true
  | .dstore_n _ => true
  | .dstore _ => true
  | .astore_n _ => true
  | .astore _ => true
  | .iinc _ _ => true
  | .goto _ => true
  | _ => false
def yjb (b : Bool) (pc : Nat) (off : Int) (l : xL) (st : List xV) (T : yT) : Option (Nat × xL × List xV × yT) := if 0 ≤ (pc : Int) + off then (if b = true then some (((pc : Int) + off).toNat, l, st, T) else some (pc + 3, l, st, T)) else none
/-- is it a place of an array of this kind -/
def yin (kd : Nat) (i : Int32) (n : Nat) (want : Nat) : Bool := decide ((kd = want ∨ want = 0 ∧ kd = 9) ∧ ¬ (i < 0 ∨ n ≤ i.toNatClampNeg))
def yinS (kd : Nat) (i : Int32) (n : Nat) (want : Nat) : Bool := decide (kd = want ∧ ¬ (i < 0 ∨ n ≤ i.toNatClampNeg))
/-- may a field of this kind hold it -/
def yfit (t : Nat) (v : xV) : Bool := match v with
  | .inl (.ref k) => Nat.beq t 0 || (Nat.beq t 4 && (Nat.ble 10 k && Nat.blt k 20))
  | v => xfit t v
noncomputable def yal (want : Nat) (pc : Nat) (l : xL) (st : List xV) (T : yT) : Option (Nat × xL × List xV × yT) := match st with
  | .inl (.int j) :: .inr q :: r => match ylook T.2.2.2 q with
    | some (.inr (kd, n, d, us)) => if yin kd j n want = true then some (pc + 1, l, yau d us j.toNatClampNeg :: r, T) else none
    | _ => none
  | _ => none
def yish : xV → Bool
  | .inl (.retAddr _) => true
  | _ => false
/-- one instruction with unknown numbers in its frame and its objects, none of them looked into -/
noncomputable def ys (nL : Nat) (i : Instr) (ops : List Nat) (pc : Nat) (l : xL) (st : List xV) (T : yT) : Option (Nat × xL × List xV × yT) :=
  match i with
  | .iload_n n => match xl l n.val with
    | some v => if yint v = true then some (pc + 1, l, v :: st, T) else none
    | none => none
  | .iload n => match xl l n with
    | some v => if yint v = true then some (pc + 2, l, v :: st, T) else none
    | none => none
  | .aload_n n => match xl l n.val with
    | some v => if yref v = true then some (pc + 1, l, v :: st, T) else none
    | none => none
  | .aload n => match xl l n with
    | some v => if yref v = true then some (pc + 2, l, v :: st, T) else none
    | none => none
  | .istore_n n => match st with
    | v :: r => if yint v = true ∧ n.val < nL then some (pc + 1, xst1 l n.val v, r, T) else none
    | _ => none
  | .istore n => match st with
    | v :: r => if yint v = true ∧ n < nL then some (pc + 2, xst1 l n v, r, T) else none
    | _ => none
  | .i2c => match st with
    | .inl (.ref k) :: r => if k < 10 then some (pc + 1, l, .inl (.ref (10 + k)) :: r, T) else none
    | .inl (.int x) :: r => some (pc + 1, l, .inl (.int (x.toUInt32 % 65536).toInt32) :: r, T)
    | _ => none
  | .iand => match st with
    | .inl (.int y) :: .inl (.ref k) :: r => if y = 31 ∧ k < 10 then some (pc + 1, l, .inl (.ref (20 + k)) :: r, T) else none
    | .inl (.int y) :: .inl (.int x) :: r => some (pc + 1, l, .inl (.int (x &&& y)) :: r, T)
    | _ => none
  | .ifCond o off => match st with
    | .inl (.int x) :: r => yjb (xcd o x 0) pc off l r T
    | _ => none
  | .if_icmp o off => match st with
    | .inl (.int y) :: .inl (.int x) :: r => yjb (xcd o x y) pc off l r T
    | _ => none
  | .if_acmp .eq off => match st with
    | .inr q :: .inr z :: r => yjb (decide (z = q)) pc off l r T
    | _ => none
  | .if_acmp .ne off => match st with
    | .inr q :: .inr z :: r => yjb (decide (¬ z = q)) pc off l r T
    | _ => none
  | .tableswitch dflt lo hi offs => match st with
    | .inl (.int x) :: r => if x.toInt < lo ∨ hi < x.toInt then (if 0 ≤ (pc : Int) + dflt then some (((pc : Int) + dflt).toNat, l, r, T) else none) else (match offs[(x.toInt - lo).toNat]? with
      | some off => if 0 ≤ (pc : Int) + off then some (((pc : Int) + off).toNat, l, r, T) else none
      | none => none)
    | _ => none
  | .getfield _ => match st with
    | .inr q :: r => match ylook T.2.2.2 q with
      | some (.inl (ci, fs)) => match ops with
        | kx :: cis => if cis.elem ci = true then (match yg fs kx with
          | some v => if yish v = true then none else some (pc + 3, l, v :: r, T)
          | none => none) else none
        | _ => none
      | _ => none
    | _ => none
  | .putfield _ => match st with
    | v :: .inr (1, k) :: r => match ylook T.2.2.2 (1, k) with
      | some (.inl (ci, fs)) => match ops with
        | kx :: t :: cis => if cis.elem ci = true ∧ yfit t v = true then some (pc + 3, l, r, (T.1, T.2.1, T.2.2.1, yput T.2.2.2 k (.inl (ci, yp fs kx v)))) else none
        | _ => none
      | _ => none
    | _ => none
  | .iaload => yal 0 pc l st T
  | .laload => yal 1 pc l st T
  | .caload => yal 2 pc l st T
  | .daload => yal 3 pc l st T
  | .aaload => match st with
    | .inl (.int j) :: .inr q :: r => match ylook T.2.2.2 q with
      | some (.inr (kd, n, d, us)) => if yin kd j n (if kd = 5 then 5 else 4) = true then some (pc + 1, l, yau d us j.toNatClampNeg :: r, T) else none
      | _ => none
    | _ => none
  | .iastore => match st with
    | v :: .inl (.int j) :: .inr (1, k) :: r => match ylook T.2.2.2 (1, k) with
      | some (.inr (kd, n, d, us)) => if yint v = true ∧ yinS kd j n 0 = true then some (pc + 1, l, r, (T.1, T.2.1, T.2.2.1, yput T.2.2.2 k (.inr (kd, n, d, (j.toNatClampNeg, v) :: us)))) else none
      | _ => none
    | _ => none
  | .lastore => match st with
    | .inl (.long x) :: .inl (.int j) :: .inr (1, k) :: r => match ylook T.2.2.2 (1, k) with
      | some (.inr (kd, n, d, us)) => if yinS kd j n 1 = true then some (pc + 1, l, r, (T.1, T.2.1, T.2.2.1, yput T.2.2.2 k (.inr (kd, n, d, (j.toNatClampNeg, .inl (.long x)) :: us)))) else none
      | _ => none
    | _ => none
  | .castore => match st with
    | v :: .inl (.int j) :: .inr (1, k) :: r => match ylook T.2.2.2 (1, k) with
      | some (.inr (kd, n, d, us)) => if yfit 4 v = true ∧ yinS kd j n 2 = true then some (pc + 1, l, r, (T.1, T.2.1, T.2.2.1, yput T.2.2.2 k (.inr (kd, n, d, (j.toNatClampNeg, v) :: us)))) else none
      | _ => none
    | _ => none
  | .aastore => match st with
    | .inr z :: .inl (.int j) :: .inr (1, k) :: r => match ylook T.2.2.2 (1, k), ylook T.2.2.2 z with
      | some (.inr (kd, n, d, us)), some (.inl (ci, _)) => if (ops.elem ci = true ∧ (kd = 4 ∨ kd = 5 ∧ ops[0]? = some ci)) ∧ yinS kd j n kd = true then some (pc + 1, l, r, (T.1, T.2.1, T.2.2.1, yput T.2.2.2 k (.inr (kd, n, d, (j.toNatClampNeg, .inr z) :: us)))) else none
      | _, _ => none
    | _ => none
  | .arraylength => match st with
    | .inr q :: r => match ylook T.2.2.2 q with
      | some (.inr (_, n, _)) => some (pc + 1, l, .inl (.int (Int32.ofNat n)) :: r, T)
      | _ => none
    | _ => none
  | .newarray _ => match st, ops with
    | .inl (.int n) :: r, [kd] => if (¬ n < 0 ∧ n.toNatClampNeg ≤ 67108864) ∧ T.1 < yMax then some (pc + 2, l, .inr (1, T.1) :: r, (T.1 + 1, T.2.1 + 1, T.2.2.1 + n.toNatClampNeg, yput T.2.2.2 T.1 (.inr (kd, n.toNatClampNeg, .inl (defaultValue (xak kd)), [])))) else none
    | _, _ => none
  | .anewarray _ => match st, ops with
    | .inl (.int n) :: r, [kd] => if (¬ n < 0 ∧ n.toNatClampNeg ≤ 67108864) ∧ T.1 < yMax then some (pc + 3, l, .inr (1, T.1) :: r, (T.1 + 1, T.2.1 + 1, T.2.2.1 + n.toNatClampNeg, yput T.2.2.2 T.1 (.inr (kd, n.toNatClampNeg, .inl .null, [])))) else none
    | _, _ => none
  | .new _ => match ops with
    | ci :: tc => if T.1 < yMax then some (pc + 3, l, .inr (1, T.1) :: st, (T.1 + 1, T.2.1 + 1, T.2.2.1 + tc.length, yput T.2.2.2 T.1 (.inl (ci, tc.map xd0)))) else none
    | _ => none
  | .checkcast _ => match st with
    | .inr q :: r => match ylook T.2.2.2 q with
      | some (.inl (ci, _)) => if ops.elem ci = true then some (pc + 3, l, .inr q :: r, T) else none
      | _ => none
    | _ => none
  | .getstatic _ => if ops = [77] then some (pc + 3, l, .inr (0, 1) :: st, T) else none
  | .invokespecial _ => match ops, st with
    | [], .inr _ :: r => if (r.map xcat).sum ≤ 8 then some (pc + 3, l, r, T) else none
    | _, _ => none
  | .invokestatic _ => match ops, st with
    | [81], .inl (.int y) :: .inl (.int x) :: r => if (r.map xcat).sum ≤ 8 then some (pc + 3, l, .inl (.int (if x < y then y else x)) :: r, T) else none
    | [82], .inl (.int y) :: .inl (.int x) :: r => if (r.map xcat).sum ≤ 8 then some (pc + 3, l, .inl (.int (if y < x then y else x)) :: r, T) else none
    | _, _ => none
  | i => if yw i = true then (match xs1 nL i pc l st with
    | some z => some (z.1, z.2.1, z.2.2, T)
    | none => none) else none
/-- what an instruction returns -/
def yret (rt : Option FieldType) (i : Instr) (st : List xV) : Option (Option xV) :=
  match i with
  | .ireturn => match st with
    | [.inl (.ref k)] => match rt with
      | some .int => some (some (.inl (.ref k)))
      | _ => none
    | [.inl (.int x)] => match rt with
      | some .int => some (some (.inl (.int x)))
      | some .boolean => if x = 0 ∨ x = 1 then some (some (.inl (.int x))) else none
      | _ => none
    | _ => none
  | i => xret rt i st
/-- what is known of an unknown number -/
def yiv0 (k : Nat) : List (Nat × Nat) := match Nat.blt k 10 with
  | true => [(0, 4294967296)]
  | false => match Nat.blt k 20 with
    | true => [(2147483648, 2147549184)]
    | false => match Nat.blt k 30 with
      | true => [(2147483648, 2147483680)]
      | false => [(0, 4294967296)]
def yiv : List (Nat × List (Nat × Nat)) → Nat → List (Nat × Nat)
  | [], k => yiv0 k
  | e :: r, k => match Nat.beq e.1 k with
    | true => e.2
    | false => yiv r k
def yfa : List (Nat × Nat × Bool) → Nat → Nat → Option Bool
  | [], _, _ => none
  | e :: r, a, b => match Nat.beq e.1 a, Nat.beq e.2.1 b with
    | true, true => some e.2.2
    | _, _ => yfa r a b
def yinD (n : Nat) (d : List (Nat × Nat)) : Prop := ∃ p ∈ d, p.1 ≤ n ∧ n < p.2
def yok (g : Nat → Int32) (E : yE) : Prop := (∀ k, yinD (yn (g k)) (yiv E.1 k)) ∧ ∀ a b v, yfa E.2 a b = some v → decide (yn (g a) ≤ yn (g b)) = v
/-- what lies below a number -/
def ycl (c : Nat) : List (Nat × Nat) → List (Nat × Nat)
  | [] => []
  | p :: r => match Nat.blt p.1 (Nat.min p.2 c) with
    | true => (p.1, Nat.min p.2 c) :: ycl c r
    | false => ycl c r
/-- what lies from a number on -/
def ycr (c : Nat) : List (Nat × Nat) → List (Nat × Nat)
  | [] => []
  | p :: r => match Nat.blt (Nat.max p.1 c) p.2 with
    | true => (Nat.max p.1 c, p.2) :: ycr c r
    | false => ycr c r
/-- a question on a number, by what it may be where the answer is yes and where it is no -/
def yp2 (E : yE) (k : Nat) (dt df : List (Nat × Nat)) : List (yE × Bool) := match dt, df with
  | [], [] => []
  | [], _ :: _ => [(E, false)]
  | _ :: _, [] => [(E, true)]
  | _ :: _, _ :: _ => [(((k, dt) :: E.1, E.2), true), (((k, df) :: E.1, E.2), false)]
def yc1 (o : Jvm.ClassFile.Cond) (E : yE) (k c : Nat) : List (yE × Bool) := match o with
  | .lt => yp2 E k (ycl c (yiv E.1 k)) (ycr c (yiv E.1 k))
  | .ge => yp2 E k (ycr c (yiv E.1 k)) (ycl c (yiv E.1 k))
  | .le => yp2 E k (ycl (c + 1) (yiv E.1 k)) (ycr (c + 1) (yiv E.1 k))
  | .gt => yp2 E k (ycr (c + 1) (yiv E.1 k)) (ycl (c + 1) (yiv E.1 k))
  | .eq => yp2 E k (ycl (c + 1) (ycr c (yiv E.1 k))) (ycl c (yiv E.1 k) ++ ycr (c + 1) (yiv E.1 k))
  | .ne => yp2 E k (ycl c (yiv E.1 k) ++ ycr (c + 1) (yiv E.1 k)) (ycl (c + 1) (ycr c (yiv E.1 k)))
def ymx : List (Nat × Nat) → Nat
  | [] => 0
  | p :: r => Nat.max p.2 (ymx r)
def ymn : List (Nat × Nat) → Nat
  | [] => 4294967296
  | p :: r => Nat.min p.1 (ymn r)
/-- the first is at most the second, or not; n: asked the other way round -/
def yc2 (E : yE) (a b : Nat) (n : Bool) : List (yE × Bool) := match yfa E.2 a b with
  | some v => [(E, v != n)]
  | none => [(((a, ycl (ymx (yiv E.1 b)) (yiv E.1 a)) :: (b, ycr (ymn (yiv E.1 a)) (yiv E.1 b)) :: E.1, (a, b, true) :: E.2), true != n),
      (((a, ycr (ymn (yiv E.1 b) + 1) (yiv E.1 a)) :: E.1, (a, b, false) :: E.2), false != n)]
def yflip : Jvm.ClassFile.Cond → Jvm.ClassFile.Cond
  | .lt => .gt
  | .gt => .lt
  | .le => .ge
  | .ge => .le
  | .eq => .eq
  | .ne => .ne
/-- an unknown number is compared -/
def ycmp (o : Jvm.ClassFile.Cond) (E : yE) (x y : xV) : Option (List (yE × Bool)) := match x, y with
  | .inl (.ref a), .inl (.int c) => some (yc1 o E a (yn c))
  | .inl (.int c), .inl (.ref a) => some (yc1 (yflip o) E a (yn c))
  | .inl (.ref a), .inl (.ref b) => match o with
    | .le => some (yc2 E a b false)
    | .gt => some (yc2 E a b true)
    | .ge => some (yc2 E b a false)
    | .lt => some (yc2 E b a true)
    | _ => none
  | _, _ => none
/-- a branch on unknown numbers: where to, what is left, what is known then -/
def ybr (i : Instr) (E : yE) (pc : Nat) (st : List xV) : Option (List xV × Nat × List (yE × Bool)) := match i with
  | .ifCond o off => match st with
    | x :: r => if 0 ≤ (pc : Int) + off then (match ycmp o E x (.inl (.int 0)) with
      | some bs => some (r, ((pc : Int) + off).toNat, bs)
      | none => none) else none
    | _ => none
  | .if_icmp o off => match st with
    | y :: x :: r => if 0 ≤ (pc : Int) + off then (match ycmp o E x y with
      | some bs => some (r, ((pc : Int) + off).toNat, bs)
      | none => none) else none
    | _ => none
  | _ => none
def yfixl (E : yE) (k : Nat) (lo : Nat) : Nat → List (yE × Int32)
  | 0 => []
  | n + 1 => (((k, [(lo + n, lo + n + 1)]) :: E.1, E.2), yi (lo + n)) :: yfixl E k lo n
def yfixd (E : yE) (k : Nat) : List (Nat × Nat) → List (yE × Int32)
  | [] => []
  | p :: r => yfixl E k p.1 (p.2 - p.1) ++ yfixd E k r
def ysz : List (Nat × Nat) → Nat
  | [] => 0
  | p :: r => (p.2 - p.1) + ysz r
/-- the first unknown number of the stack is told apart -/
def yfix (E : yE) : List xV → Option (List (yE × List xV))
  | .inl (.ref k) :: r => if Nat.ble (ysz (yiv E.1 k)) 1024 = true then some ((yfixd E k (yiv E.1 k)).map (fun z => (z.1, .inl (.int z.2) :: r))) else none
  | v :: r => match yfix E r with
    | some zs => some (zs.map (fun z => (z.1, v :: z.2)))
    | none => none
  | [] => none
def ybind {α β : Type} (f : α → Option (List β)) : List α → Option (List β)
  | [] => some []
  | a :: r => match f a with
    | some x => match ybind f r with
      | some y => some (x ++ y)
      | none => none
    | none => none
/-- the objects as the small machine has them -/
noncomputable def yhx (T : yT) : xH := fun q => match ylook T.2.2.2 q with
  | some (.inl w) => some (.inl w)
  | _ => none
/-- ends of runs put together: what is the same in all of them is kept, the rest is let go -/
def yveq : xV → xV → Bool
  | .inl (.int a), .inl (.int b) => decide (a = b)
  | .inl (.long a), .inl (.long b) => decide (a = b)
  | .inl .null, .inl .null => true
  | .inl (.ref a), .inl (.ref b) => Nat.beq a b
  | .inr a, .inr b => Nat.beq a.1 b.1 && Nat.beq a.2 b.2
  | _, _ => false
def yveql : List xV → List xV → Bool
  | [], [] => true
  | a :: r, b :: t => yveq a b && yveql r t
  | _, _ => false
def yueql : List (Nat × xV) → List (Nat × xV) → Bool
  | [], [] => true
  | a :: r, b :: t => Nat.beq a.1 b.1 && (yveq a.2 b.2 && yueql r t)
  | _, _ => false
def yoeq : yO → yO → Bool
  | .inl a, .inl b => Nat.beq a.1 b.1 && yveql a.2 b.2
  | .inr a, .inr b => Nat.beq a.1 b.1 && (Nat.beq a.2.1 b.2.1 && (yveq a.2.2.1 b.2.2.1 && yueql a.2.2.2 b.2.2.2))
  | _, _ => false
def ymb : List yO → List yO → List yO
  | a :: r, b :: t => match yoeq a b with
    | true => a :: ymb r t
    | false => []
  | _, _ => []
def ymf : List xV → List xV → List xV
  | a :: r, b :: t => (match yveq a b with
    | true => a
    | false => yhole) :: ymf r t
  | _, _ => []
def yom : yO → yO → Option yO
  | .inl a, .inl b => match Nat.beq a.1 b.1 && Nat.beq a.2.length b.2.length with
    | true => some (.inl (a.1, ymf a.2 b.2))
    | false => none
  | .inr a, .inr b => match yoeq (.inr a) (.inr b) with
    | true => some (.inr a)
    | false => none
  | _, _ => none
def ymo : List (Option yO) → List (Option yO) → List (Option yO)
  | some a :: r, some b :: t => yom a b :: ymo r t
  | _ :: r, _ :: t => none :: ymo r t
  | _, _ => []
def ymr : List (List (Option yO)) → List (List (Option yO)) → List (List (Option yO))
  | a :: r, b :: t => ymo a b :: ymr r t
  | _, _ => []
def ymeet (h1 h2 : yH) : yH := (ymb h1.1 h2.1, ymr h1.2 h2.2)
def yreq : xR → xR → Bool
  | .inl none, .inl none => true
  | .inl (some a), .inl (some b) => yveq a b
  | _, _ => false
/-- a group of ends: what a number may be in them, what they answer, what they have in common -/
abbrev yGr : Type := List (Nat × Nat) × xR × yT
def yins (x : yGr) : List yGr → List yGr
  | [] => [x]
  | y :: r => match yreq x.2.1 y.2.1 && Nat.beq x.2.2.1 y.2.2.1 with
    | true => (x.1 ++ y.1, x.2.1, (x.2.2.1, Nat.max x.2.2.2.1 y.2.2.2.1, Nat.max x.2.2.2.2.1 y.2.2.2.2.1, ymeet x.2.2.2.2.2 y.2.2.2.2.2)) :: r
    | false => y :: yins x r
def ygrp (k : Nat) : List (yE × xR × yT) → List yGr
  | [] => []
  | o :: r => yins (yiv o.1.1 k, o.2.1, o.2.2) (ygrp k r)
def yarg : List xV → Option Nat
  | [] => none
  | .inl (.ref k) :: _ => some k
  | _ :: r => yarg r
/-- 1: what is known of the first unknown number of the call is kept; 2: what was known ahead of the call -/
def yjoin (c : Nat) (E : yE) (args : List xV) (outs : List (yE × xR × yT)) : List (yE × xR × yT) := match outs with
  | [] => []
  | [o] => [o]
  | os => match c with
    | 0 => os
    | 1 => match yarg args with
      | some k => (ygrp k os).map (fun G => (((k, G.1) :: E.1, E.2), G.2.1, G.2.2))
      | none => os
    | _ => (ygrp 0 os).map (fun G => (E, G.2.1, G.2.2))
/-- THE SYMBOLIC MACHINE -/
noncomputable def yrun (P : xPr) (J : Nat → Nat) : Nat → Nat → Nat → Nat → xL → List xV → yT → yE → Option (List (yE × xR × yT))
  | 0, _, _, _, _, _, _, _ => none
  | n + 1, d, mid, pc, l, st, T, E =>
    match P.1 mid pc with
    | none => none
    | some (i, ops) =>
      match yret (P.2.1 mid).2.2.2.1 i st with
      | some v => some [(E, .inl v, T)]
      | none =>
        match P.2.2.1 mid pc with
        | some X => match i with
          | .new _ => if 8 ≤ d ∧ (st.map xcat).sum ≤ 8 then some [(E, .inr X, (T.1, T.2.1 + 1, T.2.2.1 + 6, T.2.2.2))] else none
          | _ => none
        | none =>
          match ys (P.2.1 mid).2.2.1 i ops pc l st T with
          | some z => yrun P J n d mid z.1 z.2.1 z.2.2.1 z.2.2.2 E
          | none =>
            match xinv i ops st (yhx T), d with
            | some (mid2, args, rest), d2 + 1 =>
              if (args.map xcat).sum ≤ (P.2.1 mid2).2.2.1 ∧ (rest.map xcat).sum ≤ 8 then
                match yrun P J n d2 mid2 0 (xar 0 args) [] T E with
                | none => none
                | some outs => ybind (fun o => match o.2.1 with
                  | .inl v => yrun P J n (d2 + 1) mid (pc + 3) l (v.toList ++ rest) o.2.2 o.1
                  | .inr X => match P.2.2.2 mid pc X with
                    | some (hpc, ln, k) => yrun P J n (d2 + 1) mid (hpc + ln) (xrm l k) [] o.2.2 o.1
                    | none => if (P.2.1 mid).2.2.2.2 = [] then some [(o.1, .inr X, o.2.2)] else none) (yjoin (J mid2) E args outs)
              else none
            | _, _ =>
              match ybr i E pc st with
              | some z => ybind (fun b => yrun P J n d mid (match b.2 with | true => z.2.1 | false => pc + 3) l z.1 T b.1) z.2.2
              | none => match yfix E st with
                | some fs => ybind (fun z => yrun P J n d mid pc l z.2 T z.1) fs
                | none => none
end YS
