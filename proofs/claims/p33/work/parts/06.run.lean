set_option maxRecDepth 20000
section XR
/-- words that stay true while classes are linked and warmed -/
def xkp (w : Cond) : Bool := goodWord w || match w with
  | .castable .. => true
  | .arrayOver (.object _) => true
  | .fieldLinkNest .. => true
  | .methodLinkNest .. => true
  | .declares _ => true
  | _ => false
theorem xkp_ok {w : Cond} (h : xkp w = true) {a a2 : Array Value} {s U : State} (hW : s.WarmedH U.vm) (hb : w.before a s = true) : w.before a2 U = true := by
  unfold xkp at h
  rcases Bool.or_eq_true _ _ ▸ h with g | g
  · exact word_at hW (good_of_word g) hb
  · split at g
    next => exact (va_Nw.warmC hW (va_Nw.of rfl hb)).use rfl
    next => exact (va_AO.moved hW.alike (va_AO.of hb)).use
    next => exact (va_Nw.warmF hW (va_Nw.of rfl hb)).use rfl
    next => exact (va_Nw.warmM hW (va_Nw.of rfl hb)).use rfl
    next => exact (va_Nw.warmD hW (va_Nw.of rfl hb)).use rfl
    next => cases g
/-- a method: name, code, locals, what it returns, handlers -/
abbrev xM : Type := MethodName × ByteArray × Nat × Option FieldType × List (Nat × Nat × Nat × Nat)
/-- a program: the instructions of each method with their operands; the methods; where one throws a new exception; where it catches -/
abbrev xPr : Type := (Nat → Nat → Option (Instr × List Nat)) × (Nat → xM) × (Nat → Nat → Option String) × (Nat → Nat → String → Option (Nat × Nat × Nat))
/-- how a method ends: a value, or an exception's class -/
abbrev xR : Type := (Option xV) ⊕ String
def xcw (m : xM) : Cond := if m.2.2.2.2 = [] then .code m.1 m.2.1 m.2.2.1 m.2.2.2.1 else .codeWith m.1 m.2.1 m.2.2.1 m.2.2.2.1 m.2.2.2.2
def xpick (ci : Nat) : List Nat → Option Nat
  | a :: b :: r => if a = ci then some b else xpick ci r
  | _ => none
/-- whom an instruction calls, with what, and what is left on the stack -/
def xinv (i : Instr) (ops : List Nat) (st : List xV) (h : xH) : Option (Nat × List xV × List xV) :=
  match i with
  | .invokevirtual _ => match ops with
    | n :: tb => match st.drop n with
      | .inr q :: rest => match h q with
        | some (.inl (ci, _)) => match xpick ci tb with
          | some mid => some (mid, .inr q :: (st.take n).reverse, rest)
          | none => none
        | _ => none
      | _ => none
    | _ => none
  | .invokespecial _ => match ops with
    | [n, mid] => match st.drop n with
      | .inr q :: rest => some (mid, .inr q :: (st.take n).reverse, rest)
      | _ => none
    | _ => none
  | .invokestatic _ => match ops with
    | [n, mid] => if n ≤ st.length then some (mid, (st.take n).reverse, st.drop n) else none
    | _ => none
  | _ => none
/-- what an instruction returns -/
def xret (rt : Option FieldType) (i : Instr) (st : List xV) : Option (Option xV) :=
  match i with
  | .ireturn => match st with
    | [.inl (.int x)] => match rt with
      | some .int => some (some (.inl (.int x)))
      | some .boolean => if x = 0 ∨ x = 1 then some (some (.inl (.int x))) else none
      | _ => none
    | _ => none
  | .lreturn => match st with
    | [.inl (.long x)] => if rt = some .long then some (some (.inl (.long x))) else none
    | _ => none
  | .freturn => match st with
    | [.inl (.float x)] => if rt = some .float then some (some (.inl (.float x))) else none
    | _ => none
  | .dreturn => match st with
    | [.inl (.double x)] => if rt = some .double then some (some (.inl (.double x))) else none
    | _ => none
  | .areturn => match rt with
    | some (.object _) => match st with
      | [.inl .null] => some (some (.inl .null))
      | [.inr q] => some (some (.inr q))
      | _ => none
    | some (.array _) => match st with
      | [.inl .null] => some (some (.inl .null))
      | [.inr q] => some (some (.inr q))
      | _ => none
    | _ => none
  | .return_ => match st with
    | [] => match rt with
      | none => some none
      | some _ => none
    | _ => none
  | _ => none
/-- may a value be copied between arrays of a kind -/
def xcpv (h : xH) (cis : List Nat) (kd : Nat) (v : xV) : Bool := match v with
  | .inl .null => Nat.beq kd 4
  | .inl (.long _) => Nat.beq kd 1
  | .inr z => Nat.beq kd 4 && (match h z with
    | some (.inl (ci, _)) => cis.elem ci
    | _ => false)
  | _ => false
def xcpk (h : xH) (cis : List Nat) (kd : Nat) (f : Nat → xV) (sp n : Nat) : Bool := (List.range n).all (fun i => xcpv h cis kd (f (sp + i)))
/-- what an array holds behind System.arraycopy -/
def xcpy (f g : Nat → xV) (sp dp n : Nat) : Nat → xV := fun j => if dp ≤ j ∧ j < dp + n then f (sp + (j - dp)) else g j
/-- one instruction that stays in its method -/
def xs (nL : Nat) (i : Instr) (ops : List Nat) (pc : Nat) (l : xL) (st : List xV) (A : xA) : Option (Nat × xL × List xV × xA) :=
  match xs1 nL i pc l st with
  | some z => some (z.1, z.2.1, z.2.2, A)
  | none => match xs2 i ops pc l st A with
    | some z => some z
    | none => match i, ops, st with
      | .invokespecial _, [], .inr _ :: r => if (r.map xcat).sum ≤ 8 then some (pc + 3, l, r, A) else none
      | .invokestatic _, [81], .inl (.int y) :: .inl (.int x) :: r => if (r.map xcat).sum ≤ 8 then some (pc + 3, l, .inl (.int (if x < y then y else x)) :: r, A) else none
      | .invokestatic _, [82], .inl (.int y) :: .inl (.int x) :: r => if (r.map xcat).sum ≤ 8 then some (pc + 3, l, .inl (.int (if y < x then y else x)) :: r, A) else none
      | .invokestatic _, [83], .inl (.int x) :: r => if (r.map xcat).sum ≤ 8 then some (pc + 3, l, .inl (.int (if 0 ≤ x then x else 0 - x)) :: r, A) else none
      | .invokestatic _, 90 :: _ :: _ :: cis, .inl (.int n) :: .inl (.int dp) :: .inr q :: .inl (.int sp) :: .inr z :: r => match A.2.2.2 z, A.2.2.2 q with
        | some (.inr (kd, n0, f)), some (.inr (kd1, n1, g)) => if (kd = kd1 ∧ (kd = 1 ∨ kd = 4) ∧ q.1 ≠ 0) ∧ (¬ sp < 0 ∧ ¬ dp < 0 ∧ ¬ n < 0) ∧ (sp.toNatClampNeg + n.toNatClampNeg ≤ n0 ∧ dp.toNatClampNeg + n.toNatClampNeg ≤ n1) ∧ xcpk A.2.2.2 cis kd f sp.toNatClampNeg n.toNatClampNeg = true ∧ (r.map xcat).sum ≤ 8 then some (pc + 3, l, r, (A.1, A.2.1, A.2.2.1, xup A.2.2.2 q (.inr (kd, n1, xcpy f g sp.toNatClampNeg dp.toNatClampNeg n.toNatClampNeg)))) else none
        | _, _ => none
      | _, _, _ => none
def xar : Nat → List xV → xL
  | _, [] => []
  | i, v :: vs => (i, v) :: xar (if xcat v = 2 then i + 2 else i + 1) vs
def xrm (l : xL) (i : Nat) : xL := l.filter (fun q => !(q.1 == i) && !(q.1 + 1 == i && xcat q.2 == 2))
/-- THE SMALL MACHINE: fuel, frames left, method, place, locals, stack, objects; ct: methods whose end is known -/
def xrun (P : xPr) (ct : Nat → Nat → List xV → xA → Option (xR × xA)) : Nat → Nat → Nat → Nat → xL → List xV → xA → Option (xR × xA)
  | 0, _, _, _, _, _, _ => none
  | n + 1, d, mid, pc, l, st, A =>
    match P.1 mid pc with
    | none => none
    | some (i, ops) =>
      match xret (P.2.1 mid).2.2.2.1 i st with
      | some v => some (.inl v, A)
      | none =>
        match P.2.2.1 mid pc with
        | some E => if 8 ≤ d ∧ (st.map xcat).sum ≤ 8 then some (.inr E, (A.1, A.2.1 + 1, A.2.2.1 + 6, A.2.2.2)) else none
        | none =>
          match xs (P.2.1 mid).2.2.1 i ops pc l st A with
          | some z => xrun P ct n d mid z.1 z.2.1 z.2.2.1 z.2.2.2
          | none =>
            match xinv i ops st A.2.2.2, d with
            | some (mid2, args, rest), d2 + 1 =>
              if (args.map xcat).sum ≤ (P.2.1 mid2).2.2.1 ∧ (rest.map xcat).sum ≤ 8 then
                match (match ct d2 mid2 args A with
                  | some z => some z
                  | none => xrun P ct n d2 mid2 0 (xar 0 args) [] A) with
                | some (.inl v, A2) => xrun P ct n (d2 + 1) mid (pc + 3) l (v.toList ++ rest) A2
                | some (.inr E, A2) => match P.2.2.2 mid pc E with
                  | some (hpc, ln, k) => xrun P ct n (d2 + 1) mid (hpc + ln) (xrm l k) [] A2
                  | none => if (P.2.1 mid).2.2.2.2 = [] then some (.inr E, A2) else none
                | none => none
              else none
            | _, _ => none
end XR
