set_option maxRecDepth 20000
section ZX1
/-- from here a frame's run comes to an end of which Q holds; the names of what it makes are chosen as they are wanted -/
def zXc (P : xPr) (ct : zCt) (d mid pc : Nat) (l : xL) (st : List xV) (c s : Nat) (h : xH) (Q : xR → Nat → Nat → xH → Prop) : Prop :=
  ∃ (us : List (Nat × Nat)) (n : Nat) (r : xR) (c1 s1 : Nat) (h1 : xH), (∀ rest : List (Nat × Nat), xrun P ct n d mid pc l st (us ++ rest, c, s, h) = some (r, (rest, c1, s1, h1))) ∧ Q r c1 s1 h1
variable {P : xPr} {ct : zCt} {d mid pc : Nat} {l : xL} {st : List xV} {c s : Nat} {h : xH} {Q : xR → Nat → Nat → xH → Prop} {i : Instr} {ops : List Nat}
theorem zX.weak {Q2 : xR → Nat → Nat → xH → Prop} (hx : zXc P ct d mid pc l st c s h Q) (k : ∀ r c1 s1 h1, Q r c1 s1 h1 → Q2 r c1 s1 h1) : zXc P ct d mid pc l st c s h Q2 := by
  obtain ⟨us, n, r, c1, s1, h1, e, q⟩ := hx
  exact ⟨us, n, r, c1, s1, h1, e, k _ _ _ _ q⟩
theorem zX.ret {v : Option xV} (hc : P.1 mid pc = some (i, ops)) (hv : xret (P.2.1 mid).2.2.2.1 i st = some v) (q : Q (.inl v) c s h) : zXc P ct d mid pc l st c s h Q := by
  refine ⟨[], 1, .inl v, c, s, h, fun rest => ?_, q⟩
  unfold xrun
  rw [hc]
  dsimp only
  rw [hv]
  rfl
theorem zX.thr {E : String} {idx : Nat} (hc : P.1 mid pc = some (.new idx, ops)) (ht : P.2.2.1 mid pc = some E) (hd : 8 ≤ d) (hs : (st.map xcat).sum ≤ 8) (q : Q (.inr E) (c + 1) (s + 6) h) : zXc P ct d mid pc l st c s h Q := by
  refine ⟨[], 1, .inr E, c + 1, s + 6, h, fun rest => ?_, q⟩
  unfold xrun
  rw [hc]
  show (match P.2.2.1 mid pc with
    | some E => if 8 ≤ d ∧ (st.map xcat).sum ≤ 8 then some ((Sum.inr E : xR), ((rest, c + 1, s + 6, h) : xA)) else none
    | none => _) = _
  rw [ht]
  exact if_pos ⟨hd, hs⟩
/-- one instruction that stays in its method; q: the names that it gives -/
theorem zX.step {pc2 c2 s2 : Nat} {l2 : xL} {st2 : List xV} {h2 : xH} (q : List (Nat × Nat)) (hc : zC P mid pc i ops) (hr : xret (P.2.1 mid).2.2.2.1 i st = none) (hs : ∀ rest : List (Nat × Nat), xs (P.2.1 mid).2.2.1 i ops pc l st (q ++ rest, c, s, h) = some (pc2, l2, st2, (rest, c2, s2, h2))) (k : zXc P ct d mid pc2 l2 st2 c2 s2 h2 Q) : zXc P ct d mid pc l st c s h Q := by
  obtain ⟨us, n, r, c1, s1, h1, e, hq⟩ := k
  refine ⟨q ++ us, n + 1, r, c1, s1, h1, fun rest => ?_, hq⟩
  unfold xrun
  rw [hc.1]
  dsimp only
  rw [hr, hc.2]
  dsimp only
  rw [List.append_assoc, hs]
  exact e rest
theorem zX.s1 {pc2 : Nat} {l2 : xL} {st2 : List xV} (hc : zC P mid pc i ops) (hs : xs1 (P.2.1 mid).2.2.1 i pc l st = some (pc2, l2, st2)) (k : zXc P ct d mid pc2 l2 st2 c s h Q) : zXc P ct d mid pc l st c s h Q :=
  zX.step [] hc (xs1_noret hs _) (fun _ => xs_of1 hs) k
theorem zX.s2 {pc2 c2 s2 : Nat} {l2 : xL} {st2 : List xV} {h2 : xH} (q : List (Nat × Nat)) (hc : zC P mid pc i ops) (hr : ∀ rt : Option FieldType, xret rt i st = none) (h1 : xs1 (P.2.1 mid).2.2.1 i pc l st = none) (hs : ∀ rest : List (Nat × Nat), xs2 i ops pc l st (q ++ rest, c, s, h) = some (pc2, l2, st2, (rest, c2, s2, h2))) (k : zXc P ct d mid pc2 l2 st2 c2 s2 h2 Q) : zXc P ct d mid pc l st c s h Q :=
  zX.step q hc (hr _) (fun rest => xs_of2 h1 (hs rest)) k
theorem zX.sn {pc2 : Nat} {l2 : xL} {st2 : List xV} (n : Nat) (hs : zsn P mid n pc l st = some (pc2, l2, st2)) (k : zXc P ct d mid pc2 l2 st2 c s h Q) : zXc P ct d mid pc l st c s h Q := by
  induction n generalizing pc l st with
  | zero =>
    cases hs
    exact k
  | succ n ih =>
    unfold zsn at hs
    split at hs
    next => cases hs
    next ht =>
      split at hs
      next i ops hc =>
        split at hs
        next z hz => exact zX.s1 ⟨hc, ht⟩ hz (ih hs)
        next => cases hs
      next => cases hs
/-- behind a call: what is left of the caller -/
def zXK (P : xPr) (ct : zCt) (d mid pc : Nat) (l : xL) (rest : List xV) (Q : xR → Nat → Nat → xH → Prop) : xR → Nat → Nat → xH → Prop := fun r c s h => match r with
  | .inl v => zXc P ct d mid (pc + 3) l (v.toList ++ rest) c s h Q
  | .inr E => match P.2.2.2 mid pc E with
    | some z => zXc P ct d mid (z.1 + z.2.1) (xrm l z.2.2) [] c s h Q
    | none => (P.2.1 mid).2.2.2.2 = [] ∧ Q (.inr E) c s h
theorem zXrun {n k : Nat} {rest : List (Nat × Nat)} {z : xR × xA} (hx : xrun P ct n d mid pc l st (rest, c, s, h) = some z) : xrun P ct (n + k) d mid pc l st (rest, c, s, h) = some z := zrun_mono hx
theorem zX.join {mid2 : Nat} {as rest : List xV} {us : List (Nat × Nat)} {n : Nat} {r : xR} {c1 s1 : Nat} {h1 : xH} (hc : zC P mid pc i ops) (hi : ∀ A : xA, A.2.2.2 = h → xinv i ops st A.2.2.2 = some (mid2, as, rest)) (hw : (as.map xcat).sum ≤ (P.2.1 mid2).2.2.1 ∧ (rest.map xcat).sum ≤ 8)
    (e : ∀ N : List (Nat × Nat), ∀ m, ct d mid2 as (us ++ N, c, s, h) = some (r, (N, c1, s1, h1)) ∨ ct d mid2 as (us ++ N, c, s, h) = none ∧ xrun P ct (n + m) d mid2 0 (xar 0 as) [] (us ++ N, c, s, h) = some (r, (N, c1, s1, h1))) (k : zXK P ct (d + 1) mid pc l rest Q r c1 s1 h1) : zXc P ct (d + 1) mid pc l st c s h Q := by
  have head : ∀ (N : List (Nat × Nat)) (m : Nat), xrun P ct (n + m + 1) (d + 1) mid pc l st (us ++ N, c, s, h) = (match (r, ((N, c1, s1, h1) : xA)) with
      | (.inl v, A2) => xrun P ct (n + m) (d + 1) mid (pc + 3) l (v.toList ++ rest) A2
      | (.inr E, A2) => match P.2.2.2 mid pc E with
        | some (hpc, ln, k) => xrun P ct (n + m) (d + 1) mid (hpc + ln) (xrm l k) [] A2
        | none => if (P.2.1 mid).2.2.2.2 = [] then some (.inr E, A2) else none) := by
    intro N m
    have hi2 := hi (us ++ N, c, s, h) rfl
    rw [xrun, hc.1]
    dsimp only
    rw [xinv_noret hi2, hc.2]
    dsimp only
    rw [xinv_noxs hi2, hi2]
    dsimp only
    rw [if_pos hw]
    rcases e N m with e1 | ⟨e1, e2⟩
    · rw [e1]
      cases r <;> rfl
    · rw [e1]
      dsimp only
      rw [e2]
      cases r <;> rfl
  unfold zXK at k
  cases r with
  | inl v =>
    obtain ⟨us2, m, r2, c2, s2, h2, e2, hq⟩ := k
    refine ⟨us ++ us2, n + m + 1, r2, c2, s2, h2, fun N => ?_, hq⟩
    rw [List.append_assoc, head (us2 ++ N) m]
    show xrun P ct (n + m) (d + 1) mid (pc + 3) l (v.toList ++ rest) (us2 ++ N, c1, s1, h1) = _
    rw [Nat.add_comm n m]
    exact zrun_mono (e2 N)
  | inr E =>
    dsimp only at k
    cases hh : P.2.2.2 mid pc E with
    | some z =>
      obtain ⟨hpc, ln, k9⟩ := z
      rw [hh] at k
      obtain ⟨us2, m, r2, c2, s2, h2, e2, hq⟩ := k
      refine ⟨us ++ us2, n + m + 1, r2, c2, s2, h2, fun N => ?_, hq⟩
      rw [List.append_assoc, head (us2 ++ N) m]
      show (match P.2.2.2 mid pc E with
        | some (hpc, ln, k) => xrun P ct (n + m) (d + 1) mid (hpc + ln) (xrm l k) [] (us2 ++ N, c1, s1, h1)
        | none => if (P.2.1 mid).2.2.2.2 = [] then some ((Sum.inr E : xR), ((us2 ++ N, c1, s1, h1) : xA)) else none) = _
      rw [hh]
      show xrun P ct (n + m) (d + 1) mid (hpc + ln) (xrm l k9) [] (us2 ++ N, c1, s1, h1) = _
      rw [Nat.add_comm n m]
      exact zrun_mono (e2 N)
    | none =>
      rw [hh] at k
      refine ⟨us, n + 0 + 1, .inr E, c1, s1, h1, fun N => ?_, k.2⟩
      rw [head N 0]
      show (match P.2.2.2 mid pc E with
        | some (hpc, ln, k) => xrun P ct (n + 0) (d + 1) mid (hpc + ln) (xrm l k) [] (N, c1, s1, h1)
        | none => if (P.2.1 mid).2.2.2.2 = [] then some ((Sum.inr E : xR), ((N, c1, s1, h1) : xA)) else none) = _
      rw [hh]
      exact if_pos k.1
theorem zX.call {mid2 : Nat} {as rest : List xV} (hc : zC P mid pc i ops) (hct : ∀ A : xA, ct d mid2 as A = none) (hi : xinv i ops st h = some (mid2, as, rest)) (hw : (as.map xcat).sum ≤ (P.2.1 mid2).2.2.1 ∧ (rest.map xcat).sum ≤ 8) (k : zXc P ct d mid2 0 (xar 0 as) [] c s h (zXK P ct (d + 1) mid pc l rest Q)) : zXc P ct (d + 1) mid pc l st c s h Q := by
  obtain ⟨us, n, r, c1, s1, h1, e, hq⟩ := k
  exact zX.join (us := us) (n := n) hc (fun A hA => by rw [hA]; exact hi) hw (fun N m => Or.inr ⟨hct _, zrun_mono (e N)⟩) hq
/-- a call whose end is known -/
theorem zX.cct {mid2 : Nat} {as rest : List xV} {us : List (Nat × Nat)} {r : xR} {c1 s1 : Nat} {h1 : xH} (hc : zC P mid pc i ops) (hi : xinv i ops st h = some (mid2, as, rest)) (hw : (as.map xcat).sum ≤ (P.2.1 mid2).2.2.1 ∧ (rest.map xcat).sum ≤ 8) (hct : ∀ N : List (Nat × Nat), ct d mid2 as (us ++ N, c, s, h) = some (r, (N, c1, s1, h1))) (k : zXK P ct (d + 1) mid pc l rest Q r c1 s1 h1) : zXc P ct (d + 1) mid pc l st c s h Q := by
  exact zX.join (us := us) (n := 0) hc (fun A hA => by rw [hA]; exact hi) hw (fun N m => Or.inl (hct N)) k
end ZX1
section ZX2
variable {P : xPr} {ct : zCt} {d mid pc : Nat} {l : xL} {st : List xV} {c s : Nat} {h : xH} {Q : xR → Nat → Nat → xH → Prop} {i : Instr} {ops : List Nat}
/-- a small number -/
abbrev zi (x : Int) : xV := .inl (.int (Int32.ofInt x))
theorem zI_to {x : Int} (hx : -2147483648 ≤ x ∧ x < 2147483648) : (Int32.ofInt x).toInt = x := Int32.toInt_ofInt_of_le (by omega) (by omega)
theorem zI_lt {x y : Int} (hx : -2147483648 ≤ x ∧ x < 2147483648) (hy : -2147483648 ≤ y ∧ y < 2147483648) : Int32.ofInt x < Int32.ofInt y ↔ x < y := by
  rw [Int32.lt_iff_toInt_lt, zI_to hx, zI_to hy]
theorem zI_le {x y : Int} (hx : -2147483648 ≤ x ∧ x < 2147483648) (hy : -2147483648 ≤ y ∧ y < 2147483648) : Int32.ofInt x ≤ Int32.ofInt y ↔ x ≤ y := by
  rw [Int32.le_iff_toInt_le, zI_to hx, zI_to hy]
theorem zI_eq {x y : Int} (hx : -2147483648 ≤ x ∧ x < 2147483648) (hy : -2147483648 ≤ y ∧ y < 2147483648) : Int32.ofInt x = Int32.ofInt y ↔ x = y := by
  rw [← Int32.toInt_inj, zI_to hx, zI_to hy]
theorem zI_nat {x : Int} {k : Nat} (e : x = (k : Int)) (hk : k < 2147483648) : (Int32.ofInt x).toNatClampNeg = k := by
  show (Int32.ofInt x).toInt.toNat = k
  rw [zI_to ⟨by omega, by omega⟩, e]
  rfl
/-- the place of an array -/
theorem zI_in {x : Int} {k n : Nat} (e : x = (k : Int)) (hk : k < n) (hn : n ≤ 2147483648) : ¬ (Int32.ofInt x < 0 ∨ n ≤ (Int32.ofInt x).toNatClampNeg) := by
  rw [zI_nat e (by omega)]
  rintro (z | z)
  · have h0 : (0 : Int32) = Int32.ofInt 0 := rfl
    rw [h0, zI_lt ⟨by omega, by omega⟩ (by omega)] at z
    omega
  · omega
theorem zX.iadd {a b : Int} {r : List xV} (hc : zC P mid pc .iadd ops) (k : zXc P ct d mid (pc + 1) l (zi (a + b) :: r) c s h Q) : zXc P ct d mid pc l (zi b :: zi a :: r) c s h Q :=
  zX.s1 hc (by rw [show zi (a + b) = .inl (.int (Int32.ofInt a + Int32.ofInt b)) from congrArg (fun z => (.inl (.int z) : xV)) (Int32.ofInt_add a b)]; rfl) k
theorem zX.isub {a b : Int} {r : List xV} (hc : zC P mid pc .isub ops) (k : zXc P ct d mid (pc + 1) l (zi (a - b) :: r) c s h Q) : zXc P ct d mid pc l (zi b :: zi a :: r) c s h Q :=
  zX.s1 hc (by rw [show zi (a - b) = .inl (.int (Int32.ofInt a - Int32.ofInt b)) from congrArg (fun z => (.inl (.int z) : xV)) (Int32.ofInt_sub a b)]; rfl) k
theorem zX.imul {a b : Int} {r : List xV} (hc : zC P mid pc .imul ops) (k : zXc P ct d mid (pc + 1) l (zi (a * b) :: r) c s h Q) : zXc P ct d mid pc l (zi b :: zi a :: r) c s h Q :=
  zX.s1 hc (by rw [show zi (a * b) = .inl (.int (Int32.ofInt a * Int32.ofInt b)) from congrArg (fun z => (.inl (.int z) : xV)) (Int32.ofInt_mul a b)]; rfl) k
theorem zX.ineg {a : Int} {r : List xV} (hc : zC P mid pc .ineg ops) (k : zXc P ct d mid (pc + 1) l (zi (-a) :: r) c s h Q) : zXc P ct d mid pc l (zi a :: r) c s h Q :=
  zX.s1 hc (by rw [show zi (-a) = .inl (.int (-Int32.ofInt a)) from congrArg (fun z => (.inl (.int z) : xV)) (Int32.ofInt_neg a)]; rfl) k
theorem zI_div {a b : Int} (ha : 0 ≤ a ∧ a < 2147483648) (hb : 0 < b ∧ b < 2147483648) : Int32.ofInt a / Int32.ofInt b = Int32.ofInt (a / b) := by
  have hq : a / b ≤ a := Int.ediv_le_self _ ha.1
  have hq0 : 0 ≤ a / b := Int.ediv_nonneg ha.1 (by omega)
  apply Int32.toInt_inj.mp
  rw [Int32.toInt_div_of_ne_right, zI_to ⟨by omega, by omega⟩, zI_to ⟨by omega, by omega⟩, zI_to ⟨by omega, by omega⟩, Int.tdiv_eq_ediv_of_nonneg ha.1]
  intro z
  have := congrArg Int32.toInt z
  rw [zI_to ⟨by omega, by omega⟩] at this
  have e1 : (-1 : Int32).toInt = -1 := by decide
  omega
theorem zI_nz {b : Int} (hb : 0 < b ∧ b < 2147483648) : ¬ Int32.ofInt b = 0 := by
  intro z
  have := congrArg Int32.toInt z
  rw [zI_to ⟨by omega, by omega⟩] at this
  have e1 : (0 : Int32).toInt = 0 := by decide
  omega
theorem zX.idiv {a b : Int} {r : List xV} (hc : zC P mid pc .idiv ops) (ha : 0 ≤ a ∧ a < 2147483648) (hb : 0 < b ∧ b < 2147483648) (k : zXc P ct d mid (pc + 1) l (zi (a / b) :: r) c s h Q) : zXc P ct d mid pc l (zi b :: zi a :: r) c s h Q :=
  zX.s1 hc (by rw [show zi (a / b) = .inl (.int (Int32.ofInt a / Int32.ofInt b)) from congrArg (fun z => (.inl (.int z) : xV)) (zI_div ha hb).symm]; exact if_pos (zI_nz hb)) k
theorem zX.irem {a b : Int} {r : List xV} (hc : zC P mid pc .irem ops) (ha : 0 ≤ a ∧ a < 2147483648) (hb : 0 < b ∧ b < 2147483648) (k : zXc P ct d mid (pc + 1) l (zi (a % b) :: r) c s h Q) : zXc P ct d mid pc l (zi b :: zi a :: r) c s h Q :=
  zX.s1 hc (by
    have e : Int32.ofInt (a % b) = Int32.ofInt a - Int32.ofInt a / Int32.ofInt b * Int32.ofInt b := by
      rw [zI_div ha hb, ← Int32.ofInt_mul, ← Int32.ofInt_sub, Int.emod_def, Int.mul_comm b]
    rw [show zi (a % b) = .inl (.int (Int32.ofInt a - Int32.ofInt a / Int32.ofInt b * Int32.ofInt b)) from congrArg (fun z => (.inl (.int z) : xV)) e]
    exact if_pos (zI_nz hb)) k
/-- branches -/
theorem zX.br {b : Bool} {off : Int} {tgt : Nat} {r : List xV} {x : xV} {y : List xV} (hst : st = x :: (y ++ r)) (hc : zC P mid pc i ops) (ht : (pc : Int) + off = (tgt : Int)) (hr : ∀ rt : Option FieldType, xret rt i st = none) (h1 : xs1 (P.2.1 mid).2.2.1 i pc l st = none) (hs : ∀ A : xA, xs2 i ops pc l st A = xbr b pc off l r A) (kt : b = true → zXc P ct d mid tgt l r c s h Q) (kf : b = false → zXc P ct d mid (pc + 3) l r c s h Q) : zXc P ct d mid pc l st c s h Q := by
  cases b with
  | true => exact zX.s2 [] hc hr h1 (fun N => by rw [hs]; exact zbr_t ht rfl) (kt rfl)
  | false => exact zX.s2 [] hc hr h1 (fun N => by rw [hs]; exact zbr_f ht rfl) (kf rfl)
theorem zX.ific {o : Jvm.ClassFile.Cond} {off : Int} {tgt : Nat} {x y : Int32} {r : List xV} (hc : zC P mid pc (.if_icmp o off) ops) (ht : (pc : Int) + off = (tgt : Int)) (kt : xcd o x y = true → zXc P ct d mid tgt l r c s h Q) (kf : xcd o x y = false → zXc P ct d mid (pc + 3) l r c s h Q) : zXc P ct d mid pc l (.inl (.int y) :: .inl (.int x) :: r) c s h Q :=
  zX.br (y := [.inl (.int x)]) rfl hc ht (fun _ => rfl) rfl (fun _ => rfl) kt kf
theorem zX.ifc {o : Jvm.ClassFile.Cond} {off : Int} {tgt : Nat} {x : Int32} {r : List xV} (hc : zC P mid pc (.ifCond o off) ops) (ht : (pc : Int) + off = (tgt : Int)) (kt : xcd o x 0 = true → zXc P ct d mid tgt l r c s h Q) (kf : xcd o x 0 = false → zXc P ct d mid (pc + 3) l r c s h Q) : zXc P ct d mid pc l (.inl (.int x) :: r) c s h Q :=
  zX.br (y := []) rfl hc ht (fun _ => rfl) rfl (fun _ => rfl) kt kf
/-- what a question asks of two numbers, and its contrary -/
def zQ (o : Jvm.ClassFile.Cond) (x y : Int) : Prop := match o with
  | .eq => x = y
  | .ne => ¬ x = y
  | .lt => x < y
  | .ge => y ≤ x
  | .gt => y < x
  | .le => x ≤ y
def zN (o : Jvm.ClassFile.Cond) (x y : Int) : Prop := match o with
  | .eq => ¬ x = y
  | .ne => x = y
  | .lt => y ≤ x
  | .ge => x < y
  | .gt => x ≤ y
  | .le => y < x
theorem zQ_of {o : Jvm.ClassFile.Cond} {x y : Int} (hx : -2147483648 ≤ x ∧ x < 2147483648) (hy : -2147483648 ≤ y ∧ y < 2147483648) : (xcd o (Int32.ofInt x) (Int32.ofInt y) = true → zQ o x y) ∧ (xcd o (Int32.ofInt x) (Int32.ofInt y) = false → zN o x y) := by
  cases o with
  | eq => exact ⟨fun z => (zI_eq hx hy).mp (of_decide_eq_true z), fun z w => of_decide_eq_false z ((zI_eq hx hy).mpr w)⟩
  | ne => exact ⟨fun z w => of_decide_eq_true z ((zI_eq hx hy).mpr w), fun z => (zI_eq hx hy).mp (Classical.not_not.mp (of_decide_eq_false z))⟩
  | lt => exact ⟨fun z => (zI_lt hx hy).mp (of_decide_eq_true z), fun z => Int.not_lt.mp (fun w => of_decide_eq_false z ((zI_lt hx hy).mpr w))⟩
  | ge => exact ⟨fun z => (zI_le hy hx).mp (of_decide_eq_true z), fun z => Int.not_le.mp (fun w => of_decide_eq_false z ((zI_le hy hx).mpr w))⟩
  | gt => exact ⟨fun z => (zI_lt hy hx).mp (of_decide_eq_true z), fun z => Int.not_lt.mp (fun w => of_decide_eq_false z ((zI_lt hy hx).mpr w))⟩
  | le => exact ⟨fun z => (zI_le hx hy).mp (of_decide_eq_true z), fun z => Int.not_le.mp (fun w => of_decide_eq_false z ((zI_le hx hy).mpr w))⟩
theorem zX.icmp {o : Jvm.ClassFile.Cond} {off : Int} {tgt : Nat} {x y : Int} {r : List xV} (hc : zC P mid pc (.if_icmp o off) ops) (ht : (pc : Int) + off = (tgt : Int)) (hx : -2147483648 ≤ x ∧ x < 2147483648) (hy : -2147483648 ≤ y ∧ y < 2147483648) (kt : zQ o x y → zXc P ct d mid tgt l r c s h Q) (kf : zN o x y → zXc P ct d mid (pc + 3) l r c s h Q) : zXc P ct d mid pc l (zi y :: zi x :: r) c s h Q :=
  zX.ific hc ht (fun e => kt ((zQ_of hx hy).1 e)) (fun e => kf ((zQ_of hx hy).2 e))
theorem zX.icmp0 {o : Jvm.ClassFile.Cond} {off : Int} {tgt : Nat} {x : Int} {r : List xV} (hc : zC P mid pc (.ifCond o off) ops) (ht : (pc : Int) + off = (tgt : Int)) (hx : -2147483648 ≤ x ∧ x < 2147483648) (kt : zQ o x 0 → zXc P ct d mid tgt l r c s h Q) (kf : zN o x 0 → zXc P ct d mid (pc + 3) l r c s h Q) : zXc P ct d mid pc l (zi x :: r) c s h Q :=
  zX.ifc hc ht (fun e => kt ((zQ_of (y := 0) hx (by omega)).1 e)) (fun e => kf ((zQ_of (y := 0) hx (by omega)).2 e))
/-- the same over numbers of which nothing is known -/
def zQr (o : Jvm.ClassFile.Cond) (x y : Int32) : Prop := match o with
  | .eq => x = y
  | .ne => ¬ x = y
  | .lt => x < y
  | .ge => ¬ x < y
  | .gt => y < x
  | .le => ¬ y < x
def zNr (o : Jvm.ClassFile.Cond) (x y : Int32) : Prop := match o with
  | .eq => ¬ x = y
  | .ne => x = y
  | .lt => ¬ x < y
  | .ge => x < y
  | .gt => ¬ y < x
  | .le => y < x
theorem zQr_of {o : Jvm.ClassFile.Cond} {x y : Int32} : (xcd o x y = true → zQr o x y) ∧ (xcd o x y = false → zNr o x y) := by
  cases o with
  | eq => exact ⟨fun z => of_decide_eq_true (p := x = y) z, fun z => of_decide_eq_false (p := x = y) z⟩
  | ne => exact ⟨fun z => of_decide_eq_true (p := ¬ x = y) z, fun z => Classical.not_not.mp (of_decide_eq_false (p := ¬ x = y) z)⟩
  | lt => exact ⟨fun z => of_decide_eq_true (p := x < y) z, fun z => of_decide_eq_false (p := x < y) z⟩
  | ge => exact ⟨fun z => Int32.not_lt.mpr (of_decide_eq_true z), fun z => Int32.not_le.mp (of_decide_eq_false z)⟩
  | gt => exact ⟨fun z => of_decide_eq_true (p := y < x) z, fun z => of_decide_eq_false (p := y < x) z⟩
  | le => exact ⟨fun z => Int32.not_lt.mpr (of_decide_eq_true z), fun z => Int32.not_le.mp (of_decide_eq_false z)⟩
theorem zX.rcmp {o : Jvm.ClassFile.Cond} {off : Int} {tgt : Nat} {x y : Int32} {r : List xV} (hc : zC P mid pc (.if_icmp o off) ops) (ht : (pc : Int) + off = (tgt : Int)) (kt : zQr o x y → zXc P ct d mid tgt l r c s h Q) (kf : zNr o x y → zXc P ct d mid (pc + 3) l r c s h Q) : zXc P ct d mid pc l (.inl (.int y) :: .inl (.int x) :: r) c s h Q :=
  zX.ific hc ht (fun e => kt (zQr_of.1 e)) (fun e => kf (zQr_of.2 e))
theorem zX.rcmp0 {o : Jvm.ClassFile.Cond} {off : Int} {tgt : Nat} {x : Int32} {r : List xV} (hc : zC P mid pc (.ifCond o off) ops) (ht : (pc : Int) + off = (tgt : Int)) (kt : zQr o x 0 → zXc P ct d mid tgt l r c s h Q) (kf : zNr o x 0 → zXc P ct d mid (pc + 3) l r c s h Q) : zXc P ct d mid pc l (.inl (.int x) :: r) c s h Q :=
  zX.ifc hc ht (fun e => kt (zQr_of.1 e)) (fun e => kf (zQr_of.2 e))
/-- longs that are compared for being alike -/
theorem zX.leq {off : Int} {tgt : Nat} {x y : Int64} {r : List xV} (hc : zC P mid pc (.ifCond .eq off) ops) (ht : (pc : Int) + off = (tgt : Int)) (kt : x = y → zXc P ct d mid tgt l r c s h Q) (kf : ¬ x = y → zXc P ct d mid (pc + 3) l r c s h Q) : zXc P ct d mid pc l (.inl (.int (lg_cmp x y)) :: r) c s h Q :=
  zX.ifc hc ht (fun e => kt ((lg_cmp_eq x y).mp (of_decide_eq_true e))) (fun e => kf (fun z => of_decide_eq_false e ((lg_cmp_eq x y).mpr z)))
theorem zX.lne {off : Int} {tgt : Nat} {x y : Int64} {r : List xV} (hc : zC P mid pc (.ifCond .ne off) ops) (ht : (pc : Int) + off = (tgt : Int)) (kt : ¬ x = y → zXc P ct d mid tgt l r c s h Q) (kf : x = y → zXc P ct d mid (pc + 3) l r c s h Q) : zXc P ct d mid pc l (.inl (.int (lg_cmp x y)) :: r) c s h Q :=
  zX.ifc hc ht (fun e => kt (fun z => of_decide_eq_true e ((lg_cmp_eq x y).mpr z))) (fun e => kf ((lg_cmp_eq x y).mp (Classical.not_not.mp (of_decide_eq_false e))))
/-- references -/
theorem zX.acne {off : Int} {tgt : Nat} {q z : Nat × Nat} {r : List xV} (hc : zC P mid pc (.if_acmp .ne off) ops) (ht : (pc : Int) + off = (tgt : Int)) (kt : ¬ z = q → zXc P ct d mid tgt l r c s h Q) (kf : z = q → zXc P ct d mid (pc + 3) l r c s h Q) : zXc P ct d mid pc l (.inr q :: .inr z :: r) c s h Q :=
  zX.br (b := decide (¬ z = q)) (y := [.inr z]) rfl hc ht (fun _ => rfl) rfl (fun _ => rfl) (fun e => kt (of_decide_eq_true e)) (fun e => kf (Classical.not_not.mp (of_decide_eq_false e)))
theorem zX.aceq {off : Int} {tgt : Nat} {q z : Nat × Nat} {r : List xV} (hc : zC P mid pc (.if_acmp .eq off) ops) (ht : (pc : Int) + off = (tgt : Int)) (kt : z = q → zXc P ct d mid tgt l r c s h Q) (kf : ¬ z = q → zXc P ct d mid (pc + 3) l r c s h Q) : zXc P ct d mid pc l (.inr q :: .inr z :: r) c s h Q :=
  zX.br (b := decide (z = q)) (y := [.inr z]) rfl hc ht (fun _ => rfl) rfl (fun _ => rfl) (fun e => kt (of_decide_eq_true e)) (fun e => kf (of_decide_eq_false e))
end ZX2
