set_option maxRecDepth 20000
section ZW
/-- more fuel does no harm -/
theorem zrun_more {P : xPr} {ct : Nat → Nat → List xV → xA → Option (xR × xA)} : ∀ (n d mid pc : Nat) (l : xL) (st : List xV) (A : xA) (z : xR × xA), xrun P ct n d mid pc l st A = some z → xrun P ct (n + 1) d mid pc l st A = some z := by
  intro n
  induction n with
  | zero =>
    intro d mid pc l st A z h
    cases h
  | succ n ih =>
    intro d mid pc l st A z h
    unfold xrun at h ⊢
    split at h
    next => cases h
    next i ops hP =>
      try rw [hP]
      try dsimp only
      split at h
      next v hv =>
        first | exact h | (rw [hv]; exact h)
      next hv =>
        try rw [hv]
        try dsimp only
        split at h
        next E hE =>
          try rw [hE]
          exact h
        next hE =>
          try rw [hE]
          try dsimp only
          split at h
          next y hy =>
            try rw [hy]
            exact ih _ _ _ _ _ _ _ h
          next hy =>
            try rw [hy]
            try dsimp only
            split at h
            next mid2 as rest d2 hi =>
              try rw [hi]
              try dsimp only
              by_cases hw : (as.map xcat).sum ≤ (P.2.1 mid2).2.2.1 ∧ (rest.map xcat).sum ≤ 8
              · rw [if_pos hw] at h ⊢
                have key : ∀ w : Option (xR × xA), (match w with
                    | some (.inl v, A2) => xrun P ct n (d2 + 1) mid (pc + 3) l (v.toList ++ rest) A2
                    | some (.inr E, A2) => match P.2.2.2 mid pc E with
                      | some (hpc, ln, k) => xrun P ct n (d2 + 1) mid (hpc + ln) (xrm l k) [] A2
                      | none => if (P.2.1 mid).2.2.2.2 = [] then some (.inr E, A2) else none
                    | none => none) = some z → (match w with
                    | some (.inl v, A2) => xrun P ct (n + 1) (d2 + 1) mid (pc + 3) l (v.toList ++ rest) A2
                    | some (.inr E, A2) => match P.2.2.2 mid pc E with
                      | some (hpc, ln, k) => xrun P ct (n + 1) (d2 + 1) mid (hpc + ln) (xrm l k) [] A2
                      | none => if (P.2.1 mid).2.2.2.2 = [] then some (.inr E, A2) else none
                    | none => none) = some z := by
                  intro w hw2
                  split at hw2
                  next v A2 => exact ih _ _ _ _ _ _ _ hw2
                  next E A2 =>
                    try dsimp only
                    split at hw2
                    next hpc ln k hh =>
                      try rw [hh]
                      exact ih _ _ _ _ _ _ _ hw2
                    next hh =>
                      try rw [hh]
                      exact hw2
                  next => cases hw2
                cases hct : ct d2 mid2 as A with
                | some y =>
                  rw [hct] at h
                  exact key (some y) h
                | none =>
                  rw [hct] at h
                  dsimp only at h ⊢
                  cases hr : xrun P ct n d2 mid2 0 (xar 0 as) [] A with
                  | none =>
                    rw [hr] at h
                    cases h
                  | some y =>
                    rw [hr] at h
                    rw [ih _ _ _ _ _ _ _ hr]
                    exact key (some y) h
              · rw [if_neg hw] at h
                cases h
            next hne =>
              cases h
theorem zrun_mono {P : xPr} {ct : Nat → Nat → List xV → xA → Option (xR × xA)} {n k d mid pc : Nat} {l : xL} {st : List xV} {A : xA} {z : xR × xA} (h : xrun P ct n d mid pc l st A = some z) : xrun P ct (n + k) d mid pc l st A = some z := by
  induction k with
  | zero => exact h
  | succ k ih => exact zrun_more _ _ _ _ _ _ _ _ ih
/-- the methods whose end is known beforehand, told by their numbers alone where they aren't -/
abbrev zCt : Type := Nat → Nat → List xV → xA → Option (xR × xA)
/-- from here a frame's run comes to an end of which Q holds -/
def zWc (P : xPr) (ct : zCt) (d mid pc : Nat) (l : xL) (st : List xV) (A : xA) (Q : xR → xA → Prop) : Prop := ∃ (n : Nat) (r : xR) (B : xA), xrun P ct n d mid pc l st A = some (r, B) ∧ Q r B
/-- what an instruction is, in a place that throws nothing new -/
def zC (P : xPr) (mid pc : Nat) (i : Instr) (ops : List Nat) : Prop := P.1 mid pc = some (i, ops) ∧ P.2.2.1 mid pc = none
variable {P : xPr} {ct : zCt} {d mid pc : Nat} {l : xL} {st : List xV} {A : xA} {Q : xR → xA → Prop} {i : Instr} {ops : List Nat}
theorem zW.weak {Q2 : xR → xA → Prop} (h : zWc P ct d mid pc l st A Q) (k : ∀ r B, Q r B → Q2 r B) : zWc P ct d mid pc l st A Q2 := by
  obtain ⟨n, r, B, h1, h2⟩ := h
  exact ⟨n, r, B, h1, k r B h2⟩
theorem zW.ret {v : Option xV} (hc : P.1 mid pc = some (i, ops)) (hv : xret (P.2.1 mid).2.2.2.1 i st = some v) (q : Q (.inl v) A) : zWc P ct d mid pc l st A Q := by
  refine ⟨1, .inl v, A, ?_, q⟩
  unfold xrun
  rw [hc]
  dsimp only
  rw [hv]
theorem zW.thr {E : String} {idx : Nat} (hc : P.1 mid pc = some (.new idx, ops)) (ht : P.2.2.1 mid pc = some E) (hd : 8 ≤ d) (hs : (st.map xcat).sum ≤ 8) (q : Q (.inr E) (A.1, A.2.1 + 1, A.2.2.1 + 6, A.2.2.2)) : zWc P ct d mid pc l st A Q := by
  refine ⟨1, .inr E, _, ?_, q⟩
  unfold xrun
  rw [hc]
  show (match P.2.2.1 mid pc with
    | some E => if 8 ≤ d ∧ (st.map xcat).sum ≤ 8 then some ((Sum.inr E : xR), ((A.1, A.2.1 + 1, A.2.2.1 + 6, A.2.2.2) : xA)) else none
    | none => _) = _
  rw [ht]
  exact if_pos ⟨hd, hs⟩
/-- one instruction that stays in its method -/
theorem zW.step {pc2 : Nat} {l2 : xL} {st2 : List xV} {A2 : xA} (hc : zC P mid pc i ops) (hr : xret (P.2.1 mid).2.2.2.1 i st = none) (hs : xs (P.2.1 mid).2.2.1 i ops pc l st A = some (pc2, l2, st2, A2)) (k : zWc P ct d mid pc2 l2 st2 A2 Q) : zWc P ct d mid pc l st A Q := by
  obtain ⟨n, r, B, h1, h2⟩ := k
  refine ⟨n + 1, r, B, ?_, h2⟩
  unfold xrun
  rw [hc.1]
  dsimp only
  rw [hr, hc.2]
  dsimp only
  rw [hs]
  exact h1
theorem xs1_noret {nL : Nat} {z : Nat × xL × List xV} (h : xs1 nL i pc l st = some z) (rt : Option FieldType) : xret rt i st = none := by
  cases i
  all_goals first
    | rfl
    | (cases h; done)
theorem zW.s1 {pc2 : Nat} {l2 : xL} {st2 : List xV} (hc : zC P mid pc i ops) (hs : xs1 (P.2.1 mid).2.2.1 i pc l st = some (pc2, l2, st2)) (k : zWc P ct d mid pc2 l2 st2 A Q) : zWc P ct d mid pc l st A Q :=
  zW.step hc (xs1_noret hs _) (xs_of1 hs) k
theorem zW.s2 {pc2 : Nat} {l2 : xL} {st2 : List xV} {A2 : xA} (hc : zC P mid pc i ops) (hr : ∀ rt : Option FieldType, xret rt i st = none) (h1 : xs1 (P.2.1 mid).2.2.1 i pc l st = none) (hs : xs2 i ops pc l st A = some (pc2, l2, st2, A2)) (k : zWc P ct d mid pc2 l2 st2 A2 Q) : zWc P ct d mid pc l st A Q :=
  zW.step hc (hr _) (xs_of2 h1 hs) k
/-- plain instructions one after the other -/
def zsn (P : xPr) (mid : Nat) : Nat → Nat → xL → List xV → Option (Nat × xL × List xV)
  | 0, pc, l, st => some (pc, l, st)
  | n + 1, pc, l, st => match P.2.2.1 mid pc with
    | some _ => none
    | none => match P.1 mid pc with
      | some (i, _) => match xs1 (P.2.1 mid).2.2.1 i pc l st with
        | some z => zsn P mid n z.1 z.2.1 z.2.2
        | none => none
      | none => none
theorem zW.sn {pc2 : Nat} {l2 : xL} {st2 : List xV} (n : Nat) (hs : zsn P mid n pc l st = some (pc2, l2, st2)) (k : zWc P ct d mid pc2 l2 st2 A Q) : zWc P ct d mid pc l st A Q := by
  induction n generalizing pc l st with
  | zero =>
    cases hs
    exact k
  | succ n ih =>
    unfold zsn at hs
    split at hs
    next => cases hs
    next ht =>
      split at hs
      next i ops hc =>
        split at hs
        next z hz => exact zW.s1 ⟨hc, ht⟩ hz (ih hs)
        next => cases hs
      next => cases hs
/-- branches -/
theorem zbr_t {b : Bool} {off : Int} {tgt : Nat} (h : (pc : Int) + off = (tgt : Int)) (e : b = true) : xbr b pc off l st A = some (tgt, l, st, A) := by
  unfold xbr
  rw [if_pos (by omega), if_pos e]
  congr 2
  omega
theorem zbr_f {b : Bool} {off : Int} {tgt : Nat} (h : (pc : Int) + off = (tgt : Int)) (e : b = false) : xbr b pc off l st A = some (pc + 3, l, st, A) := by
  unfold xbr
  rw [if_pos (by omega), if_neg (by rw [e]; exact Bool.false_ne_true)]
theorem zW.ifc {o : Jvm.ClassFile.Cond} {off : Int} {tgt : Nat} {x : Int32} {r : List xV} (hc : zC P mid pc (.ifCond o off) ops) (h : (pc : Int) + off = (tgt : Int)) (kt : xcd o x 0 = true → zWc P ct d mid tgt l r A Q) (kf : xcd o x 0 = false → zWc P ct d mid (pc + 3) l r A Q) : zWc P ct d mid pc l (.inl (.int x) :: r) A Q := by
  cases e : xcd o x 0 with
  | true => exact zW.s2 hc (fun _ => rfl) rfl (zbr_t h e) (kt e)
  | false => exact zW.s2 hc (fun _ => rfl) rfl (zbr_f h e) (kf e)
theorem zW.ific {o : Jvm.ClassFile.Cond} {off : Int} {tgt : Nat} {x y : Int32} {r : List xV} (hc : zC P mid pc (.if_icmp o off) ops) (h : (pc : Int) + off = (tgt : Int)) (kt : xcd o x y = true → zWc P ct d mid tgt l r A Q) (kf : xcd o x y = false → zWc P ct d mid (pc + 3) l r A Q) : zWc P ct d mid pc l (.inl (.int y) :: .inl (.int x) :: r) A Q := by
  cases e : xcd o x y with
  | true => exact zW.s2 hc (fun _ => rfl) rfl (zbr_t h e) (kt e)
  | false => exact zW.s2 hc (fun _ => rfl) rfl (zbr_f h e) (kf e)
/-- objects -/
theorem zW.getf {idx kx : Nat} {cis : List Nat} {q : Nat × Nat} {r : List xV} {ci : Nat} {fs : List xV} {v : xV} (hc : zC P mid pc (.getfield idx) (kx :: cis)) (hq : A.2.2.2 q = some (.inl (ci, fs))) (he : cis.elem ci = true) (hv : fs[kx]? = some v) (k : zWc P ct d mid (pc + 3) l (v :: r) A Q) : zWc P ct d mid pc l (.inr q :: r) A Q := by
  refine zW.s2 hc (fun _ => rfl) rfl ?_ k
  simp only [xs2]
  rw [hq]
  show (if cis.elem ci = true then (match fs[kx]? with
    | some v => some (pc + 3, l, v :: r, A)
    | none => none) else none) = _
  rw [if_pos he, hv]
theorem zW.putf {idx kx t : Nat} {cis : List Nat} {q : Nat × Nat} {r : List xV} {ci : Nat} {fs : List xV} {v : xV} (hc : zC P mid pc (.putfield idx) (kx :: t :: cis)) (hq : A.2.2.2 q = some (.inl (ci, fs))) (he : cis.elem ci = true) (h0 : q.1 ≠ 0) (hv : xfit t v = true) (k : zWc P ct d mid (pc + 3) l r (A.1, A.2.1, A.2.2.1, xup A.2.2.2 q (.inl (ci, fs.set kx v))) Q) : zWc P ct d mid pc l (v :: .inr q :: r) A Q := by
  refine zW.s2 hc (fun _ => by cases v with | inl w => cases w <;> rfl | inr w => rfl) (by cases v with | inl w => cases w <;> rfl | inr w => rfl) ?_ k
  simp only [xs2]
  rw [hq]
  exact if_pos ⟨he, h0, hv⟩
/-- arrays: what an array of ints, of longs holds -/
abbrev zI (f : Nat → Int32) : Nat → xV := fun j => .inl (.int (f j))
abbrev zJ (f : Nat → Int64) : Nat → xV := fun j => .inl (.long (f j))
def zfi {α : Type} (f : Nat → α) (i : Nat) (x : α) : Nat → α := fun j => if j = i then x else f j
theorem zfi_I (f : Nat → Int32) (i : Nat) (x : Int32) : xfu (zI f) i (.inl (.int x)) = zI (zfi f i x) := by
  funext j
  show (if j = i then _ else _) = Sum.inl (Value.int (if j = i then x else f j))
  split <;> rfl
theorem zfi_J (f : Nat → Int64) (i : Nat) (x : Int64) : xfu (zJ f) i (.inl (.long x)) = zJ (zfi f i x) := by
  funext j
  show (if j = i then _ else _) = Sum.inl (Value.long (if j = i then x else f j))
  split <;> rfl
theorem zW.iald {q : Nat × Nat} {r : List xV} {n : Nat} {f : Nat → Int32} {j : Int32} (hc : zC P mid pc .iaload ops) (hq : A.2.2.2 q = some (.inr (0, n, zI f))) (hb : ¬ (j < 0 ∨ n ≤ j.toNatClampNeg)) (k : zWc P ct d mid (pc + 1) l (.inl (.int (f j.toNatClampNeg)) :: r) A Q) : zWc P ct d mid pc l (.inl (.int j) :: .inr q :: r) A Q := by
  refine zW.s2 hc (fun _ => rfl) rfl ?_ k
  simp only [xs2]
  rw [hq]
  show (match xarr 0 j n (zI f) 0 with
    | some v => some (pc + 1, l, v :: r, A)
    | none => none) = _
  rw [show xarr 0 j n (zI f) 0 = some (zI f j.toNatClampNeg) from if_pos ⟨Or.inl rfl, hb⟩]
theorem zW.lald {q : Nat × Nat} {r : List xV} {n : Nat} {f : Nat → Int64} {j : Int32} (hc : zC P mid pc .laload ops) (hq : A.2.2.2 q = some (.inr (1, n, zJ f))) (hb : ¬ (j < 0 ∨ n ≤ j.toNatClampNeg)) (k : zWc P ct d mid (pc + 1) l (.inl (.long (f j.toNatClampNeg)) :: r) A Q) : zWc P ct d mid pc l (.inl (.int j) :: .inr q :: r) A Q := by
  refine zW.s2 hc (fun _ => rfl) rfl ?_ k
  simp only [xs2]
  rw [hq]
  show (match xarr 1 j n (zJ f) 1 with
    | some v => some (pc + 1, l, v :: r, A)
    | none => none) = _
  rw [show xarr 1 j n (zJ f) 1 = some (zJ f j.toNatClampNeg) from if_pos ⟨Or.inl rfl, hb⟩]
theorem zW.aald {q : Nat × Nat} {r : List xV} {kd n : Nat} {f : Nat → xV} {j : Int32} (hc : zC P mid pc .aaload ops) (hq : A.2.2.2 q = some (.inr (kd, n, f))) (hk : kd = 4) (hb : ¬ (j < 0 ∨ n ≤ j.toNatClampNeg)) (k : zWc P ct d mid (pc + 1) l (f j.toNatClampNeg :: r) A Q) : zWc P ct d mid pc l (.inl (.int j) :: .inr q :: r) A Q := by
  subst hk
  refine zW.s2 hc (fun _ => rfl) rfl ?_ k
  simp only [xs2]
  rw [hq]
  show (match xarr 4 j n f 4 with
    | some v => some (pc + 1, l, v :: r, A)
    | none => none) = _
  rw [show xarr 4 j n f 4 = some (f j.toNatClampNeg) from if_pos ⟨Or.inl rfl, hb⟩]
theorem zW.iast {q : Nat × Nat} {r : List xV} {n : Nat} {f : Nat → Int32} {j x : Int32} (hc : zC P mid pc .iastore ops) (hq : A.2.2.2 q = some (.inr (0, n, zI f))) (h0 : q.1 ≠ 0) (hb : ¬ (j < 0 ∨ n ≤ j.toNatClampNeg)) (k : zWc P ct d mid (pc + 1) l r (A.1, A.2.1, A.2.2.1, xup A.2.2.2 q (.inr (0, n, zI (zfi f j.toNatClampNeg x)))) Q) : zWc P ct d mid pc l (.inl (.int x) :: .inl (.int j) :: .inr q :: r) A Q := by
  refine zW.s2 hc (fun _ => rfl) rfl ?_ k
  simp only [xs2]
  rw [hq]
  show (match xsto A q 0 j n (zI f) 0 (.inl (.int x)) with
    | some A1 => some (pc + 1, l, r, A1)
    | none => none) = _
  rw [show xsto A q 0 j n (zI f) 0 (.inl (.int x)) = some (A.1, A.2.1, A.2.2.1, xup A.2.2.2 q (.inr (0, n, xfu (zI f) j.toNatClampNeg (.inl (.int x))))) from if_pos ⟨rfl, h0, hb⟩, zfi_I]
theorem zW.last {q : Nat × Nat} {r : List xV} {n : Nat} {f : Nat → Int64} {j : Int32} {x : Int64} (hc : zC P mid pc .lastore ops) (hq : A.2.2.2 q = some (.inr (1, n, zJ f))) (h0 : q.1 ≠ 0) (hb : ¬ (j < 0 ∨ n ≤ j.toNatClampNeg)) (k : zWc P ct d mid (pc + 1) l r (A.1, A.2.1, A.2.2.1, xup A.2.2.2 q (.inr (1, n, zJ (zfi f j.toNatClampNeg x)))) Q) : zWc P ct d mid pc l (.inl (.long x) :: .inl (.int j) :: .inr q :: r) A Q := by
  refine zW.s2 hc (fun _ => rfl) rfl ?_ k
  simp only [xs2]
  rw [hq]
  show (match xsto A q 1 j n (zJ f) 1 (.inl (.long x)) with
    | some A1 => some (pc + 1, l, r, A1)
    | none => none) = _
  rw [show xsto A q 1 j n (zJ f) 1 (.inl (.long x)) = some (A.1, A.2.1, A.2.2.1, xup A.2.2.2 q (.inr (1, n, xfu (zJ f) j.toNatClampNeg (.inl (.long x))))) from if_pos ⟨rfl, h0, hb⟩, zfi_J]
theorem zW.alen {q : Nat × Nat} {r : List xV} {kd n : Nat} {f : Nat → xV} (hc : zC P mid pc .arraylength ops) (hq : A.2.2.2 q = some (.inr (kd, n, f))) (k : zWc P ct d mid (pc + 1) l (.inl (.int (Int32.ofNat n)) :: r) A Q) : zWc P ct d mid pc l (.inr q :: r) A Q := by
  refine zW.s2 hc (fun _ => rfl) rfl ?_ k
  simp only [xs2]
  rw [hq]
/-- behind a call: what is left of the caller -/
def zK (P : xPr) (ct : zCt) (d mid pc : Nat) (l : xL) (rest : List xV) (Q : xR → xA → Prop) : xR → xA → Prop := fun r B => match r with
  | .inl v => zWc P ct d mid (pc + 3) l (v.toList ++ rest) B Q
  | .inr E => match P.2.2.2 mid pc E with
    | some z => zWc P ct d mid (z.1 + z.2.1) (xrm l z.2.2) [] B Q
    | none => (P.2.1 mid).2.2.2.2 = [] ∧ Q (.inr E) B
theorem zW.call {mid2 : Nat} {as rest : List xV} (hc : zC P mid pc i ops) (hct : ct d mid2 as A = none) (hi : xinv i ops st A.2.2.2 = some (mid2, as, rest)) (hw : (as.map xcat).sum ≤ (P.2.1 mid2).2.2.1 ∧ (rest.map xcat).sum ≤ 8) (k : zWc P ct d mid2 0 (xar 0 as) [] A (zK P ct (d + 1) mid pc l rest Q)) : zWc P ct (d + 1) mid pc l st A Q := by
  obtain ⟨n, r, B, h1, h2⟩ := k
  have head : ∀ m, xrun P ct (n + m + 1) (d + 1) mid pc l st A = (match (r, B) with
      | (.inl v, A2) => xrun P ct (n + m) (d + 1) mid (pc + 3) l (v.toList ++ rest) A2
      | (.inr E, A2) => match P.2.2.2 mid pc E with
        | some (hpc, ln, k) => xrun P ct (n + m) (d + 1) mid (hpc + ln) (xrm l k) [] A2
        | none => if (P.2.1 mid).2.2.2.2 = [] then some (.inr E, A2) else none) := by
    intro m
    have h3 := zrun_mono (k := m) h1
    rw [xrun, hc.1]
    dsimp only
    rw [xinv_noret hi, hc.2]
    dsimp only
    rw [xinv_noxs hi, hi]
    dsimp only
    rw [if_pos hw]
    rw [hct]
    dsimp only
    rw [h3]
    cases r <;> rfl
  unfold zK at h2
  cases r with
  | inl v =>
    obtain ⟨m, r2, B2, h4, h5⟩ := h2
    refine ⟨n + m + 1, r2, B2, ?_, h5⟩
    rw [head m]
    show xrun P ct (n + m) (d + 1) mid (pc + 3) l (v.toList ++ rest) B = _
    rw [Nat.add_comm n m]
    exact zrun_mono h4
  | inr E =>
    dsimp only at h2
    cases hh : P.2.2.2 mid pc E with
    | some z =>
      obtain ⟨hpc, ln, k9⟩ := z
      rw [hh] at h2
      obtain ⟨m, r2, B2, h4, h5⟩ := h2
      refine ⟨n + m + 1, r2, B2, ?_, h5⟩
      rw [head m]
      show (match P.2.2.2 mid pc E with
        | some (hpc, ln, k) => xrun P ct (n + m) (d + 1) mid (hpc + ln) (xrm l k) [] B
        | none => if (P.2.1 mid).2.2.2.2 = [] then some ((Sum.inr E : xR), B) else none) = _
      rw [hh]
      show xrun P ct (n + m) (d + 1) mid (hpc + ln) (xrm l k9) [] B = _
      rw [Nat.add_comm n m]
      exact zrun_mono h4
    | none =>
      rw [hh] at h2
      refine ⟨n + 0 + 1, .inr E, B, ?_, h2.2⟩
      rw [head 0]
      show (match P.2.2.2 mid pc E with
        | some (hpc, ln, k) => xrun P ct (n + 0) (d + 1) mid (hpc + ln) (xrm l k) [] B
        | none => if (P.2.1 mid).2.2.2.2 = [] then some ((Sum.inr E : xR), B) else none) = _
      rw [hh]
      exact if_pos h2.1
/-- a call whose end is known -/
theorem zW.cct {mid2 : Nat} {as rest : List xV} {r : xR} {B : xA} (hc : zC P mid pc i ops) (hi : xinv i ops st A.2.2.2 = some (mid2, as, rest)) (hw : (as.map xcat).sum ≤ (P.2.1 mid2).2.2.1 ∧ (rest.map xcat).sum ≤ 8) (hct : ct d mid2 as A = some (r, B)) (k : zK P ct (d + 1) mid pc l rest Q r B) : zWc P ct (d + 1) mid pc l st A Q := by
  have head : ∀ m, xrun P ct (m + 1) (d + 1) mid pc l st A = (match (r, B) with
      | (.inl v, A2) => xrun P ct m (d + 1) mid (pc + 3) l (v.toList ++ rest) A2
      | (.inr E, A2) => match P.2.2.2 mid pc E with
        | some (hpc, ln, k) => xrun P ct m (d + 1) mid (hpc + ln) (xrm l k) [] A2
        | none => if (P.2.1 mid).2.2.2.2 = [] then some (.inr E, A2) else none) := by
    intro m
    rw [xrun, hc.1]
    dsimp only
    rw [xinv_noret hi, hc.2]
    dsimp only
    rw [xinv_noxs hi, hi]
    dsimp only
    rw [if_pos hw]
    rw [hct]
    cases r <;> rfl
  unfold zK at k
  cases r with
  | inl v =>
    obtain ⟨m, r2, B2, h4, h5⟩ := k
    exact ⟨m + 1, r2, B2, by rw [head m]; exact h4, h5⟩
  | inr E =>
    dsimp only at k
    cases hh : P.2.2.2 mid pc E with
    | some z =>
      obtain ⟨hpc, ln, k9⟩ := z
      rw [hh] at k
      obtain ⟨m, r2, B2, h4, h5⟩ := k
      refine ⟨m + 1, r2, B2, ?_, h5⟩
      rw [head m]
      show (match P.2.2.2 mid pc E with
        | some (hpc, ln, k) => xrun P ct m (d + 1) mid (hpc + ln) (xrm l k) [] B
        | none => if (P.2.1 mid).2.2.2.2 = [] then some ((Sum.inr E : xR), B) else none) = _
      rw [hh]
      exact h4
    | none =>
      rw [hh] at k
      refine ⟨0 + 1, .inr E, B, ?_, k.2⟩
      rw [head 0]
      show (match P.2.2.2 mid pc E with
        | some (hpc, ln, k) => xrun P ct 0 (d + 1) mid (hpc + ln) (xrm l k) [] B
        | none => if (P.2.1 mid).2.2.2.2 = [] then some ((Sum.inr E : xR), B) else none) = _
      rw [hh]
      exact if_pos k.1
/-- heaps: what was written last, what was not written -/
theorem zup_s {h : xH} {q : Nat × Nat} {o : xO} : xup h q o q = some o := if_pos rfl
theorem zup_n {h : xH} {q q2 : Nat × Nat} {o : xO} {x : Option xO} (hne : q2 ≠ q) (hx : h q2 = x) : xup h q o q2 = x := (if_neg hne).trans hx
end ZW
section ZW2
variable {P : xPr} {ct : zCt} {d mid pc : Nat} {l : xL} {st : List xV} {A : xA} {Q : xR → xA → Prop} {i : Instr} {ops : List Nat}
theorem zinvV {idx n mid2 ci : Nat} {tb : List Nat} {q : Nat × Nat} {fs as rest : List xV} {h : xH} (hd : st.drop n = .inr q :: rest) (hq : h q = some (.inl (ci, fs))) (hp : xpick ci tb = some mid2) (ha : (.inr q :: (st.take n).reverse) = as) : xinv (.invokevirtual idx) (n :: tb) st h = some (mid2, as, rest) := by
  subst ha
  show (match st.drop n with
    | .inr q :: rest => match h q with
      | some (.inl (ci, _)) => match xpick ci tb with
        | some mid => some (mid, (Sum.inr q : xV) :: (st.take n).reverse, rest)
        | none => none
      | _ => none
    | _ => none) = _
  rw [hd]
  show (match h q with
      | some (.inl (ci, _)) => match xpick ci tb with
        | some mid => some (mid, (Sum.inr q : xV) :: (st.take n).reverse, rest)
        | none => none
      | _ => none) = _
  rw [hq]
  show (match xpick ci tb with
        | some mid => some (mid, (Sum.inr q : xV) :: (st.take n).reverse, rest)
        | none => none) = _
  rw [hp]
theorem zret_z {rt : Option FieldType} {x : Int32} (h : rt = some .boolean) (hx : x = 0 ∨ x = 1) : xret rt .ireturn [.inl (.int x)] = some (some (.inl (.int x))) := by
  subst h
  exact if_pos hx
theorem zne {h : xH} {x y : Nat × Nat} {a b : xO} (hx : h x = some a) (hy : h y = some b) (hab : a ≠ b) : x ≠ y := by
  intro z
  subst z
  rw [hx] at hy
  exact hab (Option.some.inj hy)
theorem zW.maxi {idx : Nat} {x y : Int32} {r : List xV} (hc : zC P mid pc (.invokestatic idx) [81]) (hs : (r.map xcat).sum ≤ 8) (k : zWc P ct d mid (pc + 3) l (.inl (.int (if x < y then y else x)) :: r) A Q) : zWc P ct d mid pc l (.inl (.int y) :: .inl (.int x) :: r) A Q :=
  zW.step hc rfl (if_pos hs) k
theorem zW.mini {idx : Nat} {x y : Int32} {r : List xV} (hc : zC P mid pc (.invokestatic idx) [82]) (hs : (r.map xcat).sum ≤ 8) (k : zWc P ct d mid (pc + 3) l (.inl (.int (if y < x then y else x)) :: r) A Q) : zWc P ct d mid pc l (.inl (.int y) :: .inl (.int x) :: r) A Q :=
  zW.step hc rfl (if_pos hs) k
theorem zW.obj {idx : Nat} {q : Nat × Nat} {r : List xV} (hc : zC P mid pc (.invokespecial idx) []) (hs : (r.map xcat).sum ≤ 8) (k : zWc P ct d mid (pc + 3) l r A Q) : zWc P ct d mid pc l (.inr q :: r) A Q :=
  zW.step hc rfl (if_pos hs) k
theorem zW.cast {idx : Nat} {q : Nat × Nat} {r fs : List xV} {ci : Nat} (hc : zC P mid pc (.checkcast idx) ops) (hq : A.2.2.2 q = some (.inl (ci, fs))) (he : ops.elem ci = true) (k : zWc P ct d mid (pc + 3) l (.inr q :: r) A Q) : zWc P ct d mid pc l (.inr q :: r) A Q := by
  refine zW.s2 hc (fun _ => rfl) rfl ?_ k
  simp only [xs2]
  rw [hq]
  exact if_pos he
theorem zW.div {x y : Int32} {r : List xV} (hc : zC P mid pc .idiv ops) (hy : ¬ y = 0) (k : zWc P ct d mid (pc + 1) l (.inl (.int (x / y)) :: r) A Q) : zWc P ct d mid pc l (.inl (.int y) :: .inl (.int x) :: r) A Q :=
  zW.s1 hc (if_pos hy) k
theorem zW.rem {x y : Int32} {r : List xV} (hc : zC P mid pc .irem ops) (hy : ¬ y = 0) (k : zWc P ct d mid (pc + 1) l (.inl (.int (x - x / y * y)) :: r) A Q) : zWc P ct d mid pc l (.inl (.int y) :: .inl (.int x) :: r) A Q :=
  zW.s1 hc (if_pos hy) k
/-- a place of an array that was asked for ahead -/
theorem zin {j : Int32} {n : Nat} (h1 : ¬ j < 0) (h2 : j < Int32.ofNat n) (hn : n < 2147483648) : ¬ (j < 0 ∨ n ≤ j.toNatClampNeg) := by
  rintro (h | h)
  · exact h1 h
  · have e1 := Int32.lt_iff_toInt_lt.mp h2
    rw [Int32.toInt_ofNat_of_lt hn] at e1
    have e2 : j.toNatClampNeg = j.toInt.toNat := rfl
    have e0 : (0 : Int32).toInt = 0 := by decide
    have e3 : ¬ j.toInt < 0 := fun z => h1 (Int32.lt_iff_toInt_lt.mpr (by rw [e0]; exact z))
    omega
theorem zlt {x y : Int32} {b : Bool} (h : xcd .lt x y = b) : decide (x < y) = b := h
theorem zcd_lt {x y : Int32} (h : xcd .lt x y = true) : x < y := of_decide_eq_true h
theorem zcd_nlt {x y : Int32} (h : xcd .lt x y = false) : ¬ x < y := of_decide_eq_false h
theorem zcd_ge {x y : Int32} (h : xcd .ge x y = true) : ¬ x < y := fun z => absurd (yn_le_iff.mp (of_decide_eq_true h)) (Nat.not_le_of_lt (yn_lt_iff.mp z))
theorem zcd_nge {x y : Int32} (h : xcd .ge x y = false) : x < y := yn_lt_iff.mpr (Nat.lt_of_not_le (fun z => of_decide_eq_false h (yn_le_iff.mpr z)))
end ZW2
