set_option maxRecDepth 20000
section XTABS
/-- an instruction of a table: place, length, itself, operands -/
abbrev xEn : Type := Nat × Nat × Instr × List Nat
/-- a method of a table: itself, its instructions in pieces of 32 places, where it throws, where it catches -/
abbrev xEl : Type := xM × List (List xEn) × List (Nat × String) × List (Nat × String × Nat × Nat × Nat)
def xgt : List (List xEl) → Nat → Option xEl := fun LL k => match LL[k / 16]? with
  | some L => L[k % 16]?
  | none => none
def xfe : List xEn → Nat → Option (Instr × List Nat)
  | [], _ => none
  | e :: r, pc => match Nat.beq e.1 pc with
    | true => some e.2.2
    | false => xfe r pc
def xft : List (Nat × String) → Nat → Option String
  | [], _ => none
  | e :: r, pc => match Nat.beq e.1 pc with
    | true => some e.2
    | false => xft r pc
def xfh : List (Nat × String × Nat × Nat × Nat) → Nat → String → Option (Nat × Nat × Nat)
  | [], _, _ => none
  | e :: r, pc, E => match Nat.beq e.1 pc with
    | true => if e.2.1 = E then some e.2.2 else xfh r pc E
    | false => xfh r pc E
def xcode (T : List (List xEl)) (mid pc : Nat) : Option (Instr × List Nat) := match xgt T mid with
  | some el => match el.2.1[pc / 32]? with
    | some L => xfe L pc
    | none => none
  | none => none
def xM0 : xM := (⟨"", "", ""⟩, ⟨#[]⟩, 0, none, [])
def xMk (T : List (List xEl)) : xPr := (xcode T, fun mid => match xgt T mid with
  | some el => el.1
  | none => xM0, fun mid pc => match xgt T mid with
  | some el => xft el.2.2.1 pc
  | none => none, fun mid pc E => match xgt T mid with
  | some el => xfh el.2.2.2 pc E
  | none => none)
theorem xfe_mem {L : List xEn} {pc : Nat} {i : Instr} {ops : List Nat} (h : xfe L pc = some (i, ops)) : ∃ n, (pc, n, i, ops) ∈ L := by
  induction L with
  | nil => cases h
  | cons e r ih =>
    unfold xfe at h
    split at h
    next hb =>
      obtain ⟨a, n, j, o⟩ := e
      have ha : a = pc := Nat.eq_of_beq_eq_true hb
      subst ha
      cases h
      exact ⟨n, List.mem_cons_self⟩
    next =>
      obtain ⟨n, hn⟩ := ih h
      exact ⟨n, List.mem_cons_of_mem _ hn⟩
theorem xft_mem {L : List (Nat × String)} {pc : Nat} {E : String} (h : xft L pc = some E) : (pc, E) ∈ L := by
  induction L with
  | nil => cases h
  | cons e r ih =>
    unfold xft at h
    split at h
    next hb =>
      obtain ⟨a, n⟩ := e
      have ha : a = pc := Nat.eq_of_beq_eq_true hb
      subst ha
      cases h
      exact List.mem_cons_self
    next => exact List.mem_cons_of_mem _ (ih h)
theorem xfh_mem {L : List (Nat × String × Nat × Nat × Nat)} {pc : Nat} {E : String} {z : Nat × Nat × Nat} (h : xfh L pc E = some z) : (pc, E, z) ∈ L := by
  induction L with
  | nil => cases h
  | cons e r ih =>
    unfold xfh at h
    split at h
    next hb =>
      obtain ⟨a, n, y⟩ := e
      have ha : a = pc := Nat.eq_of_beq_eq_true hb
      subst ha
      split at h
      next hE =>
        dsimp only at hE
        subst hE
        cases h
        exact List.mem_cons_self
      next => exact List.mem_cons_of_mem _ (ih h)
    next => exact List.mem_cons_of_mem _ (ih h)
theorem xgt_mem {T : List (List xEl)} {k : Nat} {el : xEl} (h : xgt T k = some el) : ∃ L ∈ T, el ∈ L := by
  unfold xgt at h
  split at h
  next L hL => exact ⟨L, List.mem_of_getElem? hL, List.mem_of_getElem? h⟩
  next => cases h
/-- a program of one method: to say of a method what the tables say of a place -/
def xOne (m : xM) : xPr := (fun _ _ => none, fun _ => m, fun _ _ => none, fun _ _ _ => none)
def xdkb (i : Instr) (n : Nat) : Bool := match i with
  | .tableswitch _ _ _ _ => true
  | i => Nat.beq n (xln i)
theorem xdkb_ok {i : Instr} {n : Nat} (h : xdkb i n = true) : xdok i n := by
  unfold xdkb at h
  unfold xdok
  split at h
  next => trivial
  next hne =>
    split
    next => trivial
    next => exact Nat.eq_of_beq_eq_true h
/-- an instruction's decoding -/
def xdk (cc : ByteArray) (e : xEn) : Bool := decide (decode cc e.1 = .ok (e.2.2.1, e.2.1)) && xdkb e.2.2.1 e.2.1
/-- what the words say of an instruction -/
def xFo (P : xPr) (TS : List Cond) (cl : List vw_C) (m : xM) (e : xEn) : Prop := xT TS cl m.1.cls m.1.name e.2.2.1 e.2.2.2 ∧ xTc P TS cl m.1.cls e.2.2.1 e.2.2.2
/-- what must be shown of a method -/
def xFm (P : xPr) (TS : List Cond) (cl : List vw_C) (SL : xSL) (el : xEl) : Prop :=
  (∀ L ∈ el.2.1, L.all (xdk el.1.2.1) = true ∧ ∀ e ∈ L, xFo P TS cl el.1 e) ∧ (∀ t ∈ el.2.2.1, xthr (xOne el.1) TS SL 0 t.1 t.2) ∧ ∀ t ∈ el.2.2.2, xhdl (xOne el.1) TS SL 0 t.1 t.2.1 t.2.2.1 t.2.2.2.1 t.2.2.2.2
theorem xG_of {T : List (List xEl)} {cl : List vw_C} {TS : List Cond} {SL : xSL} (h1 : ∀ w ∈ TS, xkp w = true) (h2 : ∀ r ∈ cl, xcls TS r) (h3 : ∀ L ∈ T, ∀ el ∈ L, xFm (xMk T) TS cl SL el) : xG (xMk T) cl TS SL := by
  refine ⟨h1, fun ci r hr => h2 r (List.mem_of_getElem? hr), fun mid pc i ops h => ?_, fun mid pc E h => ?_, fun mid pc E hpc ln k h => ?_⟩
  · show (∃ n, decode ((xMk T).2.1 mid).2.1 pc = .ok (i, n) ∧ xdok i n) ∧ _
    have h : xcode T mid pc = some (i, ops) := h
    unfold xcode at h
    split at h
    next el hel =>
      have hm : (xMk T).2.1 mid = el.1 := by
        show (match xgt T mid with | some el => el.1 | none => xM0) = el.1
        rw [hel]
      rw [hm]
      split at h
      next L hL =>
        obtain ⟨n, hn⟩ := xfe_mem h
        obtain ⟨LL, hLL, hel2⟩ := xgt_mem hel
        obtain ⟨hd, hf⟩ := (h3 LL hLL el hel2).1 L (List.mem_of_getElem? hL)
        have hd := List.all_eq_true.mp hd _ hn
        unfold xdk at hd
        rw [Bool.and_eq_true] at hd
        exact ⟨⟨n, of_decide_eq_true hd.1, xdkb_ok hd.2⟩, hf _ hn⟩
      next => cases h
    next => cases h
  · have h : (match xgt T mid with | some el => xft el.2.2.1 pc | none => none) = some E := h
    split at h
    next el hel =>
      have hm : (xMk T).2.1 mid = el.1 := by
        show (match xgt T mid with | some el => el.1 | none => xM0) = el.1
        rw [hel]
      obtain ⟨LL, hLL, hel2⟩ := xgt_mem hel
      have := (h3 LL hLL el hel2).2.1 _ (xft_mem h)
      unfold xthr at this ⊢
      rw [hm]
      exact this
    next => cases h
  · have h : (match xgt T mid with | some el => xfh el.2.2.2 pc E | none => none) = some (hpc, ln, k) := h
    split at h
    next el hel =>
      have hm : (xMk T).2.1 mid = el.1 := by
        show (match xgt T mid with | some el => el.1 | none => xM0) = el.1
        rw [hel]
      obtain ⟨LL, hLL, hel2⟩ := xgt_mem hel
      have := (h3 LL hLL el hel2).2.2 _ (xfh_mem h)
      unfold xhdl at this ⊢
      rw [hm]
      exact this
    next => cases h
theorem xlt_0 {p : Nat → Prop} : ∀ j, j < 0 → p j := fun j h => absurd h (Nat.not_lt_zero j)
theorem xlt_s {p : Nat → Prop} (n : Nat) (h : ∀ j, j < n → p j) (h1 : p n) : ∀ j, j < n + 1 → p j := fun j hj => by
  rcases Nat.lt_succ_iff_lt_or_eq.mp hj with h2 | rfl
  · exact h j h2
  · exact h1
theorem xpk_0 {p : Nat → Nat → Prop} : ∀ ci mid, xpick ci [] = some mid → p ci mid := fun _ _ h => by cases h
theorem xpk_s {p : Nat → Nat → Prop} {a b : Nat} {r : List Nat} (h : p a b) (hr : ∀ ci mid, xpick ci r = some mid → p ci mid) : ∀ ci mid, xpick ci (a :: b :: r) = some mid → p ci mid := fun ci mid hp => by
  unfold xpick at hp
  split at hp
  next e =>
    subst e
    cases hp
    exact h
  next => exact hr ci mid hp
theorem xuws {C : String} {T : u_T} {TS : List Cond} (N : Nat) (h : ∀ j, j < N → u_lay C T j ∈ TS) : ∀ w ∈ u_ws C T N, w ∈ TS := by
  intro w hw
  obtain ⟨j, hj, rfl⟩ := List.mem_map.mp hw
  exact h j (List.mem_range.mp hj)
/-- words by their places -/
theorem xplaces {big ws : List Cond} (ps : List Nat) (h : ws = ps.filterMap (fun i => big[i]?)) (hk : ws.all xkp = true) : ∀ w ∈ ws, w ∈ big.filter xkp := by
  intro w hw
  have h1 := List.all_eq_true.mp hk w hw
  rw [h] at hw
  obtain ⟨i, -, hi⟩ := List.mem_filterMap.mp hw
  exact List.mem_filter.mpr ⟨List.mem_of_getElem? hi, h1⟩
theorem xw {big : List Cond} {w : Cond} (i : Nat) (h : big[i]? = some w) (hk : xkp w = true) : w ∈ big.filter xkp := List.mem_filter.mpr ⟨List.mem_of_getElem? h, hk⟩
def xMFm (m : xM) (TS : List Cond) (n : Nat) : Prop := plainName m.1.cls = true ∧ (m.1.cls ≠ "java/lang/invoke/MethodHandle" ∧ m.1.cls ≠ "java/lang/invoke/VarHandle") ∧ (parseMethodDescriptor m.1.desc).map (fun d => d.parameters.length) = some n ∧ m.2.2.1 ≤ 21 ∧ xcw m ∈ TS ∧ Cond.initialized m.1.cls ∈ TS
theorem xMFm_ok {P : xPr} {TS : List Cond} {mid n : Nat} {m : xM} (e : P.2.1 mid = m) (h : xMFm m TS n) : xMF P TS mid n := by
  unfold xMF
  rw [e]
  exact h
theorem xMF_of {P : xPr} {TS : List Cond} {mid n : Nat} {m : xM} (e : P.2.1 mid = m) (h : xMF (xOne m) TS 0 n) : xMF P TS mid n := by
  unfold xMF at h ⊢
  rw [e]
  exact h
theorem xsV_of {P : xPr} {TS : List Cond} {cl : List vw_C} {own : String} {idx n ci mid : Nat} {m : xM} (e : P.2.1 mid = m) (h : xsV (xOne m) TS cl own idx n ci 0) : xsV P TS cl own idx n ci mid := by
  unfold xsV xMF at h ⊢
  rw [e]
  exact h
theorem xsI_of {P : xPr} {TS : List Cond} {own : String} {idx n mid : Nat} {m : xM} (e : P.2.1 mid = m) (h : xsI (xOne m) TS own idx n 0) : xsI P TS own idx n mid := by
  unfold xsI xMF at h ⊢
  rw [e]
  exact h
theorem xsS_of {P : xPr} {TS : List Cond} {own : String} {idx n mid : Nat} {m : xM} (e : P.2.1 mid = m) (h : xsS (xOne m) TS own idx n 0) : xsS P TS own idx n mid := by
  unfold xsS xMF at h ⊢
  rw [e]
  exact h
end XTABS
