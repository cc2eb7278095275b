set_option maxRecDepth 20000
section XMAIN
/-- .. of a place that throws a new exception with a text -/
def xthr (P : xPr) (TS : List Cond) (SL : xSL) (mid pc : Nat) (E : String) : Prop := ∃ (ik is ic ix k9 : Nat) (rx : ByteArray) (text : String) (names : List String),
  decode (P.2.1 mid).2.1 pc = .ok (.new ik, 3) ∧ decode (P.2.1 mid).2.1 (pc + 3) = .ok (.dup, 1) ∧ ((decode (P.2.1 mid).2.1 (pc + 4) = .ok (.ldc is, 2) ∧ decode (P.2.1 mid).2.1 (pc + 6) = .ok (.invokespecial ic, 3) ∧ k9 = 9) ∨ decode (P.2.1 mid).2.1 (pc + 4) = .ok (.ldc_w is, 3) ∧ decode (P.2.1 mid).2.1 (pc + 7) = .ok (.invokespecial ic, 3) ∧ k9 = 10) ∧ decode (P.2.1 mid).2.1 (pc + k9) = .ok (.athrow, 1) ∧
  (decode rx 0 = .ok (.aload_n 0, 1) ∧ decode rx 1 = .ok (.aload_n 1, 1) ∧ decode rx 2 = .ok (.invokespecial ix, 3) ∧ decode rx 5 = .ok (.return_, 1)) ∧
  Bundle.fit E = true ∧ (∀ n ∈ names, Bundle.fit n = true) ∧ Cond.classLink (P.2.1 mid).1.cls ik E ∈ TS ∧ Cond.initialized E ∈ TS ∧ ((P.2.1 mid).1.cls, is, text) ∈ SL.1 ∧ (∀ w ∈ xx_at (P.2.1 mid).1.cls ic E ix rx names, w ∈ TS) ∧
  (∀ w ∈ Cond.classLink (P.2.1 mid).1.cls ik E :: Cond.initialized E :: xx_at (P.2.1 mid).1.cls ic E ix rx names, vx_ot w = true) ∧ names.length ≤ 4 ∧ (P.2.1 mid).2.2.2.2 = []
/-- .. of a place at which an exception is caught: the handler begins by storing it -/
def xhdl (P : xPr) (TS : List Cond) (SL : xSL) (mid pc : Nat) (E : String) (hpc ln k : Nat) : Prop := ∃ (pre suf : List ExceptionTableEntry) (x : ExceptionTableEntry) (name : String), tableOf (P.2.1 mid).2.2.2.2 = pre ++ x :: suf ∧
  (∀ z ∈ pre, covers z pc = false ∨ (z.catchType ≠ 0 ∧ ∃ nm : String, Cond.classLink (P.2.1 mid).1.cls z.catchType nm ∈ TS ∧ (E, nm) ∈ SL.2)) ∧ covers x pc = true ∧ x.catchType ≠ 0 ∧ Cond.classLink (P.2.1 mid).1.cls x.catchType name ∈ TS ∧ Cond.castable E name ∈ TS ∧ x.handlerPc = hpc ∧
  k < (P.2.1 mid).2.2.1 ∧ ((∃ f : Fin 4, f.val = k ∧ ln = 1 ∧ decode (P.2.1 mid).2.1 hpc = .ok (.astore_n f, 1)) ∨ ln = 2 ∧ decode (P.2.1 mid).2.1 hpc = .ok (.astore k, 2))
/-- THE TABLES OF A PROGRAM -/
def xG (P : xPr) (cl : List vw_C) (TS : List Cond) (SL : xSL) : Prop :=
  (∀ w ∈ TS, xkp w = true) ∧ (∀ (ci : Nat) (r : vw_C), cl[ci]? = some r → xcls TS r) ∧
  (∀ mid pc i ops, P.1 mid pc = some (i, ops) → (∃ n, decode (P.2.1 mid).2.1 pc = .ok (i, n) ∧ xdok i n) ∧ xT TS cl (P.2.1 mid).1.cls (P.2.1 mid).1.name i ops ∧ xTc P TS cl (P.2.1 mid).1.cls i ops) ∧
  (∀ mid pc E, P.2.2.1 mid pc = some E → xthr P TS SL mid pc E) ∧ (∀ mid pc E hpc ln k, P.2.2.2 mid pc E = some (hpc, ln, k) → xhdl P TS SL mid pc E hpc ln k)
/-- how a frame's run may end -/
def xFin (p : Program) (l0 : Launch) (e : Env) (R : Room) (s : State) (m : MethodId) (args : Array Value) (below : List Frame) (meth : Method) (c : Code) (D : va_G) (cl : List vw_C) (B : Nat) (P : xPr) (d mid : Nat) (Q : State → Prop) (ad : xN) (A : xA) (res : xR) (A2 : xA) : Prop :=
  (∀ (pc2 : Nat) (i : Instr) (ops : List Nat) (v : Option xV) (ad2 : xN) (H2 : Heap) (locs2 : List Loc) (ls2 : Array Slot) (l2 : xL) (st2 : List xV) (cells2 slots2 : Nat), P.1 mid pc2 = some (i, ops) → xret (P.2.1 mid).2.2.2.1 i st2 = some v → res = .inl v → xAg ad ad2 A.2.2.2 A2.2.2.2 → xI s D cl B ad2 A2.2.2.2 H2 locs2 → lv_has ls2 (P.2.1 mid).2.2.1 (xlm ad2 l2) → xok (xlv A2.2.2.2) l2 st2 → cells2 ≤ R.cells ∧ slots2 ≤ R.slots → W p l0 e R s m args below meth c H2 locs2 cells2 slots2 Q (F0 m pc2 ls2 (st2.map (xc ad2)))) ∧
  (∀ (pc2 : Nat) (E : String) (ad2 : xN) (H2 : Heap) (locs2 : List Loc) (ls2 : Array Slot) (l2 : xL) (st2 : List xV) (cells2 slots2 : Nat), P.2.2.1 mid pc2 = some E → res = .inr E → xAg ad ad2 A.2.2.2 A2.2.2.2 → xI s D cl B ad2 A2.2.2.2 H2 locs2 → lv_has ls2 (P.2.1 mid).2.2.1 (xlm ad2 l2) → xok (xlv A2.2.2.2) l2 st2 → cells2 + 1 ≤ R.cells ∧ slots2 + 6 ≤ R.slots → 8 ≤ d → (st2.map xcat).sum ≤ 8 → W p l0 e R s m args below meth c H2 locs2 cells2 slots2 Q (F0 m pc2 ls2 (st2.map (xc ad2)))) ∧
  (∀ (pc2 : Nat) (E : String) (ce : Cell) (q9 : Addr) (ad2 : xN) (H2 : Heap) (locs2 : List Loc) (ls2 : Array Slot) (rest : List Value) (cells2 slots2 : Nat), res = .inr E → (P.2.1 mid).2.2.2.2 = [] → xAg ad ad2 A.2.2.2 A2.2.2.2 → xI s D cl B ad2 A2.2.2.2 H2 locs2 → H2[q9]? = some ce → ce.vm = .none → s.vm.findClass E = some ce.cls → cells2 ≤ R.cells ∧ slots2 ≤ R.slots → vx_W p l0 e R s m args below meth c H2 locs2 cells2 slots2 Q (F0 m pc2 ls2 rest) q9)
theorem xFin.go {p : Program} {l0 : Launch} {e : Env} {R : Room} {s : State} {m : MethodId} {args : Array Value} {below : List Frame} {meth : Method} {c : Code} {D : va_G} {cl : List vw_C} {B : Nat} {P : xPr} {d mid : Nat} {Q : State → Prop} {ad ad1 : xN} {A A1 : xA} {res : xR} {A2 : xA} (h : xFin p l0 e R s m args below meth c D cl B P d mid Q ad A res A2) (g : xAg ad ad1 A.2.2.2 A1.2.2.2) : xFin p l0 e R s m args below meth c D cl B P d mid Q ad1 A1 res A2 :=
  ⟨fun pc2 i ops v ad2 H2 locs2 ls2 l2 st2 cells2 slots2 a1 a2 a3 a4 => h.1 pc2 i ops v ad2 H2 locs2 ls2 l2 st2 cells2 slots2 a1 a2 a3 (g.tr a4),
   fun pc2 E ad2 H2 locs2 ls2 l2 st2 cells2 slots2 a1 a2 a3 => h.2.1 pc2 E ad2 H2 locs2 ls2 l2 st2 cells2 slots2 a1 a2 (g.tr a3),
   fun pc2 E ce q9 ad2 H2 locs2 ls2 rest cells2 slots2 a1 a2 a3 => h.2.2 pc2 E ce q9 ad2 H2 locs2 ls2 rest cells2 slots2 a1 a2 (g.tr a3)⟩
/-- a stretch of a frame's run: from any machine that holds it, the machine comes to the frame's end -/
def xSim (l0 : Launch) (P : xPr) (cl : List vw_C) (TS : List Cond) (SL : xSL) (d mid pc : Nat) (l : xL) (st : List xV) (A : xA) (res : xR) (A2 : xA) : Prop :=
  (A.2.1 ≤ A2.2.1 ∧ A.2.2.1 ≤ A2.2.2.1) ∧ ∀ (p : Program) (e : Env) (R : Room) (s : State) (m : MethodId) (args : Array Value) (below : List Frame) (meth : Method) (c : Code) (H : Heap) (locs : List Loc) (cells slots : Nat) (Q : State → Prop) (ls : Array Slot) (ad : xN) (D : va_G) (B : Nat),
    xCx p s m args meth c D cl TS (P.2.1 mid).1.cls (P.2.1 mid).1.name (P.2.1 mid).2.1 → c.maxLocals = (P.2.1 mid).2.2.1 → c.exceptionTable.toList = tableOf (P.2.1 mid).2.2.2.2 → lv_has ls (P.2.1 mid).2.2.1 (xlm ad l) → xok (xlv A.2.2.2) l st → xI s D cl B ad A.2.2.2 H locs → xE s B ad A.2.2.2 → xZ s B SL → (d + 1 ≤ R.frames ∧ 40 * (d + 1) ≤ R.locals) → (cells + A2.2.1 ≤ R.cells + A.2.1 ∧ slots + A2.2.2.1 ≤ R.slots + A.2.2.1) →
    xFin p l0 e R s m args below meth c D cl B P d mid Q ad A res A2 → W p l0 e R s m args below meth c H locs cells slots Q (F0 m pc ls (st.map (xc ad)))
theorem xar_lm (ad : xN) : ∀ (vs : List xV) (i : Nat), xlm ad (xar i vs) = lv_args i (vs.map (xc ad))
  | [], _ => rfl
  | v :: vs, i => by
    show (i, xc ad v) :: xlm ad (xar _ vs) = (i, xc ad v) :: lv_args _ (vs.map (xc ad))
    rw [xar_lm ad vs, xc_cat]
theorem xar_ok {Lv : xV → Prop} : ∀ (vs : List xV) (i : Nat), (∀ v ∈ vs, Lv v) → ∀ q ∈ xar i vs, Lv q.2
  | [], _, _ => fun _ h => by cases h
  | v :: vs, i, h => by
    intro q hq
    rcases List.mem_cons.mp hq with rfl | hq
    · exact h v List.mem_cons_self
    · exact xar_ok vs _ (fun u hu => h u (List.mem_cons_of_mem _ hu)) q hq
theorem xsl_len (ad : xN) : ∀ vs : List xV, (lg_sl (vs.map (xc ad))).length = (vs.map xcat).sum
  | [] => rfl
  | v :: vs => by
    have ih := xsl_len ad vs
    have h1 : lg_sl ((v :: vs).map (xc ad)) = (if (xc ad v).category = 2 then [Slot.val (xc ad v), .second] else [.val (xc ad v)]) ++ lg_sl (vs.map (xc ad)) := by
      simp [lg_sl]
    rw [h1, List.length_append, ih, List.map_cons, List.sum_cons, ← xc_cat ad v]
    rcases lv_cat (xc ad v) with h | h <;> simp [h]
theorem xsum_c (ad : xN) (vs : List xV) : ((vs.map (xc ad)).map fun v => v.category).sum = (vs.map xcat).sum := by
  rw [List.map_map, show ((fun v : Value => v.category) ∘ xc ad) = xcat from funext fun v => xc_cat ad v]
end XMAIN
