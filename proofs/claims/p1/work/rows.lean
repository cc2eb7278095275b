section
/-! ===== BEGIN words of one list among another's, by their places ===== -/
theorem goodIn_r {big : List Cond} (ws : List Cond) (ps : List Nat) (hp : ws = ps.filterMap (fun i => big[i]?)) (h : ws.all goodWord = true) : GoodIn big ws := by
  intro w hw
  have h1 := List.all_eq_true.mp h w hw
  rw [hp] at hw
  obtain ⟨i, -, hi⟩ := List.mem_filterMap.mp hw
  have hm : w ∈ big := by first | exact List.mem_of_getElem? hi | exact List.getElem?_mem hi
  exact ⟨hm, good_of_word h1⟩
theorem goodIn_app {big a b : List Cond} (ha : GoodIn big a) (hb : GoodIn big b) : GoodIn big (a ++ b) := fun w h => (List.mem_append.mp h).elim (ha w) (hb w)
theorem goodIn_ca {big a b : List Cond} {c : Cond} (ha : GoodIn big (c :: a)) (hb : GoodIn big b) : GoodIn big (c :: (a ++ b)) := fun w h => (List.mem_cons.mp h).elim (fun e => ha w (List.mem_cons.mpr (Or.inl e))) (fun h => (List.mem_append.mp h).elim (fun h => ha w (List.mem_cons.mpr (Or.inr h))) (hb w))
theorem goodIn_sub {big ws : List Cond} (hm : ∀ w ∈ ws, w ∈ big) (h : ws.all goodWord = true) : GoodIn big ws := fun w hw => ⟨hm w hw, good_of_word (List.all_eq_true.mp h w hw)⟩
/-! ===== END ===== -/
/-! ===== BEGIN exceptions that leave a method, and their catching by the caller (launches without stack traces) ===== -/
section VXA
/-! The laws vx_back, vx_callV, vx_callS, vx_callSW, vx_throw0, vx_throwS follow proofs of the library, with one case more: JvmDerived/Free/Laws.lean (Back.of_free), Shelf42/LK1.lean (callV, callS), Shelf/KitTraced.lean (throwNew0V, throwNewS). -/
/-- where a method has thrown q: the class by its name, the cell, what was written, the world -/
def vx_T (XC : String → State → State → Prop) (st : State) (q : Addr) (t : State) (mc ms : Nat) (free : Addr → Prop) : Prop :=
  ∃ (E : String) (ce : Cell) (L : List Loc), XC E st t ∧ t.heap[q]? = some ce ∧ ce.vm = .none ∧ st.vm.findClass E = some ce.cls ∧ st.WarmedH t.vm ∧ st.sameButNew ({ t with vm := st.vm } : State) L mc ms ∧ ∀ z ∈ L, free z.base
def vx_Q (Qc : Array Value → State → Outcome → State → Prop) (XC : String → State → State → Prop) (mc ms : Nat) (free : Addr → Prop) : Array Value → State → Outcome → State → Prop := fun a st o t =>
  (Qc a st o t ∧ ∃ L, FrameEnd st o t L mc ms ∧ ∀ q ∈ L, free q.base) ∨ ∃ q, o = .threw q ∧ vx_T XC st q t mc ms free
/-- a callee that returns or throws -/
def vx_Met (l : Launch) (y : MethodName) (ws : List Cond) (rm : Room) (Pc : Array Value → State → Prop) (Qc : Array Value → State → Outcome → State → Prop) (XC : String → State → State → Prop) (mc ms : Nat) (free : Addr → Prop) : Prop :=
  MetFree l y (headSpec ws rm) Pc (fun _ _ _ _ _ => True) (vx_Q Qc XC mc ms free)
def vx_Post (XC : String → State → State → Prop) (mc ms : Nat) (free : Addr → Prop) : Pt → Array Value → Addr → Pt → Prop := fun A a q B =>
  ∃ (g : JFrame) (mk : MethodId) (t : State) (L : List Loc) (E : String) (ce : Cell), B.U.heap = t.heap ∧ B.U.vm = t.vm ∧ XC E (A.U.calling g mk a) t ∧ t.heap[q]? = some ce ∧ ce.vm = .none ∧ A.U.vm.findClass E = some ce.cls ∧ B.locs = A.locs ++ L ∧ (∀ z ∈ L, free z.base) ∧ B.cells = A.cells + mc ∧ B.slots = A.slots + ms
def vx_Back (l : Launch) (R : Room) (p : Program) (e : Env) (below : List Frame) (s : State) (sargs : Array Value) (y : MethodName) (len W9 : Nat)
    (Pre : Pt → Array Value → Prop) (Post : Pt → Array Value → Option Value → Pt → Prop) (PostX : Pt → Array Value → Addr → Pt → Prop) : Prop :=
  ∀ (m : MethodId) (meth : Method) (c : Code) (A : Pt) (g : JFrame) (ig : Instr) (mk : MethodId) (a : Array Value),
    Stand p l e R s m sargs below meth c A.U A.locs A.cells A.slots → g.method = m → g.locals.size = c.maxLocals → decode c.code g.pc = .ok (ig, len) →
    2 * g.monitorRoom + (g.stack.map fun v => v.category).sum ≤ W9 → A.U.methodNamed? y = some mk → Pre A a →
    (∃ (v : Option Value) (B : Pt), Stand p l e R s m sargs below meth c B.U B.locs B.cells B.slots ∧ Post A a v B ∧
      Steps p.tables e below (doInvoke e (A.U.setTop g) [] mk a).1 (B.U.setTop { g with pc := g.pc + len, stack := v.toList ++ g.stack })) ∨
    (∃ (q : Addr) (B : Pt), Stand p l e R s m sargs below meth c B.U B.locs B.cells B.slots ∧ PostX A a q B ∧
      Steps p.tables e below (doInvoke e (A.U.setTop g) [] mk a).1 ((B.U.setTop g).pushFrame (.throwing q)))
section Payer
variable {l : Launch} {R : Room} {p : Program} {e : Env} {below : List Frame} {s : State} {sargs : Array Value} {y : MethodName} {len W9 : Nat}
theorem vx_back {ws : List Cond} {rm : Room} {Pc : Array Value → State → Prop} {Qc : Array Value → State → Outcome → State → Prop} {XC : String → State → State → Prop} {mc ms : Nat} {free : Addr → Prop} {bytes : ByteArray} {maxL : Nat} {ret : Option FieldType}
    (hM : vx_Met l y ws rm Pc Qc XC mc ms free) (hblind : FrameBlind Pc) (hrc : rm.cells = mc) (hrs : rm.slots = ms)
    (hframes : rm.frames + 1 ≤ R.frames) (hlocals : W9 + (maxL + 11) + rm.locals ≤ R.locals)
    (hws : ∀ w ∈ ws, ∀ a' U, s.WarmedH U.vm → w.before a' U = true) (hcode : Cond.code y bytes maxL ret ∈ ws) (hinit : ∀ a' U, s.WarmedH U.vm → (Cond.initialized y.cls).before a' U = true) :
    vx_Back l R p e below s sargs y len W9 (PreOf R mc ms Pc) (PostOf Qc mc ms free) (vx_Post XC mc ms free) := by
  intro m meth c A g ig mk a X hg hsize hdg hW hn hp
  have h1 : (headSpec ws rm).pre.before a A.U = true := atoms_intro fun w hw => hws w hw _ _ X.warmed
  have h2 : (Cond.code y bytes maxL ret).before a A.U = true := hws _ hcode _ _ X.warmed
  have h3 : (Cond.initialized y.cls).before a A.U = true := hinit _ _ X.warmed
  have h4 : A.cells + (headSpec ws rm).room.cells ≤ R.cells := by rw [show (headSpec ws rm).room.cells = mc from hrc]; exact hp.1
  have h5 : A.slots + (headSpec ws rm).room.slots ≤ R.slots := by rw [show (headSpec ws rm).room.slots = ms from hrs]; exact hp.2.1
  have hPc : Pc a (A.U.calling g mk a) := hblind _ _ _ _ hp.2.2
  obtain ⟨U, Ls, c0, s0⟩ := A
  dsimp only [Pt.U, Pt.locs, Pt.cells, Pt.slots] at h1 h2 h3 h4 h5 X hn hPc ⊢
  obtain ⟨methY, cY, hmY, hcY, -, hlY, -, -, -, -⟩ := Cond.code_spec hn h2
  obtain ⟨kY, hkY, -⟩ := className_of_methodNamed hn
  have hinitY : kY.init = .initialized := Cond.initialized_spec (findClass_of_methodNamed hn) hkY h3
  have h : At U g.method c below := by rw [hg]; exact X.here
  have hlocals9 : W9 + (maxL + 11) + (headSpec ws rm).room.locals ≤ R.locals := hlocals
  have happ : (headSpec ws rm).appliesLoose y e.platform (U.calling g mk a) = true :=
    Spec.appliesLoose_calling (g := g) h hdg hn hkY hinitY
      (X.room_calling (g := g) (R' := (headSpec ws rm).room) hsize hmY hcY hframes (by rw [hlY]; omega) h4 h5) h1
  obtain ⟨mid, hmid⟩ := h.above
  have hfr : (U.setTop g).frames = (.java g :: mid) ++ below := by rw [State.frames_setTop' g h.top, hmid]; rfl
  obtain ⟨o, s₂, hsteps, -, hend, hq⟩ := Steps.callFree hM p X.admits X.cas X.clock (acts := []) hfr happ hPc trivial
  have hq' : vx_Q Qc XC mc ms free a (U.calling g mk a) o s₂ := hq
  rw [State.frames_setTop' g h.top] at hend
  obtain ⟨g₀, hg0⟩ := Option.isSome_iff_exists.mp h.top
  obtain ⟨r, hr⟩ := State.topJava?_eq_some.mp hg0
  have hr' : (({ U with heap := s₂.heap, slotsUsed := s₂.slotsUsed } : State).setVm s₂.vm).frames = .java g₀ :: r := hr
  rcases hq' with ⟨hqc, L, hfe, hL⟩ | ⟨q, rfl, E, ce, L, hx, hce, hcv, hcl, hW₂, hsm, hL⟩
  · obtain ⟨⟨v, rfl⟩, hW₂, e2, q2, q3, q4, q5, q6⟩ := id hfe
    have e3 : s₂ = ({ (U.calling g mk a).setFrames s₂.frames with heap := s₂.heap, slotsUsed := s₂.slotsUsed } : State).setVm s₂.vm := by
      have : s₂ = ({ s₂ with vm := (U.calling g mk a).vm } : State).setVm s₂.vm := rfl
      rw [e2] at this
      exact this
    obtain ⟨c₂, i₂, len₂, hc₂, hd₂, hf₂⟩ := hend
    have hW' : U.WarmedH s₂.vm := hW₂
    have hcc : c₂ = c := by
      have h1 : s₂.code? g.method = U.code? g.method := by
        rw [State.code?_eq, State.code?_eq, hW'.alike.method?]
      exact Option.some.inj (hc₂.symm.trans (h1.trans h.code))
    subst hcc
    have hlen : len₂ = len := by rw [hdg] at hd₂; cases hd₂; rfl
    subst hlen
    have hs₂ : s₂ = (({ U with heap := s₂.heap, slotsUsed := s₂.slotsUsed } : State).setVm s₂.vm).setTop { g with pc := g.pc + len₂, stack := v.toList ++ g.stack } := by
      refine e3.trans ?_
      rw [hf₂, State.calling_eq h.top, State.setFrames_setFrames, State.setTop_of_frames _ hr', hr]
      rfl
    have hsame : U.sameButNew ({ U with heap := s₂.heap, slotsUsed := s₂.slotsUsed } : State) L mc ms := by
      refine ⟨?_, q2, q3, q4, q5, q6⟩
      obtain ⟨t, ht, -⟩ := State.frames_cons hr
      show ({ U with heap := s₂.heap, slotsUsed := s₂.slotsUsed } : State) = { U.setFrames U.frames with heap := s₂.heap, slotsUsed := s₂.slotsUsed }
      rw [State.setFrames_self ht]
    subst hg
    refine Or.inl ⟨v, ⟨(({ U with heap := s₂.heap, slotsUsed := s₂.slotsUsed } : State).setVm s₂.vm), Ls ++ L, c0 + mc, s0 + ms⟩,
      ⟨X.admits, X.cas, X.clock, X.frames, X.room, X.hears, X.method, X.code, (X.here.setHeapUsed s₂.heap s₂.slotsUsed).setVm hW'.alike, X.tail, State.WarmedH.trans X.warmed hW', X.limits, X.bytes, X.same.trans (hsame.setVm s.vm)⟩,
      ⟨g, mk, s₂, L, rfl, rfl, hqc, rfl, hL, rfl, rfl⟩, ?_⟩
    show Steps p.tables e below _ ((({ U with heap := s₂.heap, slotsUsed := s₂.slotsUsed } : State).setVm s₂.vm).setTop { g with pc := g.pc + len₂, stack := v.toList ++ g.stack })
    rw [← hs₂]
    exact hsteps
  · obtain ⟨e2, q2, q3, q4, q5, q6⟩ := id hsm
    have e3 : s₂ = ({ (U.calling g mk a).setFrames s₂.frames with heap := s₂.heap, slotsUsed := s₂.slotsUsed } : State).setVm s₂.vm := by
      have : s₂ = ({ s₂ with vm := (U.calling g mk a).vm } : State).setVm s₂.vm := rfl
      rw [e2] at this
      exact this
    have hf₂ : s₂.frames = .throwing q :: .java g :: U.frames.tail := hend
    have hW' : U.WarmedH s₂.vm := hW₂
    have hs₂ : s₂ = ((({ U with heap := s₂.heap, slotsUsed := s₂.slotsUsed } : State).setVm s₂.vm).setTop g).pushFrame (.throwing q) := by
      refine e3.trans ?_
      rw [hf₂, State.calling_eq h.top, State.setFrames_setFrames, State.pushFrame, State.frames_setTop _ hr', State.setTop_of_frames _ hr', State.setFrames_setFrames, hr]
      rfl
    have hsame : U.sameButNew ({ U with heap := s₂.heap, slotsUsed := s₂.slotsUsed } : State) L mc ms := by
      refine ⟨?_, q2, q3, q4, q5, q6⟩
      obtain ⟨t, ht, -⟩ := State.frames_cons hr
      show ({ U with heap := s₂.heap, slotsUsed := s₂.slotsUsed } : State) = { U.setFrames U.frames with heap := s₂.heap, slotsUsed := s₂.slotsUsed }
      rw [State.setFrames_self ht]
    subst hg
    refine Or.inr ⟨q, ⟨(({ U with heap := s₂.heap, slotsUsed := s₂.slotsUsed } : State).setVm s₂.vm), Ls ++ L, c0 + mc, s0 + ms⟩,
      ⟨X.admits, X.cas, X.clock, X.frames, X.room, X.hears, X.method, X.code, (X.here.setHeapUsed s₂.heap s₂.slotsUsed).setVm hW'.alike, X.tail, State.WarmedH.trans X.warmed hW', X.limits, X.bytes, X.same.trans (hsame.setVm s.vm)⟩,
      ⟨g, mk, s₂, L, E, ce, rfl, rfl, hx, hce, hcv, hcl, rfl, hL, rfl, rfl⟩, ?_⟩
    show Steps p.tables e below _ (((({ U with heap := s₂.heap, slotsUsed := s₂.slotsUsed } : State).setVm s₂.vm).setTop g).pushFrame (.throwing q))
    rw [← hs₂]
    exact hsteps
end Payer
section Calls
variable {p : Program} {l : Launch} {e : Env} {R : Room} {s : State} {m : MethodId} {args : Array Value} {below : List Frame} {meth : Method} {c : Code} {T : State} {locs : List Loc} {cells slots : Nat}
theorem vx_callV (X : Stand p l e R s m args below meth c T locs cells slots) (hexec : p.tables.exec = Jvm.exec) {own C : String} {index : Nat} {y : MethodName} {bytes : ByteArray} {maxL : Nat} {ret : Option FieldType}
    (hown : s.vm.findClass own = some m.cls) (hlink : (Cond.methodLink own index y).before args s = true) (hinst : (Cond.instanceMethod y).before args s = true) (hsel : (Cond.selects C y y).before args s = true)
    (hcode : (Cond.code y bytes maxL ret).before args s = true) (hy : y.cls ≠ "java/lang/invoke/MethodHandle" ∧ y.cls ≠ "java/lang/invoke/VarHandle")
    {W9 : Nat} {Pre : Pt → Array Value → Prop} {Post : Pt → Array Value → Option Value → Pt → Prop} {PostX : Pt → Array Value → Addr → Pt → Prop} (hK : vx_Back l R p e below s args y 3 W9 Pre Post PostX)
    {b : Addr} {cellB : Cell} (hcell : T.heap[b]? = some cellB) (hobj : cellB.vm.isStatics = false) (hcls : s.vm.findClass C = some cellB.cls)
    {g : JFrame} (hg : g.method = m) (hsize : g.locals.size = c.maxLocals) {argsL rest : List Value} (hlen : ∀ sig, parseMethodDescriptor y.desc = some sig → argsL.length = sig.parameters.length)
    (hstack : g.stack = argsL.reverse ++ .ref b :: rest) (hW : 2 * g.monitorRoom + (rest.map fun v => v.category).sum ≤ W9) (hdg : decode c.code g.pc = .ok (.invokevirtual index, 3))
    (hpre : ∀ vm₁, s.WarmedH vm₁ → Pre ⟨T.setVm vm₁, locs, cells, slots⟩ (Value.ref b :: argsL).toArray) :
    (∃ (v : Option Value) (vm₁ : Vm) (B : Pt), s.WarmedH vm₁ ∧ Stand p l e R s m args below meth c B.U B.locs B.cells B.slots ∧ Post ⟨T.setVm vm₁, locs, cells, slots⟩ (Value.ref b :: argsL).toArray v B ∧
      ∀ target, Steps p.tables e below (B.U.setTop { g with pc := g.pc + 3, stack := v.toList ++ rest }) target → Steps p.tables e below (T.setTop g) target) ∨
    (∃ (q : Addr) (vm₁ : Vm) (B : Pt), s.WarmedH vm₁ ∧ Stand p l e R s m args below meth c B.U B.locs B.cells B.slots ∧ PostX ⟨T.setVm vm₁, locs, cells, slots⟩ (Value.ref b :: argsL).toArray q B ∧
      Steps p.tables e below (T.setTop g) ((B.U.setTop { g with stack := rest }).pushFrame (.throwing q))) := by
  obtain ⟨mk, methM, hnamed, hmethM, hstM, habM⟩ := Cond.instanceMethod_spec hinst
  obtain ⟨methM', cM, hmethM', -, -, -, -, -, -, hsigM⟩ := Cond.code_spec hnamed hcode
  cases hmethM.symm.trans hmethM'
  obtain ⟨c2, r2, m2, q1, q2, q3, q4, kP, hkP, hkPi⟩ := Cond.selects_spec hsel
  cases hcls.symm.trans q1
  cases (State.methodFound?_of_named hnamed hy).symm.trans q2
  cases hnamed.symm.trans q3
  have hselP : selectMethod e.platform s.vm cellB.cls mk = .method mk := by rw [Launch.admits_selectMethod X.admits]; exact q4
  obtain ⟨vm₁, X₁, hstep₁⟩ := X.invokevirtual hexec hown hlink hnamed hmethM hstM hkP hkPi hy (a := b) (cell := cellB) hcell
    (fun z h => by rw [h] at hobj; cases hobj) hselP hmethM habM hkP hkPi (g := g) hg (argsL := argsL) (rest := rest) (hlen _ hsigM) hstack hdg
  rcases hK m meth c ⟨T.setVm vm₁, locs, cells, slots⟩ { g with stack := rest } (.invokevirtual index) mk (Value.ref b :: argsL).toArray X₁ hg hsize hdg hW (X₁.named hnamed) (hpre vm₁ X₁.warmed) with ⟨v, B, X', hpost, hsteps⟩ | ⟨q, B, X', hpost, hsteps⟩
  · exact Or.inl ⟨v, vm₁, B, X₁.warmed, X', hpost, fun target h => hstep₁ _ fun acts => by rw [doInvoke_state]; exact hsteps.trans h⟩
  · exact Or.inr ⟨q, vm₁, B, X₁.warmed, X', hpost, hstep₁ _ fun acts => by rw [doInvoke_state]; exact hsteps⟩
theorem vx_callS (X : Stand p l e R s m args below meth c T locs cells slots) (hexec : p.tables.exec = Jvm.exec) {own : String} {index : Nat} {y : MethodName} {bytes : ByteArray} {maxL : Nat} {ret : Option FieldType}
    (hown : s.vm.findClass own = some m.cls) (hlink : (Cond.methodLink own index y).before args s = true) (hstat : (Cond.static y).before args s = true) (hinit : (Cond.initialized y.cls).before args s = true)
    (hcode : (Cond.code y bytes maxL ret).before args s = true) (hy : y.cls ≠ "java/lang/invoke/MethodHandle" ∧ y.cls ≠ "java/lang/invoke/VarHandle")
    {W9 : Nat} {Pre : Pt → Array Value → Prop} {Post : Pt → Array Value → Option Value → Pt → Prop} {PostX : Pt → Array Value → Addr → Pt → Prop} (hK : vx_Back l R p e below s args y 3 W9 Pre Post PostX)
    {g : JFrame} (hg : g.method = m) (hsize : g.locals.size = c.maxLocals) {argsL rest : List Value} (hlen : ∀ sig, parseMethodDescriptor y.desc = some sig → argsL.length = sig.parameters.length)
    (hstack : g.stack = argsL.reverse ++ rest) (hW : 2 * g.monitorRoom + (rest.map fun v => v.category).sum ≤ W9) (hdg : decode c.code g.pc = .ok (.invokestatic index, 3))
    (hpre : ∀ vm₁, s.WarmedH vm₁ → Pre ⟨T.setVm vm₁, locs, cells, slots⟩ argsL.toArray) :
    (∃ (v : Option Value) (vm₁ : Vm) (B : Pt), s.WarmedH vm₁ ∧ Stand p l e R s m args below meth c B.U B.locs B.cells B.slots ∧ Post ⟨T.setVm vm₁, locs, cells, slots⟩ argsL.toArray v B ∧
      ∀ target, Steps p.tables e below (B.U.setTop { g with pc := g.pc + 3, stack := v.toList ++ rest }) target → Steps p.tables e below (T.setTop g) target) ∨
    (∃ (q : Addr) (vm₁ : Vm) (B : Pt), s.WarmedH vm₁ ∧ Stand p l e R s m args below meth c B.U B.locs B.cells B.slots ∧ PostX ⟨T.setVm vm₁, locs, cells, slots⟩ argsL.toArray q B ∧
      Steps p.tables e below (T.setTop g) ((B.U.setTop { g with stack := rest }).pushFrame (.throwing q))) := by
  obtain ⟨mk, hnamed⟩ := Cond.code_named hcode
  obtain ⟨methM, cM, hmethM, -, -, -, -, -, -, hsigM⟩ := Cond.code_spec hnamed hcode
  have hstatic : methM.isStatic = true := Cond.static_spec hnamed hmethM hstat
  obtain ⟨kP, hkP, -⟩ := className_of_methodNamed hnamed
  have hinitP : kP.init = .initialized := Cond.initialized_spec (findClass_of_methodNamed hnamed) hkP hinit
  obtain ⟨vm₁, X₁, hstep₁⟩ := X.invokestatic hexec hown hlink hnamed hmethM hstatic hkP hinitP hy (g := g) hg (argsL := argsL) (rest := rest) (hlen _ hsigM) hstack hdg
  rcases hK m meth c ⟨T.setVm vm₁, locs, cells, slots⟩ { g with stack := rest } (.invokestatic index) mk argsL.toArray X₁ hg hsize hdg hW (X₁.named hnamed) (hpre vm₁ X₁.warmed) with ⟨v, B, X', hpost, hsteps⟩ | ⟨q, B, X', hpost, hsteps⟩
  · exact Or.inl ⟨v, vm₁, B, X₁.warmed, X', hpost, fun target h => hstep₁ _ fun acts => by rw [doInvoke_state]; exact hsteps.trans h⟩
  · exact Or.inr ⟨q, vm₁, B, X₁.warmed, X', hpost, hstep₁ _ fun acts => by rw [doInvoke_state]; exact hsteps⟩
end Calls
theorem vx_cls {s : State} {T : State} {vm₁ : Vm} {E : String} {k : ClassId} (hW : s.WarmedH vm₁) (h : (T.setVm vm₁).vm.findClass E = some k) : s.vm.findClass E = some k := by
  have h1 : vm₁.findClass E = some k := h
  rw [hW.alike.findClass] at h1
  exact h1
/-- the method's frame g, with q thrown over it -/
def vx_W (p : Program) (l : Launch) (e : Env) (R : Room) (s : State) (m : MethodId) (args : Array Value) (below : List Frame) (meth : Method) (c : Code) (H : Heap) (locs : List Loc) (cells slots : Nat) (Q : State → Prop) (g : JFrame) (q : Addr) : Prop :=
  ∀ T : State, T.heap = H → Stand p l e R s m args below meth c T locs cells slots → ∃ t, Steps p.tables e below ((T.setTop g).pushFrame (.throwing q)) t ∧ Q t
def vx_Run (p : Program) (l : Launch) (e : Env) (R : Room) (s : State) (m : MethodId) (args : Array Value) (below : List Frame) (meth : Method) (c : Code) (H : Heap) (locs : List Loc) (cells slots mc ms : Nat) (g : JFrame) (rest : List Value) (Qa : State → Outcome → State → Prop) (XC : String → State → State → Prop) (free : Addr → Prop) : Prop :=
  ∀ T : State, T.heap = H → Stand p l e R s m args below meth c T locs cells slots →
    (∃ (v : Option Value) (st₀ t T' : State) (L : List Loc), st₀.heap = H ∧ Stand p l e R s m args below meth c T' (locs ++ L) (cells + mc) (slots + ms) ∧ (∀ q ∈ L, free q.base) ∧ T'.heap = t.heap ∧ T'.vm = t.vm ∧ Qa st₀ (.returned v) t ∧
      Goes p e below T g T' { g with pc := g.pc + 3, stack := v.toList ++ rest }) ∨
    (∃ (q : Addr) (st₀ t T' : State) (L : List Loc) (E : String) (ce : Cell), st₀.heap = H ∧ Stand p l e R s m args below meth c T' (locs ++ L) (cells + mc) (slots + ms) ∧ (∀ z ∈ L, free z.base) ∧ T'.heap = t.heap ∧ T'.vm = t.vm ∧ XC E st₀ t ∧ t.heap[q]? = some ce ∧ ce.vm = .none ∧ s.vm.findClass E = some ce.cls ∧
      Steps p.tables e below (T.setTop g) ((T'.setTop { g with stack := rest }).pushFrame (.throwing q)))
def vx_X {S : Type} (px : S → Prop) (B : String → S → State → Prop) (A : Nat → Prop) : String → State → State → Prop := fun E st t => ∃ u : S, px u ∧ B E u t ∧ va_F A st t
section Runs
variable {p : Program} {l : Launch} {e : Env} {R : Room} {s : State} {m : MethodId} {args : Array Value} {below : List Frame} {meth : Method} {c : Code} {H : Heap} {locs : List Loc} {cells slots : Nat}
variable {y : MethodName} {bytes cc : ByteArray} {maxL nL mc ms n index : Nat} {ret : Option FieldType} {ws : List Cond} {rm : Room} {Pc : Array Value → State → Prop} {Qc : Array Value → State → Outcome → State → Prop} {XC : String → State → State → Prop} {free : Addr → Prop} {Ts : List Cond} {own C : String} {b : Addr} {As rest : List Value} {g : JFrame}
theorem vx_callBack (cb : CallB R s args own index y bytes maxL ret ws rm mc ms n) (hM : vx_Met l y ws rm Pc Qc XC mc ms free) (hbl : FrameBlind Pc) : vx_Back l R p e below s args y 3 8 (PreOf R mc ms Pc) (PostOf Qc mc ms free) (vx_Post XC mc ms free) := by
  obtain ⟨hrc, hrs, hfr, hlo, hws, hcw, -, hini, -⟩ := cb
  exact vx_back (bytes := bytes) (maxL := maxL) (ret := ret) hM hbl hrc hrs hfr hlo hws hcw (fun a' U hW => word_at hW (Or.inl (by first | rfl | simp [Cond.onTables, Cond.keeps, Cond.steady])) hini)
theorem vx_runV (S : CallFix p m c cc nL s args Ts own) (hM : vx_Met l y ws rm Pc Qc XC mc ms free) (cw : CallW R s args own C index y bytes maxL ret ws rm mc ms n) (hp : PreV s H C b Pc As)
    (hg : g.method = m) (hn : As.length = n) (hsize : g.locals.size = nL) (hstack : g.stack = As.reverse ++ .ref b :: rest) (hW : 2 * g.monitorRoom + (rest.map fun v => v.category).sum ≤ 8) (hdg : decode cc g.pc = .ok (.invokevirtual index, 3)) (hf : cells + mc ≤ R.cells ∧ slots + ms ≤ R.slots) :
    vx_Run p l e R s m args below meth c H locs cells slots mc ms g rest (Qc (Value.ref b :: As).toArray) XC free := by
  have hK : vx_Back l R p e below s args y 3 8 (PreOf R mc ms Pc) (PostOf Qc mc ms free) (vx_Post XC mc ms free) := vx_callBack cw.1 hM hp.1
  obtain ⟨⟨-, -, -, -, -, -, hcode, -, hy, hlen, hl⟩, hin, hse⟩ := cw
  obtain ⟨hx, hb, hml, ho, -⟩ := S
  obtain ⟨-, ⟨cellB, hcB, hoB, hclB⟩, hPc⟩ := hp
  intro T hT X
  rcases vx_callV X hx (C := C) (bytes := bytes) (maxL := maxL) (ret := ret) ho hl hin hse hcode hy hK (by rw [hT]; exact hcB) hoB hclB hg (hsize.trans hml.symm) (argsL := As) (rest := rest) (fun sig h => hn.trans (hlen sig h)) hstack hW (by rw [hb]; exact hdg)
    (fun vm₁ hW₁ => ⟨hf.1, hf.2, hPc (T.setVm vm₁) hT hW₁⟩) with ⟨v, vm₁, ⟨U', l2, c2, s2⟩, hW₁, X', ⟨g', mk, t, L, e1, e2, hq, h1, hL, h2, h3⟩, st⟩ | ⟨q, vm₁, ⟨U', l2, c2, s2⟩, hW₁, X', ⟨g', mk, t, L, E, ce, e1, e2, hq, hce, hcv, hcl, h1, hL, h2, h3⟩, st⟩
  · dsimp only [Pt.U, Pt.locs, Pt.cells, Pt.slots] at X' e1 e2 h1 h2 h3 st
    subst h1; subst h2; subst h3
    exact Or.inl ⟨v, (T.setVm vm₁).calling g' mk (Value.ref b :: As).toArray, t, U', L, hT, X', hL, e1, e2, hq, st⟩
  · dsimp only [Pt.U, Pt.locs, Pt.cells, Pt.slots] at X' e1 e2 h1 h2 h3 st hcl
    subst h1; subst h2; subst h3
    exact Or.inr ⟨q, (T.setVm vm₁).calling g' mk (Value.ref b :: As).toArray, t, U', L, E, ce, hT, X', hL, e1, e2, hq, hce, hcv, vx_cls hW₁ hcl, st⟩
theorem vx_runS (S : CallFix p m c cc nL s args Ts own) (hM : vx_Met l y ws rm Pc Qc XC mc ms free) (cw : CallB R s args own index y bytes maxL ret ws rm mc ms n ∧ (Cond.static y).before args s = true) (hp : PreS s H Pc As)
    (hg : g.method = m) (hn : As.length = n) (hsize : g.locals.size = nL) (hstack : g.stack = As.reverse ++ rest) (hW : 2 * g.monitorRoom + (rest.map fun v => v.category).sum ≤ 8) (hdg : decode cc g.pc = .ok (.invokestatic index, 3)) (hf : cells + mc ≤ R.cells ∧ slots + ms ≤ R.slots) :
    vx_Run p l e R s m args below meth c H locs cells slots mc ms g rest (Qc As.toArray) XC free := by
  have hK : vx_Back l R p e below s args y 3 8 (PreOf R mc ms Pc) (PostOf Qc mc ms free) (vx_Post XC mc ms free) := vx_callBack cw.1 hM hp.1
  obtain ⟨⟨-, -, -, -, -, -, hcode, hini, hy, hlen, hl⟩, hstt⟩ := cw
  obtain ⟨hx, hb, hml, ho, -⟩ := S
  intro T hT X
  rcases vx_callS X hx (bytes := bytes) (maxL := maxL) (ret := ret) ho hl hstt hini hcode hy hK hg (hsize.trans hml.symm) (argsL := As) (rest := rest) (fun sig h => hn.trans (hlen sig h)) hstack hW (by rw [hb]; exact hdg)
    (fun vm₁ hW₁ => ⟨hf.1, hf.2, hp.2 (T.setVm vm₁) hT hW₁⟩) with ⟨v, vm₁, ⟨U', l2, c2, s2⟩, hW₁, X', ⟨g', mk, t, L, e1, e2, hq, h1, hL, h2, h3⟩, st⟩ | ⟨q, vm₁, ⟨U', l2, c2, s2⟩, hW₁, X', ⟨g', mk, t, L, E, ce, e1, e2, hq, hce, hcv, hcl, h1, hL, h2, h3⟩, st⟩
  · dsimp only [Pt.U, Pt.locs, Pt.cells, Pt.slots] at X' e1 e2 h1 h2 h3 st
    subst h1; subst h2; subst h3
    exact Or.inl ⟨v, (T.setVm vm₁).calling g' mk As.toArray, t, U', L, hT, X', hL, e1, e2, hq, st⟩
  · dsimp only [Pt.U, Pt.locs, Pt.cells, Pt.slots] at X' e1 e2 h1 h2 h3 st hcl
    subst h1; subst h2; subst h3
    exact Or.inr ⟨q, (T.setVm vm₁).calling g' mk As.toArray, t, U', L, E, ce, hT, X', hL, e1, e2, hq, hce, hcv, vx_cls hW₁ hcl, st⟩
end Runs
section Rows
variable {p : Program} {l : Launch} {e : Env} {R : Room} {s : State} {m : MethodId} {args : Array Value} {below : List Frame} {meth : Method} {c : Code} {H : Heap} {locs : List Loc} {cells slots : Nat} {Q : State → Prop}
variable {mc ms : Nat} {free : Addr → Prop} {A0 A1 : Nat → Prop} {H0 : Heap} {a : Array Value} {pc : Nat} {ls : Array Slot} {st0 rest : List Value}
theorem vx_keep {st₀ t T' : State} {L : List Loc} (h0 : st₀.heap = H) (e1 : T'.heap = t.heap) (hS : va_S A0 H0 H locs) (hA : ∀ q, q < H.size → A1 q → A0 q) (hf : ∀ q, free q → A0 q) (hL : ∀ q ∈ L, free q.base) (hF : va_F A1 st₀ t) :
    H.size ≤ T'.heap.size ∧ (∀ q : Nat, q < H.size → ¬ A1 q → T'.heap[q]? = H[q]?) ∧ va_S A0 H0 T'.heap (locs ++ L) := by
  obtain ⟨hz, hk⟩ := hF
  rw [h0] at hz hk
  exact ⟨by rw [e1]; exact hz, fun q h1 h2 => by rw [e1]; exact hk q h1 h2,
    ⟨Nat.le_trans hS.1 (by rw [e1]; exact hz), fun q h1 h2 => by rw [e1, hk q (Nat.lt_of_lt_of_le h1 hS.1) (fun z => h2 (hA q (Nat.lt_of_lt_of_le h1 hS.1) z))]; exact hS.2.1 q h1 h2, fun q hq => by
      rcases List.mem_append.mp hq with h | h
      · exact hS.2.2 q h
      · exact hf _ (hL q h)⟩⟩
theorem vx_calli {S SX : Type} {post : Int32 → S → Prop} {px : SX → Prop} {B : S → State → Prop} {BX : String → SX → State → Prop} {AX : Nat → Prop} (hr : vx_Run p l e R s m args below meth c H locs cells slots mc ms (F0 m pc ls st0) rest (va_Qi post B A1 a) (vx_X px BX AX) free) (hS : va_S A0 H0 H locs) (hA : ∀ q, q < H.size → A1 q → A0 q) (hf : ∀ q, free q → A0 q) (hAX : ∀ q, q < H.size → AX q → A0 q)
    (kx : ∀ (E : String) (ce : Cell) (q9 : Addr) (u : SX) (t : State) (H1 : Heap) (locs1 : List Loc), t.heap = H1 → s.vm.Alike t.vm → px u → BX E u t → H.size ≤ H1.size → (∀ q : Nat, q < H.size → ¬ AX q → H1[q]? = H[q]?) → va_S A0 H0 H1 locs1 → H1[q9]? = some ce → ce.vm = .none → s.vm.findClass E = some ce.cls → vx_W p l e R s m args below meth c H1 locs1 (cells + mc) (slots + ms) Q (F0 m pc ls rest) q9)
    (kk : ∀ (r : Int32) (u : S) (t : State) (H1 : Heap) (locs1 : List Loc), t.heap = H1 → s.vm.Alike t.vm → post r u → B u t → H.size ≤ H1.size → (∀ q : Nat, q < H.size → ¬ A1 q → H1[q]? = H[q]?) → va_S A0 H0 H1 locs1 → W p l e R s m args below meth c H1 locs1 (cells + mc) (slots + ms) Q (F0 m (pc + 3) ls (.int r :: rest))) : W p l e R s m args below meth c H locs cells slots Q (F0 m pc ls st0) := by
  intro T hT X
  rcases hr T hT X with ⟨v, st₀, t, T', L, h0, X', hL, e1, e2, ⟨⟨r, u, hv, hp, hb⟩, hF⟩, st⟩ | ⟨q, st₀, t, T', L, E, ce, h0, X', hL, e1, e2, ⟨u, hp, hb, hF⟩, hce, hcv, hcl, st⟩
  · cases hv
    obtain ⟨k1, k2, k3⟩ := vx_keep h0 e1 hS hA hf hL hF
    obtain ⟨t2, a1, b1⟩ := kk r u t T'.heap (locs ++ L) e1.symm (by rw [← e2]; exact X'.warmed.alike) hp hb k1 k2 k3 T' rfl X'
    exact ⟨t2, st t2 a1, b1⟩
  · obtain ⟨k1, k2, k3⟩ := vx_keep h0 e1 hS hAX hf hL hF
    obtain ⟨t2, a1, b1⟩ := kx E ce q u t T'.heap (locs ++ L) e1.symm (by rw [← e2]; exact X'.warmed.alike) hp hb k1 k2 k3 (by rw [e1]; exact hce) hcv hcl T' rfl X'
    exact ⟨t2, st.trans a1, b1⟩
theorem vx_calll {S SX : Type} {post : Int64 → S → Prop} {px : SX → Prop} {B : S → State → Prop} {BX : String → SX → State → Prop} {AX : Nat → Prop} (hr : vx_Run p l e R s m args below meth c H locs cells slots mc ms (F0 m pc ls st0) rest (va_Ql post B A1 a) (vx_X px BX AX) free) (hS : va_S A0 H0 H locs) (hA : ∀ q, q < H.size → A1 q → A0 q) (hf : ∀ q, free q → A0 q) (hAX : ∀ q, q < H.size → AX q → A0 q)
    (kx : ∀ (E : String) (ce : Cell) (q9 : Addr) (u : SX) (t : State) (H1 : Heap) (locs1 : List Loc), t.heap = H1 → s.vm.Alike t.vm → px u → BX E u t → H.size ≤ H1.size → (∀ q : Nat, q < H.size → ¬ AX q → H1[q]? = H[q]?) → va_S A0 H0 H1 locs1 → H1[q9]? = some ce → ce.vm = .none → s.vm.findClass E = some ce.cls → vx_W p l e R s m args below meth c H1 locs1 (cells + mc) (slots + ms) Q (F0 m pc ls rest) q9)
    (kk : ∀ (r : Int64) (u : S) (t : State) (H1 : Heap) (locs1 : List Loc), t.heap = H1 → s.vm.Alike t.vm → post r u → B u t → H.size ≤ H1.size → (∀ q : Nat, q < H.size → ¬ A1 q → H1[q]? = H[q]?) → va_S A0 H0 H1 locs1 → W p l e R s m args below meth c H1 locs1 (cells + mc) (slots + ms) Q (F0 m (pc + 3) ls (.long r :: rest))) : W p l e R s m args below meth c H locs cells slots Q (F0 m pc ls st0) := by
  intro T hT X
  rcases hr T hT X with ⟨v, st₀, t, T', L, h0, X', hL, e1, e2, ⟨⟨r, u, hv, hp, hb⟩, hF⟩, st⟩ | ⟨q, st₀, t, T', L, E, ce, h0, X', hL, e1, e2, ⟨u, hp, hb, hF⟩, hce, hcv, hcl, st⟩
  · cases hv
    obtain ⟨k1, k2, k3⟩ := vx_keep h0 e1 hS hA hf hL hF
    obtain ⟨t2, a1, b1⟩ := kk r u t T'.heap (locs ++ L) e1.symm (by rw [← e2]; exact X'.warmed.alike) hp hb k1 k2 k3 T' rfl X'
    exact ⟨t2, st t2 a1, b1⟩
  · obtain ⟨k1, k2, k3⟩ := vx_keep h0 e1 hS hAX hf hL hF
    obtain ⟨t2, a1, b1⟩ := kx E ce q u t T'.heap (locs ++ L) e1.symm (by rw [← e2]; exact X'.warmed.alike) hp hb k1 k2 k3 (by rw [e1]; exact hce) hcv hcl T' rfl X'
    exact ⟨t2, st.trans a1, b1⟩
theorem vx_callf {S SX : Type} {post : UInt32 → S → Prop} {px : SX → Prop} {B : S → State → Prop} {BX : String → SX → State → Prop} {AX : Nat → Prop} (hr : vx_Run p l e R s m args below meth c H locs cells slots mc ms (F0 m pc ls st0) rest (va_Qf post B A1 a) (vx_X px BX AX) free) (hS : va_S A0 H0 H locs) (hA : ∀ q, q < H.size → A1 q → A0 q) (hf : ∀ q, free q → A0 q) (hAX : ∀ q, q < H.size → AX q → A0 q)
    (kx : ∀ (E : String) (ce : Cell) (q9 : Addr) (u : SX) (t : State) (H1 : Heap) (locs1 : List Loc), t.heap = H1 → s.vm.Alike t.vm → px u → BX E u t → H.size ≤ H1.size → (∀ q : Nat, q < H.size → ¬ AX q → H1[q]? = H[q]?) → va_S A0 H0 H1 locs1 → H1[q9]? = some ce → ce.vm = .none → s.vm.findClass E = some ce.cls → vx_W p l e R s m args below meth c H1 locs1 (cells + mc) (slots + ms) Q (F0 m pc ls rest) q9)
    (kk : ∀ (r : UInt32) (u : S) (t : State) (H1 : Heap) (locs1 : List Loc), t.heap = H1 → s.vm.Alike t.vm → post r u → B u t → H.size ≤ H1.size → (∀ q : Nat, q < H.size → ¬ A1 q → H1[q]? = H[q]?) → va_S A0 H0 H1 locs1 → W p l e R s m args below meth c H1 locs1 (cells + mc) (slots + ms) Q (F0 m (pc + 3) ls (.float r :: rest))) : W p l e R s m args below meth c H locs cells slots Q (F0 m pc ls st0) := by
  intro T hT X
  rcases hr T hT X with ⟨v, st₀, t, T', L, h0, X', hL, e1, e2, ⟨⟨r, u, hv, hp, hb⟩, hF⟩, st⟩ | ⟨q, st₀, t, T', L, E, ce, h0, X', hL, e1, e2, ⟨u, hp, hb, hF⟩, hce, hcv, hcl, st⟩
  · cases hv
    obtain ⟨k1, k2, k3⟩ := vx_keep h0 e1 hS hA hf hL hF
    obtain ⟨t2, a1, b1⟩ := kk r u t T'.heap (locs ++ L) e1.symm (by rw [← e2]; exact X'.warmed.alike) hp hb k1 k2 k3 T' rfl X'
    exact ⟨t2, st t2 a1, b1⟩
  · obtain ⟨k1, k2, k3⟩ := vx_keep h0 e1 hS hAX hf hL hF
    obtain ⟨t2, a1, b1⟩ := kx E ce q u t T'.heap (locs ++ L) e1.symm (by rw [← e2]; exact X'.warmed.alike) hp hb k1 k2 k3 (by rw [e1]; exact hce) hcv hcl T' rfl X'
    exact ⟨t2, st.trans a1, b1⟩
theorem vx_calld {S SX : Type} {post : UInt64 → S → Prop} {px : SX → Prop} {B : S → State → Prop} {BX : String → SX → State → Prop} {AX : Nat → Prop} (hr : vx_Run p l e R s m args below meth c H locs cells slots mc ms (F0 m pc ls st0) rest (va_Qd post B A1 a) (vx_X px BX AX) free) (hS : va_S A0 H0 H locs) (hA : ∀ q, q < H.size → A1 q → A0 q) (hf : ∀ q, free q → A0 q) (hAX : ∀ q, q < H.size → AX q → A0 q)
    (kx : ∀ (E : String) (ce : Cell) (q9 : Addr) (u : SX) (t : State) (H1 : Heap) (locs1 : List Loc), t.heap = H1 → s.vm.Alike t.vm → px u → BX E u t → H.size ≤ H1.size → (∀ q : Nat, q < H.size → ¬ AX q → H1[q]? = H[q]?) → va_S A0 H0 H1 locs1 → H1[q9]? = some ce → ce.vm = .none → s.vm.findClass E = some ce.cls → vx_W p l e R s m args below meth c H1 locs1 (cells + mc) (slots + ms) Q (F0 m pc ls rest) q9)
    (kk : ∀ (r : UInt64) (u : S) (t : State) (H1 : Heap) (locs1 : List Loc), t.heap = H1 → s.vm.Alike t.vm → post r u → B u t → H.size ≤ H1.size → (∀ q : Nat, q < H.size → ¬ A1 q → H1[q]? = H[q]?) → va_S A0 H0 H1 locs1 → W p l e R s m args below meth c H1 locs1 (cells + mc) (slots + ms) Q (F0 m (pc + 3) ls (.double r :: rest))) : W p l e R s m args below meth c H locs cells slots Q (F0 m pc ls st0) := by
  intro T hT X
  rcases hr T hT X with ⟨v, st₀, t, T', L, h0, X', hL, e1, e2, ⟨⟨r, u, hv, hp, hb⟩, hF⟩, st⟩ | ⟨q, st₀, t, T', L, E, ce, h0, X', hL, e1, e2, ⟨u, hp, hb, hF⟩, hce, hcv, hcl, st⟩
  · cases hv
    obtain ⟨k1, k2, k3⟩ := vx_keep h0 e1 hS hA hf hL hF
    obtain ⟨t2, a1, b1⟩ := kk r u t T'.heap (locs ++ L) e1.symm (by rw [← e2]; exact X'.warmed.alike) hp hb k1 k2 k3 T' rfl X'
    exact ⟨t2, st t2 a1, b1⟩
  · obtain ⟨k1, k2, k3⟩ := vx_keep h0 e1 hS hAX hf hL hF
    obtain ⟨t2, a1, b1⟩ := kx E ce q u t T'.heap (locs ++ L) e1.symm (by rw [← e2]; exact X'.warmed.alike) hp hb k1 k2 k3 (by rw [e1]; exact hce) hcv hcl T' rfl X'
    exact ⟨t2, st.trans a1, b1⟩
theorem vx_callv {S SX : Type} {post : S → Prop} {px : SX → Prop} {B : S → State → Prop} {BX : String → SX → State → Prop} {AX : Nat → Prop} (hr : vx_Run p l e R s m args below meth c H locs cells slots mc ms (F0 m pc ls st0) rest (va_Qv post B A1 a) (vx_X px BX AX) free) (hS : va_S A0 H0 H locs) (hA : ∀ q, q < H.size → A1 q → A0 q) (hf : ∀ q, free q → A0 q) (hAX : ∀ q, q < H.size → AX q → A0 q)
    (kx : ∀ (E : String) (ce : Cell) (q9 : Addr) (u : SX) (t : State) (H1 : Heap) (locs1 : List Loc), t.heap = H1 → s.vm.Alike t.vm → px u → BX E u t → H.size ≤ H1.size → (∀ q : Nat, q < H.size → ¬ AX q → H1[q]? = H[q]?) → va_S A0 H0 H1 locs1 → H1[q9]? = some ce → ce.vm = .none → s.vm.findClass E = some ce.cls → vx_W p l e R s m args below meth c H1 locs1 (cells + mc) (slots + ms) Q (F0 m pc ls rest) q9)
    (kk : ∀ (u : S) (t : State) (H1 : Heap) (locs1 : List Loc), t.heap = H1 → s.vm.Alike t.vm → post u → B u t → H.size ≤ H1.size → (∀ q : Nat, q < H.size → ¬ A1 q → H1[q]? = H[q]?) → va_S A0 H0 H1 locs1 → W p l e R s m args below meth c H1 locs1 (cells + mc) (slots + ms) Q (F0 m (pc + 3) ls (rest))) : W p l e R s m args below meth c H locs cells slots Q (F0 m pc ls st0) := by
  intro T hT X
  rcases hr T hT X with ⟨v, st₀, t, T', L, h0, X', hL, e1, e2, ⟨⟨u, hv, hp, hb⟩, hF⟩, st⟩ | ⟨q, st₀, t, T', L, E, ce, h0, X', hL, e1, e2, ⟨u, hp, hb, hF⟩, hce, hcv, hcl, st⟩
  · cases hv
    obtain ⟨k1, k2, k3⟩ := vx_keep h0 e1 hS hA hf hL hF
    obtain ⟨t2, a1, b1⟩ := kk u t T'.heap (locs ++ L) e1.symm (by rw [← e2]; exact X'.warmed.alike) hp hb k1 k2 k3 T' rfl X'
    exact ⟨t2, st t2 a1, b1⟩
  · obtain ⟨k1, k2, k3⟩ := vx_keep h0 e1 hS hAX hf hL hF
    obtain ⟨t2, a1, b1⟩ := kx E ce q u t T'.heap (locs ++ L) e1.symm (by rw [← e2]; exact X'.warmed.alike) hp hb k1 k2 k3 (by rw [e1]; exact hce) hcv hcl T' rfl X'
    exact ⟨t2, st.trans a1, b1⟩
/-- caught by the row x of this method's table; the rows ahead don't take it -/
theorem vx_catch {own name : String} {E : String} {ce : Cell} {q : Addr} (hown : s.vm.findClass own = some m.cls) (pre : List ExceptionTableEntry) (x : ExceptionTableEntry) (suf : List ExceptionTableEntry) (hsplit : c.exceptionTable.toList = pre ++ x :: suf)
    (hpass : ∀ z ∈ pre, covers z pc = false ∨ (z.catchType ≠ 0 ∧ ∃ nm : String, (Cond.classLink own z.catchType nm).before args s = true ∧ va_Nc E nm s)) (hx : covers x pc = true) (h0 : x.catchType ≠ 0)
    (hlink : (Cond.classLink own x.catchType name).before args s = true) (hcast : (Cond.castable E name).before args s = true) (hcell : H[q]? = some ce) (hv : ce.vm = .none) (hcl : s.vm.findClass E = some ce.cls)
    (kk : W p l e R s m args below meth c H locs cells slots Q (F0 m x.handlerPc ls [.ref q])) : vx_W p l e R s m args below meth c H locs cells slots Q (F0 m pc ls rest) q := by
  intro T hT X
  have hpl : e.platform.magicAccessors = ({} : Platform).magicAccessors := by rw [X.admits.platform]
  obtain ⟨c3, c4, hc3, hc4, hasg⟩ := Cond.castable_spec hcast
  cases Option.some.inj (hc3.symm.trans hcl)
  obtain ⟨c5, hc5, hcl5⟩ := Cond.classLink_spec hown hlink e.platform hpl
  cases Option.some.inj (hc4.symm.trans hc5)
  obtain ⟨vm', X', st⟩ := X.thenCaughtThrough q (g := F0 m pc ls rest) rfl (Steps.refl _) (by rw [hT]; exact hcell) (by rw [hv]; rfl) (by obtain ⟨k9, h9, -⟩ := Vm.findClass_spec hcl; exact ⟨k9, h9⟩) pre x suf hsplit
    (fun z hz => by
      rcases hpass z hz with h | ⟨hz0, nm, hl1, hn1⟩
      · exact Or.inl h
      · obtain ⟨c6, hc6, hcl6⟩ := Cond.classLink_spec hown hl1 e.platform hpl
        obtain ⟨a8, b8, h1, h2, h3⟩ := hn1
        cases Option.some.inj (h1.symm.trans hcl)
        cases Option.some.inj (h2.symm.trans hc6)
        exact Or.inr ⟨hz0, _, hcl6, h3⟩) hx (Or.inr ⟨h0, c4, hcl5, hasg⟩)
  obtain ⟨t, a1, b1⟩ := kk (T.setVm vm') hT X'
  exact ⟨t, st.trans a1, b1⟩
end Rows
section Ends
variable {p : Program} {l : Launch} {e : Env} {R : Room} {s : State} {m : MethodId} {args : Array Value} {below : List Frame} {meth : Method} {c : Code} {H : Heap} {locs : List Loc} {cells slots : Nat} {Q : State → Prop}
variable {mc ms : Nat} {free : Addr → Prop} {A0 A1 : Nat → Prop} {H0 : Heap} {a : Array Value} {ls : Array Slot} {st0 rest : List Value}
variable {Qc : Array Value → State → Outcome → State → Prop} {XC : String → State → State → Prop}
/-- what a body that may throw owes at its end -/
def vx_MQ (below : List Frame) (Qc : Array Value → State → Outcome → State → Prop) (XC : String → State → State → Prop) (a : Array Value) (s : State) (mc ms : Nat) (free : Addr → Prop) : State → Prop := fun t =>
  ∃ o, t.status = .running ∧ Ended t below o ∧ vx_Q Qc XC mc ms free a s o t
theorem vx_ret {g : JFrame} {mc ms : Nat} (k : W p l e R s m args below meth c H locs cells slots (MQ below Qc args s mc ms free) g) : W p l e R s m args below meth c H locs cells slots (vx_MQ below Qc XC args s mc ms free) g := by
  intro T hT X
  obtain ⟨t, a1, o, b1, b2, b3, b4⟩ := k T hT X
  exact ⟨t, a1, o, b1, b2, Or.inl ⟨b3, b4⟩⟩
/-- not caught here: it goes on to the caller -/
theorem vx_widen {g : JFrame} {q : Addr} {k n : Nat} (h1 : cells ≤ k) (h2 : slots ≤ n) (kk : vx_W p l e R s m args below meth c H locs k n Q g q) : vx_W p l e R s m args below meth c H locs cells slots Q g q := fun T hT X => kk T hT (stand_widen X h1 h2)
theorem vx_out {pc : Nat} {E : String} {ce : Cell} {q : Addr} {mc ms : Nat} (hout : ∀ x ∈ c.exceptionTable.toList, covers x pc = false) (hlocks : meth.locks = false) (hcell : H[q]? = some ce) (hv : ce.vm = .none) (hcl : s.vm.findClass E = some ce.cls)
    (hx : ∀ t : State, t.heap = H → s.vm.Alike t.vm → XC E s t) (hf : ∀ z ∈ locs, free z.base) (hc : cells ≤ mc) (hs : slots ≤ ms) :
    vx_W p l e R s m args below meth c H locs cells slots (vx_MQ below Qc XC args s mc ms free) (F0 m pc ls rest) q := by
  intro T hT X
  obtain ⟨st1, hrun, hend, hW, hsm⟩ := X.leaveThrown q (g := F0 m pc ls rest) rfl rfl rfl hout hlocks
  have hcell9 : (T.setFrames (.throwing q :: below)).heap[q]? = some ce := by
    show T.heap[q]? = some ce
    rw [hT]; exact hcell
  exact ⟨_, st1, .threw q, hrun, hend, Or.inr ⟨q, rfl, E, ce, locs, hx _ hT hW.alike, hcell9, hv, hcl, hW, hsm.mono hc hs, hf⟩⟩
theorem vx_frame {U : State} {k n : Nat} (h : s.sameButNew ({ U with vm := s.vm } : State) locs k n) : s.heap.size ≤ U.heap.size ∧ ∀ q : Nat, q < s.heap.size → (∀ z ∈ locs, z.base ≠ q) → U.heap[q]? = s.heap[q]? := by
  obtain ⟨-, h2, -, -, -, h6⟩ := h
  refine ⟨h2, fun q hq hz => ?_⟩
  obtain ⟨c9, e1, e2, e3, e4⟩ := h6 q _ (Array.getElem?_eq_getElem hq)
  have hs : c9.slots = (s.heap[q]).slots := Array.ext_getElem? fun i => e4 i fun hm => hz _ hm rfl
  have h9 : c9 = s.heap[q] := by
    rw [hs] at e2
    exact e2
  have e5 : U.heap[q]? = some c9 := e1
  rw [e5, h9, Array.getElem?_eq_getElem hq]
/-- the words of a throw but the four that speak of the heap -/
def vx_no (w : Cond) : Bool := decide (w ≠ .isRef (.static Bundle.tN "UNASSIGNED_STACK" Bundle.steD)) && decide (w ≠ .isRef (.static Bundle.tN "SUPPRESSED_SENTINEL" Bundle.listD)) && decide (w ≠ .laysStatic Bundle.tN "UNASSIGNED_STACK" Bundle.steD) && decide (w ≠ .laysStatic Bundle.tN "SUPPRESSED_SENTINEL" Bundle.listD)
def vx_at0 (own : String) (ic : Nat) (X : String) (names : List String) : List Cond := (Bundle.ownAtoms0 own ic X names).filter vx_no
def vx_atS (own : String) (ic : Nat) (X : String) (names : List String) : List Cond := (Bundle.ownAtoms own ic X names).filter vx_no
/-- a word that the tables alone decide, or a good one -/
def vx_ot (w : Cond) : Bool := w.onTables || goodWord w
theorem vx_ot_at {args a' : Array Value} {s U : State} {w : Cond} (hW : s.WarmedH U.vm) (hvm : s.vm = U.vm) (hg : vx_ot w = true) (h : w.before args s = true) : w.before a' U = true := by
  simp only [vx_ot, Bool.or_eq_true] at hg
  rcases hg with hg | hg
  · exact va_tabs hg hvm h
  · exact word_at hW (good_of_word hg) h
/-- a list's words: the good ones out of the method's own list, the others by premises of their own -/
theorem vx_hat {args : Array Value} {s : State} {L B : List Cond} (h1 : ∀ w ∈ L.filter goodWord, w.before args s = true) (h2 : ∀ w ∈ L.filter (fun w => !goodWord w), w ∈ B) (h3 : ∀ w ∈ B, w.before args s = true) : ∀ w ∈ L, w.before args s = true := by
  intro w hw
  by_cases g : goodWord w = true
  · exact h1 w (List.mem_filter.mpr ⟨hw, g⟩)
  · refine h3 w (h2 w (List.mem_filter.mpr ⟨hw, ?_⟩))
    show (!goodWord w) = true
    cases hgw : goodWord w
    · rfl
    · exact absurd hgw g
theorem vx_c {args : Array Value} {s : State} {w : Cond} {B : List Cond} (h : w.before args s = true) (t : ∀ w ∈ B, w.before args s = true) : ∀ w' ∈ w :: B, w'.before args s = true := fun w' h' => (List.mem_cons.mp h').elim (fun e => by rw [e]; exact h) (t w')
theorem vx_n {args : Array Value} {s : State} : ∀ w ∈ ([] : List Cond), w.before args s = true := fun _ h => nomatch h
theorem vx_own {args : Array Value} {s : State} {L : List Cond} (h1 : ∀ w ∈ L.filter vx_no, w.before args s = true)
    (hU : (Cond.isRef (.static Bundle.tN "UNASSIGNED_STACK" Bundle.steD)).before args s = true) (hN : (Cond.isRef (.static Bundle.tN "SUPPRESSED_SENTINEL" Bundle.listD)).before args s = true)
    (lU : (Cond.laysStatic Bundle.tN "UNASSIGNED_STACK" Bundle.steD).before args s = true) (lN : (Cond.laysStatic Bundle.tN "SUPPRESSED_SENTINEL" Bundle.listD).before args s = true) : ∀ w ∈ L, w.before args s = true := by
  intro w hw
  by_cases e1 : w = .isRef (.static Bundle.tN "UNASSIGNED_STACK" Bundle.steD)
  · rw [e1]; exact hU
  · by_cases e2 : w = .isRef (.static Bundle.tN "SUPPRESSED_SENTINEL" Bundle.listD)
    · rw [e2]; exact hN
    · by_cases e3 : w = .laysStatic Bundle.tN "UNASSIGNED_STACK" Bundle.steD
      · rw [e3]; exact lU
      · by_cases e4 : w = .laysStatic Bundle.tN "SUPPRESSED_SENTINEL" Bundle.listD
        · rw [e4]; exact lN
        · exact h1 w (List.mem_filter.mpr ⟨hw, by unfold vx_no; rw [decide_eq_true e1, decide_eq_true e2, decide_eq_true e3, decide_eq_true e4]; rfl⟩)
/-- where a static field lies, its class's statics cell in H -/
def vx_L (C n d : String) (A : Nat → Prop) (U : State) (H : Heap) : Prop := ∃ (c : ClassId) (k : Class) (i : Nat) (f : Field) (a : Nat) (cell : Cell), U.vm.findClass C = some c ∧ U.fieldFound? C n d = some (c, k, i, f) ∧ f.isStatic = true ∧ k.statics = some a ∧ H[a]? = some cell ∧ cell.vm.isStatics = true ∧ cell.cls = c ∧ f.slot < cell.slots.size ∧ k.staticTypes[f.slot]? = some f.type ∧ ¬ A a
theorem vx_L.moved {C n d : String} {A : Nat → Prop} {u U : State} {H : Heap} (hvm : u.vm.Alike U.vm) (h : vx_L C n d A u H) : vx_L C n d A U H := by
  obtain ⟨c, k, i, f, a, cell, h1, h2, h3, h4, h5, h6, h7, h8, h9, h10⟩ := h
  obtain ⟨k', hi', he⟩ := State.fieldFound?_setVm hvm h2
  exact ⟨c, k', i, f, a, cell, by rw [hvm.findClass]; exact h1, hi', h3, by rw [he]; exact h4, h5, h6, h7, h8, by rw [he]; exact h9, h10⟩
theorem vx_L.kept {C n d : String} {A : Nat → Prop} {U : State} {H H1 : Heap} (h : vx_L C n d A U H) (hq : ∀ a : Nat, a < H.size → ¬ A a → H1[a]? = H[a]?) : vx_L C n d A U H1 := by
  obtain ⟨c, k, i, f, a, cell, h1, h2, h3, h4, h5, h6, h7, h8, h9, h10⟩ := h
  exact ⟨c, k, i, f, a, cell, h1, h2, h3, h4, by rw [hq a (Array.getElem?_eq_some_iff.mp h5).1 h10]; exact h5, h6, h7, h8, h9, h10⟩
theorem vx_L.narrow {C n d : String} {A B : Nat → Prop} {U : State} {H : Heap} (h : vx_L C n d A U H) (hAB : ∀ q, B q → A q) : vx_L C n d B U H := by
  obtain ⟨c, k, i, f, a, cell, h1, h2, h3, h4, h5, h6, h7, h8, h9, h10⟩ := h
  exact ⟨c, k, i, f, a, cell, h1, h2, h3, h4, h5, h6, h7, h8, h9, fun z => h10 (hAB _ z)⟩
theorem vx_L.word {C n d : String} {A : Nat → Prop} {s : State} {args : Array Value} (h : vx_L C n d A s s.heap) : (Cond.laysStatic C n d).before args s = true := by
  obtain ⟨c, k, i, f, a, cell, h1, h2, h3, h4, h5, h6, h7, h8, h9, -⟩ := h
  show (Cond.laysStatic C n d).holds args s none s [] = true
  exact Cond.laysStatic_of h1 h2 h3 h4 h5 h6 h7 h8 h9
/-- .. and what it holds: null or some reference -/
def vx_Zq (C n d : String) (A : Nat → Prop) (U : State) (H : Heap) : Prop := va_Zq C n d A U H ∧ vx_L C n d A U H
theorem vx_Zq.moved {C n d : String} {A : Nat → Prop} {u U : State} {H : Heap} (hvm : u.vm.Alike U.vm) (h : vx_Zq C n d A u H) : vx_Zq C n d A U H := ⟨va_Zq.moved hvm h.1, vx_L.moved hvm h.2⟩
theorem vx_Zq.kept {C n d : String} {A : Nat → Prop} {U : State} {H H1 : Heap} (h : vx_Zq C n d A U H) (hq : ∀ a : Nat, a < H.size → ¬ A a → H1[a]? = H[a]?) : vx_Zq C n d A U H1 := ⟨va_Zq.kept h.1 hq, vx_L.kept h.2 hq⟩
theorem vx_Zq.narrow {C n d : String} {A B : Nat → Prop} {U : State} {H : Heap} (h : vx_Zq C n d A U H) (hAB : ∀ q, B q → A q) : vx_Zq C n d B U H := ⟨va_Zq.narrow h.1 hAB, vx_L.narrow h.2 hAB⟩
theorem vx_Zqof {args : Array Value} {s : State} {C n d : String} {A : Nat → Prop} (hl : (Cond.laysStatic C n d).before args s = true) (hini : (Cond.initialized C).before args s = true) (h : (Cond.isRef (.static C n d)).before args s = true) (hA : ∀ a : Nat, a < s.heap.size → ¬ A a) : vx_Zq C n d A s s.heap := by
  refine ⟨va_Zqof hl hini h hA, ?_⟩
  obtain ⟨c, k, i, f, a, cell, h1, h2, h3, h4, h5, h6, h7, h8, h9⟩ := Cond.laysStatic_spec hl
  exact ⟨c, k, i, f, a, cell, h1, h2, h3, h4, h5, h6, h7, h8, h9, hA a (Array.getElem?_eq_some_iff.mp h5).1⟩
theorem vx_isRef {C n d : String} {v : Value} {A : Nat → Prop} {s : State} {args : Array Value} (h : va_Z C n d v A s s.heap) (hv : v.isRef = true) : (Cond.isRef (.static C n d)).before args s = true := by
  obtain ⟨cf, kf, fi, f, a, cell, h1, h2, h3, h4, h5, h6, h7, -⟩ := h
  have he : (Term.static C n d).eval args s none [] s = some v := by
    simp [Term.eval, State.fieldNamed?, h1, h2, h4, h5, h6, h7]
  simp only [Cond.before, Cond.holds, Cond.value, he]
  cases v <;> simp_all [Value.isRef]
theorem vx_isRefq {C n d : String} {A : Nat → Prop} {s : State} {args : Array Value} (h : va_Zq C n d A s s.heap) : (Cond.isRef (.static C n d)).before args s = true := by
  rcases h with h | ⟨t, h⟩
  · exact vx_isRef h rfl
  · exact vx_isRef h rfl
/-- the same frame, seen from here: as if the method were called anew in this heap -/
theorem vx_rebase {T : State} (X : Stand p l e R s m args below meth c T locs cells slots) {R' : Room} (hf : R'.frames ≤ R.frames) (hl : R'.locals ≤ R.locals) (hc : cells + R'.cells ≤ R.cells) (hs : slots + R'.slots ≤ R.slots) :
    Stand p l e R' ((T.setVm s.vm).setFrames (.invoking m args :: below)) m args below meth c T [] 0 0 := by
  have htop : (T.setVm s.vm).topJava?.isSome := X.here.top
  have hF : ((T.setVm s.vm).setFrames (.invoking m args :: below)).frames = .invoking m args :: below := State.frames_setFrames _ (State.cur_lt_of_top htop)
  obtain ⟨g₀, hg0⟩ := Option.isSome_iff_exists.mp htop
  obtain ⟨r, hr⟩ := State.topJava?_eq_some.mp hg0
  have hl9 : e.platform.stackLimits (T.setVm s.vm).me = e.platform.stackLimits s.me := X.limits
  have hb9 : (T.setVm s.vm).me.stackBytes = s.me.stackBytes := X.bytes
  refine ⟨X.admits, X.cas, X.clock, hF, ?_, X.hears, X.method, X.code, X.here, X.tail, X.warmed, ?_, ?_, ?_⟩
  · have h := X.room
    have hU : ((T.setVm s.vm).setFrames (.invoking m args :: below)).localsInUse = s.localsInUse := by
      rw [State.localsInUse_invoking hF (meth := meth) (c := c) X.method X.code, State.localsInUse_invoking X.frames X.method X.code]
    simp only [State.hasRoom, Bool.and_eq_true, decide_eq_true_eq] at h ⊢
    obtain ⟨⟨⟨⟨h1, h2, h3, h4, h5, h6⟩, h7⟩, h8⟩, h9⟩ := h
    rw [X.frames, List.length_cons] at h2 h3
    have q1 := X.heapSize
    have q2 := X.used
    simp only [hF, hU, List.length_cons, State.stackLimits_setFrames, State.stackBytes_setFrames, hl9, hb9]
    refine ⟨⟨⟨⟨by omega, by omega, by omega, by omega, by omega, h6⟩, ?_⟩, ?_⟩, X.book⟩
    · show T.heap.size + R'.cells ≤ e.platform.maxCells
      omega
    · show T.slotsUsed + R'.slots ≤ e.platform.maxSlots
      omega
  · rw [State.stackLimits_setFrames]; rfl
  · rw [State.stackBytes_setFrames]; rfl
  · refine ⟨?_, Nat.le_refl _, Nat.le_refl _, ?_, ?_, fun a c9 h9 => ⟨c9, h9, rfl, rfl, fun _ _ => rfl⟩⟩
    · obtain ⟨t, ht, -⟩ := State.frames_cons hr
      show T.setVm s.vm = { ((T.setVm s.vm).setFrames (.invoking m args :: below)).setFrames (T.setVm s.vm).frames with heap := T.heap, slotsUsed := T.slotsUsed }
      rw [State.setFrames_setFrames, State.setFrames_self ht]
      rfl
    · show T.slotsUsed = T.slotsUsed + ((T.heap.toList.drop T.heap.size).map (·.slots.size)).sum
      rw [List.drop_eq_nil_of_le (Nat.le_of_eq Array.length_toList)]
      rfl
    · show ((T.heap.toList.drop T.heap.size).map (·.slots.size)).sum ≤ 0
      rw [List.drop_eq_nil_of_le (Nat.le_of_eq Array.length_toList)]
      exact Nat.le_refl _
/-- 'throw new E()': new; dup; invokespecial; athrow -/
theorem vx_throw0 {cc : ByteArray} {pc : Nat} (hexec : p.tables.exec = Jvm.exec) (hb : c.code = cc) (hl : l.stackTraces = false) {own cls : String} {names : List String} {ik ic mc ms : Nat} {A : Nat → Prop}
    (hown : s.vm.findClass own = some m.cls) (hcls : Bundle.fit cls = true) (hnames : ∀ n ∈ names, Bundle.fit n = true)
    (hk : (Cond.classLink own ik cls).before args s = true) (hini : (Cond.initialized cls).before args s = true) (hat : ∀ w ∈ vx_at0 own ic cls names, w.before args s = true)
    (hgood : ∀ w ∈ Cond.classLink own ik cls :: Cond.initialized cls :: vx_at0 own ic cls names, vx_ot w = true)
    (hU : vx_Zq Bundle.tN "UNASSIGNED_STACK" Bundle.steD A s s.heap) (hN : vx_Zq Bundle.tN "SUPPRESSED_SENTINEL" Bundle.listD A s s.heap) (hS : va_S A s.heap H locs) (hsize : ls.size = c.maxLocals)
    (d0 : decode cc pc = .ok (.new ik, 3)) (d3 : decode cc (pc + 3) = .ok (.dup, 1)) (d4 : decode cc (pc + 4) = .ok (.invokespecial ic, 3)) (d7 : decode cc (pc + 7) = .ok (.athrow, 1))
    (hout : ∀ x ∈ c.exceptionTable.toList, covers x (pc + 7) = false)
    (hRframes : names.length + 3 < R.frames) (hRlocals : (rest.map fun v => v.category).sum + (13 * (names.length + 1) + 42) ≤ R.locals) (hRcells : cells + 1 ≤ R.cells) (hRslots : slots + 6 ≤ R.slots) (hlocks : meth.locks = false)
    (hx : ∀ t : State, s.vm.Alike t.vm → H.size ≤ t.heap.size → (∀ q : Nat, q < H.size → t.heap[q]? = H[q]?) → XC cls s t)
    (hf : ∀ z ∈ locs, free z.base) (hc : cells + 1 ≤ mc) (hs : slots + 6 ≤ ms) :
    W p l e R s m args below meth c H locs cells slots (vx_MQ below Qc XC args s mc ms free) (F0 m pc ls rest) := by
  intro T hT X
  have htr : e.platform.stackTraces = false := (show e.platform.stackTraces = l.stackTraces by rw [X.admits.platform]).trans hl
  have Y := vx_rebase X (R' := { frames := R.frames, locals := R.locals, cells := 1, slots := 6 }) (Nat.le_refl _) (Nat.le_refl _) hRcells hRslots
  obtain ⟨s', hA⟩ : ∃ z, z = (T.setVm s.vm).setFrames (.invoking m args :: below) := ⟨_, rfl⟩
  rw [← hA] at Y
  have hvm : s'.vm = s.vm := by rw [hA]; rfl
  have hhp : s'.heap = H := by rw [hA]; exact hT
  have hW0 : s.WarmedH s'.vm := by rw [hvm]; exact State.WarmedH.refl s
  have hat' : ∀ w ∈ vx_at0 own ic cls names, w.before args s' = true := fun w hw => vx_ot_at hW0 hvm.symm (hgood w (List.mem_cons_of_mem _ (List.mem_cons_of_mem _ hw))) (hat w hw)
  have hk' : (Cond.classLink own ik cls).before args s' = true := vx_ot_at hW0 hvm.symm (hgood _ List.mem_cons_self) hk
  have hini' : (Cond.initialized cls).before args s' = true := vx_ot_at hW0 hvm.symm (hgood _ (List.mem_cons_of_mem _ List.mem_cons_self)) hini
  have hU' : vx_Zq Bundle.tN "UNASSIGNED_STACK" Bundle.steD A s' s'.heap := by rw [hhp]; exact vx_Zq.moved hW0.alike (hU.kept hS.2.1)
  have hN' : vx_Zq Bundle.tN "SUPPRESSED_SENTINEL" Bundle.listD A s' s'.heap := by rw [hhp]; exact vx_Zq.moved hW0.alike (hN.kept hS.2.1)
  have h : ∀ w ∈ Bundle.ownAtoms0 own ic cls names, w.before args s' = true := vx_own hat' (vx_isRefq hU'.1) (vx_isRefq hN'.1) hU'.2.word hN'.2.word
  have hown' : s'.vm.findClass own = some m.cls := by rw [hvm]; exact hown
  have hins : (Cond.instantiable cls 6).before args s' = true := h _ (by simp [Bundle.ownAtoms0])
  obtain ⟨vm₁, cX, kX, hfX, hkX, -, -, X₁, st1⟩ := Y.newCold hexec (own := own) (C := cls) (index := ik) (n := 6) hown' hk' hins hini'
    (g := F0 m pc ls rest) rfl (by rw [hb]; exact d0) (Nat.le_refl _) (Nat.le_refl _)
  generalize hT1 : (T.setVm vm₁).pushCell { cls := cX, slots := kX.instanceTypes.map defaultValue, vm := .none } = T1 at X₁ st1
  have hcat : (Value.ref T.heap.size).category = 1 := rfl
  have hcellA : T1.heap[T.heap.size]? = some (freshCell cX kX) := by rw [← hT1]; exact State.heap_pushCell_size _ _
  have d3' : decode c.code (pc + 3) = .ok (.dup, 1) := by rw [hb]; exact d3
  obtain ⟨U, hsteps, hrun, hend, hW, hsame, ce, hce, hO⟩ := X₁.ctorThrow0 hexec htr (own := own) (cls := cls) (names := names) (ic := ic) hown' hcls hnames h (fun x hx => nomatch hx) hfX hkX hcellA (by rw [hhp, hT]; exact Nat.le_refl _)
    (g := { method := m, pc := pc + 4, locals := ls, stack := .ref T.heap.size :: .ref T.heap.size :: rest, locked := none }) rfl hsize rfl rfl (rest := rest) rfl
    (by rw [hb]; exact d4) (by rw [hb]; exact d7) hout hRframes (by simp only [List.map_cons, List.sum_cons, hcat]; omega) hlocks
  obtain ⟨f1, f2⟩ := vx_frame hsame
  rw [hhp] at f1 f2
  have hWs : s.WarmedH U.vm := State.WarmedH.trans hW0 hW
  have hcl : s.vm.findClass cls = some ce.cls := by
    have h9 := hO.cls
    rw [hvm] at h9
    exact h9
  have hall : s.sameButNew ({ U with vm := s.vm } : State) locs mc ms := by
    subst hA
    obtain ⟨e1, e2⟩ := hsame
    rw [State.setFrames_setFrames] at e1
    have h2 : (T.setVm s.vm).sameButNew ({ U with vm := s.vm } : State) [] (0 + 1) (0 + 6) := ⟨e1, e2⟩
    have h3 := X.same.trans h2
    rw [List.append_nil] at h3
    exact h3.mono hc hs
  refine ⟨U, ?_, .threw T.heap.size, hrun, hend, Or.inr ⟨T.heap.size, rfl, cls, ce, locs, hx U hWs.alike f1 (fun q hq => f2 q hq (fun z hz => nomatch hz)), hce, hO.vm, hcl, hWs, hall, hf⟩⟩
  refine st1 _ ?_
  show Steps p.tables e below (T1.setTop { method := m, pc := pc + 3, locals := ls, stack := .ref T.heap.size :: rest, locked := none }) _
  jvm_step X₁.here [X₁.here.top, hexec, d3', Value.category]
  exact hsteps
/-- 'throw new E("text")': new; dup; ldc; invokespecial; athrow -/
theorem vx_throwS {cc : ByteArray} {pc : Nat} (hexec : p.tables.exec = Jvm.exec) (hb : c.code = cc) (hl : l.stackTraces = false) {own cls text : String} {names : List String} {ik is ic mc ms sa : Nat} {A : Nat → Prop}
    (hown : s.vm.findClass own = some m.cls) (hcls : Bundle.fit cls = true) (hnames : ∀ n ∈ names, Bundle.fit n = true)
    (hk : (Cond.classLink own ik cls).before args s = true) (hini : (Cond.initialized cls).before args s = true) (hstr : vk_R own is text sa s) (hat : ∀ w ∈ vx_atS own ic cls names, w.before args s = true)
    (hgood : ∀ w ∈ Cond.classLink own ik cls :: Cond.initialized cls :: vx_atS own ic cls names, vx_ot w = true)
    (hU : vx_Zq Bundle.tN "UNASSIGNED_STACK" Bundle.steD A s s.heap) (hN : vx_Zq Bundle.tN "SUPPRESSED_SENTINEL" Bundle.listD A s s.heap) (hS : va_S A s.heap H locs) (hsize : ls.size = c.maxLocals)
    (d0 : decode cc pc = .ok (.new ik, 3)) (d3 : decode cc (pc + 3) = .ok (.dup, 1)) (d4 : decode cc (pc + 4) = .ok (.ldc is, 2)) (d6 : decode cc (pc + 6) = .ok (.invokespecial ic, 3)) (d9 : decode cc (pc + 9) = .ok (.athrow, 1))
    (hout : ∀ x ∈ c.exceptionTable.toList, covers x (pc + 9) = false)
    (hRframes : names.length + 3 < R.frames) (hRlocals : (rest.map fun v => v.category).sum + (13 * (names.length + 1) + 43) ≤ R.locals) (hRcells : cells + 1 ≤ R.cells) (hRslots : slots + 6 ≤ R.slots) (hlocks : meth.locks = false)
    (hx : ∀ t : State, s.vm.Alike t.vm → H.size ≤ t.heap.size → (∀ q : Nat, q < H.size → t.heap[q]? = H[q]?) → XC cls s t)
    (hf : ∀ z ∈ locs, free z.base) (hc : cells + 1 ≤ mc) (hs : slots + 6 ≤ ms) :
    W p l e R s m args below meth c H locs cells slots (vx_MQ below Qc XC args s mc ms free) (F0 m pc ls rest) := by
  intro T hT X
  have htr : e.platform.stackTraces = false := (show e.platform.stackTraces = l.stackTraces by rw [X.admits.platform]).trans hl
  have Y := vx_rebase X (R' := { frames := R.frames, locals := R.locals, cells := 1, slots := 6 }) (Nat.le_refl _) (Nat.le_refl _) hRcells hRslots
  obtain ⟨s', hA⟩ : ∃ z, z = (T.setVm s.vm).setFrames (.invoking m args :: below) := ⟨_, rfl⟩
  rw [← hA] at Y
  have hvm : s'.vm = s.vm := by rw [hA]; rfl
  have hhp : s'.heap = H := by rw [hA]; exact hT
  have hW0 : s.WarmedH s'.vm := by rw [hvm]; exact State.WarmedH.refl s
  have hat' : ∀ w ∈ vx_atS own ic cls names, w.before args s' = true := fun w hw => vx_ot_at hW0 hvm.symm (hgood w (List.mem_cons_of_mem _ (List.mem_cons_of_mem _ hw))) (hat w hw)
  have hk' : (Cond.classLink own ik cls).before args s' = true := vx_ot_at hW0 hvm.symm (hgood _ List.mem_cons_self) hk
  have hini' : (Cond.initialized cls).before args s' = true := vx_ot_at hW0 hvm.symm (hgood _ (List.mem_cons_of_mem _ List.mem_cons_self)) hini
  have hU' : vx_Zq Bundle.tN "UNASSIGNED_STACK" Bundle.steD A s' s'.heap := by rw [hhp]; exact vx_Zq.moved hW0.alike (hU.kept hS.2.1)
  have hN' : vx_Zq Bundle.tN "SUPPRESSED_SENTINEL" Bundle.listD A s' s'.heap := by rw [hhp]; exact vx_Zq.moved hW0.alike (hN.kept hS.2.1)
  have h : ∀ w ∈ Bundle.ownAtoms own ic cls names, w.before args s' = true := vx_own hat' (vx_isRefq hU'.1) (vx_isRefq hN'.1) hU'.2.word hN'.2.word
  have hown' : s'.vm.findClass own = some m.cls := by rw [hvm]; exact hown
  have hins : (Cond.instantiable cls 6).before args s' = true := h _ (by simp [Bundle.ownAtoms])
  obtain ⟨vm₁, cX, kX, hfX, hkX, -, -, X₁, st1⟩ := Y.newCold hexec (own := own) (C := cls) (index := ik) (n := 6) hown' hk' hins hini'
    (g := F0 m pc ls rest) rfl (by rw [hb]; exact d0) (Nat.le_refl _) (Nat.le_refl _)
  generalize hT1 : (T.setVm vm₁).pushCell { cls := cX, slots := kX.instanceTypes.map defaultValue, vm := .none } = T1 at X₁ st1
  have hcat : (Value.ref T.heap.size).category = 1 := rfl
  have hcellA : T1.heap[T.heap.size]? = some (freshCell cX kX) := by rw [← hT1]; exact State.heap_pushCell_size _ _
  have d3' : decode c.code (pc + 3) = .ok (.dup, 1) := by rw [hb]; exact d3
  have d4' : decode c.code (pc + 4) = .ok (.ldc is, 2) := by rw [hb]; exact d4
  have hstr' : vk_R own is text sa s' := vk_R.warm hW0 hstr
  obtain ⟨U, hsteps, hrun, hend, hW, hsame, ce, hce, hO⟩ := X₁.ctorThrowS hexec htr (own := own) (cls := cls) (names := names) (ic := ic) hown' hcls hnames h (fun x hx => nomatch hx) hfX hkX hcellA (by rw [hhp, hT]; exact Nat.le_refl _) (msg := .ref sa) rfl
    (g := { method := m, pc := pc + 6, locals := ls, stack := .ref sa :: .ref T.heap.size :: .ref T.heap.size :: rest, locked := none }) rfl hsize rfl rfl (rest := rest) rfl
    (by rw [hb]; exact d6) (by rw [hb]; exact d9) hout hRframes (by simp only [List.map_cons, List.sum_cons, hcat]; omega) hlocks
  obtain ⟨f1, f2⟩ := vx_frame hsame
  rw [hhp] at f1 f2
  have hWs : s.WarmedH U.vm := State.WarmedH.trans hW0 hW
  have hcl : s.vm.findClass cls = some ce.cls := by
    have h9 := hO.cls
    rw [hvm] at h9
    exact h9
  have hall : s.sameButNew ({ U with vm := s.vm } : State) locs mc ms := by
    subst hA
    obtain ⟨e1, e2⟩ := hsame
    rw [State.setFrames_setFrames] at e1
    have h2 : (T.setVm s.vm).sameButNew ({ U with vm := s.vm } : State) [] (0 + 1) (0 + 6) := ⟨e1, e2⟩
    have h3 := X.same.trans h2
    rw [List.append_nil] at h3
    exact h3.mono hc hs
  refine ⟨U, ?_, .threw T.heap.size, hrun, hend, Or.inr ⟨T.heap.size, rfl, cls, ce, locs, hx U hWs.alike f1 (fun q hq => f2 q hq (fun z hz => nomatch hz)), hce, hO.vm, hcl, hWs, hall, hf⟩⟩
  refine st1 _ ?_
  show Steps p.tables e below (T1.setTop { method := m, pc := pc + 3, locals := ls, stack := .ref T.heap.size :: rest, locked := none }) _
  jvm_step X₁.here [X₁.here.top, hexec, d3', Value.category]
  exact X₁.ldcString hexec (own := own) (text := text) (index := is) (a := sa) hown' hstr'.1 hstr'.2
    (g := { method := m, pc := pc + 4, locals := ls, stack := .ref T.heap.size :: .ref T.heap.size :: rest, locked := none }) rfl d4' _ hsteps
/-- 'throw new E("text")', the text by a wide index -/
theorem vx_throwSW {cc : ByteArray} {pc : Nat} (hexec : p.tables.exec = Jvm.exec) (hb : c.code = cc) (hl : l.stackTraces = false) {own cls text : String} {names : List String} {ik is ic mc ms sa : Nat} {A : Nat → Prop}
    (hown : s.vm.findClass own = some m.cls) (hcls : Bundle.fit cls = true) (hnames : ∀ n ∈ names, Bundle.fit n = true)
    (hk : (Cond.classLink own ik cls).before args s = true) (hini : (Cond.initialized cls).before args s = true) (hstr : vk_R own is text sa s) (hat : ∀ w ∈ vx_atS own ic cls names, w.before args s = true)
    (hgood : ∀ w ∈ Cond.classLink own ik cls :: Cond.initialized cls :: vx_atS own ic cls names, vx_ot w = true)
    (hU : vx_Zq Bundle.tN "UNASSIGNED_STACK" Bundle.steD A s s.heap) (hN : vx_Zq Bundle.tN "SUPPRESSED_SENTINEL" Bundle.listD A s s.heap) (hS : va_S A s.heap H locs) (hsize : ls.size = c.maxLocals)
    (d0 : decode cc pc = .ok (.new ik, 3)) (d3 : decode cc (pc + 3) = .ok (.dup, 1)) (d4 : decode cc (pc + 4) = .ok (.ldc_w is, 3)) (d7 : decode cc (pc + 7) = .ok (.invokespecial ic, 3)) (d10 : decode cc (pc + 10) = .ok (.athrow, 1))
    (hout : ∀ x ∈ c.exceptionTable.toList, covers x (pc + 10) = false)
    (hRframes : names.length + 3 < R.frames) (hRlocals : (rest.map fun v => v.category).sum + (13 * (names.length + 1) + 43) ≤ R.locals) (hRcells : cells + 1 ≤ R.cells) (hRslots : slots + 6 ≤ R.slots) (hlocks : meth.locks = false)
    (hx : ∀ t : State, s.vm.Alike t.vm → H.size ≤ t.heap.size → (∀ q : Nat, q < H.size → t.heap[q]? = H[q]?) → XC cls s t)
    (hf : ∀ z ∈ locs, free z.base) (hc : cells + 1 ≤ mc) (hs : slots + 6 ≤ ms) :
    W p l e R s m args below meth c H locs cells slots (vx_MQ below Qc XC args s mc ms free) (F0 m pc ls rest) := by
  intro T hT X
  have htr : e.platform.stackTraces = false := (show e.platform.stackTraces = l.stackTraces by rw [X.admits.platform]).trans hl
  have Y := vx_rebase X (R' := { frames := R.frames, locals := R.locals, cells := 1, slots := 6 }) (Nat.le_refl _) (Nat.le_refl _) hRcells hRslots
  obtain ⟨s', hA⟩ : ∃ z, z = (T.setVm s.vm).setFrames (.invoking m args :: below) := ⟨_, rfl⟩
  rw [← hA] at Y
  have hvm : s'.vm = s.vm := by rw [hA]; rfl
  have hhp : s'.heap = H := by rw [hA]; exact hT
  have hW0 : s.WarmedH s'.vm := by rw [hvm]; exact State.WarmedH.refl s
  have hat' : ∀ w ∈ vx_atS own ic cls names, w.before args s' = true := fun w hw => vx_ot_at hW0 hvm.symm (hgood w (List.mem_cons_of_mem _ (List.mem_cons_of_mem _ hw))) (hat w hw)
  have hk' : (Cond.classLink own ik cls).before args s' = true := vx_ot_at hW0 hvm.symm (hgood _ List.mem_cons_self) hk
  have hini' : (Cond.initialized cls).before args s' = true := vx_ot_at hW0 hvm.symm (hgood _ (List.mem_cons_of_mem _ List.mem_cons_self)) hini
  have hU' : vx_Zq Bundle.tN "UNASSIGNED_STACK" Bundle.steD A s' s'.heap := by rw [hhp]; exact vx_Zq.moved hW0.alike (hU.kept hS.2.1)
  have hN' : vx_Zq Bundle.tN "SUPPRESSED_SENTINEL" Bundle.listD A s' s'.heap := by rw [hhp]; exact vx_Zq.moved hW0.alike (hN.kept hS.2.1)
  have h : ∀ w ∈ Bundle.ownAtoms own ic cls names, w.before args s' = true := vx_own hat' (vx_isRefq hU'.1) (vx_isRefq hN'.1) hU'.2.word hN'.2.word
  have hown' : s'.vm.findClass own = some m.cls := by rw [hvm]; exact hown
  have hins : (Cond.instantiable cls 6).before args s' = true := h _ (by simp [Bundle.ownAtoms])
  obtain ⟨vm₁, cX, kX, hfX, hkX, -, -, X₁, st1⟩ := Y.newCold hexec (own := own) (C := cls) (index := ik) (n := 6) hown' hk' hins hini'
    (g := F0 m pc ls rest) rfl (by rw [hb]; exact d0) (Nat.le_refl _) (Nat.le_refl _)
  generalize hT1 : (T.setVm vm₁).pushCell { cls := cX, slots := kX.instanceTypes.map defaultValue, vm := .none } = T1 at X₁ st1
  have hcat : (Value.ref T.heap.size).category = 1 := rfl
  have hcellA : T1.heap[T.heap.size]? = some (freshCell cX kX) := by rw [← hT1]; exact State.heap_pushCell_size _ _
  have d3' : decode c.code (pc + 3) = .ok (.dup, 1) := by rw [hb]; exact d3
  have d4' : decode c.code (pc + 4) = .ok (.ldc_w is, 3) := by rw [hb]; exact d4
  have hstr' : vk_R own is text sa s' := vk_R.warm hW0 hstr
  obtain ⟨U, hsteps, hrun, hend, hW, hsame, ce, hce, hO⟩ := X₁.ctorThrowS hexec htr (own := own) (cls := cls) (names := names) (ic := ic) hown' hcls hnames h (fun x hx => nomatch hx) hfX hkX hcellA (by rw [hhp, hT]; exact Nat.le_refl _) (msg := .ref sa) rfl
    (g := { method := m, pc := pc + 7, locals := ls, stack := .ref sa :: .ref T.heap.size :: .ref T.heap.size :: rest, locked := none }) rfl hsize rfl rfl (rest := rest) rfl
    (by rw [hb]; exact d7) (by rw [hb]; exact d10) hout hRframes (by simp only [List.map_cons, List.sum_cons, hcat]; omega) hlocks
  obtain ⟨f1, f2⟩ := vx_frame hsame
  rw [hhp] at f1 f2
  have hWs : s.WarmedH U.vm := State.WarmedH.trans hW0 hW
  have hcl : s.vm.findClass cls = some ce.cls := by
    have h9 := hO.cls
    rw [hvm] at h9
    exact h9
  have hall : s.sameButNew ({ U with vm := s.vm } : State) locs mc ms := by
    subst hA
    obtain ⟨e1, e2⟩ := hsame
    rw [State.setFrames_setFrames] at e1
    have h2 : (T.setVm s.vm).sameButNew ({ U with vm := s.vm } : State) [] (0 + 1) (0 + 6) := ⟨e1, e2⟩
    have h3 := X.same.trans h2
    rw [List.append_nil] at h3
    exact h3.mono hc hs
  refine ⟨U, ?_, .threw T.heap.size, hrun, hend, Or.inr ⟨T.heap.size, rfl, cls, ce, locs, hx U hWs.alike f1 (fun q hq => f2 q hq (fun z hz => nomatch hz)), hce, hO.vm, hcl, hWs, hall, hf⟩⟩
  refine st1 _ ?_
  show Steps p.tables e below (T1.setTop { method := m, pc := pc + 3, locals := ls, stack := .ref T.heap.size :: rest, locked := none }) _
  jvm_step X₁.here [X₁.here.top, hexec, d3', Value.category]
  exact X₁.ldcStringW hexec (own := own) (text := text) (index := is) (a := sa) hown' hstr'.1 hstr'.2
    (g := { method := m, pc := pc + 4, locals := ls, stack := .ref T.heap.size :: .ref T.heap.size :: rest, locked := none }) rfl d4' _ hsteps
end Ends
section Bodies
variable {l : Launch}
theorem vx_ofW {y : MethodName} {ws ws' : List Cond} {rm : Room} {Pc : Array Value → State → Prop} {Qc : Array Value → State → Outcome → State → Prop} {XC : String → State → State → Prop} {mc ms : Nat} {free : Addr → Prop} {cc : ByteArray} {maxL : Nat} {ret : Option FieldType}
    (hy : plainName y.cls = true) (hw : ws = Cond.code y cc maxL ret :: ws')
    (body : ∀ p e s m args below meth c s₁, BodyLoose p l y (headSpec ws rm) cc maxL ret e s m args below meth c s₁ → c.maxLocals = maxL → (∀ x ∈ c.exceptionTable.toList, False) → Pc args s →
      W p l e (headSpec ws rm).room s m args below meth c s.heap [] 0 0 (vx_MQ below Qc XC args s mc ms free) (entryFrame m args maxL)) : vx_Met l y ws rm Pc Qc XC mc ms free := by
  refine MetFree.of_bodyS (code := cc) (maxLocals := maxL) (ret := ret) hy ?_ ?_
  · intro args s m h hn
    obtain ⟨meth, c, h1, h2, h3, h4, h5, h6, -, -⟩ := Cond.code_spec hn (atoms_spec (ws := ws) h _ (by rw [hw]; exact List.mem_cons_self))
    exact ⟨meth, c, h1, h2, h3, h4, h5, h6⟩
  · intro p e s m args below meth c s₁ B hml hP _
    have hh0 : s₁.heap = s.heap := by rw [B.state]; rfl
    have ht : ∀ x ∈ c.exceptionTable.toList, False := by
      obtain ⟨meth9, c9, h1, h2, -, -, -, -, h7, -⟩ := Cond.code_spec B.named (atoms_spec (ws := ws) B.pre _ (by rw [hw]; exact List.mem_cons_self))
      cases Option.some.inj (h1.symm.trans B.method)
      cases Option.some.inj (h2.symm.trans (Stand.of_body B).code)
      intro x hx
      rw [Array.isEmpty_iff.mp h7] at hx
      cases hx
    obtain ⟨t, a1, o, b1, b2, b3⟩ := body p e s m args below meth c s₁ B hml ht hP s₁ hh0 (Stand.of_body B)
    exact ⟨t, o, a1, b1, b2, b3⟩
/-- the table of a body with handlers -/
theorem vx_table {p : Program} {x y : MethodName} {S : Spec} {cc bytes : ByteArray} {maxL maxL' : Nat} {ret ret' : Option FieldType} {e : Env} {s s₁ : State} {m : MethodId} {args : Array Value} {below : List Frame} {meth : Method} {c : Code} {hh : List (Nat × Nat × Nat × Nat)}
    (B : BodyLoose p l y S cc maxL ret e s m args below meth c s₁) (h : (Cond.codeWith y bytes maxL' ret' hh).before args s = true) : c.exceptionTable.toList = tableOf hh := by
  obtain ⟨m9, meth9, c9, hn9, h1, h2, -, -, h6, -⟩ := Cond.codeWith_spec h
  cases Option.some.inj (hn9.symm.trans B.named)
  cases Option.some.inj (h1.symm.trans B.method)
  cases Option.some.inj (h2.symm.trans (Stand.of_body B).code)
  rw [← h6, table_eq]
end Bodies
end VXA
/-! ===== END ===== -/
/-! ===== BEGIN a static call of a method with an exception table ===== -/
section VXS
variable {p : Program} {l : Launch} {e : Env} {R : Room} {s : State} {m : MethodId} {args : Array Value} {below : List Frame} {meth : Method} {c : Code} {T : State} {H : Heap} {locs : List Loc} {cells slots : Nat}
abbrev vx_CSW (R : Room) (s : State) (args : Array Value) (own : String) (index : Nat) (y : MethodName) (bytes : ByteArray) (maxL : Nat) (ret : Option FieldType) (hh : List (Nat × Nat × Nat × Nat)) (ws : List Cond) (rm : Room) (mc ms n : Nat) : Prop :=
  (rm.cells = mc ∧ rm.slots = ms ∧ rm.frames + 1 ≤ R.frames ∧ 8 + (maxL + 11) + rm.locals ≤ R.locals ∧ (∀ w ∈ ws, ∀ (a' : Array Value) (U : State), s.WarmedH U.vm → w.before a' U = true) ∧ Cond.codeWith y bytes maxL ret hh ∈ ws) ∧
  (Cond.codeWith y bytes maxL ret hh).before args s = true ∧ (Cond.initialized y.cls).before args s = true ∧ (y.cls ≠ "java/lang/invoke/MethodHandle" ∧ y.cls ≠ "java/lang/invoke/VarHandle") ∧
  (∀ sig, parseMethodDescriptor y.desc = some sig → n = sig.parameters.length) ∧ (Cond.methodLink own index y).before args s = true ∧ (Cond.static y).before args s = true
theorem vx_cwSW {own : String} {index maxL mc ms : Nat} {y : MethodName} {bytes : ByteArray} {ret : Option FieldType} {hh : List (Nat × Nat × Nat × Nat)} {Ts ws ws' : List Cond} {rm : Room} (n : Nat) (ht : ∀ w ∈ Ts, w.before args s = true) (hT : GoodIn Ts (va_wsS own index y ws)) (hw : ws = Cond.codeWith y bytes maxL ret hh :: ws') (hrc : rm.cells = mc) (hrs : rm.slots = ms)
    (hd : y.cls ≠ "java/lang/invoke/MethodHandle" ∧ y.cls ≠ "java/lang/invoke/VarHandle" ∧ (parseMethodDescriptor y.desc).map (fun d => d.parameters.length) = some n) (hR : rm.frames + 1 ≤ R.frames ∧ 8 + (maxL + 11) + rm.locals ≤ R.locals) :
    vx_CSW R s args own index y bytes maxL ret hh ws rm mc ms n := by
  have ok : ∀ w ∈ va_wsS own index y ws, w.before args s = true := fun w h => ht w (hT w h).1
  have hG : GoodIn Ts ws := fun w h => hT w (by unfold va_wsS; exact List.mem_append_right _ h)
  have hc : Cond.codeWith y bytes maxL ret hh ∈ ws := by rw [hw]; exact List.mem_cons_self
  refine ⟨⟨hrc, hrs, hR.1, hR.2, pay_in ht hG, hc⟩, ht _ (hG _ hc).1, ok _ (by simp [va_wsS]), ⟨hd.1, hd.2.1⟩, fun sig h => ?_, ok _ (by simp [va_wsS]), ok _ (by simp [va_wsS])⟩
  have h2 := hd.2.2
  rw [h] at h2
  exact (Option.some.inj h2).symm
theorem vx_callSW (X : Stand p l e R s m args below meth c T locs cells slots) (hexec : p.tables.exec = Jvm.exec) {own : String} {index : Nat} {y : MethodName} {bytes : ByteArray} {maxL : Nat} {ret : Option FieldType} {hh : List (Nat × Nat × Nat × Nat)}
    (hown : s.vm.findClass own = some m.cls) (hlink : (Cond.methodLink own index y).before args s = true) (hstat : (Cond.static y).before args s = true) (hinit : (Cond.initialized y.cls).before args s = true)
    (hcode : (Cond.codeWith y bytes maxL ret hh).before args s = true) (hy : y.cls ≠ "java/lang/invoke/MethodHandle" ∧ y.cls ≠ "java/lang/invoke/VarHandle")
    {W9 : Nat} {Pre : Pt → Array Value → Prop} {Post : Pt → Array Value → Option Value → Pt → Prop} (hK : Back l R p e below s args y 3 W9 Pre Post)
    {g : JFrame} (hg : g.method = m) (hsize : g.locals.size = c.maxLocals) {argsL rest : List Value} (hlen : ∀ sig, parseMethodDescriptor y.desc = some sig → argsL.length = sig.parameters.length)
    (hstack : g.stack = argsL.reverse ++ rest) (hW : 2 * g.monitorRoom + (rest.map fun v => v.category).sum ≤ W9) (hdg : decode c.code g.pc = .ok (.invokestatic index, 3))
    (hpre : ∀ vm₁, s.WarmedH vm₁ → Pre ⟨T.setVm vm₁, locs, cells, slots⟩ argsL.toArray) :
    ∃ (v : Option Value) (vm₁ : Vm) (B : Pt), s.WarmedH vm₁ ∧ Stand p l e R s m args below meth c B.U B.locs B.cells B.slots ∧ Post ⟨T.setVm vm₁, locs, cells, slots⟩ argsL.toArray v B ∧
      ∀ target, Steps p.tables e below (B.U.setTop { g with pc := g.pc + 3, stack := v.toList ++ rest }) target → Steps p.tables e below (T.setTop g) target := by
  obtain ⟨mk, methM, cM, hnamed, hmethM, -, -, -, -, -, -, hsigM⟩ := Cond.codeWith_spec hcode
  have hstatic : methM.isStatic = true := Cond.static_spec hnamed hmethM hstat
  obtain ⟨kP, hkP, -⟩ := className_of_methodNamed hnamed
  have hinitP : kP.init = .initialized := Cond.initialized_spec (findClass_of_methodNamed hnamed) hkP hinit
  obtain ⟨vm₁, X₁, hstep₁⟩ := X.invokestatic hexec hown hlink hnamed hmethM hstatic hkP hinitP hy (g := g) hg (argsL := argsL) (rest := rest) (hlen _ hsigM) hstack hdg
  obtain ⟨v, B, X', hpost, hsteps⟩ := hK m meth c ⟨T.setVm vm₁, locs, cells, slots⟩ { g with stack := rest } (.invokestatic index) mk argsL.toArray X₁ hg hsize hdg hW (X₁.named hnamed) (hpre vm₁ X₁.warmed)
  exact ⟨v, vm₁, B, X₁.warmed, X', hpost, fun target h => hstep₁ _ fun acts => by rw [doInvoke_state]; exact hsteps.trans h⟩
theorem vx_runSW {y : MethodName} {bytes cc : ByteArray} {maxL nL mc ms n index : Nat} {ret : Option FieldType} {hh : List (Nat × Nat × Nat × Nat)} {ws : List Cond} {rm : Room} {Pc : Array Value → State → Prop} {Qc : Array Value → State → Outcome → State → Prop} {free : Addr → Prop} {Ts : List Cond} {own : String} {As rest : List Value} {g : JFrame}
    (S : CallFix p m c cc nL s args Ts own) (hM : Met l y ws rm Pc Qc mc ms free) (cw : vx_CSW R s args own index y bytes maxL ret hh ws rm mc ms n) (hp : PreS s H Pc As)
    (hg : g.method = m) (hn : As.length = n) (hsize : g.locals.size = nL) (hstack : g.stack = As.reverse ++ rest) (hW : 2 * g.monitorRoom + (rest.map fun v => v.category).sum ≤ 8) (hdg : decode cc g.pc = .ok (.invokestatic index, 3)) (hf : cells + mc ≤ R.cells ∧ slots + ms ≤ R.slots) :
    va_Run p l e R s m args below meth c H locs cells slots mc ms g rest (Qc As.toArray) (free) := by
  obtain ⟨⟨hrc, hrs, hfr, hlo, hws, hcw⟩, hcode, hini, hy, hlen, hl, hstt⟩ := cw
  have hK : Back l R p e below s args y 3 8 (PreOf R mc ms Pc) (PostOf Qc mc ms free) := va_backW (hh := hh) (bytes := bytes) (maxL := maxL) (ret := ret) hM hp.1 hrc hrs hfr hlo hws hcw (fun a' U hW => word_at hW (Or.inl (by first | rfl | simp [Cond.onTables, Cond.keeps, Cond.steady])) hini)
  obtain ⟨hx, hb, hml, ho, -⟩ := S
  intro T hT X
  obtain ⟨v, vm₁, ⟨U', l2, c2, s2⟩, hW₁, X', ⟨g', mk, t, L, e1, e2, hq, h1, hL, h2, h3⟩, st⟩ := vx_callSW X hx (hh := hh) (bytes := bytes) (maxL := maxL) (ret := ret) ho hl hstt hini hcode hy hK hg (hsize.trans hml.symm) (argsL := As) (rest := rest) (fun sig h => hn.trans (hlen sig h)) hstack hW (by rw [hb]; exact hdg)
    (fun vm₁ hW₁ => ⟨hf.1, hf.2, hp.2 (T.setVm vm₁) hT hW₁⟩)
  dsimp only [Pt.U, Pt.locs, Pt.cells, Pt.slots] at X' e1 e2 h1 h2 h3 st
  subst h1; subst h2; subst h3
  exact ⟨v, (T.setVm vm₁).calling g' mk As.toArray, t, U', L, hT, X', hL, e1, e2, hq, st⟩
/-- not caught here, past rows that name other classes: it goes on to the caller -/
theorem vx_outP {p : Program} {l : Launch} {e : Env} {R : Room} {s : State} {m : MethodId} {args : Array Value} {below : List Frame} {meth : Method} {c : Code} {H : Heap} {locs : List Loc} {cells slots : Nat} {free : Addr → Prop} {ls : Array Slot} {rest : List Value} {Qc : Array Value → State → Outcome → State → Prop} {XC : String → State → State → Prop}
    {pc : Nat} {own E : String} {ce : Cell} {q : Addr} {mc ms : Nat} (hown : s.vm.findClass own = some m.cls) (hlocks : meth.locks = false)
    (hpass : ∀ z ∈ c.exceptionTable.toList, covers z pc = false ∨ (z.catchType ≠ 0 ∧ ∃ nm : String, (Cond.classLink own z.catchType nm).before args s = true ∧ va_Nc E nm s)) (hcell : H[q]? = some ce) (hv : ce.vm = .none) (hcl : s.vm.findClass E = some ce.cls)
    (hx : ∀ t : State, t.heap = H → s.vm.Alike t.vm → XC E s t) (hf : ∀ z ∈ locs, free z.base) (hc : cells ≤ mc) (hs : slots ≤ ms) :
    vx_W p l e R s m args below meth c H locs cells slots (vx_MQ below Qc XC args s mc ms free) (F0 m pc ls rest) q := by
  intro T hT X
  have hpl : e.platform.magicAccessors = ({} : Platform).magicAccessors := by rw [X.admits.platform]
  obtain ⟨vm', hW', X', st⟩ := X.outThrough hlocks q (g := F0 m pc ls rest) rfl rfl rfl (cell := ce) (by rw [hT]; exact hcell) (by rw [hv]; rfl)
    (by obtain ⟨k9, h9, -⟩ := Vm.findClass_spec hcl; exact ⟨k9, h9⟩) (fun z hz => by
      rcases hpass z hz with h | ⟨hz0, nm, hl1, hn1⟩
      · exact Or.inl h
      · obtain ⟨c6, hc6, hcl6⟩ := Cond.classLink_spec hown hl1 e.platform hpl
        obtain ⟨a8, b8, h1, h2, h3⟩ := hn1
        cases Option.some.inj (h1.symm.trans hcl)
        cases Option.some.inj (h2.symm.trans hc6)
        exact Or.inr ⟨hz0, _, hcl6, h3⟩)
  obtain ⟨g₀, hfr⟩ := X'.frames_eq
  have hcell9 : ((T.setVm vm').setFrames (.throwing q :: below)).heap[q]? = some ce := by
    show T.heap[q]? = some ce
    rw [hT]; exact hcell
  have hend : Ended ((T.setVm vm').setFrames (.throwing q :: below)) below (.threw q) := State.frames_setFrames _ (State.cur_lt_of_frames hfr)
  refine ⟨(T.setVm vm').setFrames (.throwing q :: below), ?_, .threw q, X'.here.running, hend, Or.inr ⟨q, rfl, E, ce, locs, hx _ hT (X'.ends _).1.alike, hcell9, hv, hcl, (X'.ends _).1, (X'.ends _).2.mono hc hs, hf⟩⟩
  rw [X.pushThrowing_eq]
  exact st
/-- a thing of a world lies in the heap -/
theorem vx_lt {D : va_G} {cl : List vw_C} {ws : va_W} {H1 : Heap} (h : va_P D cl ws H1) {k : Nat} {q : Nat × va_E} (hk : ws[k]? = some q) : q.1 < H1.size := (h k q hk).lt
end VXS
/-! ===== END ===== -/
/-! ===== BEGIN methods with a table of their own: called by a name, returning or throwing ===== -/
section VXH
/-! vx_backW, vx_callVX, vx_callSX, vx_callVW, vx_runVW, vx_runVX, vx_runSX, vx_ofWH follow the same proofs as their sisters above (Free/Laws.lean, Shelf42/LK1.lean); vx_outP calls Shelf42/NT130.lean (outThrough). -/
section
variable {l : Launch} {R : Room} {p : Program} {e : Env} {below : List Frame} {s : State} {sargs : Array Value} {y : MethodName} {len W9 : Nat}
theorem vx_backW {ws : List Cond} {rm : Room} {Pc : Array Value → State → Prop} {Qc : Array Value → State → Outcome → State → Prop} {XC : String → State → State → Prop} {mc ms : Nat} {free : Addr → Prop} {bytes : ByteArray} {maxL : Nat} {ret : Option FieldType} {hh : List (Nat × Nat × Nat × Nat)}
    (hM : vx_Met l y ws rm Pc Qc XC mc ms free) (hblind : FrameBlind Pc) (hrc : rm.cells = mc) (hrs : rm.slots = ms)
    (hframes : rm.frames + 1 ≤ R.frames) (hlocals : W9 + (maxL + 11) + rm.locals ≤ R.locals)
    (hws : ∀ w ∈ ws, ∀ a' U, s.WarmedH U.vm → w.before a' U = true) (hcode : Cond.codeWith y bytes maxL ret hh ∈ ws) (hinit : ∀ a' U, s.WarmedH U.vm → (Cond.initialized y.cls).before a' U = true) :
    vx_Back l R p e below s sargs y len W9 (PreOf R mc ms Pc) (PostOf Qc mc ms free) (vx_Post XC mc ms free) := by
  intro m meth c A g ig mk a X hg hsize hdg hW hn hp
  have h1 : (headSpec ws rm).pre.before a A.U = true := atoms_intro fun w hw => hws w hw _ _ X.warmed
  have h2 : (Cond.codeWith y bytes maxL ret hh).before a A.U = true := hws _ hcode _ _ X.warmed
  have h3 : (Cond.initialized y.cls).before a A.U = true := hinit _ _ X.warmed
  have h4 : A.cells + (headSpec ws rm).room.cells ≤ R.cells := by rw [show (headSpec ws rm).room.cells = mc from hrc]; exact hp.1
  have h5 : A.slots + (headSpec ws rm).room.slots ≤ R.slots := by rw [show (headSpec ws rm).room.slots = ms from hrs]; exact hp.2.1
  have hPc : Pc a (A.U.calling g mk a) := hblind _ _ _ _ hp.2.2
  obtain ⟨U, Ls, c0, s0⟩ := A
  dsimp only [Pt.U, Pt.locs, Pt.cells, Pt.slots] at h1 h2 h3 h4 h5 X hn hPc ⊢
  obtain ⟨m9, methY, cY, hn9, hmY, hcY, -, hlY, -⟩ := Cond.codeWith_spec h2
  cases Option.some.inj (hn9.symm.trans hn)
  obtain ⟨kY, hkY, -⟩ := className_of_methodNamed hn
  have hinitY : kY.init = .initialized := Cond.initialized_spec (findClass_of_methodNamed hn) hkY h3
  have h : At U g.method c below := by rw [hg]; exact X.here
  have hlocals9 : W9 + (maxL + 11) + (headSpec ws rm).room.locals ≤ R.locals := hlocals
  have happ : (headSpec ws rm).appliesLoose y e.platform (U.calling g mk a) = true :=
    Spec.appliesLoose_calling (g := g) h hdg hn hkY hinitY
      (X.room_calling (g := g) (R' := (headSpec ws rm).room) hsize hmY hcY hframes (by rw [hlY]; omega) h4 h5) h1
  obtain ⟨mid, hmid⟩ := h.above
  have hfr : (U.setTop g).frames = (.java g :: mid) ++ below := by rw [State.frames_setTop' g h.top, hmid]; rfl
  obtain ⟨o, s₂, hsteps, -, hend, hq⟩ := Steps.callFree hM p X.admits X.cas X.clock (acts := []) hfr happ hPc trivial
  have hq' : vx_Q Qc XC mc ms free a (U.calling g mk a) o s₂ := hq
  rw [State.frames_setTop' g h.top] at hend
  obtain ⟨g₀, hg0⟩ := Option.isSome_iff_exists.mp h.top
  obtain ⟨r, hr⟩ := State.topJava?_eq_some.mp hg0
  have hr' : (({ U with heap := s₂.heap, slotsUsed := s₂.slotsUsed } : State).setVm s₂.vm).frames = .java g₀ :: r := hr
  rcases hq' with ⟨hqc, L, hfe, hL⟩ | ⟨q, rfl, E, ce, L, hx, hce, hcv, hcl, hW₂, hsm, hL⟩
  · obtain ⟨⟨v, rfl⟩, hW₂, e2, q2, q3, q4, q5, q6⟩ := id hfe
    have e3 : s₂ = ({ (U.calling g mk a).setFrames s₂.frames with heap := s₂.heap, slotsUsed := s₂.slotsUsed } : State).setVm s₂.vm := by
      have : s₂ = ({ s₂ with vm := (U.calling g mk a).vm } : State).setVm s₂.vm := rfl
      rw [e2] at this
      exact this
    obtain ⟨c₂, i₂, len₂, hc₂, hd₂, hf₂⟩ := hend
    have hW' : U.WarmedH s₂.vm := hW₂
    have hcc : c₂ = c := by
      have h1 : s₂.code? g.method = U.code? g.method := by
        rw [State.code?_eq, State.code?_eq, hW'.alike.method?]
      exact Option.some.inj (hc₂.symm.trans (h1.trans h.code))
    subst hcc
    have hlen : len₂ = len := by rw [hdg] at hd₂; cases hd₂; rfl
    subst hlen
    have hs₂ : s₂ = (({ U with heap := s₂.heap, slotsUsed := s₂.slotsUsed } : State).setVm s₂.vm).setTop { g with pc := g.pc + len₂, stack := v.toList ++ g.stack } := by
      refine e3.trans ?_
      rw [hf₂, State.calling_eq h.top, State.setFrames_setFrames, State.setTop_of_frames _ hr', hr]
      rfl
    have hsame : U.sameButNew ({ U with heap := s₂.heap, slotsUsed := s₂.slotsUsed } : State) L mc ms := by
      refine ⟨?_, q2, q3, q4, q5, q6⟩
      obtain ⟨t, ht, -⟩ := State.frames_cons hr
      show ({ U with heap := s₂.heap, slotsUsed := s₂.slotsUsed } : State) = { U.setFrames U.frames with heap := s₂.heap, slotsUsed := s₂.slotsUsed }
      rw [State.setFrames_self ht]
    subst hg
    refine Or.inl ⟨v, ⟨(({ U with heap := s₂.heap, slotsUsed := s₂.slotsUsed } : State).setVm s₂.vm), Ls ++ L, c0 + mc, s0 + ms⟩,
      ⟨X.admits, X.cas, X.clock, X.frames, X.room, X.hears, X.method, X.code, (X.here.setHeapUsed s₂.heap s₂.slotsUsed).setVm hW'.alike, X.tail, State.WarmedH.trans X.warmed hW', X.limits, X.bytes, X.same.trans (hsame.setVm s.vm)⟩,
      ⟨g, mk, s₂, L, rfl, rfl, hqc, rfl, hL, rfl, rfl⟩, ?_⟩
    show Steps p.tables e below _ ((({ U with heap := s₂.heap, slotsUsed := s₂.slotsUsed } : State).setVm s₂.vm).setTop { g with pc := g.pc + len₂, stack := v.toList ++ g.stack })
    rw [← hs₂]
    exact hsteps
  · obtain ⟨e2, q2, q3, q4, q5, q6⟩ := id hsm
    have e3 : s₂ = ({ (U.calling g mk a).setFrames s₂.frames with heap := s₂.heap, slotsUsed := s₂.slotsUsed } : State).setVm s₂.vm := by
      have : s₂ = ({ s₂ with vm := (U.calling g mk a).vm } : State).setVm s₂.vm := rfl
      rw [e2] at this
      exact this
    have hf₂ : s₂.frames = .throwing q :: .java g :: U.frames.tail := hend
    have hW' : U.WarmedH s₂.vm := hW₂
    have hs₂ : s₂ = ((({ U with heap := s₂.heap, slotsUsed := s₂.slotsUsed } : State).setVm s₂.vm).setTop g).pushFrame (.throwing q) := by
      refine e3.trans ?_
      rw [hf₂, State.calling_eq h.top, State.setFrames_setFrames, State.pushFrame, State.frames_setTop _ hr', State.setTop_of_frames _ hr', State.setFrames_setFrames, hr]
      rfl
    have hsame : U.sameButNew ({ U with heap := s₂.heap, slotsUsed := s₂.slotsUsed } : State) L mc ms := by
      refine ⟨?_, q2, q3, q4, q5, q6⟩
      obtain ⟨t, ht, -⟩ := State.frames_cons hr
      show ({ U with heap := s₂.heap, slotsUsed := s₂.slotsUsed } : State) = { U.setFrames U.frames with heap := s₂.heap, slotsUsed := s₂.slotsUsed }
      rw [State.setFrames_self ht]
    subst hg
    refine Or.inr ⟨q, ⟨(({ U with heap := s₂.heap, slotsUsed := s₂.slotsUsed } : State).setVm s₂.vm), Ls ++ L, c0 + mc, s0 + ms⟩,
      ⟨X.admits, X.cas, X.clock, X.frames, X.room, X.hears, X.method, X.code, (X.here.setHeapUsed s₂.heap s₂.slotsUsed).setVm hW'.alike, X.tail, State.WarmedH.trans X.warmed hW', X.limits, X.bytes, X.same.trans (hsame.setVm s.vm)⟩,
      ⟨g, mk, s₂, L, E, ce, rfl, rfl, hx, hce, hcv, hcl, rfl, hL, rfl, rfl⟩, ?_⟩
    show Steps p.tables e below _ (((({ U with heap := s₂.heap, slotsUsed := s₂.slotsUsed } : State).setVm s₂.vm).setTop g).pushFrame (.throwing q))
    rw [← hs₂]
    exact hsteps
end
variable {p : Program} {l : Launch} {e : Env} {R : Room} {s : State} {m : MethodId} {args : Array Value} {below : List Frame} {meth : Method} {c : Code} {T : State} {H : Heap} {locs : List Loc} {cells slots : Nat}
theorem vx_callVX (X : Stand p l e R s m args below meth c T locs cells slots) (hexec : p.tables.exec = Jvm.exec) {own C : String} {index : Nat} {y : MethodName} {bytes : ByteArray} {maxL : Nat} {ret : Option FieldType} {hh : List (Nat × Nat × Nat × Nat)}
    (hown : s.vm.findClass own = some m.cls) (hlink : (Cond.methodLink own index y).before args s = true) (hinst : (Cond.instanceMethod y).before args s = true) (hsel : (Cond.selects C y y).before args s = true)
    (hcode : (Cond.codeWith y bytes maxL ret hh).before args s = true) (hy : y.cls ≠ "java/lang/invoke/MethodHandle" ∧ y.cls ≠ "java/lang/invoke/VarHandle")
    {W9 : Nat} {Pre : Pt → Array Value → Prop} {Post : Pt → Array Value → Option Value → Pt → Prop} {PostX : Pt → Array Value → Addr → Pt → Prop} (hK : vx_Back l R p e below s args y 3 W9 Pre Post PostX)
    {b : Addr} {cellB : Cell} (hcell : T.heap[b]? = some cellB) (hobj : cellB.vm.isStatics = false) (hcls : s.vm.findClass C = some cellB.cls)
    {g : JFrame} (hg : g.method = m) (hsize : g.locals.size = c.maxLocals) {argsL rest : List Value} (hlen : ∀ sig, parseMethodDescriptor y.desc = some sig → argsL.length = sig.parameters.length)
    (hstack : g.stack = argsL.reverse ++ .ref b :: rest) (hW : 2 * g.monitorRoom + (rest.map fun v => v.category).sum ≤ W9) (hdg : decode c.code g.pc = .ok (.invokevirtual index, 3))
    (hpre : ∀ vm₁, s.WarmedH vm₁ → Pre ⟨T.setVm vm₁, locs, cells, slots⟩ (Value.ref b :: argsL).toArray) :
    (∃ (v : Option Value) (vm₁ : Vm) (B : Pt), s.WarmedH vm₁ ∧ Stand p l e R s m args below meth c B.U B.locs B.cells B.slots ∧ Post ⟨T.setVm vm₁, locs, cells, slots⟩ (Value.ref b :: argsL).toArray v B ∧
      ∀ target, Steps p.tables e below (B.U.setTop { g with pc := g.pc + 3, stack := v.toList ++ rest }) target → Steps p.tables e below (T.setTop g) target) ∨
    (∃ (q : Addr) (vm₁ : Vm) (B : Pt), s.WarmedH vm₁ ∧ Stand p l e R s m args below meth c B.U B.locs B.cells B.slots ∧ PostX ⟨T.setVm vm₁, locs, cells, slots⟩ (Value.ref b :: argsL).toArray q B ∧
      Steps p.tables e below (T.setTop g) ((B.U.setTop { g with stack := rest }).pushFrame (.throwing q))) := by
  obtain ⟨mk, methM, hnamed, hmethM, hstM, habM⟩ := Cond.instanceMethod_spec hinst
  obtain ⟨m8, methM', cM, hn8, hmethM', -, -, -, -, -, -, hsigM⟩ := Cond.codeWith_spec hcode
  cases Option.some.inj (hn8.symm.trans hnamed)
  cases hmethM.symm.trans hmethM'
  obtain ⟨c2, r2, m2, q1, q2, q3, q4, kP, hkP, hkPi⟩ := Cond.selects_spec hsel
  cases hcls.symm.trans q1
  cases (State.methodFound?_of_named hnamed hy).symm.trans q2
  cases hnamed.symm.trans q3
  have hselP : selectMethod e.platform s.vm cellB.cls mk = .method mk := by rw [Launch.admits_selectMethod X.admits]; exact q4
  obtain ⟨vm₁, X₁, hstep₁⟩ := X.invokevirtual hexec hown hlink hnamed hmethM hstM hkP hkPi hy (a := b) (cell := cellB) hcell
    (fun z h => by rw [h] at hobj; cases hobj) hselP hmethM habM hkP hkPi (g := g) hg (argsL := argsL) (rest := rest) (hlen _ hsigM) hstack hdg
  rcases hK m meth c ⟨T.setVm vm₁, locs, cells, slots⟩ { g with stack := rest } (.invokevirtual index) mk (Value.ref b :: argsL).toArray X₁ hg hsize hdg hW (X₁.named hnamed) (hpre vm₁ X₁.warmed) with ⟨v, B, X', hpost, hsteps⟩ | ⟨q, B, X', hpost, hsteps⟩
  · exact Or.inl ⟨v, vm₁, B, X₁.warmed, X', hpost, fun target h => hstep₁ _ fun acts => by rw [doInvoke_state]; exact hsteps.trans h⟩
  · exact Or.inr ⟨q, vm₁, B, X₁.warmed, X', hpost, hstep₁ _ fun acts => by rw [doInvoke_state]; exact hsteps⟩
theorem vx_callSX (X : Stand p l e R s m args below meth c T locs cells slots) (hexec : p.tables.exec = Jvm.exec) {own : String} {index : Nat} {y : MethodName} {bytes : ByteArray} {maxL : Nat} {ret : Option FieldType} {hh : List (Nat × Nat × Nat × Nat)}
    (hown : s.vm.findClass own = some m.cls) (hlink : (Cond.methodLink own index y).before args s = true) (hstat : (Cond.static y).before args s = true) (hinit : (Cond.initialized y.cls).before args s = true)
    (hcode : (Cond.codeWith y bytes maxL ret hh).before args s = true) (hy : y.cls ≠ "java/lang/invoke/MethodHandle" ∧ y.cls ≠ "java/lang/invoke/VarHandle")
    {W9 : Nat} {Pre : Pt → Array Value → Prop} {Post : Pt → Array Value → Option Value → Pt → Prop} {PostX : Pt → Array Value → Addr → Pt → Prop} (hK : vx_Back l R p e below s args y 3 W9 Pre Post PostX)
    {g : JFrame} (hg : g.method = m) (hsize : g.locals.size = c.maxLocals) {argsL rest : List Value} (hlen : ∀ sig, parseMethodDescriptor y.desc = some sig → argsL.length = sig.parameters.length)
    (hstack : g.stack = argsL.reverse ++ rest) (hW : 2 * g.monitorRoom + (rest.map fun v => v.category).sum ≤ W9) (hdg : decode c.code g.pc = .ok (.invokestatic index, 3))
    (hpre : ∀ vm₁, s.WarmedH vm₁ → Pre ⟨T.setVm vm₁, locs, cells, slots⟩ argsL.toArray) :
    (∃ (v : Option Value) (vm₁ : Vm) (B : Pt), s.WarmedH vm₁ ∧ Stand p l e R s m args below meth c B.U B.locs B.cells B.slots ∧ Post ⟨T.setVm vm₁, locs, cells, slots⟩ argsL.toArray v B ∧
      ∀ target, Steps p.tables e below (B.U.setTop { g with pc := g.pc + 3, stack := v.toList ++ rest }) target → Steps p.tables e below (T.setTop g) target) ∨
    (∃ (q : Addr) (vm₁ : Vm) (B : Pt), s.WarmedH vm₁ ∧ Stand p l e R s m args below meth c B.U B.locs B.cells B.slots ∧ PostX ⟨T.setVm vm₁, locs, cells, slots⟩ argsL.toArray q B ∧
      Steps p.tables e below (T.setTop g) ((B.U.setTop { g with stack := rest }).pushFrame (.throwing q))) := by
  obtain ⟨mk, methM, cM, hnamed, hmethM, -, -, -, -, -, -, hsigM⟩ := Cond.codeWith_spec hcode
  have hstatic : methM.isStatic = true := Cond.static_spec hnamed hmethM hstat
  obtain ⟨kP, hkP, -⟩ := className_of_methodNamed hnamed
  have hinitP : kP.init = .initialized := Cond.initialized_spec (findClass_of_methodNamed hnamed) hkP hinit
  obtain ⟨vm₁, X₁, hstep₁⟩ := X.invokestatic hexec hown hlink hnamed hmethM hstatic hkP hinitP hy (g := g) hg (argsL := argsL) (rest := rest) (hlen _ hsigM) hstack hdg
  rcases hK m meth c ⟨T.setVm vm₁, locs, cells, slots⟩ { g with stack := rest } (.invokestatic index) mk argsL.toArray X₁ hg hsize hdg hW (X₁.named hnamed) (hpre vm₁ X₁.warmed) with ⟨v, B, X', hpost, hsteps⟩ | ⟨q, B, X', hpost, hsteps⟩
  · exact Or.inl ⟨v, vm₁, B, X₁.warmed, X', hpost, fun target h => hstep₁ _ fun acts => by rw [doInvoke_state]; exact hsteps.trans h⟩
  · exact Or.inr ⟨q, vm₁, B, X₁.warmed, X', hpost, hstep₁ _ fun acts => by rw [doInvoke_state]; exact hsteps⟩
theorem vx_callVW (X : Stand p l e R s m args below meth c T locs cells slots) (hexec : p.tables.exec = Jvm.exec) {own C : String} {index : Nat} {y : MethodName} {bytes : ByteArray} {maxL : Nat} {ret : Option FieldType} {hh : List (Nat × Nat × Nat × Nat)}
    (hown : s.vm.findClass own = some m.cls) (hlink : (Cond.methodLink own index y).before args s = true) (hinst : (Cond.instanceMethod y).before args s = true) (hsel : (Cond.selects C y y).before args s = true)
    (hcode : (Cond.codeWith y bytes maxL ret hh).before args s = true) (hy : y.cls ≠ "java/lang/invoke/MethodHandle" ∧ y.cls ≠ "java/lang/invoke/VarHandle")
    {W9 : Nat} {Pre : Pt → Array Value → Prop} {Post : Pt → Array Value → Option Value → Pt → Prop} (hK : Back l R p e below s args y 3 W9 Pre Post)
    {b : Addr} {cellB : Cell} (hcell : T.heap[b]? = some cellB) (hobj : cellB.vm.isStatics = false) (hcls : s.vm.findClass C = some cellB.cls)
    {g : JFrame} (hg : g.method = m) (hsize : g.locals.size = c.maxLocals) {argsL rest : List Value} (hlen : ∀ sig, parseMethodDescriptor y.desc = some sig → argsL.length = sig.parameters.length)
    (hstack : g.stack = argsL.reverse ++ .ref b :: rest) (hW : 2 * g.monitorRoom + (rest.map fun v => v.category).sum ≤ W9) (hdg : decode c.code g.pc = .ok (.invokevirtual index, 3))
    (hpre : ∀ vm₁, s.WarmedH vm₁ → Pre ⟨T.setVm vm₁, locs, cells, slots⟩ (Value.ref b :: argsL).toArray) :
    ∃ (v : Option Value) (vm₁ : Vm) (B : Pt), s.WarmedH vm₁ ∧ Stand p l e R s m args below meth c B.U B.locs B.cells B.slots ∧ Post ⟨T.setVm vm₁, locs, cells, slots⟩ (Value.ref b :: argsL).toArray v B ∧
      ∀ target, Steps p.tables e below (B.U.setTop { g with pc := g.pc + 3, stack := v.toList ++ rest }) target → Steps p.tables e below (T.setTop g) target := by
  obtain ⟨mk, methM, hnamed, hmethM, hstM, habM⟩ := Cond.instanceMethod_spec hinst
  obtain ⟨m8, methM', cM, hn8, hmethM', -, -, -, -, -, -, hsigM⟩ := Cond.codeWith_spec hcode
  cases Option.some.inj (hn8.symm.trans hnamed)
  cases hmethM.symm.trans hmethM'
  obtain ⟨c2, r2, m2, q1, q2, q3, q4, kP, hkP, hkPi⟩ := Cond.selects_spec hsel
  cases hcls.symm.trans q1
  cases (State.methodFound?_of_named hnamed hy).symm.trans q2
  cases hnamed.symm.trans q3
  have hselP : selectMethod e.platform s.vm cellB.cls mk = .method mk := by rw [Launch.admits_selectMethod X.admits]; exact q4
  obtain ⟨vm₁, X₁, hstep₁⟩ := X.invokevirtual hexec hown hlink hnamed hmethM hstM hkP hkPi hy (a := b) (cell := cellB) hcell
    (fun z h => by rw [h] at hobj; cases hobj) hselP hmethM habM hkP hkPi (g := g) hg (argsL := argsL) (rest := rest) (hlen _ hsigM) hstack hdg
  obtain ⟨v, B, X', hpost, hsteps⟩ := hK m meth c ⟨T.setVm vm₁, locs, cells, slots⟩ { g with stack := rest } (.invokevirtual index) mk (Value.ref b :: argsL).toArray X₁ hg hsize hdg hW (X₁.named hnamed) (hpre vm₁ X₁.warmed)
  exact ⟨v, vm₁, B, X₁.warmed, X', hpost, fun target h => hstep₁ _ fun acts => by rw [doInvoke_state]; exact hsteps.trans h⟩
abbrev vx_CVW (R : Room) (s : State) (args : Array Value) (own C : String) (index : Nat) (y : MethodName) (bytes : ByteArray) (maxL : Nat) (ret : Option FieldType) (hh : List (Nat × Nat × Nat × Nat)) (ws : List Cond) (rm : Room) (mc ms n : Nat) : Prop :=
  (rm.cells = mc ∧ rm.slots = ms ∧ rm.frames + 1 ≤ R.frames ∧ 8 + (maxL + 11) + rm.locals ≤ R.locals ∧ (∀ w ∈ ws, ∀ (a' : Array Value) (U : State), s.WarmedH U.vm → w.before a' U = true) ∧ Cond.codeWith y bytes maxL ret hh ∈ ws) ∧
  (Cond.codeWith y bytes maxL ret hh).before args s = true ∧ (Cond.initialized y.cls).before args s = true ∧ (y.cls ≠ "java/lang/invoke/MethodHandle" ∧ y.cls ≠ "java/lang/invoke/VarHandle") ∧
  (∀ sig, parseMethodDescriptor y.desc = some sig → n = sig.parameters.length) ∧ (Cond.methodLink own index y).before args s = true ∧ (Cond.instanceMethod y).before args s = true ∧ (Cond.selects C y y).before args s = true
theorem vx_cwVW {own C : String} {index maxL mc ms : Nat} {y : MethodName} {bytes : ByteArray} {ret : Option FieldType} {hh : List (Nat × Nat × Nat × Nat)} {Ts ws ws' : List Cond} {rm : Room} (n : Nat) (ht : ∀ w ∈ Ts, w.before args s = true) (hT : GoodIn Ts (wsV own index C y ws)) (hw : ws = Cond.codeWith y bytes maxL ret hh :: ws') (hrc : rm.cells = mc) (hrs : rm.slots = ms)
    (hd : y.cls = C ∧ y.cls ≠ "java/lang/invoke/MethodHandle" ∧ y.cls ≠ "java/lang/invoke/VarHandle" ∧ (parseMethodDescriptor y.desc).map (fun d => d.parameters.length) = some n) (hR : rm.frames + 1 ≤ R.frames ∧ 8 + (maxL + 11) + rm.locals ≤ R.locals) :
    vx_CVW R s args own C index y bytes maxL ret hh ws rm mc ms n := by
  obtain ⟨hC, hd⟩ := hd
  subst hC
  have ok : ∀ w ∈ wsV own index y.cls y ws, w.before args s = true := fun w h => ht w (hT w h).1
  have hG : GoodIn Ts ws := fun w h => hT w (by unfold wsV; exact List.mem_append_right _ h)
  have hc : Cond.codeWith y bytes maxL ret hh ∈ ws := by rw [hw]; exact List.mem_cons_self
  refine ⟨⟨hrc, hrs, hR.1, hR.2, pay_in ht hG, hc⟩, ht _ (hG _ hc).1, ok _ (by simp [wsV]), ⟨hd.1, hd.2.1⟩, fun sig h => ?_, ok _ (by simp [wsV]), ok _ (by simp [wsV]), ok _ (by simp [wsV])⟩
  have h2 := hd.2.2
  rw [h] at h2
  exact (Option.some.inj h2).symm
theorem vx_runVW {y : MethodName} {bytes cc : ByteArray} {maxL nL mc ms n index : Nat} {ret : Option FieldType} {hh : List (Nat × Nat × Nat × Nat)} {ws : List Cond} {rm : Room} {Pc : Array Value → State → Prop} {Qc : Array Value → State → Outcome → State → Prop} {free : Addr → Prop} {Ts : List Cond} {own C : String} {b : Addr} {As rest : List Value} {g : JFrame}
    (S : CallFix p m c cc nL s args Ts own) (hM : Met l y ws rm Pc Qc mc ms free) (cw : vx_CVW R s args own C index y bytes maxL ret hh ws rm mc ms n) (hp : PreV s H C b Pc As)
    (hg : g.method = m) (hn : As.length = n) (hsize : g.locals.size = nL) (hstack : g.stack = As.reverse ++ .ref b :: rest) (hW : 2 * g.monitorRoom + (rest.map fun v => v.category).sum ≤ 8) (hdg : decode cc g.pc = .ok (.invokevirtual index, 3)) (hf : cells + mc ≤ R.cells ∧ slots + ms ≤ R.slots) :
    va_Run p l e R s m args below meth c H locs cells slots mc ms g rest (Qc (Value.ref b :: As).toArray) free := by
  obtain ⟨⟨hrc, hrs, hfr, hlo, hws, hcw⟩, hcode, hini, hy, hlen, hl, hin, hse⟩ := cw
  have hK : Back l R p e below s args y 3 8 (PreOf R mc ms Pc) (PostOf Qc mc ms free) := va_backW (hh := hh) (bytes := bytes) (maxL := maxL) (ret := ret) hM hp.1 hrc hrs hfr hlo hws hcw (fun a' U hW => word_at hW (Or.inl (by first | rfl | simp [Cond.onTables, Cond.keeps, Cond.steady])) hini)
  obtain ⟨hx, hb, hml, ho, -⟩ := S
  obtain ⟨-, ⟨cellB, hcB, hoB, hclB⟩, hPc⟩ := hp
  intro T hT X
  obtain ⟨v, vm₁, ⟨U', l2, c2, s2⟩, hW₁, X', ⟨g', mk, t, L, e1, e2, hq, h1, hL, h2, h3⟩, st⟩ := vx_callVW X hx (C := C) (hh := hh) (bytes := bytes) (maxL := maxL) (ret := ret) ho hl hin hse hcode hy hK (by rw [hT]; exact hcB) hoB hclB hg (hsize.trans hml.symm) (argsL := As) (rest := rest) (fun sig h => hn.trans (hlen sig h)) hstack hW (by rw [hb]; exact hdg)
    (fun vm₁ hW₁ => ⟨hf.1, hf.2, hPc (T.setVm vm₁) hT hW₁⟩)
  dsimp only [Pt.U, Pt.locs, Pt.cells, Pt.slots] at X' e1 e2 h1 h2 h3 st
  subst h1; subst h2; subst h3
  exact ⟨v, (T.setVm vm₁).calling g' mk (Value.ref b :: As).toArray, t, U', L, hT, X', hL, e1, e2, hq, st⟩
section
variable {y : MethodName} {bytes cc : ByteArray} {maxL nL mc ms n index : Nat} {ret : Option FieldType} {ws : List Cond} {rm : Room} {Pc : Array Value → State → Prop} {Qc : Array Value → State → Outcome → State → Prop} {XC : String → State → State → Prop} {free : Addr → Prop} {Ts : List Cond} {own C : String} {b : Addr} {As rest : List Value} {g : JFrame}
theorem vx_runVX {hh : List (Nat × Nat × Nat × Nat)} (S : CallFix p m c cc nL s args Ts own) (hM : vx_Met l y ws rm Pc Qc XC mc ms free) (cw : vx_CVW R s args own C index y bytes maxL ret hh ws rm mc ms n) (hp : PreV s H C b Pc As)
    (hg : g.method = m) (hn : As.length = n) (hsize : g.locals.size = nL) (hstack : g.stack = As.reverse ++ .ref b :: rest) (hW : 2 * g.monitorRoom + (rest.map fun v => v.category).sum ≤ 8) (hdg : decode cc g.pc = .ok (.invokevirtual index, 3)) (hf : cells + mc ≤ R.cells ∧ slots + ms ≤ R.slots) :
    vx_Run p l e R s m args below meth c H locs cells slots mc ms g rest (Qc (Value.ref b :: As).toArray) XC free := by
  obtain ⟨⟨hrc, hrs, hfr, hlo, hws, hcw⟩, hcode, hini, hy, hlen, hl, hin, hse⟩ := cw
  have hK : vx_Back l R p e below s args y 3 8 (PreOf R mc ms Pc) (PostOf Qc mc ms free) (vx_Post XC mc ms free) := vx_backW (hh := hh) (bytes := bytes) (maxL := maxL) (ret := ret) hM hp.1 hrc hrs hfr hlo hws hcw (fun a' U hW => word_at hW (Or.inl (by first | rfl | simp [Cond.onTables, Cond.keeps, Cond.steady])) hini)
  obtain ⟨hx, hb, hml, ho, -⟩ := S
  obtain ⟨-, ⟨cellB, hcB, hoB, hclB⟩, hPc⟩ := hp
  intro T hT X
  rcases vx_callVX X hx (C := C) (hh := hh) (bytes := bytes) (maxL := maxL) (ret := ret) ho hl hin hse hcode hy hK (by rw [hT]; exact hcB) hoB hclB hg (hsize.trans hml.symm) (argsL := As) (rest := rest) (fun sig h => hn.trans (hlen sig h)) hstack hW (by rw [hb]; exact hdg)
    (fun vm₁ hW₁ => ⟨hf.1, hf.2, hPc (T.setVm vm₁) hT hW₁⟩) with ⟨v, vm₁, ⟨U', l2, c2, s2⟩, hW₁, X', ⟨g', mk, t, L, e1, e2, hq, h1, hL, h2, h3⟩, st⟩ | ⟨q, vm₁, ⟨U', l2, c2, s2⟩, hW₁, X', ⟨g', mk, t, L, E, ce, e1, e2, hq, hce, hcv, hcl, h1, hL, h2, h3⟩, st⟩
  · dsimp only [Pt.U, Pt.locs, Pt.cells, Pt.slots] at X' e1 e2 h1 h2 h3 st
    subst h1; subst h2; subst h3
    exact Or.inl ⟨v, (T.setVm vm₁).calling g' mk (Value.ref b :: As).toArray, t, U', L, hT, X', hL, e1, e2, hq, st⟩
  · dsimp only [Pt.U, Pt.locs, Pt.cells, Pt.slots] at X' e1 e2 h1 h2 h3 st hcl
    subst h1; subst h2; subst h3
    exact Or.inr ⟨q, (T.setVm vm₁).calling g' mk (Value.ref b :: As).toArray, t, U', L, E, ce, hT, X', hL, e1, e2, hq, hce, hcv, vx_cls hW₁ hcl, st⟩
theorem vx_runSX {hh : List (Nat × Nat × Nat × Nat)} (S : CallFix p m c cc nL s args Ts own) (hM : vx_Met l y ws rm Pc Qc XC mc ms free) (cw : vx_CSW R s args own index y bytes maxL ret hh ws rm mc ms n) (hp : PreS s H Pc As)
    (hg : g.method = m) (hn : As.length = n) (hsize : g.locals.size = nL) (hstack : g.stack = As.reverse ++ rest) (hW : 2 * g.monitorRoom + (rest.map fun v => v.category).sum ≤ 8) (hdg : decode cc g.pc = .ok (.invokestatic index, 3)) (hf : cells + mc ≤ R.cells ∧ slots + ms ≤ R.slots) :
    vx_Run p l e R s m args below meth c H locs cells slots mc ms g rest (Qc As.toArray) XC free := by
  obtain ⟨⟨hrc, hrs, hfr, hlo, hws, hcw⟩, hcode, hini, hy, hlen, hl, hstt⟩ := cw
  have hK : vx_Back l R p e below s args y 3 8 (PreOf R mc ms Pc) (PostOf Qc mc ms free) (vx_Post XC mc ms free) := vx_backW (hh := hh) (bytes := bytes) (maxL := maxL) (ret := ret) hM hp.1 hrc hrs hfr hlo hws hcw (fun a' U hW => word_at hW (Or.inl (by first | rfl | simp [Cond.onTables, Cond.keeps, Cond.steady])) hini)
  obtain ⟨hx, hb, hml, ho, -⟩ := S
  intro T hT X
  rcases vx_callSX X hx (hh := hh) (bytes := bytes) (maxL := maxL) (ret := ret) ho hl hstt hini hcode hy hK hg (hsize.trans hml.symm) (argsL := As) (rest := rest) (fun sig h => hn.trans (hlen sig h)) hstack hW (by rw [hb]; exact hdg)
    (fun vm₁ hW₁ => ⟨hf.1, hf.2, hp.2 (T.setVm vm₁) hT hW₁⟩) with ⟨v, vm₁, ⟨U', l2, c2, s2⟩, hW₁, X', ⟨g', mk, t, L, e1, e2, hq, h1, hL, h2, h3⟩, st⟩ | ⟨q, vm₁, ⟨U', l2, c2, s2⟩, hW₁, X', ⟨g', mk, t, L, E, ce, e1, e2, hq, hce, hcv, hcl, h1, hL, h2, h3⟩, st⟩
  · dsimp only [Pt.U, Pt.locs, Pt.cells, Pt.slots] at X' e1 e2 h1 h2 h3 st
    subst h1; subst h2; subst h3
    exact Or.inl ⟨v, (T.setVm vm₁).calling g' mk As.toArray, t, U', L, hT, X', hL, e1, e2, hq, st⟩
  · dsimp only [Pt.U, Pt.locs, Pt.cells, Pt.slots] at X' e1 e2 h1 h2 h3 st hcl
    subst h1; subst h2; subst h3
    exact Or.inr ⟨q, (T.setVm vm₁).calling g' mk As.toArray, t, U', L, E, ce, hT, X', hL, e1, e2, hq, hce, hcv, vx_cls hW₁ hcl, st⟩
end
end VXH
theorem vx_ofWH {l : Launch} {y : MethodName} {ws ws' : List Cond} {rm : Room} {Pc : Array Value → State → Prop} {Qc : Array Value → State → Outcome → State → Prop} {XC : String → State → State → Prop} {mc ms : Nat} {free : Addr → Prop} {cc : ByteArray} {maxL : Nat} {ret : Option FieldType} {hh : List (Nat × Nat × Nat × Nat)}
    (hy : plainName y.cls = true) (hw : ws = Cond.codeWith y cc maxL ret hh :: ws')
    (body : ∀ p e s m args below meth c s₁, BodyLoose p l y (headSpec ws rm) cc maxL ret e s m args below meth c s₁ → c.maxLocals = maxL → Pc args s →
      W p l e (headSpec ws rm).room s m args below meth c s.heap [] 0 0 (vx_MQ below Qc XC args s mc ms free) (entryFrame m args maxL)) : vx_Met l y ws rm Pc Qc XC mc ms free := by
  refine MetFree.of_bodyS (code := cc) (maxLocals := maxL) (ret := ret) hy ?_ ?_
  · intro args s m h hn
    obtain ⟨m9, meth, c, hn9, h1, h2, h3, h4, -, h5, h6, -⟩ := Cond.codeWith_spec (atoms_spec (ws := ws) h _ (by rw [hw]; exact List.mem_cons_self))
    cases hn.symm.trans hn9
    exact ⟨meth, c, h1, h2, h3, h4, h5, h6⟩
  · intro p e s m args below meth c s₁ B hml hP _
    have hh0 : s₁.heap = s.heap := by rw [B.state]; rfl
    obtain ⟨t, a1, o, b1, b2, b3⟩ := body p e s m args below meth c s₁ B hml hP s₁ hh0 (Stand.of_body B)
    exact ⟨t, o, a1, b1, b2, b3⟩
/-! ===== END ===== -/
/-! ===== BEGIN what the machine throws by itself, no traces kept ===== -/
section VXM
set_option maxHeartbeats 1000000 in
/-- the machine throws cls with the message text, no traces kept: from its note over the frame g to 'throwing' over the same frame (follows the proofs of Stand.vmThrowsMessage, Shelf/KitTracedVmS.lean, and Stand.throwsMessageColdBareV, StandMessageColdV.lean, without the step out of the frame) -/
theorem vx_vmAt {p : Program} {l : Launch} {e : Env} {R : Room} {s : State} {m₀ : MethodId} {args : Array Value} {below : List Frame} {meth : Method} {c : Code} {W : State} {locs : List Loc} {cells slots : Nat}
    (X : Stand p l e R s m₀ args below meth c W locs cells slots) (hexec : p.tables.exec = Jvm.exec) (htr : e.platform.stackTraces = false) {cls : String} {names : List String} {text : String}
    (hcls : Bundle.fit cls = true) (hnames : ∀ n ∈ names, Bundle.fit n = true) (hsoe : (cls == "java/lang/StackOverflowError") = false) (hoom : (cls == "java/lang/OutOfMemoryError") = false)
    (h : ∀ a ∈ Bundle.messageArmAtoms cls names, a.before args s = true)
    (hlocs : ∀ x ∈ locs, ∀ cell, s.heap[x.base]? = some cell → cell.vm.isStatics = false)
    (htext : (text == notModelled) = false) (hlimit : ¬ (stringBytes (stringToUtf16 text)).size > e.platform.arrayLengthLimit) (hheap : ¬ (stringBytes (stringToUtf16 text)).size * componentBytes .byte > e.platform.maxHeapBytes)
    {g : JFrame} (hg : g.method = m₀) (hsize : g.locals.size = c.maxLocals)
    (hRframes : names.length + 4 < R.frames) (hRlocals : 2 * g.monitorRoom + (g.stack.map fun v => v.category).sum + 10240 ≤ R.locals) (hshort : 13 * names.length + 55 ≤ 10240)
    (hRcells : cells + 3 ≤ R.cells) (hRslots : slots + ((stringBytes (stringToUtf16 text)).size + 4 + 6) ≤ R.slots) (hlocks : meth.locks = false) :
    ∃ (S : State) (q : Addr) (ce : Cell), (∀ target, Steps p.tables e below ((S.setTop g).pushFrame (.throwing q)) target → Steps p.tables e below ((W.setTop g).pushFrame (.throwNew cls (some text) none)) target) ∧
      Stand p l e R s m₀ args below meth c S locs (cells + 3) (slots + ((stringBytes (stringToUtf16 text)).size + 4 + 6)) ∧ S.heap[q]? = some ce ∧ s.vm.findClass cls = some ce.cls ∧ ce.vm = .none := by
  have howns : e.platform.frameOwnsMonitors = true := by rw [X.admits.platform]
  have hfin : e.platform.finalization = false := by rw [X.admits.platform]
  have hpl : e.platform.magicAccessors = ({} : Platform).magicAccessors := by rw [X.admits.platform]
  have a : ∀ x, x ∈ Bundle.messageArmAtoms cls names → x.holds args s none s [] = true := fun x hx => h x hx
  obtain ⟨T, Z0, L, -, Y⟩ := ThrowableC.of_atoms (args := args) howns hfin hpl (fun x hx => h x (by simp [Bundle.messageArmAtoms, hx]))
  obtain ⟨Z, M, LZ, LM, hnZ⟩ := Init0T.ofS_atoms (args := args) hpl L Y (fun x hx => h x (by simp [Bundle.messageArmAtoms, hx]))
  obtain ⟨P1, Ps, hlen, L1, hL, hP1m, hlink1, hlink⟩ := Bundle.chainS (args := args) hpl hnZ names cls hcls hnames (fun x hx => h x (by simp [Bundle.messageArmAtoms, hx]))
  obtain ⟨Zs, LZs, hn4, hfitv, hfitc⟩ := StringT.of_atoms (args := args) (fun x hx => h x (by simp [Bundle.messageArmAtoms, hx]))
  have hfound : s.vm.findClass cls = some P1.m.cls := findClass_of_methodNamed hP1m
  obtain ⟨c1, kX, hc1, hk, hord, -, -, hn6⟩ := Cond.instantiable_spec (a (.instantiable cls 6) (by simp [Bundle.messageArmAtoms]))
  cases Option.some.inj (hc1.symm.trans hfound)
  have hinit := Cond.initialized_spec hfound hk (a (.initialized cls) (by simp [Bundle.messageArmAtoms]))
  have hctor : kX.findMethod "<init>" "(Ljava/lang/String;)V" = some P1.m.idx := findMethod_of_methodNamed hP1m hk
  have hsel0 : selectMethod e.platform s.vm P1.m.cls T.fill0 = .method T.fill0 := by
    obtain ⟨c2, r2, m2, q1, q2, q3, q4, -⟩ := Cond.selects_spec (a (.selects cls Bundle.tFill0 Bundle.tFill0) (by simp [Bundle.messageArmAtoms]))
    cases Option.some.inj (q1.symm.trans hfound)
    cases Option.some.inj (q2.symm.trans (State.methodFound?_of_named Y.fill0 (by decide)))
    cases Option.some.inj (q3.symm.trans Y.fill0)
    rw [Launch.admits_selectMethod X.admits]; exact q4
  have hselF : selectMethod e.platform s.vm P1.m.cls T.fill = .method T.fill := by
    obtain ⟨c2, r2, m2, q1, q2, q3, q4, -⟩ := Cond.selects_spec (a (.selects cls Bundle.tFill Bundle.tFill) (by simp [Bundle.messageArmAtoms]))
    cases Option.some.inj (q1.symm.trans hfound)
    cases Option.some.inj (q2.symm.trans (State.methodFound?_of_named Y.fill (by decide)))
    cases Option.some.inj (q3.symm.trans Y.fill)
    rw [Launch.admits_selectMethod X.admits]; exact q4
  obtain ⟨cellS0, hcS0, hiss⟩ := Y.statics
  obtain ⟨u0, hu0⟩ := Cond.staticRefV Y.unassigned L.unassignedStatic L.statics hcS0 hiss (a (.isRef (.static Bundle.tN "UNASSIGNED_STACK" Bundle.steD)) (by simp [Bundle.messageArmAtoms]))
  obtain ⟨sen, hsen⟩ := Cond.staticRefV Y.sentinel L.sentinelStatic L.statics hcS0 hiss (a (.isRef (.static Bundle.tN "SUPPRESSED_SENTINEL" Bundle.listD)) (by simp [Bundle.messageArmAtoms]))
  obtain ⟨ci198, i198, fB, hk198, hg198, ha198, hsB, -, hnB, htB, hffB⟩ := Cond.ownField (t := .object "java/lang/Object") Y.found L.cls (by decide +kernel) (a (.fieldLink Bundle.tN 198 Bundle.tN "backtrace" "Ljava/lang/Object;") (by simp [Bundle.messageArmAtoms])) (a (.lays Bundle.tN Bundle.tN "backtrace" "Ljava/lang/Object;") (by simp [Bundle.messageArmAtoms])) e.platform hpl
  obtain ⟨cellS, hcS', heS, -, hkeep⟩ := X.same.2.2.2.2.2 T.aS cellS0 hcS0
  have hcellS : W.heap[T.aS]? = some cellS := hcS'
  have hout' : ∀ i, (⟨T.aS, i⟩ : Loc) ∉ locs := fun i hmem => by
    have := hlocs _ hmem cellS0 hcS0
    rw [hiss] at this; cases this
  have hknownS : cellS.vm ≠ .unknown := by
    rw [heS]; intro hu
    rw [show cellS0.vm = .unknown from hu] at hiss
    cases hiss
  have hvU : cellS.slots[T.fUnassigned.slot]? = some u0.v := by rw [hkeep _ (hout' _)]; exact hu0
  have hvSen : cellS.slots[T.fSentinel.slot]? = some sen.v := by rw [hkeep _ (hout' _)]; exact hsen
  obtain ⟨iM, hffM⟩ := Y.msg
  obtain ⟨tyC, dC, hdC, hdnC⟩ := Cond.laysAt hfound hk Y.cause (a (.lays cls Bundle.tN "cause" "Ljava/lang/Throwable;") (by simp [Bundle.messageArmAtoms]))
  obtain ⟨tyS, dS, hdS, hdnS⟩ := Cond.laysAt hfound hk Y.stack (a (.lays cls Bundle.tN "stackTrace" Bundle.steD) (by simp [Bundle.messageArmAtoms]))
  obtain ⟨tyP, dP, hdP, hdnP⟩ := Cond.laysAt hfound hk Y.supp (a (.lays cls Bundle.tN "suppressedExceptions" Bundle.listD) (by simp [Bundle.messageArmAtoms]))
  obtain ⟨tyM, dM, hdM, hdnM⟩ := Cond.laysAt hfound hk hffM (a (.lays cls Bundle.tN "detailMessage" "Ljava/lang/String;") (by simp [Bundle.messageArmAtoms]))
  obtain ⟨tyB, dB, hdB, hdnB⟩ := Cond.laysAt hfound hk hffB (a (.lays cls Bundle.tN "backtrace" "Ljava/lang/Object;") (by simp [Bundle.messageArmAtoms]))
  have bC := Cond.laysApart hdB hdC hdnB hdnC (by rw [hnB, Y.causeName]; decide)
  have bS := Cond.laysApart hdB hdS hdnB hdnS (by rw [hnB, Y.stackName]; decide)
  have bP := Cond.laysApart hdB hdP hdnB hdnP (by rw [hnB, Y.suppName]; decide)
  have hbk : ((preparedCellV T.toThrowableT (freshCell P1.m.cls kX) (W.heap.size + 2) u0 sen).withEntry W.cur).slots[fB.slot]? = some .null := by
    have := fresh_default (c := P1.m.cls) tyB
    rw [htB] at this
    simpa [preparedCellV, Cell.setSlot, Cell.withEntry, Array.getElem?_setIfInBounds, bC, bS, bP, bC.symm, bS.symm, bP.symm, defaultValue] using this
  have tkC := Takes.of_laid (v := .ref (W.heap.size + 2)) hk hord tyC (by rw [Y.causeType]; rfl)
  have tkS := Takes.of_laid (v := u0.v) hk hord tyS (by rw [Y.stackType]; exact fits_refV_array _ u0)
  have tkP := Takes.of_laid (v := sen.v) hk hord tyP (by rw [Y.suppType]; exact fits_refV_object _ sen)
  have tkM := Takes.of_laid (v := .ref (W.heap.size + 1)) hk hord tyM (by rw [Y.msgType]; rfl)
  have hskip : SkipFacts T e.platform s (fun u => u) u0 ((preparedCellV T.toThrowableT (freshCell P1.m.cls kX) (W.heap.size + 2) u0 sen).withEntry W.cur) := ⟨{ ci198 := ci198, i198 := i198, fBack := fB }, ⟨hk198, hg198, ha198, hsB⟩, hbk, fun _ _ => rfl⟩
  have h0 : At W g.method c below := by rw [hg]; exact X.here
  obtain ⟨hbeyond, hfreeW⟩ := X.vmMayThrow hsize (.throwNew cls (some text) none) (fun f hf => by cases hf) rfl hRlocals
  have hfr' : W.frames.length + Ps.length + 4 < (e.platform.stackLimits W.me).1 := by have := X.framesAbove hRframes; omega
  have hwd' : (stackUse (.java g :: W.frames.tail)).2 + 13 * Ps.length + 55 ≤ (e.platform.stackLimits W.me).2 := by have := X.stackAbove hsize (K := 13 * Ps.length + 55) (by omega); omega
  have hslots : W.slotsUsed + (stringBytes (stringToUtf16 text)).size + Zs.kS.instanceTypes.size + kX.instanceTypes.size ≤ e.platform.maxSlots := by
    have := X.slotsAbove hRslots
    rw [hn4, hn6]
    omega
  obtain ⟨vm', hW', st⟩ := Steps.vmThrowsMessageColdByV p (s₀ := s) (S := W) (g := g) h0 hexec T L Z LZ M LM X.warmed (t := W.cur) rfl Zs LZs P1 L1 Ps hL hlink1 hlink hsoe hoom hfound hk hinit hord hctor
    (Launch.admits_hotImplicitExceptions X.admits) hbeyond hfreeW htext hlimit hheap (X.cellsAbove hRcells) hslots (hfitv _) (hfitc _)
    (Nn := fun u => u) heapOnly_id (fun _ _ => rfl) (fun _ => rfl) (fun u x y => setCell_twice _ _ _ _) (fun _ => Nat.le_refl _) (cN := ((preparedCellV T.toThrowableT (freshCell P1.m.cls kX) (W.heap.size + 2) u0 sen).withEntry W.cur))
    hsel0 hcellS hknownS hvU tkS (fun _ hu => hu) (fun _ hu => hu) rfl rfl rfl (by simp [preparedCellV, Cell.setSlot, Cell.withEntry]) hskip (fun _ _ hA hW _ hroom _ hrest => L.nativeOff p htr hA hW hroom hrest) hselF hvSen tkC tkP tkM Y.objLocals rfl hfr' hwd'
  rw [plainBareV_eq T.toThrowableT (W.heap.size + 2) u0 sen (.ref (W.heap.size + 1)) W.cur rfl rfl] at st
  obtain ⟨-, -, w3, w4, -, -, -⟩ := withThrown_facts e.platform W Zs text P1.m.cls kX
  have X3 := ((X.pushed (bytesOf Zs.cB (stringToUtf16 text))).pushed (stringAt Zs.cS Zs.kS Zs.fv Zs.fc (stringToUtf16 text) W.heap.size)).pushed (freshCell P1.m.cls kX)
  rw [← withString_eq] at X3
  have X4 := X3.noted hW'
  have ha : (W.heap.size + 2) < ((withThrown W Zs text P1.m.cls kX).setVm vm').heap.size := by show _ < (withThrown W Zs text P1.m.cls kX).heap.size; rw [w3]; omega
  have hcell : ((withThrown W Zs text P1.m.cls kX).setVm vm').heap[(W.heap.size + 2)]? = some (freshCell P1.m.cls kX) := w4
  have X5 := ((((X4.stored hcell T.fCause.slot (.ref (W.heap.size + 2))).storedAgain ha T.fStack.slot u0.v).storedAgain ha T.fSupp.slot sen.v).storedAgain ha T.fStack.slot u0.v).storedAgain ha T.fMsg.slot (.ref (W.heap.size + 1))
  obtain ⟨g₁, hfrM⟩ := X5.frames_eq
  have hU : ((((withThrown W Zs text P1.m.cls kX).setVm vm').setCell (W.heap.size + 2) (plainBareV T.toThrowableT (freshCell P1.m.cls kX) (W.heap.size + 2) u0 sen (.ref (W.heap.size + 1)))).setTop g).pushFrame (.throwing (W.heap.size + 2)) = (((withThrown W Zs text P1.m.cls kX).setVm vm').setCell (W.heap.size + 2) (plainBareV T.toThrowableT (freshCell P1.m.cls kX) (W.heap.size + 2) u0 sen (.ref (W.heap.size + 1)))).setFrames (.throwing (W.heap.size + 2) :: .java g :: below) := by
    rw [State.pushFrame, State.frames_setTop _ hfrM, State.setTop_of_frames _ hfrM, State.setFrames_setFrames]
  have b1 : (bytesOf Zs.cB (stringToUtf16 text)).slots.size = (stringBytes (stringToUtf16 text)).size := by
    rw [(Cell.writeAll_facts _ _).2.2]; simp [bytes0]
  have b2 : (stringAt Zs.cS Zs.kS Zs.fv Zs.fc (stringToUtf16 text) W.heap.size).slots.size = 4 := by simp [string0, Cell.setSlot, hn4]
  have b3 : (freshCell P1.m.cls kX).slots.size = 6 := by simp [hn6]
  rw [b1, b2, b3] at X5
  have e9 : slots + (stringBytes (stringToUtf16 text)).size + 4 + 6 = slots + ((stringBytes (stringToUtf16 text)).size + 4 + 6) := by omega
  rw [e9] at X5
  simp only [List.append_assoc, List.cons_append, List.nil_append] at X5
  refine ⟨((withThrown W Zs text P1.m.cls kX).setVm vm').setCell (W.heap.size + 2) (plainBareV T.toThrowableT (freshCell P1.m.cls kX) (W.heap.size + 2) u0 sen (.ref (W.heap.size + 1))), W.heap.size + 2, _, fun target ht => st _ (by rw [X.tail, ← hU]; exact ht),
    X5.forget (fun y hy => ?_), heapAt_setCell_self _ ha, hfound, rfl⟩
  simp only [List.mem_cons, List.not_mem_nil, or_false] at hy
  have hge : s.heap.size ≤ W.heap.size := X.same.2.1
  rcases hy with rfl | rfl | rfl | rfl | rfl <;> exact Nat.le_trans hge (Nat.le_add_right _ 2)
set_option maxHeartbeats 1000000 in
/-- the machine throws NullPointerException, no traces kept: from its note over the frame g to 'throwing' over the same frame (follows the proof of Stand.vmThrowsNpe, Shelf42/KT2.lean; throwsNpeColdBareVAt, Shelf42/NT91.lean, called) -/
theorem vx_npeAt {p : Program} {l : Launch} {e : Env} {R : Room} {s : State} {m₀ : MethodId} {args : Array Value} {below : List Frame} {meth : Method} {c : Code} {W : State} {locs : List Loc} {cells slots : Nat}
    (X : Stand p l e R s m₀ args below meth c W locs cells slots) (hexec : p.tables.exec = Jvm.exec) (htr : e.platform.stackTraces = false) {n : Nat}
    (h : ∀ a ∈ Bundle.npeArmAtoms n, a.before args s = true)
    (hlocs : ∀ x ∈ locs, ∀ cell, s.heap[x.base]? = some cell → cell.vm.isStatics = false)
    {g : JFrame} (hg : g.method = m₀) (hsize : g.locals.size = c.maxLocals)
    (hRframes : 7 < R.frames) (hRlocals : 2 * g.monitorRoom + (g.stack.map fun v => v.category).sum + 10240 ≤ R.locals)
    (hRcells : cells + 1 ≤ R.cells) (hRslots : slots + n ≤ R.slots) (hlocks : meth.locks = false) :
    ∃ (S : State) (q : Addr) (ce : Cell), (∀ target, Steps p.tables e below ((S.setTop g).pushFrame (.throwing q)) target → Steps p.tables e below ((W.setTop g).pushFrame (.throwNew "java/lang/NullPointerException" none none)) target) ∧
      Stand p l e R s m₀ args below meth c S locs (cells + 1) (slots + n) ∧ S.heap[q]? = some ce ∧ s.vm.findClass "java/lang/NullPointerException" = some ce.cls ∧ ce.vm = .none := by
  have howns : e.platform.frameOwnsMonitors = true := by rw [X.admits.platform]
  have hfin : e.platform.finalization = false := by rw [X.admits.platform]
  have hpl : e.platform.magicAccessors = ({} : Platform).magicAccessors := by rw [X.admits.platform]
  have hpl2 : e.platform.arrayCloneIsPublic = true := by rw [X.admits.platform]
  have a' : ∀ x, x ∈ Bundle.npeArmAtoms n → x.holds args s none s [] = true := fun x hx => h x hx
  obtain ⟨T, Z, L, LZ, Y⟩ := ThrowableC.of_atoms (args := args) howns hfin hpl (fun x hx => h x (by simp [Bundle.npeArmAtoms, hx]))
  obtain ⟨N, LN, hcN, hnNF, hordN, hffS⟩ := NpeC.of_atoms (args := args) hpl hpl2 L Y (fun x hx => h x (by simp [Bundle.npeArmAtoms, hx]))
  obtain ⟨P1, L1, hP1m, hP1s⟩ := PassC.of_atoms (args := args) (s := s) hpl (X := Bundle.nN) (Y := Bundle.rN) (by decide) (by decide) LibCode.NullPointerException.Init0.at_0 LibCode.NullPointerException.Init0.at_1 LibCode.NullPointerException.Init0.at_4 (fun x hx => h x (by simp [Bundle.npeArmAtoms, hx]))
  obtain ⟨PR, LR, hPRm, hPRs⟩ := PassC.of_atoms (args := args) (s := s) hpl (X := Bundle.rN) (Y := Bundle.eN) (by decide) (by decide) LibCode.RuntimeException.Init0.at_0 LibCode.RuntimeException.Init0.at_1 LibCode.RuntimeException.Init0.at_4 (fun x hx => h x (by simp [Bundle.npeArmAtoms, hx]))
  obtain ⟨PE, LEx, hPEm, hPEs⟩ := PassC.of_atoms (args := args) (s := s) hpl (X := Bundle.eN) (Y := Bundle.tN) (by decide) (by decide) LibCode.Exception.Init0.at_0 LibCode.Exception.Init0.at_1 LibCode.Exception.Init0.at_4 (fun x hx => h x (by simp [Bundle.npeArmAtoms, hx]))
  have hfound : s.vm.findClass Bundle.nN = some P1.m.cls := findClass_of_methodNamed hP1m
  have ecls : N.cN = P1.m.cls := Option.some.inj (hcN.symm.trans hfound)
  have hk : s.vm.classes[P1.m.cls]? = some N.kN := by rw [← ecls]; exact LN.cls
  have hinit := Cond.initialized_spec hfound hk (a' (.initialized Bundle.nN) (by simp [Bundle.npeArmAtoms]))
  have hctor : N.kN.findMethod "<init>" "()V" = some P1.m.idx := findMethod_of_methodNamed hP1m hk
  obtain ⟨c1, k1, hc1, hk1, -, -, -, hn⟩ := Cond.instantiable_spec (a' (.instantiable Bundle.nN n) (by simp [Bundle.npeArmAtoms]))
  cases Option.some.inj (hc1.symm.trans hfound)
  cases Option.some.inj (hk1.symm.trans hk)
  have hfsz : (freshCell P1.m.cls N.kN).slots.size = n := by simp [hn]
  have hlink1 : P1.sup = PR.m := Option.some.inj (hP1s.symm.trans hPRm)
  have hlinkR : PR.sup = PE.m := Option.some.inj (hPRs.symm.trans hPEm)
  have hlinkE : PE.sup = Z.m T.toThrowableT := Option.some.inj (hPEs.symm.trans Y.init0)
  have hLs : ∀ P, P ∈ [PR, PE] → P.Links0 e.platform s := fun P hP => by
    simp only [List.mem_cons, List.not_mem_nil, or_false] at hP
    rcases hP with rfl | rfl
    · exact LR
    · exact LEx
  have hsel0 : selectMethod e.platform s.vm P1.m.cls T.fill0 = .method T.fill0 := by
    obtain ⟨c2, r2, m2, q1, q2, q3, q4, -⟩ := Cond.selects_spec (a' (.selects Bundle.nN Bundle.tFill0 Bundle.tFill0) (by simp [Bundle.npeArmAtoms]))
    cases Option.some.inj (q1.symm.trans hfound)
    cases Option.some.inj (q2.symm.trans (State.methodFound?_of_named Y.fill0 (by decide)))
    cases Option.some.inj (q3.symm.trans Y.fill0)
    rw [Launch.admits_selectMethod X.admits]; exact q4
  have hselF : selectMethod e.platform s.vm P1.m.cls T.fill = .method N.fill := by
    obtain ⟨c2, r2, m2, q1, q2, q3, q4, -⟩ := Cond.selects_spec (a' (.selects Bundle.nN Bundle.tFill Bundle.nFill) (by simp [Bundle.npeArmAtoms]))
    cases Option.some.inj (q1.symm.trans hfound)
    cases Option.some.inj (q2.symm.trans (State.methodFound?_of_named Y.fill (by decide)))
    cases Option.some.inj (q3.symm.trans hnNF)
    rw [Launch.admits_selectMethod X.admits]; exact q4
  obtain ⟨cellS0, hcS0, hiss⟩ := Y.statics
  obtain ⟨u0, hu0⟩ := Cond.staticRefV Y.unassigned L.unassignedStatic L.statics hcS0 hiss (a' (.isRef (.static Bundle.tN "UNASSIGNED_STACK" Bundle.steD)) (by simp [Bundle.npeArmAtoms]))
  obtain ⟨sen, hsen⟩ := Cond.staticRefV Y.sentinel L.sentinelStatic L.statics hcS0 hiss (a' (.isRef (.static Bundle.tN "SUPPRESSED_SENTINEL" Bundle.listD)) (by simp [Bundle.npeArmAtoms]))
  obtain ⟨ci198, i198, fB, hk198, hg198, ha198, hsB, -, hnB, htB, hffB⟩ := Cond.ownField (t := .object "java/lang/Object") Y.found L.cls (by decide +kernel) (a' (.fieldLink Bundle.tN 198 Bundle.tN "backtrace" Bundle.objD) (by simp [Bundle.npeArmAtoms])) (a' (.lays Bundle.tN Bundle.tN "backtrace" Bundle.objD) (by simp [Bundle.npeArmAtoms])) e.platform hpl
  obtain ⟨cellS, hcS', heS, -, hkeep⟩ := X.same.2.2.2.2.2 T.aS cellS0 hcS0
  have hcellS : W.heap[T.aS]? = some cellS := hcS'
  have hout' : ∀ i, (⟨T.aS, i⟩ : Loc) ∉ locs := fun i hmem => by
    have := hlocs _ hmem cellS0 hcS0
    rw [hiss] at this; cases this
  have hknownS : cellS.vm ≠ .unknown := by
    rw [heS]; intro hu
    rw [show cellS0.vm = .unknown from hu] at hiss
    cases hiss
  have hvU : cellS.slots[T.fUnassigned.slot]? = some u0.v := by rw [hkeep _ (hout' _)]; exact hu0
  have hvSen : cellS.slots[T.fSentinel.slot]? = some sen.v := by rw [hkeep _ (hout' _)]; exact hsen
  obtain ⟨tyC, dC, hdC, hdnC⟩ := Cond.laysAt hfound hk Y.cause (a' (.lays Bundle.nN Bundle.tN "cause" "Ljava/lang/Throwable;") (by simp [Bundle.npeArmAtoms]))
  obtain ⟨tyS, dS, hdS, hdnS⟩ := Cond.laysAt hfound hk Y.stack (a' (.lays Bundle.nN Bundle.tN "stackTrace" Bundle.steD) (by simp [Bundle.npeArmAtoms]))
  obtain ⟨tyP, dP, hdP, hdnP⟩ := Cond.laysAt hfound hk Y.supp (a' (.lays Bundle.nN Bundle.tN "suppressedExceptions" Bundle.listD) (by simp [Bundle.npeArmAtoms]))
  obtain ⟨tyX, dX, hdX, hdnX⟩ := Cond.laysAt hfound hk hffS (a' (.lays Bundle.nN Bundle.nN "extendedMessageState" "I") (by simp [Bundle.npeArmAtoms, Bundle.npeAtoms]))
  obtain ⟨hnX, htX⟩ := State.fieldFound?_type hffS (t := .int) (by decide +kernel)
  have xC := Cond.laysApart hdC hdX hdnC hdnX (by rw [hnX, Y.causeName]; decide)
  have xS := Cond.laysApart hdS hdX hdnS hdnX (by rw [hnX, Y.stackName]; decide)
  have xP := Cond.laysApart hdP hdX hdnP hdnX (by rw [hnX, Y.suppName]; decide)
  have hv0 : (freshCell P1.m.cls N.kN).slots[N.fState.slot]? = some (.int 0) := by
    have := fresh_default (c := P1.m.cls) tyX
    rw [htX] at this; exact this
  obtain ⟨tyB, dB, hdB, hdnB⟩ := Cond.laysAt hfound hk hffB (a' (.lays Bundle.nN Bundle.tN "backtrace" Bundle.objD) (by simp [Bundle.npeArmAtoms]))
  have bC := Cond.laysApart hdB hdC hdnB hdnC (by rw [hnB, Y.causeName]; decide)
  have bS := Cond.laysApart hdB hdS hdnB hdnS (by rw [hnB, Y.stackName]; decide)
  have bP := Cond.laysApart hdB hdP hdnB hdnP (by rw [hnB, Y.suppName]; decide)
  have bX := Cond.laysApart hdB hdX hdnB hdnX (by rw [hnB, hnX]; decide)
  have hbk : ((npeCell N.toNpeT (preparedCellV T.toThrowableT (freshCell P1.m.cls N.kN) W.heap.size u0 sen) W.cur).withEntry W.cur).slots[fB.slot]? = some .null := by
    have := fresh_default (c := P1.m.cls) tyB
    rw [htB] at this
    simpa [npeCell, preparedCellV, Cell.setSlot, Cell.withEntry, Array.getElem?_setIfInBounds, bC, bS, bP, bX, bC.symm, bS.symm, bP.symm, bX.symm, defaultValue] using this
  have tkC := Takes.of_laid (v := .ref W.heap.size) hk hordN tyC (by rw [Y.causeType]; rfl)
  have tkS := Takes.of_laid (v := u0.v) hk hordN tyS (by rw [Y.stackType]; exact fits_refV_array _ u0)
  have tkP := Takes.of_laid (v := sen.v) hk hordN tyP (by rw [Y.suppType]; exact fits_refV_object _ sen)
  have tkX := Takes.of_laid (v := .int 1) hk hordN tyX (by rw [htX]; rfl)
  have hskip : SkipFacts T e.platform s (fun u => u) u0 ((npeCell N.toNpeT (preparedCellV T.toThrowableT (freshCell P1.m.cls N.kN) W.heap.size u0 sen) W.cur).withEntry W.cur) := ⟨{ ci198 := ci198, i198 := i198, fBack := fB }, ⟨hk198, hg198, ha198, hsB⟩, hbk, fun _ _ => rfl⟩
  obtain ⟨vm', X3, st, -⟩ := X.throwsNpeColdBareVAt hexec hg hsize T L Z LZ N LN P1 L1 [PR, PE] hLs hlink1 ⟨hlinkR, hlinkE, trivial⟩ hfound hk hinit hordN hctor hsel0 hselF hcellS hknownS hvU hvSen
    hv0 xC xS xP tkC tkS tkP tkX Y.objLocals hskip (fun _ _ hA hW _ hroom _ hrest => L.nativeOff p htr hA hW hroom hrest) (by simpa using hRframes) hRlocals (by simp) hRcells (by rw [hn]; exact hRslots)
  have hlt : W.heap.size < ((W.pushCell (freshCell P1.m.cls N.kN)).setVm vm').heap.size := by
    show W.heap.size < (W.pushCell (freshCell P1.m.cls N.kN)).heap.size
    rw [State.heap_size_pushCell]; omega
  rw [hfsz] at X3
  obtain ⟨g₁, hfrM⟩ := X3.frames_eq
  have hU : ((((W.pushCell (freshCell P1.m.cls N.kN)).setVm vm').setCell W.heap.size (npeBareV T.toThrowableT N.toNpeT (freshCell P1.m.cls N.kN) W.heap.size u0 sen)).setTop g).pushFrame (.throwing W.heap.size) = (((W.pushCell (freshCell P1.m.cls N.kN)).setVm vm').setCell W.heap.size (npeBareV T.toThrowableT N.toNpeT (freshCell P1.m.cls N.kN) W.heap.size u0 sen)).setFrames (.throwing W.heap.size :: .java g :: below) := by
    rw [State.pushFrame, State.frames_setTop _ hfrM, State.setTop_of_frames _ hfrM, State.setFrames_setFrames]
  refine ⟨_, W.heap.size, _, fun target ht => st.trans (by rw [← hU]; exact ht), X3.forget (fun y hy => ?_), heapAt_setCell_self _ hlt, hfound, rfl⟩
  simp only [List.mem_cons, List.not_mem_nil, or_false] at hy
  have hge : s.heap.size ≤ W.heap.size := X.same.2.1
  rcases hy with rfl | rfl | rfl | rfl | rfl <;> exact hge
/-- the words of a machine's NullPointerException, but the four that speak of the heap -/
def vx_atN (n : Nat) : List Cond := (Bundle.npeArmAtoms n).filter vx_no
/-- the words of a machine's throw with a message, but the four that speak of the heap -/
def vx_atM (X : String) (names : List String) : List Cond := (Bundle.messageArmAtoms X names).filter vx_no
section
variable {p : Program} {l : Launch} {e : Env} {R : Room} {s : State} {m : MethodId} {args : Array Value} {below : List Frame} {meth : Method} {c : Code} {H : Heap} {locs : List Loc} {cells slots : Nat}
/-- a frame seen from a rebased start, seen from the first start again -/
theorem vx_back9 {T S : State} {R' : Room} {k n : Nat} (X : Stand p l e R s m args below meth c T locs cells slots) (Y : Stand p l e R' ((T.setVm s.vm).setFrames (.invoking m args :: below)) m args below meth c T [] 0 0) (Z : Stand p l e R' ((T.setVm s.vm).setFrames (.invoking m args :: below)) m args below meth c S [] k n) :
    Stand p l e R s m args below meth c S locs (cells + k) (slots + n) := by
  have hW0 : s.WarmedH ((T.setVm s.vm).setFrames (.invoking m args :: below)).vm := State.WarmedH.refl s
  refine { admits := X.admits, cas := X.cas, clock := X.clock, frames := X.frames, room := X.room, hears := X.hears, method := X.method, code := X.code, here := Z.here, tail := Z.tail, warmed := State.WarmedH.trans hW0 Z.warmed, limits := Z.limits.trans (Y.limits.symm.trans X.limits), bytes := Z.bytes.trans (Y.bytes.symm.trans X.bytes), same := ?_ }
  obtain ⟨e1, e2⟩ := Z.same
  rw [State.setFrames_setFrames] at e1
  have h2 : (T.setVm s.vm).sameButNew (S.setVm s.vm) [] k n := ⟨e1, e2⟩
  have h3 := X.same.trans h2
  rw [List.append_nil] at h3
  exact h3
/-- from the machine's note that E is thrown here with this text -/
def vx_Note (p : Program) (l : Launch) (e : Env) (R : Room) (s : State) (m : MethodId) (args : Array Value) (below : List Frame) (meth : Method) (c : Code) (H : Heap) (locs : List Loc) (cells slots : Nat) (Q : State → Prop) (g : JFrame) (E text : String) : Prop :=
  ∀ T : State, T.heap = H → Stand p l e R s m args below meth c T locs cells slots → ∃ t, Steps p.tables e below ((T.setTop g).pushFrame (.throwNew E (some text) none)) t ∧ Q t
theorem vx_vm {pc : Nat} {ls : Array Slot} {rest : List Value} {Q : State → Prop} (hexec : p.tables.exec = Jvm.exec) (hl : l.stackTraces = false) {cls text : String} {names : List String} {nb : Nat} {A : Nat → Prop}
    (hcls : Bundle.fit cls = true) (hnames : ∀ n ∈ names, Bundle.fit n = true) (hsoe : (cls == "java/lang/StackOverflowError") = false) (hoom : (cls == "java/lang/OutOfMemoryError") = false)
    (hat : ∀ w ∈ vx_atM cls names, w.before args s = true) (hgood : ∀ w ∈ vx_atM cls names, vx_ot w = true)
    (hU : vx_Zq Bundle.tN "UNASSIGNED_STACK" Bundle.steD A s s.heap) (hN : vx_Zq Bundle.tN "SUPPRESSED_SENTINEL" Bundle.listD A s s.heap) (hS : va_S A s.heap H locs) (hsize : ls.size = c.maxLocals)
    (htext : (text == notModelled) = false) (hnb : (stringBytes (stringToUtf16 text)).size ≤ nb) (hnb1 : nb ≤ 1000)
    (hRframes : names.length + 4 < R.frames) (hRlocals : (rest.map fun v => v.category).sum + 10240 ≤ R.locals) (hshort : 13 * names.length + 55 ≤ 10240) (hRcells : cells + 3 ≤ R.cells) (hRslots : slots + (nb + 10) ≤ R.slots) (hlocks : meth.locks = false)
    (k : ∀ (H1 : Heap) (q9 : Addr) (ce : Cell), H.size ≤ H1.size → (∀ q : Nat, q < H.size → H1[q]? = H[q]?) → va_S A s.heap H1 locs → H1[q9]? = some ce → ce.vm = .none → s.vm.findClass cls = some ce.cls → vx_W p l e R s m args below meth c H1 locs (cells + 3) (slots + (nb + 10)) Q (F0 m pc ls rest) q9) :
    vx_Note p l e R s m args below meth c H locs cells slots Q (F0 m pc ls rest) cls text := by
  intro T hT X
  have htr : e.platform.stackTraces = false := (show e.platform.stackTraces = l.stackTraces by rw [X.admits.platform]).trans hl
  have Y := vx_rebase X (R' := { frames := R.frames, locals := R.locals, cells := 3, slots := nb + 10 }) (Nat.le_refl _) (Nat.le_refl _) hRcells hRslots
  have hhp : ((T.setVm s.vm).setFrames (.invoking m args :: below)).heap = H := hT
  have hW0 : s.WarmedH ((T.setVm s.vm).setFrames (.invoking m args :: below)).vm := State.WarmedH.refl s
  have hat' : ∀ w ∈ vx_atM cls names, w.before args ((T.setVm s.vm).setFrames (.invoking m args :: below)) = true := fun w hw => vx_ot_at hW0 rfl (hgood w hw) (hat w hw)
  have hU' : vx_Zq Bundle.tN "UNASSIGNED_STACK" Bundle.steD A ((T.setVm s.vm).setFrames (.invoking m args :: below)) ((T.setVm s.vm).setFrames (.invoking m args :: below)).heap := by rw [hhp]; exact vx_Zq.moved hW0.alike (hU.kept hS.2.1)
  have hN' : vx_Zq Bundle.tN "SUPPRESSED_SENTINEL" Bundle.listD A ((T.setVm s.vm).setFrames (.invoking m args :: below)) ((T.setVm s.vm).setFrames (.invoking m args :: below)).heap := by rw [hhp]; exact vx_Zq.moved hW0.alike (hN.kept hS.2.1)
  obtain ⟨S, q, ce, st, Z, hce, hcl', hv⟩ := vx_vmAt Y hexec htr (cls := cls) (names := names) (text := text) hcls hnames hsoe hoom (vx_own hat' (vx_isRefq hU'.1) (vx_isRefq hN'.1) hU'.2.word hN'.2.word) (fun x hx => nomatch hx) htext
    (by rw [Launch.admits_arrayLengthLimit X.admits]; omega) (by rw [Launch.admits_maxHeapBytes X.admits]; simp only [componentBytes]; omega)
    (g := F0 m pc ls rest) rfl hsize hRframes (by show 2 * 0 + (rest.map fun v => v.category).sum + 10240 ≤ R.locals; omega) hshort (by show 0 + 3 ≤ 3; omega) (by show 0 + (_ + 4 + 6) ≤ nb + 10; omega) hlocks
  obtain ⟨f1, f2⟩ := vx_frame Z.same
  have f1' : H.size ≤ S.heap.size := by rw [← hT]; exact f1
  have f2' : ∀ q : Nat, q < H.size → S.heap[q]? = H[q]? := fun q hq => by
    rw [← hT]
    exact f2 q (by rw [← hT] at hq; exact hq) (fun z hz => nomatch hz)
  have X5 := vx_back9 X Y Z
  have X6 : Stand p l e R s m args below meth c S locs (cells + 3) (slots + (nb + 10)) := { X5 with same := X5.same.mono (by omega) (by omega) }
  obtain ⟨t, a1, b1⟩ := k S.heap q ce f1' f2' ⟨Nat.le_trans hS.1 f1', fun q h1 h2 => (f2' q (Nat.lt_of_lt_of_le h1 hS.1)).trans (hS.2.1 q h1 h2), hS.2.2⟩ hce hv hcl' S rfl X6
  exact ⟨t, st t a1, b1⟩
/-- from the machine's note that NullPointerException is thrown here -/
def vx_NoteN (p : Program) (l : Launch) (e : Env) (R : Room) (s : State) (m : MethodId) (args : Array Value) (below : List Frame) (meth : Method) (c : Code) (H : Heap) (locs : List Loc) (cells slots : Nat) (Q : State → Prop) (g : JFrame) : Prop :=
  ∀ T : State, T.heap = H → Stand p l e R s m args below meth c T locs cells slots → ∃ t, Steps p.tables e below ((T.setTop g).pushFrame (.throwNew "java/lang/NullPointerException" none none)) t ∧ Q t
theorem vx_npe {pc : Nat} {ls : Array Slot} {rest : List Value} {Q : State → Prop} (hexec : p.tables.exec = Jvm.exec) (hl : l.stackTraces = false) {nb : Nat} {A : Nat → Prop}
    (hat : ∀ w ∈ vx_atN nb, w.before args s = true) (hgood : ∀ w ∈ vx_atN nb, vx_ot w = true)
    (hU : vx_Zq Bundle.tN "UNASSIGNED_STACK" Bundle.steD A s s.heap) (hN : vx_Zq Bundle.tN "SUPPRESSED_SENTINEL" Bundle.listD A s s.heap) (hS : va_S A s.heap H locs) (hsize : ls.size = c.maxLocals)
    (hRframes : 7 < R.frames) (hRlocals : (rest.map fun v => v.category).sum + 10240 ≤ R.locals) (hRcells : cells + 1 ≤ R.cells) (hRslots : slots + nb ≤ R.slots) (hlocks : meth.locks = false)
    (k : ∀ (H1 : Heap) (q9 : Addr) (ce : Cell), H.size ≤ H1.size → (∀ q : Nat, q < H.size → H1[q]? = H[q]?) → va_S A s.heap H1 locs → H1[q9]? = some ce → ce.vm = .none → s.vm.findClass "java/lang/NullPointerException" = some ce.cls → vx_W p l e R s m args below meth c H1 locs (cells + 1) (slots + nb) Q (F0 m pc ls rest) q9) :
    vx_NoteN p l e R s m args below meth c H locs cells slots Q (F0 m pc ls rest) := by
  intro T hT X
  have htr : e.platform.stackTraces = false := (show e.platform.stackTraces = l.stackTraces by rw [X.admits.platform]).trans hl
  have Y := vx_rebase X (R' := { frames := R.frames, locals := R.locals, cells := 1, slots := nb }) (Nat.le_refl _) (Nat.le_refl _) hRcells hRslots
  have hhp : ((T.setVm s.vm).setFrames (.invoking m args :: below)).heap = H := hT
  have hW0 : s.WarmedH ((T.setVm s.vm).setFrames (.invoking m args :: below)).vm := State.WarmedH.refl s
  have hat' : ∀ w ∈ vx_atN nb, w.before args ((T.setVm s.vm).setFrames (.invoking m args :: below)) = true := fun w hw => vx_ot_at hW0 rfl (hgood w hw) (hat w hw)
  have hU' : vx_Zq Bundle.tN "UNASSIGNED_STACK" Bundle.steD A ((T.setVm s.vm).setFrames (.invoking m args :: below)) ((T.setVm s.vm).setFrames (.invoking m args :: below)).heap := by rw [hhp]; exact vx_Zq.moved hW0.alike (hU.kept hS.2.1)
  have hN' : vx_Zq Bundle.tN "SUPPRESSED_SENTINEL" Bundle.listD A ((T.setVm s.vm).setFrames (.invoking m args :: below)) ((T.setVm s.vm).setFrames (.invoking m args :: below)).heap := by rw [hhp]; exact vx_Zq.moved hW0.alike (hN.kept hS.2.1)
  obtain ⟨S, q, ce, st, Z, hce, hcl', hv⟩ := vx_npeAt Y hexec htr (n := nb) (vx_own hat' (vx_isRefq hU'.1) (vx_isRefq hN'.1) hU'.2.word hN'.2.word) (fun x hx => nomatch hx)
    (g := F0 m pc ls rest) rfl hsize hRframes (by show 2 * 0 + (rest.map fun v => v.category).sum + 10240 ≤ R.locals; omega) (by show 0 + 1 ≤ 1; omega) (by show 0 + nb ≤ nb; omega) hlocks
  obtain ⟨f1, f2⟩ := vx_frame Z.same
  have f1' : H.size ≤ S.heap.size := by rw [← hT]; exact f1
  have f2' : ∀ q : Nat, q < H.size → S.heap[q]? = H[q]? := fun q hq => by
    rw [← hT]
    exact f2 q (by rw [← hT] at hq; exact hq) (fun z hz => nomatch hz)
  have X5 := vx_back9 X Y Z
  have X6 : Stand p l e R s m args below meth c S locs (cells + 1) (slots + nb) := { X5 with same := X5.same.mono (by omega) (by omega) }
  obtain ⟨t, a1, b1⟩ := k S.heap q ce f1' f2' ⟨Nat.le_trans hS.1 f1', fun q h1 h2 => (f2' q (Nat.lt_of_lt_of_le h1 hS.1)).trans (hS.2.1 q h1 h2), hS.2.2⟩ hce hv hcl' S rfl X6
  exact ⟨t, st t a1, b1⟩
variable {Q : State → Prop} {cc : ByteArray} {pc : Nat} {ls : Array Slot} {rest : List Value}
theorem vx_idivZ (hexec : p.tables.exec = Jvm.exec) (hb : c.code = cc) {a b : Int32} (h0 : b = 0) (d : decode cc pc = .ok (.idiv, 1)) (k : vx_Note p l e R s m args below meth c H locs cells slots Q (F0 m pc ls rest) "java/lang/ArithmeticException" "/ by zero") :
    W p l e R s m args below meth c H locs cells slots Q (F0 m pc ls (.int b :: .int a :: rest)) := by
  intro T hT X
  obtain ⟨t, st, q⟩ := k T hT X
  exact ⟨t, X.idivZero hexec (g := F0 m pc ls (.int b :: .int a :: rest)) rfl (a := a) (rest := rest) (by rw [h0]) (by rw [hb]; exact d) t st, q⟩
theorem vx_iremZ (hexec : p.tables.exec = Jvm.exec) (hb : c.code = cc) {a b : Int32} (h0 : b = 0) (d : decode cc pc = .ok (.irem, 1)) (k : vx_Note p l e R s m args below meth c H locs cells slots Q (F0 m pc ls rest) "java/lang/ArithmeticException" "/ by zero") :
    W p l e R s m args below meth c H locs cells slots Q (F0 m pc ls (.int b :: .int a :: rest)) := by
  intro T hT X
  obtain ⟨t, st, q⟩ := k T hT X
  exact ⟨t, X.iremZero hexec (g := F0 m pc ls (.int b :: .int a :: rest)) rfl (a := a) (rest := rest) (by rw [h0]) (by rw [hb]; exact d) t st, q⟩
theorem vx_ldivZ (hexec : p.tables.exec = Jvm.exec) (hb : c.code = cc) {a b : Int64} (h0 : b = 0) (d : decode cc pc = .ok (.ldiv, 1)) (k : vx_Note p l e R s m args below meth c H locs cells slots Q (F0 m pc ls rest) "java/lang/ArithmeticException" "/ by zero") :
    W p l e R s m args below meth c H locs cells slots Q (F0 m pc ls (.long b :: .long a :: rest)) := by
  intro T hT X
  obtain ⟨t, st, q⟩ := k T hT X
  exact ⟨t, X.ldivZero hexec (g := F0 m pc ls (.long b :: .long a :: rest)) rfl (a := a) (rest := rest) (by rw [h0]) (by rw [hb]; exact d) t st, q⟩
theorem vx_lremZ (hexec : p.tables.exec = Jvm.exec) (hb : c.code = cc) {a b : Int64} (h0 : b = 0) (d : decode cc pc = .ok (.lrem, 1)) (k : vx_Note p l e R s m args below meth c H locs cells slots Q (F0 m pc ls rest) "java/lang/ArithmeticException" "/ by zero") :
    W p l e R s m args below meth c H locs cells slots Q (F0 m pc ls (.long b :: .long a :: rest)) := by
  intro T hT X
  obtain ⟨t, st, q⟩ := k T hT X
  exact ⟨t, X.lremZero hexec (g := F0 m pc ls (.long b :: .long a :: rest)) rfl (a := a) (rest := rest) (by rw [h0]) (by rw [hb]; exact d) t st, q⟩
theorem vx_ialdZ {D : va_G} {cl : List vw_C} {ws : va_W} {tys : List (ClassId × FieldType)} {a : Nat} (hexec : p.tables.exec = Jvm.exec) (hb : c.code = cc) (hK : va_K D cl tys s) (hP : va_P D cl ws H) (q0 t0 : Nat) {cA : ClassId} {n : Nat} {f : Nat → Int32} (ha : ws[q0]? = some (a, .inl (cA, n, .inl f))) (ht : tys[t0]? = some (cA, .int)) {i : Int32} (hout : ¬ vp_in i n) (hdg : decode cc pc = .ok (.iaload, 1))
    (k : ∀ tx : String, tx = (toString "Index " ++ toString i ++ toString " out of bounds for length " ++ toString n : String) → vx_Note p l e R s m args below meth c H locs cells slots Q (F0 m pc ls rest) "java/lang/ArrayIndexOutOfBoundsException" tx) : W p l e R s m args below meth c H locs cells slots Q (F0 m pc ls (.int i :: .ref a :: rest)) := by
  intro T hT X
  obtain ⟨t, st, q⟩ := k _ rfl T hT X
  refine ⟨t, ?_, q⟩
  have h1 := X.ialoadOut hexec (by rw [hT]; exact hP q0 _ ha) ((hK.2 t0 _ ht).1 n (fun j => .int (f j))) (j := i) (by show (i < 0 ∨ (arrV _ _ _).slots.size ≤ _); rw [arrV_size]; exact Classical.byContradiction hout) (g := F0 m pc ls (.int i :: .ref a :: rest)) rfl (rest := rest) rfl (by rw [hb]; exact hdg) t
  simp only [arrV_size] at h1
  exact h1 st
theorem vx_iastZ {D : va_G} {cl : List vw_C} {ws : va_W} {tys : List (ClassId × FieldType)} {a : Nat} (hexec : p.tables.exec = Jvm.exec) (hb : c.code = cc) (hK : va_K D cl tys s) (hP : va_P D cl ws H) (q0 t0 : Nat) {cA : ClassId} {n : Nat} {f : Nat → Int32} (ha : ws[q0]? = some (a, .inl (cA, n, .inl f))) (ht : tys[t0]? = some (cA, .int)) {i : Int32} {x : Int32} (hout : ¬ vp_in i n) (hdg : decode cc pc = .ok (.iastore, 1))
    (k : ∀ tx : String, tx = (toString "Index " ++ toString i ++ toString " out of bounds for length " ++ toString n : String) → vx_Note p l e R s m args below meth c H locs cells slots Q (F0 m pc ls rest) "java/lang/ArrayIndexOutOfBoundsException" tx) : W p l e R s m args below meth c H locs cells slots Q (F0 m pc ls (.int x :: .int i :: .ref a :: rest)) := by
  intro T hT X
  obtain ⟨t, st, q⟩ := k _ rfl T hT X
  refine ⟨t, ?_, q⟩
  have h1 := X.iastoreOut hexec (by rw [hT]; exact hP q0 _ ha) ((hK.2 t0 _ ht).1 n (fun j => .int (f j))) (j := i) (by show (i < 0 ∨ (arrV _ _ _).slots.size ≤ _); rw [arrV_size]; exact Classical.byContradiction hout) (g := F0 m pc ls (.int x :: .int i :: .ref a :: rest)) rfl (rest := rest) rfl (by rw [hb]; exact hdg) t
  simp only [arrV_size] at h1
  exact h1 st
theorem vx_baldZ {D : va_G} {cl : List vw_C} {ws : va_W} {tys : List (ClassId × FieldType)} {a : Nat} (hexec : p.tables.exec = Jvm.exec) (hb : c.code = cc) (hK : va_K D cl tys s) (hP : va_P D cl ws H) (q0 t0 : Nat) {cA : ClassId} {n : Nat} {f : Nat → Int32} (ha : ws[q0]? = some (a, .inl (cA, n, .inl f))) (ht : tys[t0]? = some (cA, .byte)) {i : Int32} (hout : ¬ vp_in i n) (hdg : decode cc pc = .ok (.baload, 1))
    (k : ∀ tx : String, tx = (toString "Index " ++ toString i ++ toString " out of bounds for length " ++ toString n : String) → vx_Note p l e R s m args below meth c H locs cells slots Q (F0 m pc ls rest) "java/lang/ArrayIndexOutOfBoundsException" tx) : W p l e R s m args below meth c H locs cells slots Q (F0 m pc ls (.int i :: .ref a :: rest)) := by
  intro T hT X
  obtain ⟨t, st, q⟩ := k _ rfl T hT X
  refine ⟨t, ?_, q⟩
  have h1 := X.baloadOut hexec (by rw [hT]; exact hP q0 _ ha) ((hK.2 t0 _ ht).1 n (fun j => .int (f j))) (j := i) (by show (i < 0 ∨ (arrV _ _ _).slots.size ≤ _); rw [arrV_size]; exact Classical.byContradiction hout) (g := F0 m pc ls (.int i :: .ref a :: rest)) rfl (rest := rest) rfl (by rw [hb]; exact hdg) t
  simp only [arrV_size] at h1
  exact h1 st
theorem vx_bastZ {D : va_G} {cl : List vw_C} {ws : va_W} {tys : List (ClassId × FieldType)} {a : Nat} (hexec : p.tables.exec = Jvm.exec) (hb : c.code = cc) (hK : va_K D cl tys s) (hP : va_P D cl ws H) (q0 t0 : Nat) {cA : ClassId} {n : Nat} {f : Nat → Int32} (ha : ws[q0]? = some (a, .inl (cA, n, .inl f))) (ht : tys[t0]? = some (cA, .byte)) {i : Int32} {x : Int32} (hout : ¬ vp_in i n) (hdg : decode cc pc = .ok (.bastore, 1))
    (k : ∀ tx : String, tx = (toString "Index " ++ toString i ++ toString " out of bounds for length " ++ toString n : String) → vx_Note p l e R s m args below meth c H locs cells slots Q (F0 m pc ls rest) "java/lang/ArrayIndexOutOfBoundsException" tx) : W p l e R s m args below meth c H locs cells slots Q (F0 m pc ls (.int x :: .int i :: .ref a :: rest)) := by
  intro T hT X
  obtain ⟨t, st, q⟩ := k _ rfl T hT X
  refine ⟨t, ?_, q⟩
  have h1 := X.bastoreOut hexec (by rw [hT]; exact hP q0 _ ha) ((hK.2 t0 _ ht).1 n (fun j => .int (f j))) (j := i) (by show (i < 0 ∨ (arrV _ _ _).slots.size ≤ _); rw [arrV_size]; exact Classical.byContradiction hout) (g := F0 m pc ls (.int x :: .int i :: .ref a :: rest)) rfl (rest := rest) rfl (by rw [hb]; exact hdg) t
  simp only [arrV_size] at h1
  exact h1 st
theorem vx_zaldZ {D : va_G} {cl : List vw_C} {ws : va_W} {tys : List (ClassId × FieldType)} {a : Nat} (hexec : p.tables.exec = Jvm.exec) (hb : c.code = cc) (hK : va_K D cl tys s) (hP : va_P D cl ws H) (q0 t0 : Nat) {cA : ClassId} {n : Nat} {f : Nat → Int32} (ha : ws[q0]? = some (a, .inl (cA, n, .inl f))) (ht : tys[t0]? = some (cA, .boolean)) {i : Int32} (hout : ¬ vp_in i n) (hdg : decode cc pc = .ok (.baload, 1))
    (k : ∀ tx : String, tx = (toString "Index " ++ toString i ++ toString " out of bounds for length " ++ toString n : String) → vx_Note p l e R s m args below meth c H locs cells slots Q (F0 m pc ls rest) "java/lang/ArrayIndexOutOfBoundsException" tx) : W p l e R s m args below meth c H locs cells slots Q (F0 m pc ls (.int i :: .ref a :: rest)) := by
  intro T hT X
  obtain ⟨t, st, q⟩ := k _ rfl T hT X
  refine ⟨t, ?_, q⟩
  have h1 := X.baloadOut hexec (by rw [hT]; exact hP q0 _ ha) ((hK.2 t0 _ ht).1 n (fun j => .int (f j))) (j := i) (by show (i < 0 ∨ (arrV _ _ _).slots.size ≤ _); rw [arrV_size]; exact Classical.byContradiction hout) (g := F0 m pc ls (.int i :: .ref a :: rest)) rfl (rest := rest) rfl (by rw [hb]; exact hdg) t
  simp only [arrV_size] at h1
  exact h1 st
theorem vx_zastZ {D : va_G} {cl : List vw_C} {ws : va_W} {tys : List (ClassId × FieldType)} {a : Nat} (hexec : p.tables.exec = Jvm.exec) (hb : c.code = cc) (hK : va_K D cl tys s) (hP : va_P D cl ws H) (q0 t0 : Nat) {cA : ClassId} {n : Nat} {f : Nat → Int32} (ha : ws[q0]? = some (a, .inl (cA, n, .inl f))) (ht : tys[t0]? = some (cA, .boolean)) {i : Int32} {x : Int32} (hout : ¬ vp_in i n) (hdg : decode cc pc = .ok (.bastore, 1))
    (k : ∀ tx : String, tx = (toString "Index " ++ toString i ++ toString " out of bounds for length " ++ toString n : String) → vx_Note p l e R s m args below meth c H locs cells slots Q (F0 m pc ls rest) "java/lang/ArrayIndexOutOfBoundsException" tx) : W p l e R s m args below meth c H locs cells slots Q (F0 m pc ls (.int x :: .int i :: .ref a :: rest)) := by
  intro T hT X
  obtain ⟨t, st, q⟩ := k _ rfl T hT X
  refine ⟨t, ?_, q⟩
  have h1 := X.bastoreOut hexec (by rw [hT]; exact hP q0 _ ha) ((hK.2 t0 _ ht).1 n (fun j => .int (f j))) (j := i) (by show (i < 0 ∨ (arrV _ _ _).slots.size ≤ _); rw [arrV_size]; exact Classical.byContradiction hout) (g := F0 m pc ls (.int x :: .int i :: .ref a :: rest)) rfl (rest := rest) rfl (by rw [hb]; exact hdg) t
  simp only [arrV_size] at h1
  exact h1 st
theorem vx_caldZ {D : va_G} {cl : List vw_C} {ws : va_W} {tys : List (ClassId × FieldType)} {a : Nat} (hexec : p.tables.exec = Jvm.exec) (hb : c.code = cc) (hK : va_K D cl tys s) (hP : va_P D cl ws H) (q0 t0 : Nat) {cA : ClassId} {n : Nat} {f : Nat → Int32} (ha : ws[q0]? = some (a, .inl (cA, n, .inl f))) (ht : tys[t0]? = some (cA, .char)) {i : Int32} (hout : ¬ vp_in i n) (hdg : decode cc pc = .ok (.caload, 1))
    (k : ∀ tx : String, tx = (toString "Index " ++ toString i ++ toString " out of bounds for length " ++ toString n : String) → vx_Note p l e R s m args below meth c H locs cells slots Q (F0 m pc ls rest) "java/lang/ArrayIndexOutOfBoundsException" tx) : W p l e R s m args below meth c H locs cells slots Q (F0 m pc ls (.int i :: .ref a :: rest)) := by
  intro T hT X
  obtain ⟨t, st, q⟩ := k _ rfl T hT X
  refine ⟨t, ?_, q⟩
  have h1 := X.caloadOut hexec (by rw [hT]; exact hP q0 _ ha) ((hK.2 t0 _ ht).1 n (fun j => .int (f j))) (j := i) (by show (i < 0 ∨ (arrV _ _ _).slots.size ≤ _); rw [arrV_size]; exact Classical.byContradiction hout) (g := F0 m pc ls (.int i :: .ref a :: rest)) rfl (rest := rest) rfl (by rw [hb]; exact hdg) t
  simp only [arrV_size] at h1
  exact h1 st
theorem vx_castZ {D : va_G} {cl : List vw_C} {ws : va_W} {tys : List (ClassId × FieldType)} {a : Nat} (hexec : p.tables.exec = Jvm.exec) (hb : c.code = cc) (hK : va_K D cl tys s) (hP : va_P D cl ws H) (q0 t0 : Nat) {cA : ClassId} {n : Nat} {f : Nat → Int32} (ha : ws[q0]? = some (a, .inl (cA, n, .inl f))) (ht : tys[t0]? = some (cA, .char)) {i : Int32} {x : Int32} (hout : ¬ vp_in i n) (hdg : decode cc pc = .ok (.castore, 1))
    (k : ∀ tx : String, tx = (toString "Index " ++ toString i ++ toString " out of bounds for length " ++ toString n : String) → vx_Note p l e R s m args below meth c H locs cells slots Q (F0 m pc ls rest) "java/lang/ArrayIndexOutOfBoundsException" tx) : W p l e R s m args below meth c H locs cells slots Q (F0 m pc ls (.int x :: .int i :: .ref a :: rest)) := by
  intro T hT X
  obtain ⟨t, st, q⟩ := k _ rfl T hT X
  refine ⟨t, ?_, q⟩
  have h1 := X.castoreOut hexec (by rw [hT]; exact hP q0 _ ha) ((hK.2 t0 _ ht).1 n (fun j => .int (f j))) (j := i) (by show (i < 0 ∨ (arrV _ _ _).slots.size ≤ _); rw [arrV_size]; exact Classical.byContradiction hout) (g := F0 m pc ls (.int x :: .int i :: .ref a :: rest)) rfl (rest := rest) rfl (by rw [hb]; exact hdg) t
  simp only [arrV_size] at h1
  exact h1 st
theorem vx_saldZ {D : va_G} {cl : List vw_C} {ws : va_W} {tys : List (ClassId × FieldType)} {a : Nat} (hexec : p.tables.exec = Jvm.exec) (hb : c.code = cc) (hK : va_K D cl tys s) (hP : va_P D cl ws H) (q0 t0 : Nat) {cA : ClassId} {n : Nat} {f : Nat → Int32} (ha : ws[q0]? = some (a, .inl (cA, n, .inl f))) (ht : tys[t0]? = some (cA, .short)) {i : Int32} (hout : ¬ vp_in i n) (hdg : decode cc pc = .ok (.saload, 1))
    (k : ∀ tx : String, tx = (toString "Index " ++ toString i ++ toString " out of bounds for length " ++ toString n : String) → vx_Note p l e R s m args below meth c H locs cells slots Q (F0 m pc ls rest) "java/lang/ArrayIndexOutOfBoundsException" tx) : W p l e R s m args below meth c H locs cells slots Q (F0 m pc ls (.int i :: .ref a :: rest)) := by
  intro T hT X
  obtain ⟨t, st, q⟩ := k _ rfl T hT X
  refine ⟨t, ?_, q⟩
  have h1 := X.saloadOut hexec (by rw [hT]; exact hP q0 _ ha) ((hK.2 t0 _ ht).1 n (fun j => .int (f j))) (j := i) (by show (i < 0 ∨ (arrV _ _ _).slots.size ≤ _); rw [arrV_size]; exact Classical.byContradiction hout) (g := F0 m pc ls (.int i :: .ref a :: rest)) rfl (rest := rest) rfl (by rw [hb]; exact hdg) t
  simp only [arrV_size] at h1
  exact h1 st
theorem vx_sastZ {D : va_G} {cl : List vw_C} {ws : va_W} {tys : List (ClassId × FieldType)} {a : Nat} (hexec : p.tables.exec = Jvm.exec) (hb : c.code = cc) (hK : va_K D cl tys s) (hP : va_P D cl ws H) (q0 t0 : Nat) {cA : ClassId} {n : Nat} {f : Nat → Int32} (ha : ws[q0]? = some (a, .inl (cA, n, .inl f))) (ht : tys[t0]? = some (cA, .short)) {i : Int32} {x : Int32} (hout : ¬ vp_in i n) (hdg : decode cc pc = .ok (.sastore, 1))
    (k : ∀ tx : String, tx = (toString "Index " ++ toString i ++ toString " out of bounds for length " ++ toString n : String) → vx_Note p l e R s m args below meth c H locs cells slots Q (F0 m pc ls rest) "java/lang/ArrayIndexOutOfBoundsException" tx) : W p l e R s m args below meth c H locs cells slots Q (F0 m pc ls (.int x :: .int i :: .ref a :: rest)) := by
  intro T hT X
  obtain ⟨t, st, q⟩ := k _ rfl T hT X
  refine ⟨t, ?_, q⟩
  have h1 := X.sastoreOut hexec (by rw [hT]; exact hP q0 _ ha) ((hK.2 t0 _ ht).1 n (fun j => .int (f j))) (j := i) (by show (i < 0 ∨ (arrV _ _ _).slots.size ≤ _); rw [arrV_size]; exact Classical.byContradiction hout) (g := F0 m pc ls (.int x :: .int i :: .ref a :: rest)) rfl (rest := rest) rfl (by rw [hb]; exact hdg) t
  simp only [arrV_size] at h1
  exact h1 st
theorem vx_laldZ {D : va_G} {cl : List vw_C} {ws : va_W} {tys : List (ClassId × FieldType)} {a : Nat} (hexec : p.tables.exec = Jvm.exec) (hb : c.code = cc) (hK : va_K D cl tys s) (hP : va_P D cl ws H) (q0 t0 : Nat) {cA : ClassId} {n : Nat} {f : Nat → Int64} (ha : ws[q0]? = some (a, .inl (cA, n, .inr (.inl f)))) (ht : tys[t0]? = some (cA, .long)) {i : Int32} (hout : ¬ vp_in i n) (hdg : decode cc pc = .ok (.laload, 1))
    (k : ∀ tx : String, tx = (toString "Index " ++ toString i ++ toString " out of bounds for length " ++ toString n : String) → vx_Note p l e R s m args below meth c H locs cells slots Q (F0 m pc ls rest) "java/lang/ArrayIndexOutOfBoundsException" tx) : W p l e R s m args below meth c H locs cells slots Q (F0 m pc ls (.int i :: .ref a :: rest)) := by
  intro T hT X
  obtain ⟨t, st, q⟩ := k _ rfl T hT X
  refine ⟨t, ?_, q⟩
  have h1 := X.laloadOut hexec (by rw [hT]; exact hP q0 _ ha) ((hK.2 t0 _ ht).1 n (fun j => .long (f j))) (j := i) (by show (i < 0 ∨ (arrV _ _ _).slots.size ≤ _); rw [arrV_size]; exact Classical.byContradiction hout) (g := F0 m pc ls (.int i :: .ref a :: rest)) rfl (rest := rest) rfl (by rw [hb]; exact hdg) t
  simp only [arrV_size] at h1
  exact h1 st
theorem vx_lastZ {D : va_G} {cl : List vw_C} {ws : va_W} {tys : List (ClassId × FieldType)} {a : Nat} (hexec : p.tables.exec = Jvm.exec) (hb : c.code = cc) (hK : va_K D cl tys s) (hP : va_P D cl ws H) (q0 t0 : Nat) {cA : ClassId} {n : Nat} {f : Nat → Int64} (ha : ws[q0]? = some (a, .inl (cA, n, .inr (.inl f)))) (ht : tys[t0]? = some (cA, .long)) {i : Int32} {x : Int64} (hout : ¬ vp_in i n) (hdg : decode cc pc = .ok (.lastore, 1))
    (k : ∀ tx : String, tx = (toString "Index " ++ toString i ++ toString " out of bounds for length " ++ toString n : String) → vx_Note p l e R s m args below meth c H locs cells slots Q (F0 m pc ls rest) "java/lang/ArrayIndexOutOfBoundsException" tx) : W p l e R s m args below meth c H locs cells slots Q (F0 m pc ls (.long x :: .int i :: .ref a :: rest)) := by
  intro T hT X
  obtain ⟨t, st, q⟩ := k _ rfl T hT X
  refine ⟨t, ?_, q⟩
  have h1 := X.lastoreOut hexec (by rw [hT]; exact hP q0 _ ha) ((hK.2 t0 _ ht).1 n (fun j => .long (f j))) (j := i) (by show (i < 0 ∨ (arrV _ _ _).slots.size ≤ _); rw [arrV_size]; exact Classical.byContradiction hout) (g := F0 m pc ls (.long x :: .int i :: .ref a :: rest)) rfl (rest := rest) rfl (by rw [hb]; exact hdg) t
  simp only [arrV_size] at h1
  exact h1 st
theorem vx_faldZ {D : va_G} {cl : List vw_C} {ws : va_W} {tys : List (ClassId × FieldType)} {a : Nat} (hexec : p.tables.exec = Jvm.exec) (hb : c.code = cc) (hK : va_K D cl tys s) (hP : va_P D cl ws H) (q0 t0 : Nat) {cA : ClassId} {n : Nat} {f : Nat → UInt32} (ha : ws[q0]? = some (a, .inl (cA, n, .inr (.inr (.inl f))))) (ht : tys[t0]? = some (cA, .float)) {i : Int32} (hout : ¬ vp_in i n) (hdg : decode cc pc = .ok (.faload, 1))
    (k : ∀ tx : String, tx = (toString "Index " ++ toString i ++ toString " out of bounds for length " ++ toString n : String) → vx_Note p l e R s m args below meth c H locs cells slots Q (F0 m pc ls rest) "java/lang/ArrayIndexOutOfBoundsException" tx) : W p l e R s m args below meth c H locs cells slots Q (F0 m pc ls (.int i :: .ref a :: rest)) := by
  intro T hT X
  obtain ⟨t, st, q⟩ := k _ rfl T hT X
  refine ⟨t, ?_, q⟩
  have h1 := X.faloadOut hexec (by rw [hT]; exact hP q0 _ ha) ((hK.2 t0 _ ht).1 n (fun j => .float (f j))) (j := i) (by show (i < 0 ∨ (arrV _ _ _).slots.size ≤ _); rw [arrV_size]; exact Classical.byContradiction hout) (g := F0 m pc ls (.int i :: .ref a :: rest)) rfl (rest := rest) rfl (by rw [hb]; exact hdg) t
  simp only [arrV_size] at h1
  exact h1 st
theorem vx_fastZ {D : va_G} {cl : List vw_C} {ws : va_W} {tys : List (ClassId × FieldType)} {a : Nat} (hexec : p.tables.exec = Jvm.exec) (hb : c.code = cc) (hK : va_K D cl tys s) (hP : va_P D cl ws H) (q0 t0 : Nat) {cA : ClassId} {n : Nat} {f : Nat → UInt32} (ha : ws[q0]? = some (a, .inl (cA, n, .inr (.inr (.inl f))))) (ht : tys[t0]? = some (cA, .float)) {i : Int32} {x : UInt32} (hout : ¬ vp_in i n) (hdg : decode cc pc = .ok (.fastore, 1))
    (k : ∀ tx : String, tx = (toString "Index " ++ toString i ++ toString " out of bounds for length " ++ toString n : String) → vx_Note p l e R s m args below meth c H locs cells slots Q (F0 m pc ls rest) "java/lang/ArrayIndexOutOfBoundsException" tx) : W p l e R s m args below meth c H locs cells slots Q (F0 m pc ls (.float x :: .int i :: .ref a :: rest)) := by
  intro T hT X
  obtain ⟨t, st, q⟩ := k _ rfl T hT X
  refine ⟨t, ?_, q⟩
  have h1 := X.fastoreOut hexec (by rw [hT]; exact hP q0 _ ha) ((hK.2 t0 _ ht).1 n (fun j => .float (f j))) (j := i) (by show (i < 0 ∨ (arrV _ _ _).slots.size ≤ _); rw [arrV_size]; exact Classical.byContradiction hout) (g := F0 m pc ls (.float x :: .int i :: .ref a :: rest)) rfl (rest := rest) rfl (by rw [hb]; exact hdg) t
  simp only [arrV_size] at h1
  exact h1 st
theorem vx_daldZ {D : va_G} {cl : List vw_C} {ws : va_W} {tys : List (ClassId × FieldType)} {a : Nat} (hexec : p.tables.exec = Jvm.exec) (hb : c.code = cc) (hK : va_K D cl tys s) (hP : va_P D cl ws H) (q0 t0 : Nat) {cA : ClassId} {n : Nat} {f : Nat → UInt64} (ha : ws[q0]? = some (a, .inl (cA, n, .inr (.inr (.inr (.inl f)))))) (ht : tys[t0]? = some (cA, .double)) {i : Int32} (hout : ¬ vp_in i n) (hdg : decode cc pc = .ok (.daload, 1))
    (k : ∀ tx : String, tx = (toString "Index " ++ toString i ++ toString " out of bounds for length " ++ toString n : String) → vx_Note p l e R s m args below meth c H locs cells slots Q (F0 m pc ls rest) "java/lang/ArrayIndexOutOfBoundsException" tx) : W p l e R s m args below meth c H locs cells slots Q (F0 m pc ls (.int i :: .ref a :: rest)) := by
  intro T hT X
  obtain ⟨t, st, q⟩ := k _ rfl T hT X
  refine ⟨t, ?_, q⟩
  have h1 := X.daloadOut hexec (by rw [hT]; exact hP q0 _ ha) ((hK.2 t0 _ ht).1 n (fun j => .double (f j))) (j := i) (by show (i < 0 ∨ (arrV _ _ _).slots.size ≤ _); rw [arrV_size]; exact Classical.byContradiction hout) (g := F0 m pc ls (.int i :: .ref a :: rest)) rfl (rest := rest) rfl (by rw [hb]; exact hdg) t
  simp only [arrV_size] at h1
  exact h1 st
theorem vx_dastZ {D : va_G} {cl : List vw_C} {ws : va_W} {tys : List (ClassId × FieldType)} {a : Nat} (hexec : p.tables.exec = Jvm.exec) (hb : c.code = cc) (hK : va_K D cl tys s) (hP : va_P D cl ws H) (q0 t0 : Nat) {cA : ClassId} {n : Nat} {f : Nat → UInt64} (ha : ws[q0]? = some (a, .inl (cA, n, .inr (.inr (.inr (.inl f)))))) (ht : tys[t0]? = some (cA, .double)) {i : Int32} {x : UInt64} (hout : ¬ vp_in i n) (hdg : decode cc pc = .ok (.dastore, 1))
    (k : ∀ tx : String, tx = (toString "Index " ++ toString i ++ toString " out of bounds for length " ++ toString n : String) → vx_Note p l e R s m args below meth c H locs cells slots Q (F0 m pc ls rest) "java/lang/ArrayIndexOutOfBoundsException" tx) : W p l e R s m args below meth c H locs cells slots Q (F0 m pc ls (.double x :: .int i :: .ref a :: rest)) := by
  intro T hT X
  obtain ⟨t, st, q⟩ := k _ rfl T hT X
  refine ⟨t, ?_, q⟩
  have h1 := X.dastoreOut hexec (by rw [hT]; exact hP q0 _ ha) ((hK.2 t0 _ ht).1 n (fun j => .double (f j))) (j := i) (by show (i < 0 ∨ (arrV _ _ _).slots.size ≤ _); rw [arrV_size]; exact Classical.byContradiction hout) (g := F0 m pc ls (.double x :: .int i :: .ref a :: rest)) rfl (rest := rest) rfl (by rw [hb]; exact hdg) t
  simp only [arrV_size] at h1
  exact h1 st
theorem vx_arraylengthN (hexec : p.tables.exec = Jvm.exec) (hb : c.code = cc) (hdg : decode cc pc = .ok (.arraylength, 1)) (k : vx_NoteN p l e R s m args below meth c H locs cells slots Q (F0 m pc ls rest)) : W p l e R s m args below meth c H locs cells slots Q (F0 m pc ls (.null :: rest)) := by
  intro T hT X
  obtain ⟨t, st, q⟩ := k T hT X
  exact ⟨t, X.arraylengthNull hexec (g := F0 m pc ls (.null :: rest)) rfl (rest := rest) rfl (by rw [hb]; exact hdg) t st, q⟩
theorem vx_ialoadN (hexec : p.tables.exec = Jvm.exec) (hb : c.code = cc) {i : Int32} (hdg : decode cc pc = .ok (.iaload, 1)) (k : vx_NoteN p l e R s m args below meth c H locs cells slots Q (F0 m pc ls rest)) : W p l e R s m args below meth c H locs cells slots Q (F0 m pc ls (.int i :: .null :: rest)) := by
  intro T hT X
  obtain ⟨t, st, q⟩ := k T hT X
  exact ⟨t, X.ialoadNull hexec (g := F0 m pc ls (.int i :: .null :: rest)) rfl (rest := rest) rfl (by rw [hb]; exact hdg) t st, q⟩
theorem vx_laloadN (hexec : p.tables.exec = Jvm.exec) (hb : c.code = cc) {i : Int32} (hdg : decode cc pc = .ok (.laload, 1)) (k : vx_NoteN p l e R s m args below meth c H locs cells slots Q (F0 m pc ls rest)) : W p l e R s m args below meth c H locs cells slots Q (F0 m pc ls (.int i :: .null :: rest)) := by
  intro T hT X
  obtain ⟨t, st, q⟩ := k T hT X
  exact ⟨t, X.laloadNull hexec (g := F0 m pc ls (.int i :: .null :: rest)) rfl (rest := rest) rfl (by rw [hb]; exact hdg) t st, q⟩
theorem vx_faloadN (hexec : p.tables.exec = Jvm.exec) (hb : c.code = cc) {i : Int32} (hdg : decode cc pc = .ok (.faload, 1)) (k : vx_NoteN p l e R s m args below meth c H locs cells slots Q (F0 m pc ls rest)) : W p l e R s m args below meth c H locs cells slots Q (F0 m pc ls (.int i :: .null :: rest)) := by
  intro T hT X
  obtain ⟨t, st, q⟩ := k T hT X
  exact ⟨t, X.faloadNull hexec (g := F0 m pc ls (.int i :: .null :: rest)) rfl (rest := rest) rfl (by rw [hb]; exact hdg) t st, q⟩
theorem vx_daloadN (hexec : p.tables.exec = Jvm.exec) (hb : c.code = cc) {i : Int32} (hdg : decode cc pc = .ok (.daload, 1)) (k : vx_NoteN p l e R s m args below meth c H locs cells slots Q (F0 m pc ls rest)) : W p l e R s m args below meth c H locs cells slots Q (F0 m pc ls (.int i :: .null :: rest)) := by
  intro T hT X
  obtain ⟨t, st, q⟩ := k T hT X
  exact ⟨t, X.daloadNull hexec (g := F0 m pc ls (.int i :: .null :: rest)) rfl (rest := rest) rfl (by rw [hb]; exact hdg) t st, q⟩
theorem vx_aaloadN (hexec : p.tables.exec = Jvm.exec) (hb : c.code = cc) {i : Int32} (hdg : decode cc pc = .ok (.aaload, 1)) (k : vx_NoteN p l e R s m args below meth c H locs cells slots Q (F0 m pc ls rest)) : W p l e R s m args below meth c H locs cells slots Q (F0 m pc ls (.int i :: .null :: rest)) := by
  intro T hT X
  obtain ⟨t, st, q⟩ := k T hT X
  exact ⟨t, X.aaloadNull hexec (g := F0 m pc ls (.int i :: .null :: rest)) rfl (rest := rest) rfl (by rw [hb]; exact hdg) t st, q⟩
theorem vx_baloadN (hexec : p.tables.exec = Jvm.exec) (hb : c.code = cc) {i : Int32} (hdg : decode cc pc = .ok (.baload, 1)) (k : vx_NoteN p l e R s m args below meth c H locs cells slots Q (F0 m pc ls rest)) : W p l e R s m args below meth c H locs cells slots Q (F0 m pc ls (.int i :: .null :: rest)) := by
  intro T hT X
  obtain ⟨t, st, q⟩ := k T hT X
  exact ⟨t, X.baloadNull hexec (g := F0 m pc ls (.int i :: .null :: rest)) rfl (rest := rest) rfl (by rw [hb]; exact hdg) t st, q⟩
theorem vx_caloadN (hexec : p.tables.exec = Jvm.exec) (hb : c.code = cc) {i : Int32} (hdg : decode cc pc = .ok (.caload, 1)) (k : vx_NoteN p l e R s m args below meth c H locs cells slots Q (F0 m pc ls rest)) : W p l e R s m args below meth c H locs cells slots Q (F0 m pc ls (.int i :: .null :: rest)) := by
  intro T hT X
  obtain ⟨t, st, q⟩ := k T hT X
  exact ⟨t, X.caloadNull hexec (g := F0 m pc ls (.int i :: .null :: rest)) rfl (rest := rest) rfl (by rw [hb]; exact hdg) t st, q⟩
theorem vx_saloadN (hexec : p.tables.exec = Jvm.exec) (hb : c.code = cc) {i : Int32} (hdg : decode cc pc = .ok (.saload, 1)) (k : vx_NoteN p l e R s m args below meth c H locs cells slots Q (F0 m pc ls rest)) : W p l e R s m args below meth c H locs cells slots Q (F0 m pc ls (.int i :: .null :: rest)) := by
  intro T hT X
  obtain ⟨t, st, q⟩ := k T hT X
  exact ⟨t, X.saloadNull hexec (g := F0 m pc ls (.int i :: .null :: rest)) rfl (rest := rest) rfl (by rw [hb]; exact hdg) t st, q⟩
theorem vx_iastoreN (hexec : p.tables.exec = Jvm.exec) (hb : c.code = cc) {x : Int32} {i : Int32} (hdg : decode cc pc = .ok (.iastore, 1)) (k : vx_NoteN p l e R s m args below meth c H locs cells slots Q (F0 m pc ls rest)) : W p l e R s m args below meth c H locs cells slots Q (F0 m pc ls (.int x :: .int i :: .null :: rest)) := by
  intro T hT X
  obtain ⟨t, st, q⟩ := k T hT X
  exact ⟨t, X.iastoreNull hexec (g := F0 m pc ls (.int x :: .int i :: .null :: rest)) rfl (rest := rest) rfl (by rw [hb]; exact hdg) t st, q⟩
theorem vx_lastoreN (hexec : p.tables.exec = Jvm.exec) (hb : c.code = cc) {x : Int64} {i : Int32} (hdg : decode cc pc = .ok (.lastore, 1)) (k : vx_NoteN p l e R s m args below meth c H locs cells slots Q (F0 m pc ls rest)) : W p l e R s m args below meth c H locs cells slots Q (F0 m pc ls (.long x :: .int i :: .null :: rest)) := by
  intro T hT X
  obtain ⟨t, st, q⟩ := k T hT X
  exact ⟨t, X.lastoreNull hexec (g := F0 m pc ls (.long x :: .int i :: .null :: rest)) rfl (rest := rest) rfl (by rw [hb]; exact hdg) t st, q⟩
theorem vx_fastoreN (hexec : p.tables.exec = Jvm.exec) (hb : c.code = cc) {x : UInt32} {i : Int32} (hdg : decode cc pc = .ok (.fastore, 1)) (k : vx_NoteN p l e R s m args below meth c H locs cells slots Q (F0 m pc ls rest)) : W p l e R s m args below meth c H locs cells slots Q (F0 m pc ls (.float x :: .int i :: .null :: rest)) := by
  intro T hT X
  obtain ⟨t, st, q⟩ := k T hT X
  exact ⟨t, X.fastoreNull hexec (g := F0 m pc ls (.float x :: .int i :: .null :: rest)) rfl (rest := rest) rfl (by rw [hb]; exact hdg) t st, q⟩
theorem vx_dastoreN (hexec : p.tables.exec = Jvm.exec) (hb : c.code = cc) {x : UInt64} {i : Int32} (hdg : decode cc pc = .ok (.dastore, 1)) (k : vx_NoteN p l e R s m args below meth c H locs cells slots Q (F0 m pc ls rest)) : W p l e R s m args below meth c H locs cells slots Q (F0 m pc ls (.double x :: .int i :: .null :: rest)) := by
  intro T hT X
  obtain ⟨t, st, q⟩ := k T hT X
  exact ⟨t, X.dastoreNull hexec (g := F0 m pc ls (.double x :: .int i :: .null :: rest)) rfl (rest := rest) rfl (by rw [hb]; exact hdg) t st, q⟩
theorem vx_bastoreN (hexec : p.tables.exec = Jvm.exec) (hb : c.code = cc) {x : Int32} {i : Int32} (hdg : decode cc pc = .ok (.bastore, 1)) (k : vx_NoteN p l e R s m args below meth c H locs cells slots Q (F0 m pc ls rest)) : W p l e R s m args below meth c H locs cells slots Q (F0 m pc ls (.int x :: .int i :: .null :: rest)) := by
  intro T hT X
  obtain ⟨t, st, q⟩ := k T hT X
  exact ⟨t, X.bastoreNull hexec (g := F0 m pc ls (.int x :: .int i :: .null :: rest)) rfl (rest := rest) rfl (by rw [hb]; exact hdg) t st, q⟩
theorem vx_castoreN (hexec : p.tables.exec = Jvm.exec) (hb : c.code = cc) {x : Int32} {i : Int32} (hdg : decode cc pc = .ok (.castore, 1)) (k : vx_NoteN p l e R s m args below meth c H locs cells slots Q (F0 m pc ls rest)) : W p l e R s m args below meth c H locs cells slots Q (F0 m pc ls (.int x :: .int i :: .null :: rest)) := by
  intro T hT X
  obtain ⟨t, st, q⟩ := k T hT X
  exact ⟨t, X.castoreNull hexec (g := F0 m pc ls (.int x :: .int i :: .null :: rest)) rfl (rest := rest) rfl (by rw [hb]; exact hdg) t st, q⟩
theorem vx_sastoreN (hexec : p.tables.exec = Jvm.exec) (hb : c.code = cc) {x : Int32} {i : Int32} (hdg : decode cc pc = .ok (.sastore, 1)) (k : vx_NoteN p l e R s m args below meth c H locs cells slots Q (F0 m pc ls rest)) : W p l e R s m args below meth c H locs cells slots Q (F0 m pc ls (.int x :: .int i :: .null :: rest)) := by
  intro T hT X
  obtain ⟨t, st, q⟩ := k T hT X
  exact ⟨t, X.sastoreNull hexec (g := F0 m pc ls (.int x :: .int i :: .null :: rest)) rfl (rest := rest) rfl (by rw [hb]; exact hdg) t st, q⟩
theorem vx_invokeN {own C : String} {index maxL : Nat} {y : MethodName} {bytes : ByteArray} {ret : Option FieldType} (hexec : p.tables.exec = Jvm.exec) (hb : c.code = cc) (hown : s.vm.findClass own = some m.cls) (hlink : (Cond.methodLink own index y).before args s = true) (hinst : (Cond.instanceMethod y).before args s = true) (hcode : (Cond.code y bytes maxL ret).before args s = true) (hsel : (Cond.selects C y y).before args s = true)
    (hx : y.cls ≠ "java/lang/invoke/MethodHandle" ∧ y.cls ≠ "java/lang/invoke/VarHandle") {As : List Value} (hlen : (parseMethodDescriptor y.desc).map (fun d => d.parameters.length) = some As.length) (hdg : decode cc pc = .ok (.invokevirtual index, 3))
    (k : vx_NoteN p l e R s m args below meth c H locs cells slots Q (F0 m pc ls rest)) {st0 : List Value} (hst : st0 = As.reverse ++ .null :: rest) : W p l e R s m args below meth c H locs cells slots Q (F0 m pc ls st0) := by
  intro T hT X
  obtain ⟨r0, r, hn, hrm, hstR, hsigR⟩ := va_Decl.of hinst hcode
  obtain ⟨c2, r2, m2, q1, q2, q3, q4, kP, hkP, hkPi⟩ := Cond.selects_spec hsel
  cases hn.symm.trans q3
  have hl9 : As.length = r.sig.parameters.length := by
    rw [hsigR] at hlen
    exact (Option.some.inj hlen).symm
  obtain ⟨vm', X1, st1⟩ := X.invokevirtualNull hexec hown hlink hn hrm hstR hkP hkPi hx (g := F0 m pc ls st0) rfl (argsL := As) (rest := rest) hl9 hst (by rw [hb]; exact hdg)
  obtain ⟨t, st, q⟩ := k (T.setVm vm') hT X1
  exact ⟨t, st1 t st, q⟩
theorem vx_newarrayZ {atype : ArrayType} (hexec : p.tables.exec = Jvm.exec) (hb : c.code = cc) {n : Int32} (h0 : n < 0) (hdg : decode cc pc = .ok (.newarray atype, 2)) (k : ∀ tx : String, tx = toString n → vx_Note p l e R s m args below meth c H locs cells slots Q (F0 m pc ls rest) "java/lang/NegativeArraySizeException" tx) : W p l e R s m args below meth c H locs cells slots Q (F0 m pc ls (.int n :: rest)) := by
  intro T hT X
  obtain ⟨t, st, q⟩ := k _ rfl T hT X
  exact ⟨t, X.newarrayNegative hexec (g := F0 m pc ls (.int n :: rest)) rfl h0 (rest := rest) rfl (by rw [hb]; exact hdg) t st, q⟩
end
end VXM
/-! ===== END ===== -/
/-! ===== BEGIN an exception as an object: made, kept, thrown later (no traces kept) ===== -/
section VXK
variable {p : Program} {l : Launch} {e : Env} {R : Room} {s : State} {m₀ : MethodId} {args : Array Value} {below : List Frame} {meth : Method} {c : Code} {W : State} {locs : List Loc} {cells slots : Nat}
set_option maxHeartbeats 1000000 in
theorem vx_ctorMadeS (X : Stand p l e R s m₀ args below meth c W locs cells slots) (hexec : p.tables.exec = Jvm.exec) (htr : e.platform.stackTraces = false) {own cls : String} {names : List String} {ic : Nat}
    (hown : s.vm.findClass own = some m₀.cls) (hcls : Bundle.fit cls = true) (hnames : ∀ n ∈ names, Bundle.fit n = true)
    (h : ∀ a ∈ Bundle.ownAtoms own ic cls names, a.before args s = true)
    (hlocs : ∀ x ∈ locs, ∀ cell, s.heap[x.base]? = some cell → cell.vm.isStatics = false)
    {a : Addr} {cX : ClassId} {kX : Class} (hfoundX : s.vm.findClass cls = some cX) (hkX : s.vm.classes[cX]? = some kX) (hcell : W.heap[a]? = some (freshCell cX kX)) (hnew : s.heap.size ≤ a)
    {msg : Value} (hmsg : msg.isRef = true)
    {g : JFrame} (hg : g.method = m₀) (hsize : g.locals.size = c.maxLocals) {rest : List Value} (hstack : g.stack = msg :: .ref a :: .ref a :: rest)
    (hd6 : decode c.code g.pc = .ok (.invokespecial ic, 3))
    (hRframes : names.length + 3 < R.frames) (hRlocals : 2 * g.monitorRoom + ((Value.ref a :: rest).map fun v => v.category).sum + (13 * (names.length + 1) + 42) ≤ R.locals) :
    ∃ (V : State) (ce : Cell) (L : List Loc), Stand p l e R s m₀ args below meth c (V.setCell a ce) (locs ++ L) cells slots ∧ (∀ y ∈ L, y.base = a) ∧ a < V.heap.size ∧ ce.cls = cX ∧ ce.vm = .none ∧
      ∀ target, Steps p.tables e below ((V.setCell a ce).setTop { g with stack := .ref a :: rest, pc := g.pc + 3 }) target → Steps p.tables e below (W.setTop g) target := by
  have howns : e.platform.frameOwnsMonitors = true := by rw [X.admits.platform]
  have hfin : e.platform.finalization = false := by rw [X.admits.platform]
  have hpl : e.platform.magicAccessors = ({} : Platform).magicAccessors := by rw [X.admits.platform]
  have a' : ∀ x, x ∈ Bundle.ownAtoms own ic cls names → x.holds args s none s [] = true := fun x hx => h x hx
  obtain ⟨T, Z0, L, -, Y⟩ := ThrowableC.of_atoms (args := args) howns hfin hpl (fun x hx => h x (by simp [Bundle.ownAtoms, hx]))
  obtain ⟨Z, M, LZ, LM, hnZ⟩ := Init0T.ofS_atoms (args := args) hpl L Y (fun x hx => h x (by simp [Bundle.ownAtoms, hx]))
  obtain ⟨P1, Ps, hlen, L1, hL, hP1m, hlink1, hlink⟩ := Bundle.chainS (args := args) hpl hnZ names cls hcls hnames (fun x hx => h x (by simp [Bundle.ownAtoms, hx]))
  have hfound : s.vm.findClass cls = some P1.m.cls := findClass_of_methodNamed hP1m
  cases Option.some.inj (hfoundX.symm.trans hfound)
  obtain ⟨c1, kX', hc1, hk, hord, -, -, hn6⟩ := Cond.instantiable_spec (a' (.instantiable cls 6) (by simp [Bundle.ownAtoms]))
  cases Option.some.inj (hc1.symm.trans hfound)
  cases Option.some.inj (hkX.symm.trans hk)
  have hsel0 : selectMethod e.platform s.vm P1.m.cls T.fill0 = .method T.fill0 := by
    obtain ⟨c2, r2, m2, q1, q2, q3, q4, -⟩ := Cond.selects_spec (a' (.selects cls Bundle.tFill0 Bundle.tFill0) (by simp [Bundle.ownAtoms]))
    cases Option.some.inj (q1.symm.trans hfound)
    cases Option.some.inj (q2.symm.trans (State.methodFound?_of_named Y.fill0 (by decide)))
    cases Option.some.inj (q3.symm.trans Y.fill0)
    rw [Launch.admits_selectMethod X.admits]; exact q4
  have hselF : selectMethod e.platform s.vm P1.m.cls T.fill = .method T.fill := by
    obtain ⟨c2, r2, m2, q1, q2, q3, q4, -⟩ := Cond.selects_spec (a' (.selects cls Bundle.tFill Bundle.tFill) (by simp [Bundle.ownAtoms]))
    cases Option.some.inj (q1.symm.trans hfound)
    cases Option.some.inj (q2.symm.trans (State.methodFound?_of_named Y.fill (by decide)))
    cases Option.some.inj (q3.symm.trans Y.fill)
    rw [Launch.admits_selectMethod X.admits]; exact q4
  obtain ⟨cellS0, hcS0, hiss⟩ := Y.statics
  obtain ⟨u0, hu0⟩ := Cond.staticRefV Y.unassigned L.unassignedStatic L.statics hcS0 hiss (a' (.isRef (.static Bundle.tN "UNASSIGNED_STACK" Bundle.steD)) (by simp [Bundle.ownAtoms]))
  obtain ⟨sen, hsen⟩ := Cond.staticRefV Y.sentinel L.sentinelStatic L.statics hcS0 hiss (a' (.isRef (.static Bundle.tN "SUPPRESSED_SENTINEL" Bundle.listD)) (by simp [Bundle.ownAtoms]))
  obtain ⟨ci198, i198, fB, hk198, hg198, ha198, hsB, -, hnB, htB, hffB⟩ := Cond.ownField (t := .object "java/lang/Object") Y.found L.cls (by decide +kernel) (a' (.fieldLink Bundle.tN 198 Bundle.tN "backtrace" "Ljava/lang/Object;") (by simp [Bundle.ownAtoms])) (a' (.lays Bundle.tN Bundle.tN "backtrace" "Ljava/lang/Object;") (by simp [Bundle.ownAtoms])) e.platform hpl
  obtain ⟨cellS, hcS', heS, -, hkeep⟩ := X.same.2.2.2.2.2 T.aS cellS0 hcS0
  have hcellS : W.heap[T.aS]? = some cellS := hcS'
  have hout' : ∀ i, (⟨T.aS, i⟩ : Loc) ∉ locs := fun i hmem => by
    have := hlocs _ hmem cellS0 hcS0
    rw [hiss] at this; cases this
  have hknownS : cellS.vm ≠ .unknown := by
    rw [heS]; intro hu
    rw [show cellS0.vm = .unknown from hu] at hiss
    cases hiss
  have hneS : T.aS ≠ a := Nat.ne_of_lt (Nat.lt_of_lt_of_le (Array.getElem?_eq_some_iff.mp hcS0).1 hnew)
  obtain ⟨iM, hffM⟩ := Y.msg
  obtain ⟨tyC, dC, hdC, hdnC⟩ := Cond.laysAt hfound hk Y.cause (a' (.lays cls Bundle.tN "cause" "Ljava/lang/Throwable;") (by simp [Bundle.ownAtoms]))
  obtain ⟨tyS, dS, hdS, hdnS⟩ := Cond.laysAt hfound hk Y.stack (a' (.lays cls Bundle.tN "stackTrace" Bundle.steD) (by simp [Bundle.ownAtoms]))
  obtain ⟨tyP, dP, hdP, hdnP⟩ := Cond.laysAt hfound hk Y.supp (a' (.lays cls Bundle.tN "suppressedExceptions" Bundle.listD) (by simp [Bundle.ownAtoms]))
  obtain ⟨tyM, dM, hdM, hdnM⟩ := Cond.laysAt hfound hk hffM (a' (.lays cls Bundle.tN "detailMessage" "Ljava/lang/String;") (by simp [Bundle.ownAtoms]))
  obtain ⟨tyB, dB, hdB, hdnB⟩ := Cond.laysAt hfound hk hffB (a' (.lays cls Bundle.tN "backtrace" "Ljava/lang/Object;") (by simp [Bundle.ownAtoms]))
  have bC := Cond.laysApart hdB hdC hdnB hdnC (by rw [hnB, Y.causeName]; decide)
  have bS := Cond.laysApart hdB hdS hdnB hdnS (by rw [hnB, Y.stackName]; decide)
  have bP := Cond.laysApart hdB hdP hdnB hdnP (by rw [hnB, Y.suppName]; decide)
  have hskip : SkipFacts T e.platform s (fun u => u) u0 ((preparedCellV T.toThrowableT (freshCell P1.m.cls kX) a u0 sen).withEntry W.cur) :=
    ⟨{ ci198 := ci198, i198 := i198, fBack := fB }, ⟨hk198, hg198, ha198, hsB⟩, by
      have := fresh_default (c := P1.m.cls) tyB
      rw [htB] at this
      simpa [preparedCellV, Cell.setSlot, Cell.withEntry, Array.getElem?_setIfInBounds, bC, bS, bP, bC.symm, bS.symm, bP.symm, defaultValue] using this, fun _ _ => rfl⟩
  obtain ⟨tm, methC, cdC, kC, vm₁, hnC, -, -, -, -, -, -, -, hW₁, st1⟩ := Steps.initColdS (tb := p.tables) (e := e) (below := below) (s := s) (U := W) X.here hexec X.warmed hpl hown (t := Bundle.initS cls) rfl rfl (Bundle.fit_spec hcls).2
    (a' (.methodLink own ic (Bundle.initS cls)) (by simp [Bundle.ownAtoms])) (h (.instanceMethod (Bundle.initS cls)) (by cases names <;> simp [Bundle.ownAtoms, Bundle.chainSAtoms, Bundle.passSAtoms])) (bytes := Bundle.six) (maxL := 2) (h (.code (Bundle.initS cls) Bundle.six 2 none) (by cases names <;> simp [Bundle.ownAtoms, Bundle.chainSAtoms, Bundle.passSAtoms]))
    (f := g) hg (a := a) (msg := msg) (rest := .ref a :: rest) hstack hd6
  cases Option.some.inj (hnC.symm.trans hP1m)
  have X₁ := X.noted hW₁
  obtain ⟨vm₂, X₂, st2⟩ := X₁.ctorMessageOffV hexec (g := { g with stack := .ref a :: rest }) hg hsize T L Z LZ M LM (P1 :: Ps)
    (fun P hP => by rcases List.mem_cons.mp hP with rfl | hP; exact L1; exact hL P hP) ⟨hlink1, hlink⟩ (u0 := u0) (sen := sen) (self := a) hmsg (cell := freshCell P1.m.cls kX) (cellS := cellS)
    hcell (fun _ => by simp) (by simp) rfl rfl hsel0 hselF hcellS hneS hknownS (by rw [hkeep _ (hout' _)]; exact hu0) (by rw [hkeep _ (hout' _)]; exact hsen)
    (Takes.of_laid hk hord tyC (by rw [Y.causeType]; rfl)) (Takes.of_laid hk hord tyS (by rw [Y.stackType]; exact fits_refV_array _ u0)) (Takes.of_laid hk hord tyP (by rw [Y.suppType]; exact fits_refV_object _ sen))
    (Takes.of_laid hk hord tyM (by rw [Y.msgType]; exact fits_refV_object _ ⟨msg, hmsg⟩)) Y.objLocals hskip htr [] hd6
    (by simp only [List.length_cons, hlen]; omega) (by simp only [List.length_cons, hlen]; exact hRlocals)
  have hlt : a < ((W.setVm vm₁).setVm vm₂).heap.size := (Array.getElem?_eq_some_iff.mp hcell).1
  refine ⟨(W.setVm vm₁).setVm vm₂, _, _, X₂, fun y hy => ?_, hlt, rfl, rfl, fun target hwalk => st1 _ (fun acts => ?_)⟩
  · simp only [List.mem_cons, List.not_mem_nil, or_false] at hy
    rcases hy with rfl | rfl | rfl | rfl | rfl <;> rfl
  · rw [doInvoke_state]
    exact st2 _ hwalk
set_option maxHeartbeats 1000000 in
theorem vx_ctorMade0 (X : Stand p l e R s m₀ args below meth c W locs cells slots) (hexec : p.tables.exec = Jvm.exec) (htr : e.platform.stackTraces = false) {own cls : String} {names : List String} {ic : Nat}
    (hown : s.vm.findClass own = some m₀.cls) (hcls : Bundle.fit cls = true) (hnames : ∀ n ∈ names, Bundle.fit n = true)
    (h : ∀ a ∈ Bundle.ownAtoms0 own ic cls names, a.before args s = true)
    (hlocs : ∀ x ∈ locs, ∀ cell, s.heap[x.base]? = some cell → cell.vm.isStatics = false)
    {a : Addr} {cX : ClassId} {kX : Class} (hfoundX : s.vm.findClass cls = some cX) (hkX : s.vm.classes[cX]? = some kX) (hcell : W.heap[a]? = some (freshCell cX kX)) (hnew : s.heap.size ≤ a)
    {g : JFrame} (hg : g.method = m₀) (hsize : g.locals.size = c.maxLocals) {rest : List Value} (hstack : g.stack = .ref a :: .ref a :: rest)
    (hd6 : decode c.code g.pc = .ok (.invokespecial ic, 3))
    (hRframes : names.length + 3 < R.frames) (hRlocals : 2 * g.monitorRoom + ((Value.ref a :: rest).map fun v => v.category).sum + (13 * (names.length + 1) + 41) ≤ R.locals) :
    ∃ (V : State) (ce : Cell) (L : List Loc), Stand p l e R s m₀ args below meth c (V.setCell a ce) (locs ++ L) cells slots ∧ (∀ y ∈ L, y.base = a) ∧ a < V.heap.size ∧ ce.cls = cX ∧ ce.vm = .none ∧
      ∀ target, Steps p.tables e below ((V.setCell a ce).setTop { g with stack := .ref a :: rest, pc := g.pc + 3 }) target → Steps p.tables e below (W.setTop g) target := by
  have howns : e.platform.frameOwnsMonitors = true := by rw [X.admits.platform]
  have hfin : e.platform.finalization = false := by rw [X.admits.platform]
  have hpl : e.platform.magicAccessors = ({} : Platform).magicAccessors := by rw [X.admits.platform]
  have a' : ∀ x, x ∈ Bundle.ownAtoms0 own ic cls names → x.holds args s none s [] = true := fun x hx => h x hx
  obtain ⟨T, Z, L, LZ, Y⟩ := ThrowableC.of_atoms (args := args) howns hfin hpl (fun x hx => h x (by simp [Bundle.ownAtoms0, hx]))
  obtain ⟨P1, Ps, hlen, L1, hL, hP1m, hlink1, hlink⟩ := Bundle.chain0 (args := args) hpl Y.init0 names cls hcls hnames (fun x hx => h x (by simp [Bundle.ownAtoms0, hx]))
  have hfound : s.vm.findClass cls = some P1.m.cls := findClass_of_methodNamed hP1m
  cases Option.some.inj (hfoundX.symm.trans hfound)
  obtain ⟨c1, kX', hc1, hk, hord, -, -, hn6⟩ := Cond.instantiable_spec (a' (.instantiable cls 6) (by simp [Bundle.ownAtoms0]))
  cases Option.some.inj (hc1.symm.trans hfound)
  cases Option.some.inj (hkX.symm.trans hk)
  have hsel0 : selectMethod e.platform s.vm P1.m.cls T.fill0 = .method T.fill0 := by
    obtain ⟨c2, r2, m2, q1, q2, q3, q4, -⟩ := Cond.selects_spec (a' (.selects cls Bundle.tFill0 Bundle.tFill0) (by simp [Bundle.ownAtoms0]))
    cases Option.some.inj (q1.symm.trans hfound)
    cases Option.some.inj (q2.symm.trans (State.methodFound?_of_named Y.fill0 (by decide)))
    cases Option.some.inj (q3.symm.trans Y.fill0)
    rw [Launch.admits_selectMethod X.admits]; exact q4
  have hselF : selectMethod e.platform s.vm P1.m.cls T.fill = .method T.fill := by
    obtain ⟨c2, r2, m2, q1, q2, q3, q4, -⟩ := Cond.selects_spec (a' (.selects cls Bundle.tFill Bundle.tFill) (by simp [Bundle.ownAtoms0]))
    cases Option.some.inj (q1.symm.trans hfound)
    cases Option.some.inj (q2.symm.trans (State.methodFound?_of_named Y.fill (by decide)))
    cases Option.some.inj (q3.symm.trans Y.fill)
    rw [Launch.admits_selectMethod X.admits]; exact q4
  obtain ⟨cellS0, hcS0, hiss⟩ := Y.statics
  obtain ⟨u0, hu0⟩ := Cond.staticRefV Y.unassigned L.unassignedStatic L.statics hcS0 hiss (a' (.isRef (.static Bundle.tN "UNASSIGNED_STACK" Bundle.steD)) (by simp [Bundle.ownAtoms0]))
  obtain ⟨sen, hsen⟩ := Cond.staticRefV Y.sentinel L.sentinelStatic L.statics hcS0 hiss (a' (.isRef (.static Bundle.tN "SUPPRESSED_SENTINEL" Bundle.listD)) (by simp [Bundle.ownAtoms0]))
  obtain ⟨ci198, i198, fB, hk198, hg198, ha198, hsB, -, hnB, htB, hffB⟩ := Cond.ownField (t := .object "java/lang/Object") Y.found L.cls (by decide +kernel) (a' (.fieldLink Bundle.tN 198 Bundle.tN "backtrace" "Ljava/lang/Object;") (by simp [Bundle.ownAtoms0])) (a' (.lays Bundle.tN Bundle.tN "backtrace" "Ljava/lang/Object;") (by simp [Bundle.ownAtoms0])) e.platform hpl
  obtain ⟨cellS, hcS', heS, -, hkeep⟩ := X.same.2.2.2.2.2 T.aS cellS0 hcS0
  have hcellS : W.heap[T.aS]? = some cellS := hcS'
  have hout' : ∀ i, (⟨T.aS, i⟩ : Loc) ∉ locs := fun i hmem => by
    have := hlocs _ hmem cellS0 hcS0
    rw [hiss] at this; cases this
  have hknownS : cellS.vm ≠ .unknown := by
    rw [heS]; intro hu
    rw [show cellS0.vm = .unknown from hu] at hiss
    cases hiss
  have hneS : T.aS ≠ a := Nat.ne_of_lt (Nat.lt_of_lt_of_le (Array.getElem?_eq_some_iff.mp hcS0).1 hnew)
  obtain ⟨iM, hffM⟩ := Y.msg
  obtain ⟨tyC, dC, hdC, hdnC⟩ := Cond.laysAt hfound hk Y.cause (a' (.lays cls Bundle.tN "cause" "Ljava/lang/Throwable;") (by simp [Bundle.ownAtoms0]))
  obtain ⟨tyS, dS, hdS, hdnS⟩ := Cond.laysAt hfound hk Y.stack (a' (.lays cls Bundle.tN "stackTrace" Bundle.steD) (by simp [Bundle.ownAtoms0]))
  obtain ⟨tyP, dP, hdP, hdnP⟩ := Cond.laysAt hfound hk Y.supp (a' (.lays cls Bundle.tN "suppressedExceptions" Bundle.listD) (by simp [Bundle.ownAtoms0]))
  obtain ⟨tyM, dM, hdM, hdnM⟩ := Cond.laysAt hfound hk hffM (a' (.lays cls Bundle.tN "detailMessage" "Ljava/lang/String;") (by simp [Bundle.ownAtoms0]))
  obtain ⟨tyB, dB, hdB, hdnB⟩ := Cond.laysAt hfound hk hffB (a' (.lays cls Bundle.tN "backtrace" "Ljava/lang/Object;") (by simp [Bundle.ownAtoms0]))
  have bC := Cond.laysApart hdB hdC hdnB hdnC (by rw [hnB, Y.causeName]; decide)
  have bS := Cond.laysApart hdB hdS hdnB hdnS (by rw [hnB, Y.stackName]; decide)
  have bP := Cond.laysApart hdB hdP hdnB hdnP (by rw [hnB, Y.suppName]; decide)
  have hskip : SkipFacts T e.platform s (fun u => u) u0 ((preparedCellV T.toThrowableT (freshCell P1.m.cls kX) a u0 sen).withEntry W.cur) :=
    ⟨{ ci198 := ci198, i198 := i198, fBack := fB }, ⟨hk198, hg198, ha198, hsB⟩, by
      have := fresh_default (c := P1.m.cls) tyB
      rw [htB] at this
      simpa [preparedCellV, Cell.setSlot, Cell.withEntry, Array.getElem?_setIfInBounds, bC, bS, bP, bC.symm, bS.symm, bP.symm, defaultValue] using this, fun _ _ => rfl⟩
  obtain ⟨tm, methC, cdC, kC, vm₁, hnC, -, -, -, -, -, -, -, hW₁, st1⟩ := Steps.initCold (tb := p.tables) (e := e) (below := below) (s := s) (U := W) X.here hexec X.warmed hpl hown (t := Bundle.init0 cls) rfl rfl (Bundle.fit_spec hcls).2
    (a' (.methodLink own ic (Bundle.init0 cls)) (by simp [Bundle.ownAtoms0])) (h (.instanceMethod (Bundle.init0 cls)) (by cases names <;> simp [Bundle.ownAtoms0, Bundle.chain0Atoms, Bundle.passAtoms])) (bytes := Bundle.five) (maxL := 1) (h (.code (Bundle.init0 cls) Bundle.five 1 none) (by cases names <;> simp [Bundle.ownAtoms0, Bundle.chain0Atoms, Bundle.passAtoms]))
    (f := g) hg (a := a) (rest := .ref a :: rest) hstack hd6
  cases Option.some.inj (hnC.symm.trans hP1m)
  have X₁ := X.noted hW₁
  obtain ⟨vm₂, X₂, st2⟩ := X₁.ctorPlainOffV hexec (g := { g with stack := .ref a :: rest }) hg hsize T L Z LZ (P1 :: Ps)
    (fun P hP => by rcases List.mem_cons.mp hP with rfl | hP; exact L1; exact hL P hP) ⟨hlink1, hlink⟩ (u0 := u0) (sen := sen) (self := a) (cell := freshCell P1.m.cls kX) (cellS := cellS)
    hcell (fun _ => by simp) (by simp) rfl rfl hsel0 hselF hcellS hneS hknownS (by rw [hkeep _ (hout' _)]; exact hu0) (by rw [hkeep _ (hout' _)]; exact hsen)
    (Takes.of_laid hk hord tyC (by rw [Y.causeType]; rfl)) (Takes.of_laid hk hord tyS (by rw [Y.stackType]; exact fits_refV_array _ u0)) (Takes.of_laid hk hord tyP (by rw [Y.suppType]; exact fits_refV_object _ sen)) Y.objLocals hskip htr [] hd6
    (by simp only [List.length_cons, hlen]; omega) (by simp only [List.length_cons, hlen]; exact hRlocals)
  have hlt : a < ((W.setVm vm₁).setVm vm₂).heap.size := (Array.getElem?_eq_some_iff.mp hcell).1
  refine ⟨(W.setVm vm₁).setVm vm₂, _, _, X₂, fun y hy => ?_, hlt, rfl, rfl, fun target hwalk => st1 _ (fun acts => ?_)⟩
  · simp only [List.mem_cons, List.not_mem_nil, or_false] at hy
    rcases hy with rfl | rfl | rfl | rfl <;> rfl
  · rw [doInvoke_state]
    exact st2 _ hwalk
end VXK
section VXK2
variable {p : Program} {l : Launch} {e : Env} {R : Room} {s : State} {m : MethodId} {args : Array Value} {below : List Frame} {meth : Method} {c : Code} {H : Heap} {locs : List Loc} {cells slots : Nat} {Q : State → Prop}
variable {ls : Array Slot} {rest : List Value} {D : va_G} {cl : List vw_C} {tys : List (ClassId × FieldType)} {ws : va_W}
/-- 'new E("text")' that isn't thrown at once: the object goes on the stack -/
theorem vx_makeS {cc : ByteArray} {pc : Nat} (hexec : p.tables.exec = Jvm.exec) (hb : c.code = cc) (hl : l.stackTraces = false) {own cls text : String} {names : List String} {ik is ic sa ci : Nat} {A : Nat → Prop} {T0 : u_T}
    (hown : s.vm.findClass own = some m.cls) (hcls : Bundle.fit cls = true) (hnames : ∀ n ∈ names, Bundle.fit n = true)
    (hk : (Cond.classLink own ik cls).before args s = true) (hini : (Cond.initialized cls).before args s = true) (hstr : vk_R own is text sa s) (hat : ∀ w ∈ vx_atS own ic cls names, w.before args s = true)
    (hgood : ∀ w ∈ Cond.classLink own ik cls :: Cond.initialized cls :: vx_atS own ic cls names, vx_ot w = true)
    (hU : vx_Zq Bundle.tN "UNASSIGNED_STACK" Bundle.steD A s s.heap) (hN : vx_Zq Bundle.tN "SUPPRESSED_SENTINEL" Bundle.listD A s s.heap) (hS : va_S A s.heap H locs) (hsize : ls.size = c.maxLocals)
    (d0 : decode cc pc = .ok (.new ik, 3)) (d3 : decode cc (pc + 3) = .ok (.dup, 1)) (d4 : decode cc (pc + 4) = .ok (.ldc is, 2)) (d6 : decode cc (pc + 6) = .ok (.invokespecial ic, 3))
    (hK : va_K D cl tys s) (hP : va_P D cl ws H) (hD : va_D A ws) (hA : ∀ q, s.heap.size ≤ q → A q) (hc : cl[ci]? = some (cls, T0, 0))
    (hRframes : names.length + 3 < R.frames) (hRlocals : (rest.map fun v => v.category).sum + (13 * (names.length + 1) + 43) ≤ R.locals) (hRcells : cells + 1 ≤ R.cells) (hRslots : slots + 6 ≤ R.slots)
    (kk : ∀ (q : Nat) (H1 : Heap), va_P D cl (ws ++ [(q, .inr (ci, []))]) H1 → va_D A (ws ++ [(q, .inr (ci, []))]) → va_S A s.heap H1 locs → W p l e R s m args below meth c H1 locs (cells + 1) (slots + 6) Q (F0 m (pc + 9) ls (.ref q :: rest))) :
    W p l e R s m args below meth c H locs cells slots Q (F0 m pc ls rest) := by
  intro T hT X
  subst hT
  have htr : e.platform.stackTraces = false := (show e.platform.stackTraces = l.stackTraces by rw [X.admits.platform]).trans hl
  have Y := vx_rebase X (R' := { frames := R.frames, locals := R.locals, cells := 1, slots := 6 }) (Nat.le_refl _) (Nat.le_refl _) hRcells hRslots
  obtain ⟨s', hA'⟩ : ∃ z, z = (T.setVm s.vm).setFrames (.invoking m args :: below) := ⟨_, rfl⟩
  rw [← hA'] at Y
  have hvm : s'.vm = s.vm := by rw [hA']; rfl
  have hhp : s'.heap = T.heap := by rw [hA']; rfl
  have hW0 : s.WarmedH s'.vm := by rw [hvm]; exact State.WarmedH.refl s
  have hat' : ∀ w ∈ vx_atS own ic cls names, w.before args s' = true := fun w hw => vx_ot_at hW0 hvm.symm (hgood w (List.mem_cons_of_mem _ (List.mem_cons_of_mem _ hw))) (hat w hw)
  have hk' : (Cond.classLink own ik cls).before args s' = true := vx_ot_at hW0 hvm.symm (hgood _ List.mem_cons_self) hk
  have hini' : (Cond.initialized cls).before args s' = true := vx_ot_at hW0 hvm.symm (hgood _ (List.mem_cons_of_mem _ List.mem_cons_self)) hini
  have hU' : vx_Zq Bundle.tN "UNASSIGNED_STACK" Bundle.steD A s' s'.heap := by rw [hhp]; exact vx_Zq.moved hW0.alike (hU.kept hS.2.1)
  have hN' : vx_Zq Bundle.tN "SUPPRESSED_SENTINEL" Bundle.listD A s' s'.heap := by rw [hhp]; exact vx_Zq.moved hW0.alike (hN.kept hS.2.1)
  have h : ∀ w ∈ Bundle.ownAtoms own ic cls names, w.before args s' = true := vx_own hat' (vx_isRefq hU'.1) (vx_isRefq hN'.1) hU'.2.word hN'.2.word
  have hown' : s'.vm.findClass own = some m.cls := by rw [hvm]; exact hown
  have hins : (Cond.instantiable cls 6).before args s' = true := h _ (by simp [Bundle.ownAtoms])
  obtain ⟨vm₁, cX, kX, hfX, hkX, -, -, X₁, st1⟩ := Y.newCold hexec (own := own) (C := cls) (index := ik) (n := 6) hown' hk' hins hini'
    (g := F0 m pc ls rest) rfl (by rw [hb]; exact d0) (Nat.le_refl _) (Nat.le_refl _)
  generalize hT1 : (T.setVm vm₁).pushCell { cls := cX, slots := kX.instanceTypes.map defaultValue, vm := .none } = T1 at X₁ st1
  have hcat : (Value.ref T.heap.size).category = 1 := rfl
  have hcellA : T1.heap[T.heap.size]? = some (freshCell cX kX) := by rw [← hT1]; exact State.heap_pushCell_size _ _
  have d3' : decode c.code (pc + 3) = .ok (.dup, 1) := by rw [hb]; exact d3
  have d4' : decode c.code (pc + 4) = .ok (.ldc is, 2) := by rw [hb]; exact d4
  have hstr' : vk_R own is text sa s' := vk_R.warm hW0 hstr
  obtain ⟨V, ce, L, Z, hL, hlt, hcl9, hvm9, st⟩ := vx_ctorMadeS X₁ hexec htr (own := own) (cls := cls) (names := names) (ic := ic) hown' hcls hnames h (fun x hx => nomatch hx) hfX hkX hcellA (by rw [hhp]; exact Nat.le_refl _) (msg := .ref sa) rfl
    (g := { method := m, pc := pc + 6, locals := ls, stack := .ref sa :: .ref T.heap.size :: .ref T.heap.size :: rest, locked := none }) rfl hsize (rest := rest) rfl
    (by rw [hb]; exact d6) hRframes (by simp only [List.map_cons, List.sum_cons, hcat]; omega)
  have Z0 := Stand.forget (locs := []) Z (fun y hy => by rw [hL y hy, hhp]; exact Nat.le_refl _)
  obtain ⟨f1, f2⟩ := vx_frame Z0.same
  rw [hhp] at f1 f2
  have hcid : ce.cls = D.1 ci := by
    rw [hcl9]
    have h1 := (hK.1 ci _ hc).2.1
    rw [hvm] at hfX
    exact Option.some.inj (hfX.symm.trans h1)
  have hh : (V.setCell T.heap.size ce).heap[T.heap.size]? = some ce := heapAt_setCell_self (s := V) ce hlt
  subst hA'
  have X5 := vx_back9 X Y Z0
  have X6 : Stand p l e R s m args below meth c (V.setCell T.heap.size ce) locs (cells + 1) (slots + 6) := { X5 with same := X5.same.mono (by omega) (by omega) }
  have hk9 : ∀ (k : Nat) (x : Nat × va_E), ws[k]? = some x → (V.setCell T.heap.size ce).heap[x.1]? = T.heap[x.1]? := fun k x hx => f2 x.1 ((hP k x hx).lt) (fun z hz => nomatch hz)
  obtain ⟨t, a1, b1⟩ := kk T.heap.size (V.setCell T.heap.size ce).heap ((hP.kept hk9).app (fun k x hx => by
      have hz : k < 1 := (List.getElem?_eq_some_iff.mp hx).1
      rw [show k = 0 by omega] at hx
      cases hx
      exact ⟨_, hc, ce, hh, hcid, hvm9, fun k hk => absurd hk (Nat.not_lt_zero k)⟩)) (hD.push hP rfl (hA _ hS.1)) ⟨Nat.le_trans hS.1 f1, fun q h1 h2 => (f2 q (Nat.lt_of_lt_of_le h1 hS.1) (fun z hz => nomatch hz)).trans (hS.2.1 q h1 h2), hS.2.2⟩ _ rfl X6
  refine ⟨t, st1 _ ?_, b1⟩
  show Steps p.tables e below (T1.setTop { method := m, pc := pc + 3, locals := ls, stack := .ref T.heap.size :: rest, locked := none }) _
  jvm_step X₁.here [X₁.here.top, hexec, d3', Value.category]
  exact X₁.ldcString hexec (own := own) (text := text) (index := is) (a := sa) hown' hstr'.1 hstr'.2
    (g := { method := m, pc := pc + 4, locals := ls, stack := .ref T.heap.size :: .ref T.heap.size :: rest, locked := none }) rfl d4' _ (st _ a1)
/-- 'new E()' that isn't thrown at once: the object goes on the stack -/
theorem vx_make0 {cc : ByteArray} {pc : Nat} (hexec : p.tables.exec = Jvm.exec) (hb : c.code = cc) (hl : l.stackTraces = false) {own cls : String} {names : List String} {ik ic ci : Nat} {A : Nat → Prop} {T0 : u_T}
    (hown : s.vm.findClass own = some m.cls) (hcls : Bundle.fit cls = true) (hnames : ∀ n ∈ names, Bundle.fit n = true)
    (hk : (Cond.classLink own ik cls).before args s = true) (hini : (Cond.initialized cls).before args s = true) (hat : ∀ w ∈ vx_at0 own ic cls names, w.before args s = true)
    (hgood : ∀ w ∈ Cond.classLink own ik cls :: Cond.initialized cls :: vx_at0 own ic cls names, vx_ot w = true)
    (hU : vx_Zq Bundle.tN "UNASSIGNED_STACK" Bundle.steD A s s.heap) (hN : vx_Zq Bundle.tN "SUPPRESSED_SENTINEL" Bundle.listD A s s.heap) (hS : va_S A s.heap H locs) (hsize : ls.size = c.maxLocals)
    (d0 : decode cc pc = .ok (.new ik, 3)) (d3 : decode cc (pc + 3) = .ok (.dup, 1)) (d4 : decode cc (pc + 4) = .ok (.invokespecial ic, 3))
    (hK : va_K D cl tys s) (hP : va_P D cl ws H) (hD : va_D A ws) (hA : ∀ q, s.heap.size ≤ q → A q) (hc : cl[ci]? = some (cls, T0, 0))
    (hRframes : names.length + 3 < R.frames) (hRlocals : (rest.map fun v => v.category).sum + (13 * (names.length + 1) + 42) ≤ R.locals) (hRcells : cells + 1 ≤ R.cells) (hRslots : slots + 6 ≤ R.slots)
    (kk : ∀ (q : Nat) (H1 : Heap), va_P D cl (ws ++ [(q, .inr (ci, []))]) H1 → va_D A (ws ++ [(q, .inr (ci, []))]) → va_S A s.heap H1 locs → W p l e R s m args below meth c H1 locs (cells + 1) (slots + 6) Q (F0 m (pc + 7) ls (.ref q :: rest))) :
    W p l e R s m args below meth c H locs cells slots Q (F0 m pc ls rest) := by
  intro T hT X
  subst hT
  have htr : e.platform.stackTraces = false := (show e.platform.stackTraces = l.stackTraces by rw [X.admits.platform]).trans hl
  have Y := vx_rebase X (R' := { frames := R.frames, locals := R.locals, cells := 1, slots := 6 }) (Nat.le_refl _) (Nat.le_refl _) hRcells hRslots
  obtain ⟨s', hA'⟩ : ∃ z, z = (T.setVm s.vm).setFrames (.invoking m args :: below) := ⟨_, rfl⟩
  rw [← hA'] at Y
  have hvm : s'.vm = s.vm := by rw [hA']; rfl
  have hhp : s'.heap = T.heap := by rw [hA']; rfl
  have hW0 : s.WarmedH s'.vm := by rw [hvm]; exact State.WarmedH.refl s
  have hat' : ∀ w ∈ vx_at0 own ic cls names, w.before args s' = true := fun w hw => vx_ot_at hW0 hvm.symm (hgood w (List.mem_cons_of_mem _ (List.mem_cons_of_mem _ hw))) (hat w hw)
  have hk' : (Cond.classLink own ik cls).before args s' = true := vx_ot_at hW0 hvm.symm (hgood _ List.mem_cons_self) hk
  have hini' : (Cond.initialized cls).before args s' = true := vx_ot_at hW0 hvm.symm (hgood _ (List.mem_cons_of_mem _ List.mem_cons_self)) hini
  have hU' : vx_Zq Bundle.tN "UNASSIGNED_STACK" Bundle.steD A s' s'.heap := by rw [hhp]; exact vx_Zq.moved hW0.alike (hU.kept hS.2.1)
  have hN' : vx_Zq Bundle.tN "SUPPRESSED_SENTINEL" Bundle.listD A s' s'.heap := by rw [hhp]; exact vx_Zq.moved hW0.alike (hN.kept hS.2.1)
  have h : ∀ w ∈ Bundle.ownAtoms0 own ic cls names, w.before args s' = true := vx_own hat' (vx_isRefq hU'.1) (vx_isRefq hN'.1) hU'.2.word hN'.2.word
  have hown' : s'.vm.findClass own = some m.cls := by rw [hvm]; exact hown
  have hins : (Cond.instantiable cls 6).before args s' = true := h _ (by simp [Bundle.ownAtoms0])
  obtain ⟨vm₁, cX, kX, hfX, hkX, -, -, X₁, st1⟩ := Y.newCold hexec (own := own) (C := cls) (index := ik) (n := 6) hown' hk' hins hini'
    (g := F0 m pc ls rest) rfl (by rw [hb]; exact d0) (Nat.le_refl _) (Nat.le_refl _)
  generalize hT1 : (T.setVm vm₁).pushCell { cls := cX, slots := kX.instanceTypes.map defaultValue, vm := .none } = T1 at X₁ st1
  have hcat : (Value.ref T.heap.size).category = 1 := rfl
  have hcellA : T1.heap[T.heap.size]? = some (freshCell cX kX) := by rw [← hT1]; exact State.heap_pushCell_size _ _
  have d3' : decode c.code (pc + 3) = .ok (.dup, 1) := by rw [hb]; exact d3
  obtain ⟨V, ce, L, Z, hL, hlt, hcl9, hvm9, st⟩ := vx_ctorMade0 X₁ hexec htr (own := own) (cls := cls) (names := names) (ic := ic) hown' hcls hnames h (fun x hx => nomatch hx) hfX hkX hcellA (by rw [hhp]; exact Nat.le_refl _)
    (g := { method := m, pc := pc + 4, locals := ls, stack := .ref T.heap.size :: .ref T.heap.size :: rest, locked := none }) rfl hsize (rest := rest) rfl
    (by rw [hb]; exact d4) hRframes (by simp only [List.map_cons, List.sum_cons, hcat]; omega)
  have Z0 := Stand.forget (locs := []) Z (fun y hy => by rw [hL y hy, hhp]; exact Nat.le_refl _)
  obtain ⟨f1, f2⟩ := vx_frame Z0.same
  rw [hhp] at f1 f2
  have hcid : ce.cls = D.1 ci := by
    rw [hcl9]
    have h1 := (hK.1 ci _ hc).2.1
    rw [hvm] at hfX
    exact Option.some.inj (hfX.symm.trans h1)
  have hh : (V.setCell T.heap.size ce).heap[T.heap.size]? = some ce := heapAt_setCell_self (s := V) ce hlt
  subst hA'
  have X5 := vx_back9 X Y Z0
  have X6 : Stand p l e R s m args below meth c (V.setCell T.heap.size ce) locs (cells + 1) (slots + 6) := { X5 with same := X5.same.mono (by omega) (by omega) }
  have hk9 : ∀ (k : Nat) (x : Nat × va_E), ws[k]? = some x → (V.setCell T.heap.size ce).heap[x.1]? = T.heap[x.1]? := fun k x hx => f2 x.1 ((hP k x hx).lt) (fun z hz => nomatch hz)
  obtain ⟨t, a1, b1⟩ := kk T.heap.size (V.setCell T.heap.size ce).heap ((hP.kept hk9).app (fun k x hx => by
      have hz : k < 1 := (List.getElem?_eq_some_iff.mp hx).1
      rw [show k = 0 by omega] at hx
      cases hx
      exact ⟨_, hc, ce, hh, hcid, hvm9, fun k hk => absurd hk (Nat.not_lt_zero k)⟩)) (hD.push hP rfl (hA _ hS.1)) ⟨Nat.le_trans hS.1 f1, fun q h1 h2 => (f2 q (Nat.lt_of_lt_of_le h1 hS.1) (fun z hz => nomatch hz)).trans (hS.2.1 q h1 h2), hS.2.2⟩ _ rfl X6
  refine ⟨t, st1 _ ?_, b1⟩
  show Steps p.tables e below (T1.setTop { method := m, pc := pc + 3, locals := ls, stack := .ref T.heap.size :: rest, locked := none }) _
  jvm_step X₁.here [X₁.here.top, hexec, d3', Value.category]
  exact st _ a1
/-- 'throw x' of an object that was made before -/
theorem vx_athrow {cc : ByteArray} {pc : Nat} (hexec : p.tables.exec = Jvm.exec) (hb : c.code = cc) {q : Addr} (hdg : decode cc pc = .ok (.athrow, 1)) (k : vx_W p l e R s m args below meth c H locs cells slots Q (F0 m pc ls rest) q) : W p l e R s m args below meth c H locs cells slots Q (F0 m pc ls (.ref q :: rest)) := by
  intro T hT X
  obtain ⟨t, st, hq⟩ := k T hT X
  refine ⟨t, ?_, hq⟩
  have hdg' : decode c.code pc = .ok (.athrow, 1) := by rw [hb]; exact hdg
  jvm_step X.here [X.here.top, hexec, hdg', athrow.wp_sem]
  exact st
end VXK2
/-! ===== END ===== -/
/-! ===== BEGIN a constructor that throws (launches without stack traces) ===== -/
section VXIA
variable {p : Program} {l : Launch} {e : Env} {R : Room} {s : State} {m : MethodId} {args : Array Value} {below : List Frame} {meth : Method} {c : Code} {T : State} {locs : List Loc} {cells slots : Nat}
theorem vx_callI (X : Stand p l e R s m args below meth c T locs cells slots) (hexec : p.tables.exec = Jvm.exec) {own : String} {index : Nat} {y : MethodName} {bytes : ByteArray} {maxL : Nat}
    (hown : s.vm.findClass own = some m.cls) (hy1 : y.name = "<init>") (hlink : (Cond.methodLink own index y).before args s = true) (hinst : (Cond.instanceMethod y).before args s = true)
    (hcode : (Cond.code y bytes maxL none).before args s = true) (hy : y.cls ≠ "java/lang/invoke/MethodHandle" ∧ y.cls ≠ "java/lang/invoke/VarHandle")
    {W9 : Nat} {Pre : Pt → Array Value → Prop} {Post : Pt → Array Value → Option Value → Pt → Prop} {PostX : Pt → Array Value → Addr → Pt → Prop} (hK : vx_Back l R p e below s args y 3 W9 Pre Post PostX)
    {g : JFrame} (hg : g.method = m) (hsize : g.locals.size = c.maxLocals) {a : Addr} {argsL rest : List Value} (hlen : ∀ sig, parseMethodDescriptor y.desc = some sig → argsL.length = sig.parameters.length)
    (hstack : g.stack = argsL.reverse ++ .ref a :: rest) (hW : 2 * g.monitorRoom + (rest.map fun v => v.category).sum ≤ W9) (hdg : decode c.code g.pc = .ok (.invokespecial index, 3))
    (hpre : ∀ vm₁, s.WarmedH vm₁ → Pre ⟨T.setVm vm₁, locs, cells, slots⟩ (Value.ref a :: argsL).toArray) :
    (∃ (v : Option Value) (vm₁ : Vm) (B : Pt), s.WarmedH vm₁ ∧ Stand p l e R s m args below meth c B.U B.locs B.cells B.slots ∧ Post ⟨T.setVm vm₁, locs, cells, slots⟩ (Value.ref a :: argsL).toArray v B ∧
      ∀ target, Steps p.tables e below (B.U.setTop { g with pc := g.pc + 3, stack := v.toList ++ rest }) target → Steps p.tables e below (T.setTop g) target) ∨
    (∃ (q : Addr) (vm₁ : Vm) (B : Pt), s.WarmedH vm₁ ∧ Stand p l e R s m args below meth c B.U B.locs B.cells B.slots ∧ PostX ⟨T.setVm vm₁, locs, cells, slots⟩ (Value.ref a :: argsL).toArray q B ∧
      Steps p.tables e below (T.setTop g) ((B.U.setTop { g with stack := rest }).pushFrame (.throwing q))) := by
  subst hg
  have hpl : e.platform.magicAccessors = ({} : Platform).magicAccessors := by rw [X.admits.platform]
  obtain ⟨mk, methM, cM, kP, vm₁, hnamed, hmethM, hcodeM, -, hlocalsM, -, hkP, -, hW₁, hstep₁⟩ := Steps.initColdArgs (e := e) X.here hexec X.warmed hpl hown hy1 hy hlink hinst hcode (f := g) rfl hlen hstack hdg
  have X₁ := X.noted hW₁
  rcases hK g.method meth c ⟨T.setVm vm₁, locs, cells, slots⟩ { g with stack := rest } (.invokespecial index) mk (Value.ref a :: argsL).toArray X₁ rfl hsize hdg hW (X₁.named hnamed) (hpre vm₁ X₁.warmed) with ⟨v, B, X', hpost, hsteps⟩ | ⟨q, B, X', hpost, hsteps⟩
  · exact Or.inl ⟨v, vm₁, B, X₁.warmed, X', hpost, fun target h => hstep₁ _ fun acts => by rw [doInvoke_state]; exact hsteps.trans h⟩
  · exact Or.inr ⟨q, vm₁, B, X₁.warmed, X', hpost, hstep₁ _ fun acts => by rw [doInvoke_state]; exact hsteps⟩
end VXIA
section VXIB
variable {p : Program} {l : Launch} {e : Env} {R : Room} {s : State} {m : MethodId} {args : Array Value} {below : List Frame} {meth : Method} {c : Code} {H : Heap} {locs : List Loc} {cells slots : Nat}
variable {y : MethodName} {bytes cc : ByteArray} {maxL nL mc ms n index : Nat} {ret : Option FieldType} {ws : List Cond} {rm : Room} {Pc : Array Value → State → Prop} {Qc : Array Value → State → Outcome → State → Prop} {XC : String → State → State → Prop} {free : Addr → Prop} {Ts : List Cond} {own C : String} {b : Addr} {As rest : List Value} {g : JFrame}
theorem vx_runI (S : CallFix p m c cc nL s args Ts own) (hM : vx_Met l y ws rm Pc Qc XC mc ms free) (cw : CallB R s args own index y bytes maxL none ws rm mc ms n ∧ y.name = "<init>" ∧ (Cond.instanceMethod y).before args s = true) (hp : PreS s H Pc (.ref b :: As))
    (hg : g.method = m) (hn : As.length = n) (hsize : g.locals.size = nL) (hstack : g.stack = As.reverse ++ .ref b :: rest) (hW : 2 * g.monitorRoom + (rest.map fun v => v.category).sum ≤ 8) (hdg : decode cc g.pc = .ok (.invokespecial index, 3)) (hf : cells + mc ≤ R.cells ∧ slots + ms ≤ R.slots) :
    vx_Run p l e R s m args below meth c H locs cells slots mc ms g rest (Qc (Value.ref b :: As).toArray) XC free := by
  have hK : vx_Back l R p e below s args y 3 8 (PreOf R mc ms Pc) (PostOf Qc mc ms free) (vx_Post XC mc ms free) := vx_callBack cw.1 hM hp.1
  obtain ⟨⟨-, -, -, -, -, -, hcode, -, hy, hlen, hl⟩, hy1, hin⟩ := cw
  obtain ⟨hx, hb, hml, ho, -⟩ := S
  have hPc := hp.2
  intro T hT X
  rcases vx_callI X hx (bytes := bytes) (maxL := maxL) ho hy1 hl hin hcode hy hK hg (hsize.trans hml.symm) (a := b) (argsL := As) (rest := rest) (fun sig h => hn.trans (hlen sig h)) hstack hW (by rw [hb]; exact hdg)
    (fun vm₁ hW₁ => ⟨hf.1, hf.2, hPc (T.setVm vm₁) hT hW₁⟩) with ⟨v, vm₁, ⟨U', l2, c2, s2⟩, hW₁, X', ⟨g', mk, t, L, e1, e2, hq, h1, hL, h2, h3⟩, st⟩ | ⟨q, vm₁, ⟨U', l2, c2, s2⟩, hW₁, X', ⟨g', mk, t, L, E, ce, e1, e2, hq, hce, hcv, hcl, h1, hL, h2, h3⟩, st⟩
  · dsimp only [Pt.U, Pt.locs, Pt.cells, Pt.slots] at X' e1 e2 h1 h2 h3 st
    subst h1; subst h2; subst h3
    exact Or.inl ⟨v, (T.setVm vm₁).calling g' mk (Value.ref b :: As).toArray, t, U', L, hT, X', hL, e1, e2, hq, st⟩
  · dsimp only [Pt.U, Pt.locs, Pt.cells, Pt.slots] at X' e1 e2 h1 h2 h3 st hcl
    subst h1; subst h2; subst h3
    exact Or.inr ⟨q, (T.setVm vm₁).calling g' mk (Value.ref b :: As).toArray, t, U', L, E, ce, hT, X', hL, e1, e2, hq, hce, hcv, vx_cls hW₁ hcl, st⟩
end VXIB
/-! ===== END ===== -/
/-! ===== BEGIN a private constructor of a nest mate that throws ===== -/
section VXIC
variable {p : Program} {l : Launch} {e : Env} {R : Room} {s : State} {m : MethodId} {args : Array Value} {below : List Frame} {meth : Method} {c : Code} {T : State} {locs : List Loc} {cells slots : Nat}
theorem vx_callIN (X : Stand p l e R s m args below meth c T locs cells slots) (hexec : p.tables.exec = Jvm.exec) {own : String} {index : Nat} {host : String} {y : MethodName} {bytes : ByteArray} {maxL : Nat}
    (hown : s.vm.findClass own = some m.cls) (hy1 : y.name = "<init>") (hlink : (Cond.methodLinkNest own index y host).before args s = true) (hinst : (Cond.instanceMethod y).before args s = true)
    (hcode : (Cond.code y bytes maxL none).before args s = true) (hy : y.cls ≠ "java/lang/invoke/MethodHandle" ∧ y.cls ≠ "java/lang/invoke/VarHandle")
    {W9 : Nat} {Pre : Pt → Array Value → Prop} {Post : Pt → Array Value → Option Value → Pt → Prop} {PostX : Pt → Array Value → Addr → Pt → Prop} (hK : vx_Back l R p e below s args y 3 W9 Pre Post PostX)
    {g : JFrame} (hg : g.method = m) (hsize : g.locals.size = c.maxLocals) {a : Addr} {argsL rest : List Value} (hlen : ∀ sig, parseMethodDescriptor y.desc = some sig → argsL.length = sig.parameters.length)
    (hstack : g.stack = argsL.reverse ++ .ref a :: rest) (hW : 2 * g.monitorRoom + (rest.map fun v => v.category).sum ≤ W9) (hdg : decode c.code g.pc = .ok (.invokespecial index, 3))
    (hpre : ∀ vm₁, s.WarmedH vm₁ → Pre ⟨T.setVm vm₁, locs, cells, slots⟩ (Value.ref a :: argsL).toArray) :
    (∃ (v : Option Value) (vm₁ : Vm) (B : Pt), s.WarmedH vm₁ ∧ Stand p l e R s m args below meth c B.U B.locs B.cells B.slots ∧ Post ⟨T.setVm vm₁, locs, cells, slots⟩ (Value.ref a :: argsL).toArray v B ∧
      ∀ target, Steps p.tables e below (B.U.setTop { g with pc := g.pc + 3, stack := v.toList ++ rest }) target → Steps p.tables e below (T.setTop g) target) ∨
    (∃ (q : Addr) (vm₁ : Vm) (B : Pt), s.WarmedH vm₁ ∧ Stand p l e R s m args below meth c B.U B.locs B.cells B.slots ∧ PostX ⟨T.setVm vm₁, locs, cells, slots⟩ (Value.ref a :: argsL).toArray q B ∧
      Steps p.tables e below (T.setTop g) ((B.U.setTop { g with stack := rest }).pushFrame (.throwing q))) := by
  subst hg
  have hpl : e.platform.magicAccessors = ({} : Platform).magicAccessors := by rw [X.admits.platform]
  obtain ⟨mk, methM, cM, kP, vm₁, hnamed, hmethM, hcodeM, -, hlocalsM, -, hkP, -, hW₁, hstep₁⟩ := Steps.initColdArgsNest (e := e) X.here hexec X.warmed hpl hown hy1 hy hlink hinst hcode (f := g) rfl hlen hstack hdg
  have X₁ := X.noted hW₁
  rcases hK g.method meth c ⟨T.setVm vm₁, locs, cells, slots⟩ { g with stack := rest } (.invokespecial index) mk (Value.ref a :: argsL).toArray X₁ rfl hsize hdg hW (X₁.named hnamed) (hpre vm₁ X₁.warmed) with ⟨v, B, X', hpost, hsteps⟩ | ⟨q, B, X', hpost, hsteps⟩
  · exact Or.inl ⟨v, vm₁, B, X₁.warmed, X', hpost, fun target h => hstep₁ _ fun acts => by rw [doInvoke_state]; exact hsteps.trans h⟩
  · exact Or.inr ⟨q, vm₁, B, X₁.warmed, X', hpost, hstep₁ _ fun acts => by rw [doInvoke_state]; exact hsteps⟩
end VXIC
section VXID
variable {p : Program} {l : Launch} {e : Env} {R : Room} {s : State} {m : MethodId} {args : Array Value} {below : List Frame} {meth : Method} {c : Code} {H : Heap} {locs : List Loc} {cells slots : Nat}
theorem vx_runIN {y : MethodName} {bytes cc : ByteArray} {maxL nL mc ms n index : Nat} {ws : List Cond} {rm : Room} {Pc : Array Value → State → Prop} {Qc : Array Value → State → Outcome → State → Prop} {XC : String → State → State → Prop} {free : Addr → Prop} {Ts : List Cond} {own host : String} {b : Addr} {As rest : List Value} {g : JFrame}
    (S : CallFix p m c cc nL s args Ts own) (hM : vx_Met l y ws rm Pc Qc XC mc ms free) (cw : va_CN R s args own index y host bytes maxL none ws rm mc ms n ∧ y.name = "<init>" ∧ (Cond.instanceMethod y).before args s = true) (hp : PreS s H Pc (.ref b :: As))
    (hg : g.method = m) (hn : As.length = n) (hsize : g.locals.size = nL) (hstack : g.stack = As.reverse ++ .ref b :: rest) (hW : 2 * g.monitorRoom + (rest.map fun v => v.category).sum ≤ 8) (hdg : decode cc g.pc = .ok (.invokespecial index, 3)) (hf : cells + mc ≤ R.cells ∧ slots + ms ≤ R.slots) :
    vx_Run p l e R s m args below meth c H locs cells slots mc ms g rest (Qc (Value.ref b :: As).toArray) XC free := by
  obtain ⟨⟨⟨hrc, hrs, hfr, hlo, hws, hcw⟩, hcode, hini, hy, hlen, hl⟩, hx1, hx2⟩ := cw
  have hK : vx_Back l R p e below s args y 3 8 (PreOf R mc ms Pc) (PostOf Qc mc ms free) (vx_Post XC mc ms free) := vx_back (bytes := bytes) (maxL := maxL) (ret := none) hM hp.1 hrc hrs hfr hlo hws hcw (fun a' U hW => word_at hW (Or.inl (by first | rfl | simp [Cond.onTables, Cond.keeps, Cond.steady])) hini)
  obtain ⟨hx, hb, hml, ho, -⟩ := S
  have hPc := hp.2
  intro T hT X
  rcases vx_callIN X hx (bytes := bytes) (maxL := maxL) ho hx1 hl hx2 hcode hy hK hg (hsize.trans hml.symm) (a := b) (argsL := As) (rest := rest) (fun sig h => hn.trans (hlen sig h)) hstack hW (by rw [hb]; exact hdg)
    (fun vm₁ hW₁ => ⟨hf.1, hf.2, hPc (T.setVm vm₁) hT hW₁⟩) with ⟨v, vm₁, ⟨U', l2, c2, s2⟩, hW₁, X', ⟨g', mk, t, L, e1, e2, hq, h1, hL, h2, h3⟩, st⟩ | ⟨q, vm₁, ⟨U', l2, c2, s2⟩, hW₁, X', ⟨g', mk, t, L, E, ce, e1, e2, hq, hce, hcv, hcl, h1, hL, h2, h3⟩, st⟩
  · dsimp only [Pt.U, Pt.locs, Pt.cells, Pt.slots] at X' e1 e2 h1 h2 h3 st
    subst h1; subst h2; subst h3
    exact Or.inl ⟨v, (T.setVm vm₁).calling g' mk (Value.ref b :: As).toArray, t, U', L, hT, X', hL, e1, e2, hq, st⟩
  · dsimp only [Pt.U, Pt.locs, Pt.cells, Pt.slots] at X' e1 e2 h1 h2 h3 st hcl
    subst h1; subst h2; subst h3
    exact Or.inr ⟨q, (T.setVm vm₁).calling g' mk (Value.ref b :: As).toArray, t, U', L, E, ce, hT, X', hL, e1, e2, hq, hce, hcv, vx_cls hW₁ hcl, st⟩
end VXID
/-! ===== END ===== -/
/-! ===== BEGIN a method of a class above, found by the receiver, that may throw (follows va_callVU, va_runU of this kit) ===== -/
section
variable {p : Program} {l : Launch} {e : Env} {R : Room} {s : State} {m : MethodId} {args : Array Value} {below : List Frame} {meth : Method} {c : Code} {H : Heap} {locs : List Loc} {cells slots : Nat}
theorem vx_callVU {T : State} {locs : List Loc} {cells slots : Nat} (X : Stand p l e R s m args below meth c T locs cells slots) (hexec : p.tables.exec = Jvm.exec) {own C owner : String} {index : Nat} {x y : MethodName} {bytes : ByteArray} {maxL : Nat} {ret : Option FieldType}
    (hown : s.vm.findClass own = some m.cls) (hlink : (Cond.methodLink own index x).before args s = true) (hsame : (Cond.sameMethod x.cls owner x.name x.desc).before args s = true)
    (hd0 : va_Decl s ⟨owner, x.name, x.desc⟩) (howner : owner ≠ "java/lang/invoke/MethodHandle" ∧ owner ≠ "java/lang/invoke/VarHandle")
    (hsel : (Cond.selects C x y).before args s = true) (hinst : (Cond.instanceMethod y).before args s = true) (hcode : (Cond.code y bytes maxL ret).before args s = true)
    {W : Nat} {Pre : Pt → Array Value → Prop} {Post : Pt → Array Value → Option Value → Pt → Prop} {PostX : Pt → Array Value → Addr → Pt → Prop} (hK : vx_Back l R p e below s args y 3 W Pre Post PostX)
    {b : Addr} {cellB : Cell} (hcell : T.heap[b]? = some cellB) (hobj : cellB.vm.isStatics = false) (hcls : s.vm.findClass C = some cellB.cls)
    {g : JFrame} (hg : g.method = m) (hsize : g.locals.size = c.maxLocals) {argsL rest : List Value} (hlen : ∀ sig, parseMethodDescriptor x.desc = some sig → argsL.length = sig.parameters.length)
    (hstack : g.stack = argsL.reverse ++ .ref b :: rest) (hW : 2 * g.monitorRoom + (rest.map fun v => v.category).sum ≤ W) (hdg : decode c.code g.pc = .ok (.invokevirtual index, 3))
    (hpre : ∀ vm₁, s.WarmedH vm₁ → Pre ⟨T.setVm vm₁, locs, cells, slots⟩ (Value.ref b :: argsL).toArray) :
    (∃ (v : Option Value) (vm₁ : Vm) (B : Pt), s.WarmedH vm₁ ∧ Stand p l e R s m args below meth c B.U B.locs B.cells B.slots ∧ Post ⟨T.setVm vm₁, locs, cells, slots⟩ (Value.ref b :: argsL).toArray v B ∧
      ∀ target, Steps p.tables e below (B.U.setTop { g with pc := g.pc + 3, stack := v.toList ++ rest }) target → Steps p.tables e below (T.setTop g) target) ∨
    (∃ (q : Addr) (vm₁ : Vm) (B : Pt), s.WarmedH vm₁ ∧ Stand p l e R s m args below meth c B.U B.locs B.cells B.slots ∧ PostX ⟨T.setVm vm₁, locs, cells, slots⟩ (Value.ref b :: argsL).toArray q B ∧
      Steps p.tables e below (T.setTop g) ((B.U.setTop { g with stack := rest }).pushFrame (.throwing q))) := by
  obtain ⟨r0, r, hn, hrm, hstR, hsigR⟩ := hd0
  obtain ⟨cn, ck, r1, hcn, hck, hni, hf, hn1⟩ := Cond.sameMethod_found hsame
  cases hn.symm.trans hn1
  obtain ⟨mk, methM, hnamed, hmethM, -, habM⟩ := Cond.instanceMethod_spec hinst
  obtain ⟨c2, r2, m2, q1, q2, q3, q4, kP, hkP, hkPi⟩ := Cond.selects_spec hsel
  cases hcls.symm.trans q1
  cases hf.symm.trans q2
  cases hnamed.symm.trans q3
  have hselP : selectMethod e.platform s.vm cellB.cls r0 = .method mk := by rw [Launch.admits_selectMethod X.admits]; exact q4
  obtain ⟨vm₁, X₁, hstep₁⟩ := X.invokevirtualUp hexec hown hlink hsame howner hn hrm hstR (a := b) (cell := cellB) hcell
    (fun z h => by rw [h] at hobj; cases hobj) hselP hmethM habM hkP hkPi (g := g) hg (argsL := argsL) (rest := rest) (hlen _ hsigR) hstack hdg
  rcases hK m meth c ⟨T.setVm vm₁, locs, cells, slots⟩ { g with stack := rest } (.invokevirtual index) mk (Value.ref b :: argsL).toArray X₁ hg hsize hdg hW (X₁.named hnamed) (hpre vm₁ X₁.warmed) with ⟨v, B, X', hpost, hsteps⟩ | ⟨q, B, X', hpost, hsteps⟩
  · exact Or.inl ⟨v, vm₁, B, X₁.warmed, X', hpost, fun target h => hstep₁ _ fun acts => by rw [doInvoke_state]; exact hsteps.trans h⟩
  · exact Or.inr ⟨q, vm₁, B, X₁.warmed, X', hpost, hstep₁ _ fun acts => by rw [doInvoke_state]; exact hsteps⟩
theorem vx_runU {x y : MethodName} {bytes cc : ByteArray} {maxL nL mc ms n index : Nat} {ret : Option FieldType} {ws : List Cond} {rm : Room} {Pc : Array Value → State → Prop} {Qc : Array Value → State → Outcome → State → Prop} {XC : String → State → State → Prop} {free : Addr → Prop} {Ts : List Cond} {own C owner : String} {b : Addr} {As rest : List Value} {g : JFrame}
    (S : CallFix p m c cc nL s args Ts own) (hM : vx_Met l y ws rm Pc Qc XC mc ms free) (cw : va_CU R s args own C owner index x y bytes maxL ret ws rm mc ms n) (hp : PreV s H C b Pc As)
    (hg : g.method = m) (hn : As.length = n) (hsize : g.locals.size = nL) (hstack : g.stack = As.reverse ++ .ref b :: rest) (hW : 2 * g.monitorRoom + (rest.map fun v => v.category).sum ≤ 8) (hdg : decode cc g.pc = .ok (.invokevirtual index, 3)) (hf : cells + mc ≤ R.cells ∧ slots + ms ≤ R.slots) :
    vx_Run p l e R s m args below meth c H locs cells slots mc ms g rest (Qc (Value.ref b :: As).toArray) XC free := by
  obtain ⟨hrc, hrs, hfr, hlo, hws, hcw⟩ := cw.back
  have hini := cw.init
  have hK : vx_Back l R p e below s args y 3 8 (PreOf R mc ms Pc) (PostOf Qc mc ms free) (vx_Post XC mc ms free) := vx_back (bytes := bytes) (maxL := maxL) (ret := ret) hM hp.1 hrc hrs hfr hlo hws hcw (fun a' U hW => word_at hW (Or.inl (by first | rfl | simp [Cond.onTables, Cond.keeps, Cond.steady])) hini)
  obtain ⟨hx, hb, hml, ho, -⟩ := S
  obtain ⟨-, ⟨cellB, hcB, hoB, hclB⟩, hPc⟩ := hp
  intro T hT X
  rcases vx_callVU X hx (C := C) (owner := owner) (bytes := bytes) (maxL := maxL) (ret := ret) ho cw.link cw.same cw.decl cw.notMH cw.sel cw.inst cw.code hK (by rw [hT]; exact hcB) hoB hclB hg (hsize.trans hml.symm) (argsL := As) (rest := rest) (fun sig h => hn.trans (cw.len sig h)) hstack hW (by rw [hb]; exact hdg)
    (fun vm₁ hW₁ => ⟨hf.1, hf.2, hPc (T.setVm vm₁) hT hW₁⟩) with ⟨v, vm₁, ⟨U', l2, c2, s2⟩, hW₁, X', ⟨g', mk, t, L, e1, e2, hq, h1, hL, h2, h3⟩, st⟩ | ⟨q, vm₁, ⟨U', l2, c2, s2⟩, hW₁, X', ⟨g', mk, t, L, E, ce, e1, e2, hq, hce, hcv, hcl, h1, hL, h2, h3⟩, st⟩
  · dsimp only [Pt.U, Pt.locs, Pt.cells, Pt.slots] at X' e1 e2 h1 h2 h3 st
    subst h1; subst h2; subst h3
    exact Or.inl ⟨v, (T.setVm vm₁).calling g' mk (Value.ref b :: As).toArray, t, U', L, hT, X', hL, e1, e2, hq, st⟩
  · dsimp only [Pt.U, Pt.locs, Pt.cells, Pt.slots] at X' e1 e2 h1 h2 h3 st hcl
    subst h1; subst h2; subst h3
    exact Or.inr ⟨q, (T.setVm vm₁).calling g' mk (Value.ref b :: As).toArray, t, U', L, E, ce, hT, X', hL, e1, e2, hq, hce, hcv, vx_cls hW₁ hcl, st⟩
end
/-! ===== END ===== -/
/-! ===== BEGIN super.m(..) that may throw (follows va_callSU, va_runSU) ===== -/
section
variable {p : Program} {l : Launch} {e : Env} {R : Room} {s : State} {m : MethodId} {args : Array Value} {below : List Frame} {meth : Method} {c : Code} {H : Heap} {locs : List Loc} {cells slots : Nat}
theorem vx_callSU {T : State} {locs : List Loc} {cells slots : Nat} (X : Stand p l e R s m args below meth c T locs cells slots) (hexec : p.tables.exec = Jvm.exec) {own : String} {index : Nat} {y : MethodName} {bytes : ByteArray} {maxL : Nat} {ret : Option FieldType}
    (hown : s.vm.findClass own = some m.cls) (hlink : (Cond.methodLink own index y).before args s = true) (hsame : (Cond.sameMethod y.cls y.cls y.name y.desc).before args s = true) (hsup : (Cond.superclass own y.cls).before args s = true)
    (hinst : (Cond.instanceMethod y).before args s = true) (hcode : (Cond.code y bytes maxL ret).before args s = true) (hno : y.name ≠ "<init>")
    {W : Nat} {Pre : Pt → Array Value → Prop} {Post : Pt → Array Value → Option Value → Pt → Prop} {PostX : Pt → Array Value → Addr → Pt → Prop} (hK : vx_Back l R p e below s args y 3 W Pre Post PostX)
    {b : Addr} {cellB : Cell} {kB : Class} (hcell : T.heap[b]? = some cellB) (hobj : cellB.vm.isStatics = false) (hkB : s.vm.classes[cellB.cls]? = some kB)
    {g : JFrame} (hg : g.method = m) (hsize : g.locals.size = c.maxLocals) {argsL rest : List Value} (hlen : ∀ sig, parseMethodDescriptor y.desc = some sig → argsL.length = sig.parameters.length)
    (hstack : g.stack = argsL.reverse ++ .ref b :: rest) (hW : 2 * g.monitorRoom + (rest.map fun v => v.category).sum ≤ W) (hdg : decode c.code g.pc = .ok (.invokespecial index, 3))
    (hpre : ∀ vm₁, s.WarmedH vm₁ → Pre ⟨T.setVm vm₁, locs, cells, slots⟩ (Value.ref b :: argsL).toArray) :
    (∃ (v : Option Value) (vm₁ : Vm) (B : Pt), s.WarmedH vm₁ ∧ Stand p l e R s m args below meth c B.U B.locs B.cells B.slots ∧ Post ⟨T.setVm vm₁, locs, cells, slots⟩ (Value.ref b :: argsL).toArray v B ∧
      ∀ target, Steps p.tables e below (B.U.setTop { g with pc := g.pc + 3, stack := v.toList ++ rest }) target → Steps p.tables e below (T.setTop g) target) ∨
    (∃ (q : Addr) (vm₁ : Vm) (B : Pt), s.WarmedH vm₁ ∧ Stand p l e R s m args below meth c B.U B.locs B.cells B.slots ∧ PostX ⟨T.setVm vm₁, locs, cells, slots⟩ (Value.ref b :: argsL).toArray q B ∧
      Steps p.tables e below (T.setTop g) ((B.U.setTop { g with stack := rest }).pushFrame (.throwing q))) := by
  obtain ⟨mk, methM, hnamed, hmethM, hstM, habM⟩ := Cond.instanceMethod_spec hinst
  obtain ⟨methM', cM, hmethM', -, -, -, -, -, -, hsigM⟩ := Cond.code_spec hnamed hcode
  cases hmethM.symm.trans hmethM'
  obtain ⟨ps, dk, kp, hps, hdk, hkp, hsuper, -, -, hnid⟩ := Cond.superclass_spec hown hsup
  have hn : s.methodNamed? ⟨y.cls, y.name, y.desc⟩ = some mk := hnamed
  have hpm : ps = mk.cls := Option.some.inj (hps.symm.trans (findClass_of_methodNamed hnamed))
  have hsub : s.vm.isSubclass ps mk.cls = true := by rw [hpm]; simp [Vm.isSubclass, Vm.isSubclassAux]
  obtain ⟨vm₁, X₁, hstep₁⟩ := X.invokespecialUp hexec hown hlink hsame hn hmethM hstM habM hno hdk hnid hps hsuper hsub (a := b) (cell := cellB) hcell
    (fun z h => by rw [h] at hobj; cases hobj) hkB (g := g) hg (argsL := argsL) (rest := rest) (hlen _ hsigM) hstack hdg
  rcases hK m meth c ⟨T.setVm vm₁, locs, cells, slots⟩ { g with stack := rest } (.invokespecial index) mk (Value.ref b :: argsL).toArray X₁ hg hsize hdg hW (X₁.named hnamed) (hpre vm₁ X₁.warmed) with ⟨v, B, X', hpost, hsteps⟩ | ⟨q, B, X', hpost, hsteps⟩
  · exact Or.inl ⟨v, vm₁, B, X₁.warmed, X', hpost, fun target h => hstep₁ _ (by rw [doInvoke_state]; exact hsteps.trans h)⟩
  · exact Or.inr ⟨q, vm₁, B, X₁.warmed, X', hpost, hstep₁ _ (by rw [doInvoke_state]; exact hsteps)⟩
theorem vx_runSU {y : MethodName} {bytes cc : ByteArray} {maxL nL mc ms n index : Nat} {ret : Option FieldType} {ws : List Cond} {rm : Room} {Pc : Array Value → State → Prop} {Qc : Array Value → State → Outcome → State → Prop} {XC : String → State → State → Prop} {free : Addr → Prop} {Ts : List Cond} {own C : String} {cC : ClassId} {b : Addr} {As rest : List Value} {g : JFrame}
    (hat : ClassAt s C cC) (S : CallFix p m c cc nL s args Ts own) (hM : vx_Met l y ws rm Pc Qc XC mc ms free) (cw : va_CS R s args own index y bytes maxL ret ws rm mc ms n) (hp : PreV s H C b Pc As)
    (hg : g.method = m) (hn : As.length = n) (hsize : g.locals.size = nL) (hstack : g.stack = As.reverse ++ .ref b :: rest) (hW : 2 * g.monitorRoom + (rest.map fun v => v.category).sum ≤ 8) (hdg : decode cc g.pc = .ok (.invokespecial index, 3)) (hf : cells + mc ≤ R.cells ∧ slots + ms ≤ R.slots) :
    vx_Run p l e R s m args below meth c H locs cells slots mc ms g rest (Qc (Value.ref b :: As).toArray) XC free := by
  obtain ⟨⟨hrc, hrs, hfr, hlo, hws, hcw⟩, hl1, hl2, hl3, hl4, hini, hcode, hno, hlen⟩ := cw
  have hK : vx_Back l R p e below s args y 3 8 (PreOf R mc ms Pc) (PostOf Qc mc ms free) (vx_Post XC mc ms free) := vx_back (bytes := bytes) (maxL := maxL) (ret := ret) hM hp.1 hrc hrs hfr hlo hws hcw (fun a' U hW => word_at hW (Or.inl (by first | rfl | simp [Cond.onTables, Cond.keeps, Cond.steady])) hini)
  obtain ⟨hx, hb, hml, ho, -⟩ := S
  obtain ⟨-, ⟨cellB, hcB, hoB, hclB⟩, hPc⟩ := hp
  obtain ⟨hfc, kB, hkB, -⟩ := hat
  cases hfc.symm.trans hclB
  intro T hT X
  rcases vx_callSU X hx (bytes := bytes) (maxL := maxL) (ret := ret) ho hl1 hl2 hl3 hl4 hcode hno hK (by rw [hT]; exact hcB) hoB hkB hg (hsize.trans hml.symm) (argsL := As) (rest := rest) (fun sig h => hn.trans (hlen sig h)) hstack hW (by rw [hb]; exact hdg)
    (fun vm₁ hW₁ => ⟨hf.1, hf.2, hPc (T.setVm vm₁) hT hW₁⟩) with ⟨v, vm₁, ⟨U', l2, c2, s2⟩, hW₁, X', ⟨g', mk, t, L, e1, e2, hq, h1, hL, h2, h3⟩, st⟩ | ⟨q, vm₁, ⟨U', l2, c2, s2⟩, hW₁, X', ⟨g', mk, t, L, E, ce, e1, e2, hq, hce, hcv, hcl, h1, hL, h2, h3⟩, st⟩
  · dsimp only [Pt.U, Pt.locs, Pt.cells, Pt.slots] at X' e1 e2 h1 h2 h3 st
    subst h1; subst h2; subst h3
    exact Or.inl ⟨v, (T.setVm vm₁).calling g' mk (Value.ref b :: As).toArray, t, U', L, hT, X', hL, e1, e2, hq, st⟩
  · dsimp only [Pt.U, Pt.locs, Pt.cells, Pt.slots] at X' e1 e2 h1 h2 h3 st hcl
    subst h1; subst h2; subst h3
    exact Or.inr ⟨q, (T.setVm vm₁).calling g' mk (Value.ref b :: As).toArray, t, U', L, E, ce, hT, X', hL, e1, e2, hq, hce, hcv, vx_cls hW₁ hcl, st⟩
end
/-! ===== END ===== -/
/-! ===== BEGIN a private method of a nest mate that may throw (follows va_callVN, va_callSN, va_runVN, va_runSN) ===== -/
section
variable {p : Program} {l : Launch} {e : Env} {R : Room} {s : State} {m : MethodId} {args : Array Value} {below : List Frame} {meth : Method} {c : Code} {H : Heap} {locs : List Loc} {cells slots : Nat}
variable {T : State}
theorem vx_callVN (X : Stand p l e R s m args below meth c T locs cells slots) (hexec : p.tables.exec = Jvm.exec) {own C : String} {index : Nat} {host : String} {y : MethodName} {bytes : ByteArray} {maxL : Nat} {ret : Option FieldType}
    (hown : s.vm.findClass own = some m.cls) (hlink : (Cond.methodLinkNest own index y host).before args s = true) (hinst : (Cond.instanceMethod y).before args s = true) (hsel : (Cond.selects C y y).before args s = true)
    (hcode : (Cond.code y bytes maxL ret).before args s = true) (hy : y.cls ≠ "java/lang/invoke/MethodHandle" ∧ y.cls ≠ "java/lang/invoke/VarHandle")
    {W : Nat} {Pre : Pt → Array Value → Prop} {Post : Pt → Array Value → Option Value → Pt → Prop} {PostX : Pt → Array Value → Addr → Pt → Prop} (hK : vx_Back l R p e below s args y 3 W Pre Post PostX)
    {b : Addr} {cellB : Cell} (hcell : T.heap[b]? = some cellB) (hobj : cellB.vm.isStatics = false) (hcls : s.vm.findClass C = some cellB.cls)
    {g : JFrame} (hg : g.method = m) (hsize : g.locals.size = c.maxLocals) {argsL rest : List Value} (hlen : ∀ sig, parseMethodDescriptor y.desc = some sig → argsL.length = sig.parameters.length)
    (hstack : g.stack = argsL.reverse ++ .ref b :: rest) (hW : 2 * g.monitorRoom + (rest.map fun v => v.category).sum ≤ W) (hdg : decode c.code g.pc = .ok (.invokevirtual index, 3))
    (hpre : ∀ vm₁, s.WarmedH vm₁ → Pre ⟨T.setVm vm₁, locs, cells, slots⟩ (Value.ref b :: argsL).toArray) :
    (∃ (v : Option Value) (vm₁ : Vm) (B : Pt), s.WarmedH vm₁ ∧ Stand p l e R s m args below meth c B.U B.locs B.cells B.slots ∧ Post ⟨T.setVm vm₁, locs, cells, slots⟩ (Value.ref b :: argsL).toArray v B ∧
      ∀ target, Steps p.tables e below (B.U.setTop { g with pc := g.pc + 3, stack := v.toList ++ rest }) target → Steps p.tables e below (T.setTop g) target) ∨
    (∃ (q : Addr) (vm₁ : Vm) (B : Pt), s.WarmedH vm₁ ∧ Stand p l e R s m args below meth c B.U B.locs B.cells B.slots ∧ PostX ⟨T.setVm vm₁, locs, cells, slots⟩ (Value.ref b :: argsL).toArray q B ∧
      Steps p.tables e below (T.setTop g) ((B.U.setTop { g with stack := rest }).pushFrame (.throwing q))) := by
  obtain ⟨mk, methM, hnamed, hmethM, hstM, habM⟩ := Cond.instanceMethod_spec hinst
  obtain ⟨methM', cM, hmethM', -, -, -, -, -, -, hsigM⟩ := Cond.code_spec hnamed hcode
  cases hmethM.symm.trans hmethM'
  obtain ⟨c2, r2, m2, q1, q2, q3, q4, kP, hkP, hkPi⟩ := Cond.selects_spec hsel
  cases hcls.symm.trans q1
  cases (State.methodFound?_of_named hnamed hy).symm.trans q2
  cases hnamed.symm.trans q3
  have hselP : selectMethod e.platform s.vm cellB.cls mk = .method mk := by rw [Launch.admits_selectMethod X.admits]; exact q4
  obtain ⟨vm₁, X₁, hstep₁⟩ := X.invokevirtualNest hexec hown hlink hnamed hmethM hstM hkP hkPi hy (a := b) (cell := cellB) hcell
    (fun z h => by rw [h] at hobj; cases hobj) hselP hmethM habM hkP hkPi (g := g) hg (argsL := argsL) (rest := rest) (hlen _ hsigM) hstack hdg
  rcases hK m meth c ⟨T.setVm vm₁, locs, cells, slots⟩ { g with stack := rest } (.invokevirtual index) mk (Value.ref b :: argsL).toArray X₁ hg hsize hdg hW (X₁.named hnamed) (hpre vm₁ X₁.warmed) with ⟨v, B, X', hpost, hsteps⟩ | ⟨q, B, X', hpost, hsteps⟩
  · exact Or.inl ⟨v, vm₁, B, X₁.warmed, X', hpost, fun target h => hstep₁ _ fun acts => by rw [doInvoke_state]; exact hsteps.trans h⟩
  · exact Or.inr ⟨q, vm₁, B, X₁.warmed, X', hpost, hstep₁ _ fun acts => by rw [doInvoke_state]; exact hsteps⟩
theorem vx_callSN (X : Stand p l e R s m args below meth c T locs cells slots) (hexec : p.tables.exec = Jvm.exec) {own : String} {index : Nat} {host : String} {y : MethodName} {bytes : ByteArray} {maxL : Nat} {ret : Option FieldType}
    (hown : s.vm.findClass own = some m.cls) (hlink : (Cond.methodLinkNest own index y host).before args s = true) (hstat : (Cond.static y).before args s = true) (hinit : (Cond.initialized y.cls).before args s = true)
    (hcode : (Cond.code y bytes maxL ret).before args s = true) (hy : y.cls ≠ "java/lang/invoke/MethodHandle" ∧ y.cls ≠ "java/lang/invoke/VarHandle")
    {W : Nat} {Pre : Pt → Array Value → Prop} {Post : Pt → Array Value → Option Value → Pt → Prop} {PostX : Pt → Array Value → Addr → Pt → Prop} (hK : vx_Back l R p e below s args y 3 W Pre Post PostX)
    {g : JFrame} (hg : g.method = m) (hsize : g.locals.size = c.maxLocals) {argsL rest : List Value} (hlen : ∀ sig, parseMethodDescriptor y.desc = some sig → argsL.length = sig.parameters.length)
    (hstack : g.stack = argsL.reverse ++ rest) (hW : 2 * g.monitorRoom + (rest.map fun v => v.category).sum ≤ W) (hdg : decode c.code g.pc = .ok (.invokestatic index, 3))
    (hpre : ∀ vm₁, s.WarmedH vm₁ → Pre ⟨T.setVm vm₁, locs, cells, slots⟩ argsL.toArray) :
    (∃ (v : Option Value) (vm₁ : Vm) (B : Pt), s.WarmedH vm₁ ∧ Stand p l e R s m args below meth c B.U B.locs B.cells B.slots ∧ Post ⟨T.setVm vm₁, locs, cells, slots⟩ argsL.toArray v B ∧
      ∀ target, Steps p.tables e below (B.U.setTop { g with pc := g.pc + 3, stack := v.toList ++ rest }) target → Steps p.tables e below (T.setTop g) target) ∨
    (∃ (q : Addr) (vm₁ : Vm) (B : Pt), s.WarmedH vm₁ ∧ Stand p l e R s m args below meth c B.U B.locs B.cells B.slots ∧ PostX ⟨T.setVm vm₁, locs, cells, slots⟩ argsL.toArray q B ∧
      Steps p.tables e below (T.setTop g) ((B.U.setTop { g with stack := rest }).pushFrame (.throwing q))) := by
  obtain ⟨mk, hnamed⟩ := Cond.code_named hcode
  obtain ⟨methM, cM, hmethM, -, -, -, -, -, -, hsigM⟩ := Cond.code_spec hnamed hcode
  have hstatic : methM.isStatic = true := Cond.static_spec hnamed hmethM hstat
  obtain ⟨kP, hkP, -⟩ := className_of_methodNamed hnamed
  have hinitP : kP.init = .initialized := Cond.initialized_spec (findClass_of_methodNamed hnamed) hkP hinit
  obtain ⟨vm₁, X₁, hstep₁⟩ := X.invokestaticNest hexec hown hlink hnamed hmethM hstatic hkP hinitP hy (g := g) hg (argsL := argsL) (rest := rest) (hlen _ hsigM) hstack hdg
  rcases hK m meth c ⟨T.setVm vm₁, locs, cells, slots⟩ { g with stack := rest } (.invokestatic index) mk argsL.toArray X₁ hg hsize hdg hW (X₁.named hnamed) (hpre vm₁ X₁.warmed) with ⟨v, B, X', hpost, hsteps⟩ | ⟨q, B, X', hpost, hsteps⟩
  · exact Or.inl ⟨v, vm₁, B, X₁.warmed, X', hpost, fun target h => hstep₁ _ fun acts => by rw [doInvoke_state]; exact hsteps.trans h⟩
  · exact Or.inr ⟨q, vm₁, B, X₁.warmed, X', hpost, hstep₁ _ fun acts => by rw [doInvoke_state]; exact hsteps⟩
theorem vx_runVN {y : MethodName} {bytes cc : ByteArray} {maxL nL mc ms n index : Nat} {ret : Option FieldType} {ws : List Cond} {rm : Room} {Pc : Array Value → State → Prop} {Qc : Array Value → State → Outcome → State → Prop} {XC : String → State → State → Prop} {free : Addr → Prop} {Ts : List Cond} {own C host : String} {b : Addr} {As rest : List Value} {g : JFrame}
    (S : CallFix p m c cc nL s args Ts own) (hM : vx_Met l y ws rm Pc Qc XC mc ms free) (cw : va_CN R s args own index y host bytes maxL ret ws rm mc ms n ∧ (Cond.instanceMethod y).before args s = true ∧ (Cond.selects C y y).before args s = true) (hp : PreV s H C b Pc As)
    (hg : g.method = m) (hn : As.length = n) (hsize : g.locals.size = nL) (hstack : g.stack = As.reverse ++ .ref b :: rest) (hW : 2 * g.monitorRoom + (rest.map fun v => v.category).sum ≤ 8) (hdg : decode cc g.pc = .ok (.invokevirtual index, 3)) (hf : cells + mc ≤ R.cells ∧ slots + ms ≤ R.slots) :
    vx_Run p l e R s m args below meth c H locs cells slots mc ms g rest (Qc (Value.ref b :: As).toArray) XC free := by
  obtain ⟨⟨⟨hrc, hrs, hfr, hlo, hws, hcw⟩, hcode, hini, hy, hlen, hl⟩, hx1, hx2⟩ := cw
  have hK : vx_Back l R p e below s args y 3 8 (PreOf R mc ms Pc) (PostOf Qc mc ms free) (vx_Post XC mc ms free) := vx_back (bytes := bytes) (maxL := maxL) (ret := ret) hM hp.1 hrc hrs hfr hlo hws hcw (fun a' U hW => word_at hW (Or.inl (by first | rfl | simp [Cond.onTables, Cond.keeps, Cond.steady])) hini)
  obtain ⟨hx, hb, hml, ho, -⟩ := S
  obtain ⟨-, ⟨cellB, hcB, hoB, hclB⟩, hPc⟩ := hp
  intro T hT X
  rcases vx_callVN X hx (C := C) (bytes := bytes) (maxL := maxL) (ret := ret) ho hl hx1 hx2 hcode hy hK (by rw [hT]; exact hcB) hoB hclB hg (hsize.trans hml.symm) (argsL := As) (rest := rest) (fun sig h => hn.trans (hlen sig h)) hstack hW (by rw [hb]; exact hdg)
    (fun vm₁ hW₁ => ⟨hf.1, hf.2, hPc (T.setVm vm₁) hT hW₁⟩) with ⟨v, vm₁, ⟨U', l2, c2, s2⟩, hW₁, X', ⟨g', mk, t, L, e1, e2, hq, h1, hL, h2, h3⟩, st⟩ | ⟨q, vm₁, ⟨U', l2, c2, s2⟩, hW₁, X', ⟨g', mk, t, L, E, ce, e1, e2, hq, hce, hcv, hcl, h1, hL, h2, h3⟩, st⟩
  · dsimp only [Pt.U, Pt.locs, Pt.cells, Pt.slots] at X' e1 e2 h1 h2 h3 st
    subst h1; subst h2; subst h3
    exact Or.inl ⟨v, (T.setVm vm₁).calling g' mk (Value.ref b :: As).toArray, t, U', L, hT, X', hL, e1, e2, hq, st⟩
  · dsimp only [Pt.U, Pt.locs, Pt.cells, Pt.slots] at X' e1 e2 h1 h2 h3 st hcl
    subst h1; subst h2; subst h3
    exact Or.inr ⟨q, (T.setVm vm₁).calling g' mk (Value.ref b :: As).toArray, t, U', L, E, ce, hT, X', hL, e1, e2, hq, hce, hcv, vx_cls hW₁ hcl, st⟩
theorem vx_runSN {y : MethodName} {bytes cc : ByteArray} {maxL nL mc ms n index : Nat} {ret : Option FieldType} {ws : List Cond} {rm : Room} {Pc : Array Value → State → Prop} {Qc : Array Value → State → Outcome → State → Prop} {XC : String → State → State → Prop} {free : Addr → Prop} {Ts : List Cond} {own host : String} {As rest : List Value} {g : JFrame}
    (S : CallFix p m c cc nL s args Ts own) (hM : vx_Met l y ws rm Pc Qc XC mc ms free) (cw : va_CN R s args own index y host bytes maxL ret ws rm mc ms n ∧ (Cond.static y).before args s = true ∧ True) (hp : PreS s H Pc As)
    (hg : g.method = m) (hn : As.length = n) (hsize : g.locals.size = nL) (hstack : g.stack = As.reverse ++ rest) (hW : 2 * g.monitorRoom + (rest.map fun v => v.category).sum ≤ 8) (hdg : decode cc g.pc = .ok (.invokestatic index, 3)) (hf : cells + mc ≤ R.cells ∧ slots + ms ≤ R.slots) :
    vx_Run p l e R s m args below meth c H locs cells slots mc ms g rest (Qc As.toArray) XC free := by
  obtain ⟨⟨⟨hrc, hrs, hfr, hlo, hws, hcw⟩, hcode, hini, hy, hlen, hl⟩, hx1, hx2⟩ := cw
  have hK : vx_Back l R p e below s args y 3 8 (PreOf R mc ms Pc) (PostOf Qc mc ms free) (vx_Post XC mc ms free) := vx_back (bytes := bytes) (maxL := maxL) (ret := ret) hM hp.1 hrc hrs hfr hlo hws hcw (fun a' U hW => word_at hW (Or.inl (by first | rfl | simp [Cond.onTables, Cond.keeps, Cond.steady])) hini)
  obtain ⟨hx, hb, hml, ho, -⟩ := S
  have hPc := hp.2
  intro T hT X
  rcases vx_callSN X hx (bytes := bytes) (maxL := maxL) (ret := ret) ho hl hx1 hini hcode hy hK hg (hsize.trans hml.symm) (argsL := As) (rest := rest) (fun sig h => hn.trans (hlen sig h)) hstack hW (by rw [hb]; exact hdg)
    (fun vm₁ hW₁ => ⟨hf.1, hf.2, hPc (T.setVm vm₁) hT hW₁⟩) with ⟨v, vm₁, ⟨U', l2, c2, s2⟩, hW₁, X', ⟨g', mk, t, L, e1, e2, hq, h1, hL, h2, h3⟩, st⟩ | ⟨q, vm₁, ⟨U', l2, c2, s2⟩, hW₁, X', ⟨g', mk, t, L, E, ce, e1, e2, hq, hce, hcv, hcl, h1, hL, h2, h3⟩, st⟩
  · dsimp only [Pt.U, Pt.locs, Pt.cells, Pt.slots] at X' e1 e2 h1 h2 h3 st
    subst h1; subst h2; subst h3
    exact Or.inl ⟨v, (T.setVm vm₁).calling g' mk As.toArray, t, U', L, hT, X', hL, e1, e2, hq, st⟩
  · dsimp only [Pt.U, Pt.locs, Pt.cells, Pt.slots] at X' e1 e2 h1 h2 h3 st hcl
    subst h1; subst h2; subst h3
    exact Or.inr ⟨q, (T.setVm vm₁).calling g' mk As.toArray, t, U', L, E, ce, hT, X', hL, e1, e2, hq, hce, hcv, vx_cls hW₁ hcl, st⟩
end
/-! ===== END ===== -/
/-! ===== BEGIN calls by an interface of methods that may throw (vx_callIF, vx_runF follow va_callIF, va_runF of this kit) ===== -/
section
variable {p : Program} {l : Launch} {e : Env} {R : Room} {s : State} {m : MethodId} {args : Array Value} {below : List Frame} {meth : Method} {c : Code} {H : Heap} {locs : List Loc} {cells slots : Nat} {Q : State → Prop}
variable {mc ms : Nat} {free : Addr → Prop} {A0 A1 : Nat → Prop} {H0 : Heap} {a : Array Value} {pc : Nat} {ls : Array Slot} {st0 rest : List Value}
def vx_Run5 (p : Program) (l : Launch) (e : Env) (R : Room) (s : State) (m : MethodId) (args : Array Value) (below : List Frame) (meth : Method) (c : Code) (H : Heap) (locs : List Loc) (cells slots mc ms : Nat) (g : JFrame) (rest : List Value) (Qa : State → Outcome → State → Prop) (XC : String → State → State → Prop) (free : Addr → Prop) : Prop :=
  ∀ T : State, T.heap = H → Stand p l e R s m args below meth c T locs cells slots →
    (∃ (v : Option Value) (st₀ t T' : State) (L : List Loc), st₀.heap = H ∧ Stand p l e R s m args below meth c T' (locs ++ L) (cells + mc) (slots + ms) ∧ (∀ q ∈ L, free q.base) ∧ T'.heap = t.heap ∧ T'.vm = t.vm ∧ Qa st₀ (.returned v) t ∧
      Goes p e below T g T' { g with pc := g.pc + 5, stack := v.toList ++ rest }) ∨
    (∃ (q : Addr) (st₀ t T' : State) (L : List Loc) (E : String) (ce : Cell), st₀.heap = H ∧ Stand p l e R s m args below meth c T' (locs ++ L) (cells + mc) (slots + ms) ∧ (∀ z ∈ L, free z.base) ∧ T'.heap = t.heap ∧ T'.vm = t.vm ∧ XC E st₀ t ∧ t.heap[q]? = some ce ∧ ce.vm = .none ∧ s.vm.findClass E = some ce.cls ∧
      Steps p.tables e below (T.setTop g) ((T'.setTop { g with stack := rest }).pushFrame (.throwing q)))
theorem vx_callIF {T : State} (X : Stand p l e R s m args below meth c T locs cells slots) (hexec : p.tables.exec = Jvm.exec) {own C : String} {index count : Nat} {x y : MethodName} {bytes : ByteArray} {maxL : Nat} {ret : Option FieldType}
    (hown : s.vm.findClass own = some m.cls) (hlink : (Cond.methodLink own index x).before args s = true) (hdecl : (Cond.declares x).before args s = true) (hface : (Cond.interfaceMethod x.cls x.cls x.name x.desc).before args s = true)
    (hsel : (Cond.selects C x y).before args s = true) (hinst : (Cond.instanceMethod y).before args s = true) (hpub : (Cond.publicMethod y).before args s = true) (hunh : (Cond.unhidden C x.name x.desc).before args s = true)
    (hcast : (Cond.castable C x.cls).before args s = true) (hcode : (Cond.code y bytes maxL ret).before args s = true) (hx : x.cls ≠ "java/lang/invoke/MethodHandle" ∧ x.cls ≠ "java/lang/invoke/VarHandle")
    {W9 : Nat} {Pre : Pt → Array Value → Prop} {Post : Pt → Array Value → Option Value → Pt → Prop} {PostX : Pt → Array Value → Addr → Pt → Prop} (hK : vx_Back l R p e below s args y 5 W9 Pre Post PostX)
    {b : Addr} {cellB : Cell} {kB : Class} (hcell : T.heap[b]? = some cellB) (hobj : cellB.vm.isStatics = false) (hcls : s.vm.findClass C = some cellB.cls) (hkB : s.vm.classes[cellB.cls]? = some kB)
    {g : JFrame} (hg : g.method = m) (hsize : g.locals.size = c.maxLocals) {argsL rest : List Value} (hlen : ∀ sig, parseMethodDescriptor x.desc = some sig → argsL.length = sig.parameters.length)
    (hstack : g.stack = argsL.reverse ++ .ref b :: rest) (hW : 2 * g.monitorRoom + (rest.map fun v => v.category).sum ≤ W9) (hdg : decode c.code g.pc = .ok (.invokeinterface index count, 5))
    (hpre : ∀ vm₁, s.WarmedH vm₁ → Pre ⟨T.setVm vm₁, locs, cells, slots⟩ (Value.ref b :: argsL).toArray) :
    (∃ (v : Option Value) (vm₁ : Vm) (B : Pt), s.WarmedH vm₁ ∧ Stand p l e R s m args below meth c B.U B.locs B.cells B.slots ∧ Post ⟨T.setVm vm₁, locs, cells, slots⟩ (Value.ref b :: argsL).toArray v B ∧
      ∀ target, Steps p.tables e below (B.U.setTop { g with pc := g.pc + 5, stack := v.toList ++ rest }) target → Steps p.tables e below (T.setTop g) target) ∨
    (∃ (q : Addr) (vm₁ : Vm) (B : Pt), s.WarmedH vm₁ ∧ Stand p l e R s m args below meth c B.U B.locs B.cells B.slots ∧ PostX ⟨T.setVm vm₁, locs, cells, slots⟩ (Value.ref b :: argsL).toArray q B ∧
      Steps p.tables e below (T.setTop g) ((B.U.setTop { g with stack := rest }).pushFrame (.throwing q))) := by
  obtain ⟨r0, r, hn, hrm, hstR, hsigR⟩ := Cond.declares_spec hdecl
  obtain ⟨cL, kL, r1, hcL, hkL, hiL, hfoundL, hn1⟩ := Cond.interfaceMethod_spec hface
  cases hn.symm.trans hn1
  have hr0cls : r0.cls = cL := Option.some.inj ((findClass_of_methodNamed hn).symm.trans hcL)
  obtain ⟨hnameR, hdescR⟩ := name_of_methodNamed hn hrm
  obtain ⟨mk, methM, hnamed, hmethM, -, habM⟩ := Cond.instanceMethod_spec hinst
  obtain ⟨c2, r2, m2, q1, q2, q3, q4, -⟩ := Cond.selects_spec hsel
  cases hcls.symm.trans q1
  cases hfoundL.symm.trans q2
  cases hnamed.symm.trans q3
  have hselP : selectMethod e.platform s.vm cellB.cls r0 = .method mk := by rw [Launch.admits_selectMethod X.admits]; exact q4
  have hpubM : hasFlag methM.accessFlags Acc.public_ = true := Cond.publicMethod_spec hnamed hmethM hpub
  have hway : ((cellB.cls :: s.vm.superclasses cellB.cls).any fun k => (declaredIn s.vm r.name r.desc k).any fun (_, z) => z.isPrivate || z.isStatic) = false := by
    rw [hnameR, hdescR]; exact Cond.unhidden_spec hcls hunh
  obtain ⟨c3, t3, w1, w2, w3⟩ := Cond.castable_spec hcast
  cases hcls.symm.trans w1
  cases hcL.symm.trans w2
  obtain ⟨vm₁, X₁, hstep₁⟩ := X.invokeinterface hexec hown hlink hn hrm hstR (by rw [hr0cls]; exact hkL) hiL hx (a := b) (cell := cellB) (kcell := kB) hcell
    (fun z h => by rw [h] at hobj; cases hobj) hkB (by rw [hr0cls]; exact w3) hselP hmethM hway hpubM habM (g := g) hg (argsL := argsL) (rest := rest) (hlen _ hsigR) hstack hdg
  rcases hK m meth c ⟨T.setVm vm₁, locs, cells, slots⟩ { g with stack := rest } (.invokeinterface index count) mk (Value.ref b :: argsL).toArray X₁ hg hsize hdg hW (X₁.named hnamed) (hpre vm₁ X₁.warmed) with ⟨v, B, X', hpost, hsteps⟩ | ⟨q, B, X', hpost, hsteps⟩
  · exact Or.inl ⟨v, vm₁, B, X₁.warmed, X', hpost, fun target h => hstep₁ _ fun acts => by rw [doInvoke_state]; exact hsteps.trans h⟩
  · exact Or.inr ⟨q, vm₁, B, X₁.warmed, X', hpost, hstep₁ _ fun acts => by rw [doInvoke_state]; exact hsteps⟩
theorem vx_runF {x y : MethodName} {bytes cc : ByteArray} {maxL nL mc ms n index count : Nat} {ret : Option FieldType} {ws : List Cond} {rm : Room} {Pc : Array Value → State → Prop} {Qc : Array Value → State → Outcome → State → Prop} {XC : String → State → State → Prop} {free : Addr → Prop} {Ts : List Cond} {own C : String} {cC : ClassId} {b : Addr} {As rest : List Value} {g : JFrame}
    (hat : ClassAt s C cC) (S : CallFix p m c cc nL s args Ts own) (hM : vx_Met l y ws rm Pc Qc XC mc ms free) (cw : va_CI R s args own C index x y bytes maxL ret ws rm mc ms n) (hp : PreV s H C b Pc As)
    (hg : g.method = m) (hn : As.length = n) (hsize : g.locals.size = nL) (hstack : g.stack = As.reverse ++ .ref b :: rest) (hW : 2 * g.monitorRoom + (rest.map fun v => v.category).sum ≤ 8) (hdg : decode cc g.pc = .ok (.invokeinterface index count, 5)) (hf : cells + mc ≤ R.cells ∧ slots + ms ≤ R.slots) :
    vx_Run5 p l e R s m args below meth c H locs cells slots mc ms g rest (Qc (Value.ref b :: As).toArray) XC free := by
  obtain ⟨hrc, hrs, hfr, hlo, hws, hcw⟩ := cw.back
  have hini := cw.init
  have hK : vx_Back l R p e below s args y 5 8 (PreOf R mc ms Pc) (PostOf Qc mc ms free) (vx_Post XC mc ms free) := vx_back (bytes := bytes) (maxL := maxL) (ret := ret) hM hp.1 hrc hrs hfr hlo hws hcw (fun a' U hW => word_at hW (Or.inl (by first | rfl | simp [Cond.onTables, Cond.keeps, Cond.steady])) hini)
  obtain ⟨hx, hb, hml, ho, -⟩ := S
  obtain ⟨-, ⟨cellB, hcB, hoB, hclB⟩, hPc⟩ := hp
  obtain ⟨hfc, kB, hkB, -⟩ := hat
  cases hfc.symm.trans hclB
  intro T hT X
  rcases vx_callIF X hx (C := C) (bytes := bytes) (maxL := maxL) (ret := ret) ho cw.link cw.decl cw.face cw.sel cw.inst cw.pub cw.unh cw.cast cw.code cw.notMH hK (by rw [hT]; exact hcB) hoB hclB hkB hg (hsize.trans hml.symm) (argsL := As) (rest := rest) (fun sig h => hn.trans (cw.len sig h)) hstack hW (by rw [hb]; exact hdg)
    (fun vm₁ hW₁ => ⟨hf.1, hf.2, hPc (T.setVm vm₁) hT hW₁⟩) with ⟨v, vm₁, ⟨U', l2, c2, s2⟩, hW₁, X', ⟨g', mk, t, L, e1, e2, hq, h1, hL, h2, h3⟩, st⟩ | ⟨q, vm₁, ⟨U', l2, c2, s2⟩, hW₁, X', ⟨g', mk, t, L, E, ce, e1, e2, hq, hce, hcv, hcl, h1, hL, h2, h3⟩, st⟩
  · dsimp only [Pt.U, Pt.locs, Pt.cells, Pt.slots] at X' e1 e2 h1 h2 h3 st
    subst h1; subst h2; subst h3
    exact Or.inl ⟨v, (T.setVm vm₁).calling g' mk (Value.ref b :: As).toArray, t, U', L, hT, X', hL, e1, e2, hq, st⟩
  · dsimp only [Pt.U, Pt.locs, Pt.cells, Pt.slots] at X' e1 e2 h1 h2 h3 st hcl
    subst h1; subst h2; subst h3
    exact Or.inr ⟨q, (T.setVm vm₁).calling g' mk (Value.ref b :: As).toArray, t, U', L, E, ce, hT, X', hL, e1, e2, hq, hce, hcv, vx_cls hW₁ hcl, st⟩
theorem vx_callFv {S SX : Type} {post : S → Prop} {px : SX → Prop} {B : S → State → Prop} {BX : String → SX → State → Prop} {AX : Nat → Prop} (hr : vx_Run5 p l e R s m args below meth c H locs cells slots mc ms (F0 m pc ls st0) rest (va_Qv post B A1 a) (vx_X px BX AX) free) (hS : va_S A0 H0 H locs) (hA : ∀ q, q < H.size → A1 q → A0 q) (hf : ∀ q, free q → A0 q) (hAX : ∀ q, q < H.size → AX q → A0 q)
    (kx : ∀ (E : String) (ce : Cell) (q9 : Addr) (u : SX) (t : State) (H1 : Heap) (locs1 : List Loc), t.heap = H1 → s.vm.Alike t.vm → px u → BX E u t → H.size ≤ H1.size → (∀ q : Nat, q < H.size → ¬ AX q → H1[q]? = H[q]?) → va_S A0 H0 H1 locs1 → H1[q9]? = some ce → ce.vm = .none → s.vm.findClass E = some ce.cls → vx_W p l e R s m args below meth c H1 locs1 (cells + mc) (slots + ms) Q (F0 m pc ls rest) q9)
    (kk : ∀ (u : S) (t : State) (H1 : Heap) (locs1 : List Loc), t.heap = H1 → s.vm.Alike t.vm → post u → B u t → H.size ≤ H1.size → (∀ q : Nat, q < H.size → ¬ A1 q → H1[q]? = H[q]?) → va_S A0 H0 H1 locs1 → W p l e R s m args below meth c H1 locs1 (cells + mc) (slots + ms) Q (F0 m (pc + 5) ls (rest))) : W p l e R s m args below meth c H locs cells slots Q (F0 m pc ls st0) := by
  intro T hT X
  rcases hr T hT X with ⟨v, st₀, t, T', L, h0, X', hL, e1, e2, ⟨⟨u, hv, hp, hb⟩, hF⟩, st⟩ | ⟨q, st₀, t, T', L, E, ce, h0, X', hL, e1, e2, ⟨u, hp, hb, hF⟩, hce, hcv, hcl, st⟩
  · cases hv
    obtain ⟨k1, k2, k3⟩ := vx_keep h0 e1 hS hA hf hL hF
    obtain ⟨t2, a1, b1⟩ := kk u t T'.heap (locs ++ L) e1.symm (by rw [← e2]; exact X'.warmed.alike) hp hb k1 k2 k3 T' rfl X'
    exact ⟨t2, st t2 a1, b1⟩
  · obtain ⟨k1, k2, k3⟩ := vx_keep h0 e1 hS hAX hf hL hF
    obtain ⟨t2, a1, b1⟩ := kx E ce q u t T'.heap (locs ++ L) e1.symm (by rw [← e2]; exact X'.warmed.alike) hp hb k1 k2 k3 (by rw [e1]; exact hce) hcv hcl T' rfl X'
    exact ⟨t2, st.trans a1, b1⟩
theorem vx_callFi {S SX : Type} {post : Int32 → S → Prop} {px : SX → Prop} {B : S → State → Prop} {BX : String → SX → State → Prop} {AX : Nat → Prop} (hr : vx_Run5 p l e R s m args below meth c H locs cells slots mc ms (F0 m pc ls st0) rest (va_Qi post B A1 a) (vx_X px BX AX) free) (hS : va_S A0 H0 H locs) (hA : ∀ q, q < H.size → A1 q → A0 q) (hf : ∀ q, free q → A0 q) (hAX : ∀ q, q < H.size → AX q → A0 q)
    (kx : ∀ (E : String) (ce : Cell) (q9 : Addr) (u : SX) (t : State) (H1 : Heap) (locs1 : List Loc), t.heap = H1 → s.vm.Alike t.vm → px u → BX E u t → H.size ≤ H1.size → (∀ q : Nat, q < H.size → ¬ AX q → H1[q]? = H[q]?) → va_S A0 H0 H1 locs1 → H1[q9]? = some ce → ce.vm = .none → s.vm.findClass E = some ce.cls → vx_W p l e R s m args below meth c H1 locs1 (cells + mc) (slots + ms) Q (F0 m pc ls rest) q9)
    (kk : ∀ (r : Int32) (u : S) (t : State) (H1 : Heap) (locs1 : List Loc), t.heap = H1 → s.vm.Alike t.vm → post r u → B u t → H.size ≤ H1.size → (∀ q : Nat, q < H.size → ¬ A1 q → H1[q]? = H[q]?) → va_S A0 H0 H1 locs1 → W p l e R s m args below meth c H1 locs1 (cells + mc) (slots + ms) Q (F0 m (pc + 5) ls (.int r :: rest))) : W p l e R s m args below meth c H locs cells slots Q (F0 m pc ls st0) := by
  intro T hT X
  rcases hr T hT X with ⟨v, st₀, t, T', L, h0, X', hL, e1, e2, ⟨⟨r, u, hv, hp, hb⟩, hF⟩, st⟩ | ⟨q, st₀, t, T', L, E, ce, h0, X', hL, e1, e2, ⟨u, hp, hb, hF⟩, hce, hcv, hcl, st⟩
  · cases hv
    obtain ⟨k1, k2, k3⟩ := vx_keep h0 e1 hS hA hf hL hF
    obtain ⟨t2, a1, b1⟩ := kk r u t T'.heap (locs ++ L) e1.symm (by rw [← e2]; exact X'.warmed.alike) hp hb k1 k2 k3 T' rfl X'
    exact ⟨t2, st t2 a1, b1⟩
  · obtain ⟨k1, k2, k3⟩ := vx_keep h0 e1 hS hAX hf hL hF
    obtain ⟨t2, a1, b1⟩ := kx E ce q u t T'.heap (locs ++ L) e1.symm (by rw [← e2]; exact X'.warmed.alike) hp hb k1 k2 k3 (by rw [e1]; exact hce) hcv hcl T' rfl X'
    exact ⟨t2, st.trans a1, b1⟩
theorem vx_callFl {S SX : Type} {post : Int64 → S → Prop} {px : SX → Prop} {B : S → State → Prop} {BX : String → SX → State → Prop} {AX : Nat → Prop} (hr : vx_Run5 p l e R s m args below meth c H locs cells slots mc ms (F0 m pc ls st0) rest (va_Ql post B A1 a) (vx_X px BX AX) free) (hS : va_S A0 H0 H locs) (hA : ∀ q, q < H.size → A1 q → A0 q) (hf : ∀ q, free q → A0 q) (hAX : ∀ q, q < H.size → AX q → A0 q)
    (kx : ∀ (E : String) (ce : Cell) (q9 : Addr) (u : SX) (t : State) (H1 : Heap) (locs1 : List Loc), t.heap = H1 → s.vm.Alike t.vm → px u → BX E u t → H.size ≤ H1.size → (∀ q : Nat, q < H.size → ¬ AX q → H1[q]? = H[q]?) → va_S A0 H0 H1 locs1 → H1[q9]? = some ce → ce.vm = .none → s.vm.findClass E = some ce.cls → vx_W p l e R s m args below meth c H1 locs1 (cells + mc) (slots + ms) Q (F0 m pc ls rest) q9)
    (kk : ∀ (r : Int64) (u : S) (t : State) (H1 : Heap) (locs1 : List Loc), t.heap = H1 → s.vm.Alike t.vm → post r u → B u t → H.size ≤ H1.size → (∀ q : Nat, q < H.size → ¬ A1 q → H1[q]? = H[q]?) → va_S A0 H0 H1 locs1 → W p l e R s m args below meth c H1 locs1 (cells + mc) (slots + ms) Q (F0 m (pc + 5) ls (.long r :: rest))) : W p l e R s m args below meth c H locs cells slots Q (F0 m pc ls st0) := by
  intro T hT X
  rcases hr T hT X with ⟨v, st₀, t, T', L, h0, X', hL, e1, e2, ⟨⟨r, u, hv, hp, hb⟩, hF⟩, st⟩ | ⟨q, st₀, t, T', L, E, ce, h0, X', hL, e1, e2, ⟨u, hp, hb, hF⟩, hce, hcv, hcl, st⟩
  · cases hv
    obtain ⟨k1, k2, k3⟩ := vx_keep h0 e1 hS hA hf hL hF
    obtain ⟨t2, a1, b1⟩ := kk r u t T'.heap (locs ++ L) e1.symm (by rw [← e2]; exact X'.warmed.alike) hp hb k1 k2 k3 T' rfl X'
    exact ⟨t2, st t2 a1, b1⟩
  · obtain ⟨k1, k2, k3⟩ := vx_keep h0 e1 hS hAX hf hL hF
    obtain ⟨t2, a1, b1⟩ := kx E ce q u t T'.heap (locs ++ L) e1.symm (by rw [← e2]; exact X'.warmed.alike) hp hb k1 k2 k3 (by rw [e1]; exact hce) hcv hcl T' rfl X'
    exact ⟨t2, st.trans a1, b1⟩
theorem vx_callFf {S SX : Type} {post : UInt32 → S → Prop} {px : SX → Prop} {B : S → State → Prop} {BX : String → SX → State → Prop} {AX : Nat → Prop} (hr : vx_Run5 p l e R s m args below meth c H locs cells slots mc ms (F0 m pc ls st0) rest (va_Qf post B A1 a) (vx_X px BX AX) free) (hS : va_S A0 H0 H locs) (hA : ∀ q, q < H.size → A1 q → A0 q) (hf : ∀ q, free q → A0 q) (hAX : ∀ q, q < H.size → AX q → A0 q)
    (kx : ∀ (E : String) (ce : Cell) (q9 : Addr) (u : SX) (t : State) (H1 : Heap) (locs1 : List Loc), t.heap = H1 → s.vm.Alike t.vm → px u → BX E u t → H.size ≤ H1.size → (∀ q : Nat, q < H.size → ¬ AX q → H1[q]? = H[q]?) → va_S A0 H0 H1 locs1 → H1[q9]? = some ce → ce.vm = .none → s.vm.findClass E = some ce.cls → vx_W p l e R s m args below meth c H1 locs1 (cells + mc) (slots + ms) Q (F0 m pc ls rest) q9)
    (kk : ∀ (r : UInt32) (u : S) (t : State) (H1 : Heap) (locs1 : List Loc), t.heap = H1 → s.vm.Alike t.vm → post r u → B u t → H.size ≤ H1.size → (∀ q : Nat, q < H.size → ¬ A1 q → H1[q]? = H[q]?) → va_S A0 H0 H1 locs1 → W p l e R s m args below meth c H1 locs1 (cells + mc) (slots + ms) Q (F0 m (pc + 5) ls (.float r :: rest))) : W p l e R s m args below meth c H locs cells slots Q (F0 m pc ls st0) := by
  intro T hT X
  rcases hr T hT X with ⟨v, st₀, t, T', L, h0, X', hL, e1, e2, ⟨⟨r, u, hv, hp, hb⟩, hF⟩, st⟩ | ⟨q, st₀, t, T', L, E, ce, h0, X', hL, e1, e2, ⟨u, hp, hb, hF⟩, hce, hcv, hcl, st⟩
  · cases hv
    obtain ⟨k1, k2, k3⟩ := vx_keep h0 e1 hS hA hf hL hF
    obtain ⟨t2, a1, b1⟩ := kk r u t T'.heap (locs ++ L) e1.symm (by rw [← e2]; exact X'.warmed.alike) hp hb k1 k2 k3 T' rfl X'
    exact ⟨t2, st t2 a1, b1⟩
  · obtain ⟨k1, k2, k3⟩ := vx_keep h0 e1 hS hAX hf hL hF
    obtain ⟨t2, a1, b1⟩ := kx E ce q u t T'.heap (locs ++ L) e1.symm (by rw [← e2]; exact X'.warmed.alike) hp hb k1 k2 k3 (by rw [e1]; exact hce) hcv hcl T' rfl X'
    exact ⟨t2, st.trans a1, b1⟩
theorem vx_callFd {S SX : Type} {post : UInt64 → S → Prop} {px : SX → Prop} {B : S → State → Prop} {BX : String → SX → State → Prop} {AX : Nat → Prop} (hr : vx_Run5 p l e R s m args below meth c H locs cells slots mc ms (F0 m pc ls st0) rest (va_Qd post B A1 a) (vx_X px BX AX) free) (hS : va_S A0 H0 H locs) (hA : ∀ q, q < H.size → A1 q → A0 q) (hf : ∀ q, free q → A0 q) (hAX : ∀ q, q < H.size → AX q → A0 q)
    (kx : ∀ (E : String) (ce : Cell) (q9 : Addr) (u : SX) (t : State) (H1 : Heap) (locs1 : List Loc), t.heap = H1 → s.vm.Alike t.vm → px u → BX E u t → H.size ≤ H1.size → (∀ q : Nat, q < H.size → ¬ AX q → H1[q]? = H[q]?) → va_S A0 H0 H1 locs1 → H1[q9]? = some ce → ce.vm = .none → s.vm.findClass E = some ce.cls → vx_W p l e R s m args below meth c H1 locs1 (cells + mc) (slots + ms) Q (F0 m pc ls rest) q9)
    (kk : ∀ (r : UInt64) (u : S) (t : State) (H1 : Heap) (locs1 : List Loc), t.heap = H1 → s.vm.Alike t.vm → post r u → B u t → H.size ≤ H1.size → (∀ q : Nat, q < H.size → ¬ A1 q → H1[q]? = H[q]?) → va_S A0 H0 H1 locs1 → W p l e R s m args below meth c H1 locs1 (cells + mc) (slots + ms) Q (F0 m (pc + 5) ls (.double r :: rest))) : W p l e R s m args below meth c H locs cells slots Q (F0 m pc ls st0) := by
  intro T hT X
  rcases hr T hT X with ⟨v, st₀, t, T', L, h0, X', hL, e1, e2, ⟨⟨r, u, hv, hp, hb⟩, hF⟩, st⟩ | ⟨q, st₀, t, T', L, E, ce, h0, X', hL, e1, e2, ⟨u, hp, hb, hF⟩, hce, hcv, hcl, st⟩
  · cases hv
    obtain ⟨k1, k2, k3⟩ := vx_keep h0 e1 hS hA hf hL hF
    obtain ⟨t2, a1, b1⟩ := kk r u t T'.heap (locs ++ L) e1.symm (by rw [← e2]; exact X'.warmed.alike) hp hb k1 k2 k3 T' rfl X'
    exact ⟨t2, st t2 a1, b1⟩
  · obtain ⟨k1, k2, k3⟩ := vx_keep h0 e1 hS hAX hf hL hF
    obtain ⟨t2, a1, b1⟩ := kx E ce q u t T'.heap (locs ++ L) e1.symm (by rw [← e2]; exact X'.warmed.alike) hp hb k1 k2 k3 (by rw [e1]; exact hce) hcv hcl T' rfl X'
    exact ⟨t2, st.trans a1, b1⟩
end
/-! ===== END ===== -/
/-! ===== BEGIN by an interface, a method with a table of its own that may throw (follows va_callIFW, va_runFW) ===== -/
section
variable {p : Program} {l : Launch} {e : Env} {R : Room} {s : State} {m : MethodId} {args : Array Value} {below : List Frame} {meth : Method} {c : Code} {H : Heap} {locs : List Loc} {cells slots : Nat}
theorem vx_callIFW {T : State} (X : Stand p l e R s m args below meth c T locs cells slots) (hexec : p.tables.exec = Jvm.exec) {own C : String} {index count : Nat} {x y : MethodName} {bytes : ByteArray} {maxL : Nat} {ret : Option FieldType} {hh : List (Nat × Nat × Nat × Nat)}
    (hown : s.vm.findClass own = some m.cls) (hlink : (Cond.methodLink own index x).before args s = true) (hdecl : (Cond.declares x).before args s = true) (hface : (Cond.interfaceMethod x.cls x.cls x.name x.desc).before args s = true)
    (hsel : (Cond.selects C x y).before args s = true) (hinst : (Cond.instanceMethod y).before args s = true) (hpub : (Cond.publicMethod y).before args s = true) (hunh : (Cond.unhidden C x.name x.desc).before args s = true)
    (hcast : (Cond.castable C x.cls).before args s = true) (hcode : (Cond.codeWith y bytes maxL ret hh).before args s = true) (hx : x.cls ≠ "java/lang/invoke/MethodHandle" ∧ x.cls ≠ "java/lang/invoke/VarHandle")
    {W : Nat} {Pre : Pt → Array Value → Prop} {Post : Pt → Array Value → Option Value → Pt → Prop} {PostX : Pt → Array Value → Addr → Pt → Prop} (hK : vx_Back l R p e below s args y 5 W Pre Post PostX)
    {b : Addr} {cellB : Cell} {kB : Class} (hcell : T.heap[b]? = some cellB) (hobj : cellB.vm.isStatics = false) (hcls : s.vm.findClass C = some cellB.cls) (hkB : s.vm.classes[cellB.cls]? = some kB)
    {g : JFrame} (hg : g.method = m) (hsize : g.locals.size = c.maxLocals) {argsL rest : List Value} (hlen : ∀ sig, parseMethodDescriptor x.desc = some sig → argsL.length = sig.parameters.length)
    (hstack : g.stack = argsL.reverse ++ .ref b :: rest) (hW : 2 * g.monitorRoom + (rest.map fun v => v.category).sum ≤ W) (hdg : decode c.code g.pc = .ok (.invokeinterface index count, 5))
    (hpre : ∀ vm₁, s.WarmedH vm₁ → Pre ⟨T.setVm vm₁, locs, cells, slots⟩ (Value.ref b :: argsL).toArray) :
    (∃ (v : Option Value) (vm₁ : Vm) (B : Pt), s.WarmedH vm₁ ∧ Stand p l e R s m args below meth c B.U B.locs B.cells B.slots ∧ Post ⟨T.setVm vm₁, locs, cells, slots⟩ (Value.ref b :: argsL).toArray v B ∧
      ∀ target, Steps p.tables e below (B.U.setTop { g with pc := g.pc + 5, stack := v.toList ++ rest }) target → Steps p.tables e below (T.setTop g) target) ∨
    (∃ (q : Addr) (vm₁ : Vm) (B : Pt), s.WarmedH vm₁ ∧ Stand p l e R s m args below meth c B.U B.locs B.cells B.slots ∧ PostX ⟨T.setVm vm₁, locs, cells, slots⟩ (Value.ref b :: argsL).toArray q B ∧
      Steps p.tables e below (T.setTop g) ((B.U.setTop { g with stack := rest }).pushFrame (.throwing q))) := by
  obtain ⟨r0, r, hn, hrm, hstR, hsigR⟩ := Cond.declares_spec hdecl
  obtain ⟨cL, kL, r1, hcL, hkL, hiL, hfoundL, hn1⟩ := Cond.interfaceMethod_spec hface
  cases hn.symm.trans hn1
  have hr0cls : r0.cls = cL := Option.some.inj ((findClass_of_methodNamed hn).symm.trans hcL)
  obtain ⟨hnameR, hdescR⟩ := name_of_methodNamed hn hrm
  obtain ⟨mk, methM, hnamed, hmethM, -, habM⟩ := Cond.instanceMethod_spec hinst
  obtain ⟨c2, r2, m2, q1, q2, q3, q4, -⟩ := Cond.selects_spec hsel
  cases hcls.symm.trans q1
  cases hfoundL.symm.trans q2
  cases hnamed.symm.trans q3
  have hselP : selectMethod e.platform s.vm cellB.cls r0 = .method mk := by rw [Launch.admits_selectMethod X.admits]; exact q4
  have hpubM : hasFlag methM.accessFlags Acc.public_ = true := Cond.publicMethod_spec hnamed hmethM hpub
  have hway : ((cellB.cls :: s.vm.superclasses cellB.cls).any fun k => (declaredIn s.vm r.name r.desc k).any fun (_, z) => z.isPrivate || z.isStatic) = false := by
    rw [hnameR, hdescR]; exact Cond.unhidden_spec hcls hunh
  obtain ⟨c3, t3, w1, w2, w3⟩ := Cond.castable_spec hcast
  cases hcls.symm.trans w1
  cases hcL.symm.trans w2
  obtain ⟨vm₁, X₁, hstep₁⟩ := X.invokeinterface hexec hown hlink hn hrm hstR (by rw [hr0cls]; exact hkL) hiL hx (a := b) (cell := cellB) (kcell := kB) hcell
    (fun z h => by rw [h] at hobj; cases hobj) hkB (by rw [hr0cls]; exact w3) hselP hmethM hway hpubM habM (g := g) hg (argsL := argsL) (rest := rest) (hlen _ hsigR) hstack hdg
  rcases hK m meth c ⟨T.setVm vm₁, locs, cells, slots⟩ { g with stack := rest } (.invokeinterface index count) mk (Value.ref b :: argsL).toArray X₁ hg hsize hdg hW (X₁.named hnamed) (hpre vm₁ X₁.warmed) with ⟨v, B, X', hpost, hsteps⟩ | ⟨q, B, X', hpost, hsteps⟩
  · exact Or.inl ⟨v, vm₁, B, X₁.warmed, X', hpost, fun target h => hstep₁ _ fun acts => by rw [doInvoke_state]; exact hsteps.trans h⟩
  · exact Or.inr ⟨q, vm₁, B, X₁.warmed, X', hpost, hstep₁ _ fun acts => by rw [doInvoke_state]; exact hsteps⟩
theorem vx_runFW {x y : MethodName} {bytes cc : ByteArray} {maxL nL mc ms n index count : Nat} {ret : Option FieldType} {hh : List (Nat × Nat × Nat × Nat)} {ws : List Cond} {rm : Room} {Pc : Array Value → State → Prop} {Qc : Array Value → State → Outcome → State → Prop} {XC : String → State → State → Prop} {free : Addr → Prop} {Ts : List Cond} {own C : String} {cC : ClassId} {b : Addr} {As rest : List Value} {g : JFrame}
    (hat : ClassAt s C cC) (S : CallFix p m c cc nL s args Ts own) (hM : vx_Met l y ws rm Pc Qc XC mc ms free) (cw : va_CIW R s args own C index x y bytes maxL ret hh ws rm mc ms n) (hp : PreV s H C b Pc As)
    (hg : g.method = m) (hn : As.length = n) (hsize : g.locals.size = nL) (hstack : g.stack = As.reverse ++ .ref b :: rest) (hW : 2 * g.monitorRoom + (rest.map fun v => v.category).sum ≤ 8) (hdg : decode cc g.pc = .ok (.invokeinterface index count, 5)) (hf : cells + mc ≤ R.cells ∧ slots + ms ≤ R.slots) :
    vx_Run5 p l e R s m args below meth c H locs cells slots mc ms g rest (Qc (Value.ref b :: As).toArray) XC free := by
  obtain ⟨hrc, hrs, hfr, hlo, hws, hcw⟩ := cw.back
  have hini := cw.init
  have hK : vx_Back l R p e below s args y 5 8 (PreOf R mc ms Pc) (PostOf Qc mc ms free) (vx_Post XC mc ms free) := vx_backW (hh := hh) (bytes := bytes) (maxL := maxL) (ret := ret) hM hp.1 hrc hrs hfr hlo hws hcw (fun a' U hW => word_at hW (Or.inl (by first | rfl | simp [Cond.onTables, Cond.keeps, Cond.steady])) hini)
  obtain ⟨hx, hb, hml, ho, -⟩ := S
  obtain ⟨-, ⟨cellB, hcB, hoB, hclB⟩, hPc⟩ := hp
  obtain ⟨hfc, kB, hkB, -⟩ := hat
  cases hfc.symm.trans hclB
  intro T hT X
  rcases vx_callIFW X hx (C := C) (hh := hh) (bytes := bytes) (maxL := maxL) (ret := ret) ho cw.link cw.decl cw.face cw.sel cw.inst cw.pub cw.unh cw.cast cw.code cw.notMH hK (by rw [hT]; exact hcB) hoB hclB hkB hg (hsize.trans hml.symm) (argsL := As) (rest := rest) (fun sig h => hn.trans (cw.len sig h)) hstack hW (by rw [hb]; exact hdg)
    (fun vm₁ hW₁ => ⟨hf.1, hf.2, hPc (T.setVm vm₁) hT hW₁⟩) with ⟨v, vm₁, ⟨U', l2, c2, s2⟩, hW₁, X', ⟨g', mk, t, L, e1, e2, hq, h1, hL, h2, h3⟩, st⟩ | ⟨q, vm₁, ⟨U', l2, c2, s2⟩, hW₁, X', ⟨g', mk, t, L, E, ce, e1, e2, hq, hce, hcv, hcl, h1, hL, h2, h3⟩, st⟩
  · dsimp only [Pt.U, Pt.locs, Pt.cells, Pt.slots] at X' e1 e2 h1 h2 h3 st
    subst h1; subst h2; subst h3
    exact Or.inl ⟨v, (T.setVm vm₁).calling g' mk (Value.ref b :: As).toArray, t, U', L, hT, X', hL, e1, e2, hq, st⟩
  · dsimp only [Pt.U, Pt.locs, Pt.cells, Pt.slots] at X' e1 e2 h1 h2 h3 st hcl
    subst h1; subst h2; subst h3
    exact Or.inr ⟨q, (T.setVm vm₁).calling g' mk (Value.ref b :: As).toArray, t, U', L, E, ce, hT, X', hL, e1, e2, hq, hce, hcv, vx_cls hW₁ hcl, st⟩
end
/-! ===== END ===== -/
/-! ===== BEGIN .. of methods that hand back an object of the pool ===== -/
section
variable {p : Program} {l : Launch} {e : Env} {R : Room} {s : State} {m : MethodId} {args : Array Value} {below : List Frame} {meth : Method} {c : Code} {H : Heap} {locs : List Loc} {cells slots : Nat} {Q : State → Prop}
variable {mc ms : Nat} {free : Addr → Prop} {A0 A1 : Nat → Prop} {H0 : Heap} {a : Array Value} {pc : Nat} {ls : Array Slot} {st0 rest : List Value}
theorem vx_callq {S SX : Type} {post : Option Nat → S → Prop} {px : SX → Prop} {B : S → State → Prop} {BX : String → SX → State → Prop} {AX : Nat → Prop} (hr : vx_Run p l e R s m args below meth c H locs cells slots mc ms (F0 m pc ls st0) rest (va_Qq post B A1 a) (vx_X px BX AX) free) (hS : va_S A0 H0 H locs) (hA : ∀ q, q < H.size → A1 q → A0 q) (hf : ∀ q, free q → A0 q) (hAX : ∀ q, q < H.size → AX q → A0 q)
    (kx : ∀ (E : String) (ce : Cell) (q9 : Addr) (u : SX) (t : State) (H1 : Heap) (locs1 : List Loc), t.heap = H1 → s.vm.Alike t.vm → px u → BX E u t → H.size ≤ H1.size → (∀ q : Nat, q < H.size → ¬ AX q → H1[q]? = H[q]?) → va_S A0 H0 H1 locs1 → H1[q9]? = some ce → ce.vm = .none → s.vm.findClass E = some ce.cls → vx_W p l e R s m args below meth c H1 locs1 (cells + mc) (slots + ms) Q (F0 m pc ls rest) q9)
    (kk : ∀ (r : Option Nat) (u : S) (t : State) (H1 : Heap) (locs1 : List Loc), t.heap = H1 → s.vm.Alike t.vm → post r u → B u t → H.size ≤ H1.size → (∀ q : Nat, q < H.size → ¬ A1 q → H1[q]? = H[q]?) → va_S A0 H0 H1 locs1 → W p l e R s m args below meth c H1 locs1 (cells + mc) (slots + ms) Q (F0 m (pc + 3) ls (va_rf r :: rest))) : W p l e R s m args below meth c H locs cells slots Q (F0 m pc ls st0) := by
  intro T hT X
  rcases hr T hT X with ⟨v, st₀, t, T', L, h0, X', hL, e1, e2, ⟨⟨r, u, hv, hp, hb⟩, hF⟩, st⟩ | ⟨q, st₀, t, T', L, E, ce, h0, X', hL, e1, e2, ⟨u, hp, hb, hF⟩, hce, hcv, hcl, st⟩
  · cases hv
    obtain ⟨k1, k2, k3⟩ := vx_keep h0 e1 hS hA hf hL hF
    obtain ⟨t2, a1, b1⟩ := kk r u t T'.heap (locs ++ L) e1.symm (by rw [← e2]; exact X'.warmed.alike) hp hb k1 k2 k3 T' rfl X'
    exact ⟨t2, st t2 a1, b1⟩
  · obtain ⟨k1, k2, k3⟩ := vx_keep h0 e1 hS hAX hf hL hF
    obtain ⟨t2, a1, b1⟩ := kx E ce q u t T'.heap (locs ++ L) e1.symm (by rw [← e2]; exact X'.warmed.alike) hp hb k1 k2 k3 (by rw [e1]; exact hce) hcv hcl T' rfl X'
    exact ⟨t2, st.trans a1, b1⟩
end
/-! ===== END ===== -/
/-! ===== BEGIN .. a constant ===== -/
section
variable {p : Program} {l : Launch} {e : Env} {R : Room} {s : State} {m : MethodId} {args : Array Value} {below : List Frame} {meth : Method} {c : Code} {H : Heap} {locs : List Loc} {cells slots : Nat} {Q : State → Prop}
variable {mc ms : Nat} {free : Addr → Prop} {A0 A1 : Nat → Prop} {H0 : Heap} {a : Array Value} {pc : Nat} {ls : Array Slot} {st0 rest : List Value}
theorem vx_calle {ad : Nat → Nat} {S SX : Type} {post : Option Nat → S → Prop} {px : SX → Prop} {B : S → State → Prop} {BX : String → SX → State → Prop} {AX : Nat → Prop} (hr : vx_Run p l e R s m args below meth c H locs cells slots mc ms (F0 m pc ls st0) rest (va_Qe ad post B A1 a) (vx_X px BX AX) free) (hS : va_S A0 H0 H locs) (hA : ∀ q, q < H.size → A1 q → A0 q) (hf : ∀ q, free q → A0 q) (hAX : ∀ q, q < H.size → AX q → A0 q)
    (kx : ∀ (E : String) (ce : Cell) (q9 : Addr) (u : SX) (t : State) (H1 : Heap) (locs1 : List Loc), t.heap = H1 → s.vm.Alike t.vm → px u → BX E u t → H.size ≤ H1.size → (∀ q : Nat, q < H.size → ¬ AX q → H1[q]? = H[q]?) → va_S A0 H0 H1 locs1 → H1[q9]? = some ce → ce.vm = .none → s.vm.findClass E = some ce.cls → vx_W p l e R s m args below meth c H1 locs1 (cells + mc) (slots + ms) Q (F0 m pc ls rest) q9)
    (kk : ∀ (r : Option Nat) (u : S) (t : State) (H1 : Heap) (locs1 : List Loc), t.heap = H1 → s.vm.Alike t.vm → post r u → B u t → H.size ≤ H1.size → (∀ q : Nat, q < H.size → ¬ A1 q → H1[q]? = H[q]?) → va_S A0 H0 H1 locs1 → W p l e R s m args below meth c H1 locs1 (cells + mc) (slots + ms) Q (F0 m (pc + 3) ls (va_re ad r :: rest))) : W p l e R s m args below meth c H locs cells slots Q (F0 m pc ls st0) := by
  intro T hT X
  rcases hr T hT X with ⟨v, st₀, t, T', L, h0, X', hL, e1, e2, ⟨⟨r, u, hv, hp, hb⟩, hF⟩, st⟩ | ⟨q, st₀, t, T', L, E, ce, h0, X', hL, e1, e2, ⟨u, hp, hb, hF⟩, hce, hcv, hcl, st⟩
  · cases hv
    obtain ⟨k1, k2, k3⟩ := vx_keep h0 e1 hS hA hf hL hF
    obtain ⟨t2, a1, b1⟩ := kk r u t T'.heap (locs ++ L) e1.symm (by rw [← e2]; exact X'.warmed.alike) hp hb k1 k2 k3 T' rfl X'
    exact ⟨t2, st t2 a1, b1⟩
  · obtain ⟨k1, k2, k3⟩ := vx_keep h0 e1 hS hAX hf hL hF
    obtain ⟨t2, a1, b1⟩ := kx E ce q u t T'.heap (locs ++ L) e1.symm (by rw [← e2]; exact X'.warmed.alike) hp hb k1 k2 k3 (by rw [e1]; exact hce) hcv hcl T' rfl X'
    exact ⟨t2, st.trans a1, b1⟩
end
/-! ===== END ===== -/
/-! ===== BEGIN .. by an interface, an object ===== -/
section
variable {p : Program} {l : Launch} {e : Env} {R : Room} {s : State} {m : MethodId} {args : Array Value} {below : List Frame} {meth : Method} {c : Code} {H : Heap} {locs : List Loc} {cells slots : Nat} {Q : State → Prop}
variable {mc ms : Nat} {free : Addr → Prop} {A0 A1 : Nat → Prop} {H0 : Heap} {a : Array Value} {pc : Nat} {ls : Array Slot} {st0 rest : List Value}
theorem vx_callFq {S SX : Type} {post : Option Nat → S → Prop} {px : SX → Prop} {B : S → State → Prop} {BX : String → SX → State → Prop} {AX : Nat → Prop} (hr : vx_Run5 p l e R s m args below meth c H locs cells slots mc ms (F0 m pc ls st0) rest (va_Qq post B A1 a) (vx_X px BX AX) free) (hS : va_S A0 H0 H locs) (hA : ∀ q, q < H.size → A1 q → A0 q) (hf : ∀ q, free q → A0 q) (hAX : ∀ q, q < H.size → AX q → A0 q)
    (kx : ∀ (E : String) (ce : Cell) (q9 : Addr) (u : SX) (t : State) (H1 : Heap) (locs1 : List Loc), t.heap = H1 → s.vm.Alike t.vm → px u → BX E u t → H.size ≤ H1.size → (∀ q : Nat, q < H.size → ¬ AX q → H1[q]? = H[q]?) → va_S A0 H0 H1 locs1 → H1[q9]? = some ce → ce.vm = .none → s.vm.findClass E = some ce.cls → vx_W p l e R s m args below meth c H1 locs1 (cells + mc) (slots + ms) Q (F0 m pc ls rest) q9)
    (kk : ∀ (r : Option Nat) (u : S) (t : State) (H1 : Heap) (locs1 : List Loc), t.heap = H1 → s.vm.Alike t.vm → post r u → B u t → H.size ≤ H1.size → (∀ q : Nat, q < H.size → ¬ A1 q → H1[q]? = H[q]?) → va_S A0 H0 H1 locs1 → W p l e R s m args below meth c H1 locs1 (cells + mc) (slots + ms) Q (F0 m (pc + 5) ls (va_rf r :: rest))) : W p l e R s m args below meth c H locs cells slots Q (F0 m pc ls st0) := by
  intro T hT X
  rcases hr T hT X with ⟨v, st₀, t, T', L, h0, X', hL, e1, e2, ⟨⟨r, u, hv, hp, hb⟩, hF⟩, st⟩ | ⟨q, st₀, t, T', L, E, ce, h0, X', hL, e1, e2, ⟨u, hp, hb, hF⟩, hce, hcv, hcl, st⟩
  · cases hv
    obtain ⟨k1, k2, k3⟩ := vx_keep h0 e1 hS hA hf hL hF
    obtain ⟨t2, a1, b1⟩ := kk r u t T'.heap (locs ++ L) e1.symm (by rw [← e2]; exact X'.warmed.alike) hp hb k1 k2 k3 T' rfl X'
    exact ⟨t2, st t2 a1, b1⟩
  · obtain ⟨k1, k2, k3⟩ := vx_keep h0 e1 hS hAX hf hL hF
    obtain ⟨t2, a1, b1⟩ := kx E ce q u t T'.heap (locs ++ L) e1.symm (by rw [← e2]; exact X'.warmed.alike) hp hb k1 k2 k3 (by rw [e1]; exact hce) hcv hcl T' rfl X'
    exact ⟨t2, st.trans a1, b1⟩
end
/-! ===== END ===== -/
/-! ===== BEGIN .. by an interface, a constant ===== -/
section
variable {p : Program} {l : Launch} {e : Env} {R : Room} {s : State} {m : MethodId} {args : Array Value} {below : List Frame} {meth : Method} {c : Code} {H : Heap} {locs : List Loc} {cells slots : Nat} {Q : State → Prop}
variable {mc ms : Nat} {free : Addr → Prop} {A0 A1 : Nat → Prop} {H0 : Heap} {a : Array Value} {pc : Nat} {ls : Array Slot} {st0 rest : List Value}
theorem vx_callFe {ad : Nat → Nat} {S SX : Type} {post : Option Nat → S → Prop} {px : SX → Prop} {B : S → State → Prop} {BX : String → SX → State → Prop} {AX : Nat → Prop} (hr : vx_Run5 p l e R s m args below meth c H locs cells slots mc ms (F0 m pc ls st0) rest (va_Qe ad post B A1 a) (vx_X px BX AX) free) (hS : va_S A0 H0 H locs) (hA : ∀ q, q < H.size → A1 q → A0 q) (hf : ∀ q, free q → A0 q) (hAX : ∀ q, q < H.size → AX q → A0 q)
    (kx : ∀ (E : String) (ce : Cell) (q9 : Addr) (u : SX) (t : State) (H1 : Heap) (locs1 : List Loc), t.heap = H1 → s.vm.Alike t.vm → px u → BX E u t → H.size ≤ H1.size → (∀ q : Nat, q < H.size → ¬ AX q → H1[q]? = H[q]?) → va_S A0 H0 H1 locs1 → H1[q9]? = some ce → ce.vm = .none → s.vm.findClass E = some ce.cls → vx_W p l e R s m args below meth c H1 locs1 (cells + mc) (slots + ms) Q (F0 m pc ls rest) q9)
    (kk : ∀ (r : Option Nat) (u : S) (t : State) (H1 : Heap) (locs1 : List Loc), t.heap = H1 → s.vm.Alike t.vm → post r u → B u t → H.size ≤ H1.size → (∀ q : Nat, q < H.size → ¬ A1 q → H1[q]? = H[q]?) → va_S A0 H0 H1 locs1 → W p l e R s m args below meth c H1 locs1 (cells + mc) (slots + ms) Q (F0 m (pc + 5) ls (va_re ad r :: rest))) : W p l e R s m args below meth c H locs cells slots Q (F0 m pc ls st0) := by
  intro T hT X
  rcases hr T hT X with ⟨v, st₀, t, T', L, h0, X', hL, e1, e2, ⟨⟨r, u, hv, hp, hb⟩, hF⟩, st⟩ | ⟨q, st₀, t, T', L, E, ce, h0, X', hL, e1, e2, ⟨u, hp, hb, hF⟩, hce, hcv, hcl, st⟩
  · cases hv
    obtain ⟨k1, k2, k3⟩ := vx_keep h0 e1 hS hA hf hL hF
    obtain ⟨t2, a1, b1⟩ := kk r u t T'.heap (locs ++ L) e1.symm (by rw [← e2]; exact X'.warmed.alike) hp hb k1 k2 k3 T' rfl X'
    exact ⟨t2, st t2 a1, b1⟩
  · obtain ⟨k1, k2, k3⟩ := vx_keep h0 e1 hS hAX hf hL hF
    obtain ⟨t2, a1, b1⟩ := kx E ce q u t T'.heap (locs ++ L) e1.symm (by rw [← e2]; exact X'.warmed.alike) hp hb k1 k2 k3 (by rw [e1]; exact hce) hcv hcl T' rfl X'
    exact ⟨t2, st.trans a1, b1⟩
end
/-! ===== END ===== -/
/-! ===== BEGIN what the machine throws by itself: null at a field, at athrow ===== -/
section VXM2
variable {p : Program} {l : Launch} {e : Env} {R : Room} {s : State} {m : MethodId} {args : Array Value} {below : List Frame} {meth : Method} {c : Code} {H : Heap} {locs : List Loc} {cells slots : Nat}
variable {Q : State → Prop} {cc : ByteArray} {pc : Nat} {ls : Array Slot} {rest : List Value}
theorem vx_getfN {D cl tys} {own ref C : String} {T : u_T} {N ci index : Nat} {Ts : List Cond} (hexec : p.tables.exec = Jvm.exec) (hb : c.code = cc) (hts : ∀ w ∈ Ts, w.before args s = true) (hin : ∀ w ∈ u_ws C T N, w ∈ Ts) (hown : s.vm.findClass own = some m.cls) (hK : va_K D cl tys s) (hc : cl[ci]? = some (C, T, N)) (k : Nat) (hk : k < N) (hlink : (Cond.fieldLink own index ref (T k).2.1 (T k).2.2.1).before args s = true) (hsame : ∀ x, s.fieldFound? (T k).1 (T k).2.1 (T k).2.2.1 = some x → s.fieldFound? ref (T k).2.1 (T k).2.2.1 = some x) (hdg : decode cc pc = .ok (.getfield index, 3)) (kk : vx_NoteN p l e R s m args below meth c H locs cells slots Q (F0 m pc ls rest)) : W p l e R s m args below meth c H locs cells slots Q (F0 m pc ls (.null :: rest)) := by
  obtain ⟨hS, hfc, kC, hkC, -⟩ := hK.1 ci _ hc
  obtain ⟨cf, kf, fi, f, hi, -⟩ := hS k hk
  intro U hU X
  obtain ⟨vm', X1, st1⟩ := X.getfieldNull hexec hown hlink (hsame _ hi) (u_facts hfc hkC (u_lays hts hin hk) hi).1 (g := F0 m pc ls (.null :: rest)) rfl (rest := rest) rfl (by rw [hb]; exact hdg)
  obtain ⟨t, st, q⟩ := kk (U.setVm vm') hU X1
  exact ⟨t, st1 t st, q⟩
theorem vx_getfNN {D cl tys} {own ref C host : String} {T : u_T} {N ci index : Nat} {Ts : List Cond} (hexec : p.tables.exec = Jvm.exec) (hb : c.code = cc) (hts : ∀ w ∈ Ts, w.before args s = true) (hin : ∀ w ∈ u_ws C T N, w ∈ Ts) (hown : s.vm.findClass own = some m.cls) (hK : va_K D cl tys s) (hc : cl[ci]? = some (C, T, N)) (k : Nat) (hk : k < N) (hlink : (Cond.fieldLinkNest own index ref (T k).2.1 (T k).2.2.1 host).before args s = true) (hsame : ∀ x, s.fieldFound? (T k).1 (T k).2.1 (T k).2.2.1 = some x → s.fieldFound? ref (T k).2.1 (T k).2.2.1 = some x) (hdg : decode cc pc = .ok (.getfield index, 3)) (kk : vx_NoteN p l e R s m args below meth c H locs cells slots Q (F0 m pc ls rest)) : W p l e R s m args below meth c H locs cells slots Q (F0 m pc ls (.null :: rest)) := by
  obtain ⟨hS, hfc, kC, hkC, -⟩ := hK.1 ci _ hc
  obtain ⟨cf, kf, fi, f, hi, -⟩ := hS k hk
  intro U hU X
  obtain ⟨vm', X1, st1⟩ := X.getfieldNullNest hexec hown hlink (hsame _ hi) (u_facts hfc hkC (u_lays hts hin hk) hi).1 (g := F0 m pc ls (.null :: rest)) rfl (rest := rest) rfl (by rw [hb]; exact hdg)
  obtain ⟨t, st, q⟩ := kk (U.setVm vm') hU X1
  exact ⟨t, st1 t st, q⟩
theorem vx_putfN {D cl tys} {own ref C : String} {T : u_T} {N ci index : Nat} {Ts : List Cond} (hexec : p.tables.exec = Jvm.exec) (hb : c.code = cc) (hts : ∀ w ∈ Ts, w.before args s = true) (hin : ∀ w ∈ u_ws C T N, w ∈ Ts) (hown : s.vm.findClass own = some m.cls) (hK : va_K D cl tys s) (hc : cl[ci]? = some (C, T, N)) (k : Nat) (hk : k < N) (hlink : (Cond.fieldLink own index ref (T k).2.1 (T k).2.2.1).before args s = true) (hsame : ∀ x, s.fieldFound? (T k).1 (T k).2.1 (T k).2.2.1 = some x → s.fieldFound? ref (T k).2.1 (T k).2.2.1 = some x) (hfin : (T k).2.2.2 = false) {v : Value} (hdg : decode cc pc = .ok (.putfield index, 3)) (kk : vx_NoteN p l e R s m args below meth c H locs cells slots Q (F0 m pc ls rest)) : W p l e R s m args below meth c H locs cells slots Q (F0 m pc ls (v :: .null :: rest)) := by
  obtain ⟨hS, hfc, kC, hkC, -⟩ := hK.1 ci _ hc
  obtain ⟨cf, kf, fi, f, hi, -⟩ := hS k hk
  have hlay := hts _ (hin _ (u_in_lay hk))
  unfold u_lay at hlay
  rw [if_neg (by rw [hfin]; decide)] at hlay
  obtain ⟨c9, k9, cf9, kf9, fi9, f9, -, -, hi9, hst9, hnf9, -⟩ := Cond.lays_spec hlay
  cases hi.symm.trans hi9
  intro U hU X
  obtain ⟨vm', X1, st1⟩ := X.putfieldNull hexec hown hlink (hsame _ hi) hst9 hnf9 (g := F0 m pc ls (v :: .null :: rest)) rfl (v := v) (rest := rest) rfl (by rw [hb]; exact hdg)
  obtain ⟨t, st, q⟩ := kk (U.setVm vm') hU X1
  exact ⟨t, st1 t st, q⟩
theorem vx_putfNN {D cl tys} {own ref C host : String} {T : u_T} {N ci index : Nat} {Ts : List Cond} (hexec : p.tables.exec = Jvm.exec) (hb : c.code = cc) (hts : ∀ w ∈ Ts, w.before args s = true) (hin : ∀ w ∈ u_ws C T N, w ∈ Ts) (hown : s.vm.findClass own = some m.cls) (hK : va_K D cl tys s) (hc : cl[ci]? = some (C, T, N)) (k : Nat) (hk : k < N) (hlink : (Cond.fieldLinkNest own index ref (T k).2.1 (T k).2.2.1 host).before args s = true) (hsame : ∀ x, s.fieldFound? (T k).1 (T k).2.1 (T k).2.2.1 = some x → s.fieldFound? ref (T k).2.1 (T k).2.2.1 = some x) (hfin : (T k).2.2.2 = false) {v : Value} (hdg : decode cc pc = .ok (.putfield index, 3)) (kk : vx_NoteN p l e R s m args below meth c H locs cells slots Q (F0 m pc ls rest)) : W p l e R s m args below meth c H locs cells slots Q (F0 m pc ls (v :: .null :: rest)) := by
  obtain ⟨hS, hfc, kC, hkC, -⟩ := hK.1 ci _ hc
  obtain ⟨cf, kf, fi, f, hi, -⟩ := hS k hk
  have hlay := hts _ (hin _ (u_in_lay hk))
  unfold u_lay at hlay
  rw [if_neg (by rw [hfin]; decide)] at hlay
  obtain ⟨c9, k9, cf9, kf9, fi9, f9, -, -, hi9, hst9, hnf9, -⟩ := Cond.lays_spec hlay
  cases hi.symm.trans hi9
  intro U hU X
  obtain ⟨vm', X1, st1⟩ := X.putfieldNullNest hexec hown hlink (hsame _ hi) hst9 hnf9 (g := F0 m pc ls (v :: .null :: rest)) rfl (v := v) (rest := rest) rfl (by rw [hb]; exact hdg)
  obtain ⟨t, st, q⟩ := kk (U.setVm vm') hU X1
  exact ⟨t, st1 t st, q⟩
theorem vx_athrowN (hexec : p.tables.exec = Jvm.exec) (hb : c.code = cc) (hdg : decode cc pc = .ok (.athrow, 1)) (k : vx_NoteN p l e R s m args below meth c H locs cells slots Q (F0 m pc ls rest)) : W p l e R s m args below meth c H locs cells slots Q (F0 m pc ls (.null :: rest)) := by
  intro T hT X
  obtain ⟨t, st, q⟩ := k T hT X
  exact ⟨t, X.athrowNull hexec (g := F0 m pc ls (.null :: rest)) rfl (rest := rest) rfl (by rw [hb]; exact hdg) t st, q⟩
end VXM2
/-! ===== END ===== -/
end
section
set_option maxRecDepth 20000
/-! the kit's text of an exception made (kit/laws/EXCEPTIONS.to-paste), turned: the constructor's link to its parent at any index -/
section XNSE
def xx_chain (X : String) (ix : Nat) (rx : ByteArray) : List String → List Cond
  | [] => Bundle.passSAtoms X Bundle.tN ix rx
  | Y :: r => Bundle.passSAtoms X Y ix rx ++ Bundle.chainSAtoms Y r
theorem xx_chainOk {args : Array Value} {s : State} {pl : Platform} (hpl : pl.magicAccessors = ({} : Platform).magicAccessors) {top : MethodId} (htop : s.methodNamed? (Bundle.initS Bundle.tN) = some top)
    {ix : Nat} {rx : ByteArray} (x0 : decode rx 0 = .ok (.aload_n 0, 1)) (x1 : decode rx 1 = .ok (.aload_n 1, 1)) (x2 : decode rx 2 = .ok (.invokespecial ix, 3)) (x5 : decode rx 5 = .ok (.return_, 1)) :
    ∀ (names : List String) (X : String), Bundle.fit X = true → (∀ n ∈ names, Bundle.fit n = true) → (∀ c ∈ xx_chain X ix rx names, c.before args s = true) →
      ∃ (P1 : PassC) (Ps : List PassC), Ps.length = names.length ∧ P1.LinksS pl s ∧ (∀ P, P ∈ Ps → P.LinksS pl s) ∧ s.methodNamed? (Bundle.initS X) = some P1.m ∧
        P1.sup = firstOf top (Ps.map (·.toPassT)) ∧ PassesOn top (Ps.map (·.toPassT)) := by
  intro names
  cases names with
  | nil =>
    intro X hX _ h
    obtain ⟨P, L, hm, hs⟩ := PassC.ofS_atoms (args := args) (s := s) hpl (X := X) (Y := Bundle.tN) (Bundle.fit_spec hX).1 (by decide) x0 x1 x2 x5 h
    exact ⟨P, [], rfl, L, (fun _ hP => by cases hP), hm, Option.some.inj (hs.symm.trans htop), trivial⟩
  | cons Y r =>
    intro X hX hn h
    obtain ⟨P, L, hm, hs⟩ := PassC.ofS_atoms (args := args) (s := s) hpl (X := X) (Y := Y) (Bundle.fit_spec hX).1 (Bundle.fit_spec (hn Y List.mem_cons_self)).2 x0 x1 x2 x5
      (fun c hc => h c (by simp only [xx_chain, List.mem_append]; exact Or.inl hc))
    obtain ⟨P', Ps, hlen, L', hL, hm', hsup, hpass⟩ := Bundle.chainS (args := args) hpl htop r Y (hn Y List.mem_cons_self) (fun n hn' => hn n (List.mem_cons_of_mem _ hn')) (fun c hc => h c (by simp only [xx_chain, List.mem_append]; exact Or.inr hc))
    refine ⟨P, P' :: Ps, by simp [hlen], L, ?_, hm, Option.some.inj (hs.symm.trans hm'), hsup, hpass⟩
    intro Q hQ
    rcases List.mem_cons.mp hQ with rfl | hQ
    · exact L'
    · exact hL Q hQ
/-- the words of such a throw -/
def xx_own (own : String) (ic : Nat) (X : String) (ix : Nat) (rx : ByteArray) (names : List String) : List Cond :=
  Bundle.throwableAtoms ++ Bundle.throwableSAtoms ++ xx_chain X ix rx names ++
  [.methodLink own ic (Bundle.initS X), .instantiable X 6, .castable X X, .selects X Bundle.tFill0 Bundle.tFill0, .selects X Bundle.tFill Bundle.tFill,
   .lays X Bundle.tN "cause" "Ljava/lang/Throwable;", .lays X Bundle.tN "stackTrace" Bundle.steD, .lays X Bundle.tN "suppressedExceptions" Bundle.listD, .lays X Bundle.tN "detailMessage" "Ljava/lang/String;",
   .isRef (.static Bundle.tN "UNASSIGNED_STACK" Bundle.steD), .isRef (.static Bundle.tN "SUPPRESSED_SENTINEL" Bundle.listD),
   .fieldLink Bundle.tN 198 Bundle.tN "backtrace" "Ljava/lang/Object;", .lays Bundle.tN Bundle.tN "backtrace" "Ljava/lang/Object;", .lays X Bundle.tN "backtrace" "Ljava/lang/Object;"]
def xx_at (own : String) (ic : Nat) (X : String) (ix : Nat) (rx : ByteArray) (names : List String) : List Cond := (xx_own own ic X ix rx names).filter vx_no
section
variable {p : Program} {l : Launch} {e : Env} {R : Room} {s : State} {m₀ : MethodId} {args : Array Value} {below : List Frame} {meth : Method} {c : Code} {W : State} {locs : List Loc} {cells slots : Nat}
set_option maxHeartbeats 1000000 in
theorem xx_ctorMadeS (X : Stand p l e R s m₀ args below meth c W locs cells slots) (hexec : p.tables.exec = Jvm.exec) (htr : e.platform.stackTraces = false) {own cls : String} {names : List String} {ic ix : Nat} {rx : ByteArray} (x0 : decode rx 0 = .ok (.aload_n 0, 1)) (x1 : decode rx 1 = .ok (.aload_n 1, 1)) (x2 : decode rx 2 = .ok (.invokespecial ix, 3)) (x5 : decode rx 5 = .ok (.return_, 1))
    (hown : s.vm.findClass own = some m₀.cls) (hcls : Bundle.fit cls = true) (hnames : ∀ n ∈ names, Bundle.fit n = true)
    (h : ∀ a ∈ xx_own own ic cls ix rx names, a.before args s = true)
    (hlocs : ∀ x ∈ locs, ∀ cell, s.heap[x.base]? = some cell → cell.vm.isStatics = false)
    {a : Addr} {cX : ClassId} {kX : Class} (hfoundX : s.vm.findClass cls = some cX) (hkX : s.vm.classes[cX]? = some kX) (hcell : W.heap[a]? = some (freshCell cX kX)) (hnew : s.heap.size ≤ a)
    {msg : Value} (hmsg : msg.isRef = true)
    {g : JFrame} (hg : g.method = m₀) (hsize : g.locals.size = c.maxLocals) {rest : List Value} (hstack : g.stack = msg :: .ref a :: .ref a :: rest)
    (hd6 : decode c.code g.pc = .ok (.invokespecial ic, 3))
    (hRframes : names.length + 3 < R.frames) (hRlocals : 2 * g.monitorRoom + ((Value.ref a :: rest).map fun v => v.category).sum + (13 * (names.length + 1) + 42) ≤ R.locals) :
    ∃ (V : State) (ce : Cell) (L : List Loc), Stand p l e R s m₀ args below meth c (V.setCell a ce) (locs ++ L) cells slots ∧ (∀ y ∈ L, y.base = a) ∧ a < V.heap.size ∧ ce.cls = cX ∧ ce.vm = .none ∧
      ∀ target, Steps p.tables e below ((V.setCell a ce).setTop { g with stack := .ref a :: rest, pc := g.pc + 3 }) target → Steps p.tables e below (W.setTop g) target := by
  have howns : e.platform.frameOwnsMonitors = true := by rw [X.admits.platform]
  have hfin : e.platform.finalization = false := by rw [X.admits.platform]
  have hpl : e.platform.magicAccessors = ({} : Platform).magicAccessors := by rw [X.admits.platform]
  have a' : ∀ x, x ∈ xx_own own ic cls ix rx names → x.holds args s none s [] = true := fun x hx => h x hx
  obtain ⟨T, Z0, L, -, Y⟩ := ThrowableC.of_atoms (args := args) howns hfin hpl (fun x hx => h x (by simp [xx_own, hx]))
  obtain ⟨Z, M, LZ, LM, hnZ⟩ := Init0T.ofS_atoms (args := args) hpl L Y (fun x hx => h x (by simp [xx_own, hx]))
  obtain ⟨P1, Ps, hlen, L1, hL, hP1m, hlink1, hlink⟩ := xx_chainOk (args := args) hpl hnZ x0 x1 x2 x5 names cls hcls hnames (fun x hx => h x (by simp [xx_own, hx]))
  have hfound : s.vm.findClass cls = some P1.m.cls := findClass_of_methodNamed hP1m
  cases Option.some.inj (hfoundX.symm.trans hfound)
  obtain ⟨c1, kX', hc1, hk, hord, -, -, hn6⟩ := Cond.instantiable_spec (a' (.instantiable cls 6) (by simp [xx_own]))
  cases Option.some.inj (hc1.symm.trans hfound)
  cases Option.some.inj (hkX.symm.trans hk)
  have hsel0 : selectMethod e.platform s.vm P1.m.cls T.fill0 = .method T.fill0 := by
    obtain ⟨c2, r2, m2, q1, q2, q3, q4, -⟩ := Cond.selects_spec (a' (.selects cls Bundle.tFill0 Bundle.tFill0) (by simp [xx_own]))
    cases Option.some.inj (q1.symm.trans hfound)
    cases Option.some.inj (q2.symm.trans (State.methodFound?_of_named Y.fill0 (by decide)))
    cases Option.some.inj (q3.symm.trans Y.fill0)
    rw [Launch.admits_selectMethod X.admits]; exact q4
  have hselF : selectMethod e.platform s.vm P1.m.cls T.fill = .method T.fill := by
    obtain ⟨c2, r2, m2, q1, q2, q3, q4, -⟩ := Cond.selects_spec (a' (.selects cls Bundle.tFill Bundle.tFill) (by simp [xx_own]))
    cases Option.some.inj (q1.symm.trans hfound)
    cases Option.some.inj (q2.symm.trans (State.methodFound?_of_named Y.fill (by decide)))
    cases Option.some.inj (q3.symm.trans Y.fill)
    rw [Launch.admits_selectMethod X.admits]; exact q4
  obtain ⟨cellS0, hcS0, hiss⟩ := Y.statics
  obtain ⟨u0, hu0⟩ := Cond.staticRefV Y.unassigned L.unassignedStatic L.statics hcS0 hiss (a' (.isRef (.static Bundle.tN "UNASSIGNED_STACK" Bundle.steD)) (by simp [xx_own]))
  obtain ⟨sen, hsen⟩ := Cond.staticRefV Y.sentinel L.sentinelStatic L.statics hcS0 hiss (a' (.isRef (.static Bundle.tN "SUPPRESSED_SENTINEL" Bundle.listD)) (by simp [xx_own]))
  obtain ⟨ci198, i198, fB, hk198, hg198, ha198, hsB, -, hnB, htB, hffB⟩ := Cond.ownField (t := .object "java/lang/Object") Y.found L.cls (by decide +kernel) (a' (.fieldLink Bundle.tN 198 Bundle.tN "backtrace" "Ljava/lang/Object;") (by simp [xx_own])) (a' (.lays Bundle.tN Bundle.tN "backtrace" "Ljava/lang/Object;") (by simp [xx_own])) e.platform hpl
  obtain ⟨cellS, hcS', heS, -, hkeep⟩ := X.same.2.2.2.2.2 T.aS cellS0 hcS0
  have hcellS : W.heap[T.aS]? = some cellS := hcS'
  have hout' : ∀ i, (⟨T.aS, i⟩ : Loc) ∉ locs := fun i hmem => by
    have := hlocs _ hmem cellS0 hcS0
    rw [hiss] at this; cases this
  have hknownS : cellS.vm ≠ .unknown := by
    rw [heS]; intro hu
    rw [show cellS0.vm = .unknown from hu] at hiss
    cases hiss
  have hneS : T.aS ≠ a := Nat.ne_of_lt (Nat.lt_of_lt_of_le (Array.getElem?_eq_some_iff.mp hcS0).1 hnew)
  obtain ⟨iM, hffM⟩ := Y.msg
  obtain ⟨tyC, dC, hdC, hdnC⟩ := Cond.laysAt hfound hk Y.cause (a' (.lays cls Bundle.tN "cause" "Ljava/lang/Throwable;") (by simp [xx_own]))
  obtain ⟨tyS, dS, hdS, hdnS⟩ := Cond.laysAt hfound hk Y.stack (a' (.lays cls Bundle.tN "stackTrace" Bundle.steD) (by simp [xx_own]))
  obtain ⟨tyP, dP, hdP, hdnP⟩ := Cond.laysAt hfound hk Y.supp (a' (.lays cls Bundle.tN "suppressedExceptions" Bundle.listD) (by simp [xx_own]))
  obtain ⟨tyM, dM, hdM, hdnM⟩ := Cond.laysAt hfound hk hffM (a' (.lays cls Bundle.tN "detailMessage" "Ljava/lang/String;") (by simp [xx_own]))
  obtain ⟨tyB, dB, hdB, hdnB⟩ := Cond.laysAt hfound hk hffB (a' (.lays cls Bundle.tN "backtrace" "Ljava/lang/Object;") (by simp [xx_own]))
  have bC := Cond.laysApart hdB hdC hdnB hdnC (by rw [hnB, Y.causeName]; decide)
  have bS := Cond.laysApart hdB hdS hdnB hdnS (by rw [hnB, Y.stackName]; decide)
  have bP := Cond.laysApart hdB hdP hdnB hdnP (by rw [hnB, Y.suppName]; decide)
  have hskip : SkipFacts T e.platform s (fun u => u) u0 ((preparedCellV T.toThrowableT (freshCell P1.m.cls kX) a u0 sen).withEntry W.cur) :=
    ⟨{ ci198 := ci198, i198 := i198, fBack := fB }, ⟨hk198, hg198, ha198, hsB⟩, by
      have := fresh_default (c := P1.m.cls) tyB
      rw [htB] at this
      simpa [preparedCellV, Cell.setSlot, Cell.withEntry, Array.getElem?_setIfInBounds, bC, bS, bP, bC.symm, bS.symm, bP.symm, defaultValue] using this, fun _ _ => rfl⟩
  obtain ⟨tm, methC, cdC, kC, vm₁, hnC, -, -, -, -, -, -, -, hW₁, st1⟩ := Steps.initColdS (tb := p.tables) (e := e) (below := below) (s := s) (U := W) X.here hexec X.warmed hpl hown (t := Bundle.initS cls) rfl rfl (Bundle.fit_spec hcls).2
    (a' (.methodLink own ic (Bundle.initS cls)) (by simp [xx_own])) (h (.instanceMethod (Bundle.initS cls)) (by cases names <;> simp [xx_own, xx_chain, Bundle.passSAtoms])) (bytes := rx) (maxL := 2) (h (.code (Bundle.initS cls) rx 2 none) (by cases names <;> simp [xx_own, xx_chain, Bundle.passSAtoms]))
    (f := g) hg (a := a) (msg := msg) (rest := .ref a :: rest) hstack hd6
  cases Option.some.inj (hnC.symm.trans hP1m)
  have X₁ := X.noted hW₁
  obtain ⟨vm₂, X₂, st2⟩ := X₁.ctorMessageOffV hexec (g := { g with stack := .ref a :: rest }) hg hsize T L Z LZ M LM (P1 :: Ps)
    (fun P hP => by rcases List.mem_cons.mp hP with rfl | hP; exact L1; exact hL P hP) ⟨hlink1, hlink⟩ (u0 := u0) (sen := sen) (self := a) hmsg (cell := freshCell P1.m.cls kX) (cellS := cellS)
    hcell (fun _ => by simp) (by simp) rfl rfl hsel0 hselF hcellS hneS hknownS (by rw [hkeep _ (hout' _)]; exact hu0) (by rw [hkeep _ (hout' _)]; exact hsen)
    (Takes.of_laid hk hord tyC (by rw [Y.causeType]; rfl)) (Takes.of_laid hk hord tyS (by rw [Y.stackType]; exact fits_refV_array _ u0)) (Takes.of_laid hk hord tyP (by rw [Y.suppType]; exact fits_refV_object _ sen))
    (Takes.of_laid hk hord tyM (by rw [Y.msgType]; exact fits_refV_object _ ⟨msg, hmsg⟩)) Y.objLocals hskip htr [] hd6
    (by simp only [List.length_cons, hlen]; omega) (by simp only [List.length_cons, hlen]; exact hRlocals)
  have hlt : a < ((W.setVm vm₁).setVm vm₂).heap.size := (Array.getElem?_eq_some_iff.mp hcell).1
  refine ⟨(W.setVm vm₁).setVm vm₂, _, _, X₂, fun y hy => ?_, hlt, rfl, rfl, fun target hwalk => st1 _ (fun acts => ?_)⟩
  · simp only [List.mem_cons, List.not_mem_nil, or_false] at hy
    rcases hy with rfl | rfl | rfl | rfl | rfl <;> rfl
  · rw [doInvoke_state]
    exact st2 _ hwalk
end
section
variable {p : Program} {l : Launch} {e : Env} {R : Room} {s : State} {m : MethodId} {args : Array Value} {below : List Frame} {meth : Method} {c : Code} {H : Heap} {locs : List Loc} {cells slots : Nat} {Q : State → Prop}
variable {ls : Array Slot} {rest : List Value}
/-- 'new E("text")' : the object goes on the stack -/
theorem xx_makeS {cc : ByteArray} {pc : Nat} (hexec : p.tables.exec = Jvm.exec) (hb : c.code = cc) (hl : l.stackTraces = false) {own cls text : String} {names : List String} {ik is ic ix sa k9 : Nat} {rx : ByteArray} {A : Nat → Prop} (x0 : decode rx 0 = .ok (.aload_n 0, 1)) (x1 : decode rx 1 = .ok (.aload_n 1, 1)) (x2 : decode rx 2 = .ok (.invokespecial ix, 3)) (x5 : decode rx 5 = .ok (.return_, 1))
    (hown : s.vm.findClass own = some m.cls) (hcls : Bundle.fit cls = true) (hnames : ∀ n ∈ names, Bundle.fit n = true)
    (hk : (Cond.classLink own ik cls).before args s = true) (hini : (Cond.initialized cls).before args s = true) (hstr : vk_R own is text sa s) (hat : ∀ w ∈ xx_at own ic cls ix rx names, w.before args s = true)
    (hgood : ∀ w ∈ Cond.classLink own ik cls :: Cond.initialized cls :: xx_at own ic cls ix rx names, vx_ot w = true)
    (hU : vx_Zq Bundle.tN "UNASSIGNED_STACK" Bundle.steD A s s.heap) (hN : vx_Zq Bundle.tN "SUPPRESSED_SENTINEL" Bundle.listD A s s.heap) (hS : va_S A s.heap H locs) (hsize : ls.size = c.maxLocals)
    (d0 : decode cc pc = .ok (.new ik, 3)) (d3 : decode cc (pc + 3) = .ok (.dup, 1)) (dd : (decode cc (pc + 4) = .ok (.ldc is, 2) ∧ decode cc (pc + 6) = .ok (.invokespecial ic, 3) ∧ k9 = 9) ∨ decode cc (pc + 4) = .ok (.ldc_w is, 3) ∧ decode cc (pc + 7) = .ok (.invokespecial ic, 3) ∧ k9 = 10)
    (hRframes : names.length + 3 < R.frames) (hRlocals : (rest.map fun v => v.category).sum + (13 * (names.length + 1) + 43) ≤ R.locals) (hRcells : cells + 1 ≤ R.cells) (hRslots : slots + 6 ≤ R.slots)
    (kk : ∀ (q : Nat) (ce : Cell) (H1 : Heap), H1[q]? = some ce → ce.vm = .none → s.vm.findClass cls = some ce.cls → H.size ≤ H1.size → (∀ x, x < H.size → H1[x]? = H[x]?) → W p l e R s m args below meth c H1 locs (cells + 1) (slots + 6) Q (F0 m (pc + k9) ls (.ref q :: rest))) :
    W p l e R s m args below meth c H locs cells slots Q (F0 m pc ls rest) := by
  intro T hT X
  subst hT
  have htr : e.platform.stackTraces = false := (show e.platform.stackTraces = l.stackTraces by rw [X.admits.platform]).trans hl
  have Y := vx_rebase X (R' := { frames := R.frames, locals := R.locals, cells := 1, slots := 6 }) (Nat.le_refl _) (Nat.le_refl _) hRcells hRslots
  obtain ⟨s', hA'⟩ : ∃ z, z = (T.setVm s.vm).setFrames (.invoking m args :: below) := ⟨_, rfl⟩
  rw [← hA'] at Y
  have hvm : s'.vm = s.vm := by rw [hA']; rfl
  have hhp : s'.heap = T.heap := by rw [hA']; rfl
  have hW0 : s.WarmedH s'.vm := by rw [hvm]; exact State.WarmedH.refl s
  have hat' : ∀ w ∈ xx_at own ic cls ix rx names, w.before args s' = true := fun w hw => vx_ot_at hW0 hvm.symm (hgood w (List.mem_cons_of_mem _ (List.mem_cons_of_mem _ hw))) (hat w hw)
  have hk' : (Cond.classLink own ik cls).before args s' = true := vx_ot_at hW0 hvm.symm (hgood _ List.mem_cons_self) hk
  have hini' : (Cond.initialized cls).before args s' = true := vx_ot_at hW0 hvm.symm (hgood _ (List.mem_cons_of_mem _ List.mem_cons_self)) hini
  have hU' : vx_Zq Bundle.tN "UNASSIGNED_STACK" Bundle.steD A s' s'.heap := by rw [hhp]; exact vx_Zq.moved hW0.alike (hU.kept hS.2.1)
  have hN' : vx_Zq Bundle.tN "SUPPRESSED_SENTINEL" Bundle.listD A s' s'.heap := by rw [hhp]; exact vx_Zq.moved hW0.alike (hN.kept hS.2.1)
  have h : ∀ w ∈ xx_own own ic cls ix rx names, w.before args s' = true := vx_own hat' (vx_isRefq hU'.1) (vx_isRefq hN'.1) hU'.2.word hN'.2.word
  have hown' : s'.vm.findClass own = some m.cls := by rw [hvm]; exact hown
  have hins : (Cond.instantiable cls 6).before args s' = true := h _ (by simp [xx_own])
  obtain ⟨vm₁, cX, kX, hfX, hkX, -, -, X₁, st1⟩ := Y.newCold hexec (own := own) (C := cls) (index := ik) (n := 6) hown' hk' hins hini'
    (g := F0 m pc ls rest) rfl (by rw [hb]; exact d0) (Nat.le_refl _) (Nat.le_refl _)
  generalize hT1 : (T.setVm vm₁).pushCell { cls := cX, slots := kX.instanceTypes.map defaultValue, vm := .none } = T1 at X₁ st1
  have hcat : (Value.ref T.heap.size).category = 1 := rfl
  have hcellA : T1.heap[T.heap.size]? = some (freshCell cX kX) := by rw [← hT1]; exact State.heap_pushCell_size _ _
  have d3' : decode c.code (pc + 3) = .ok (.dup, 1) := by rw [hb]; exact d3
  have hstr' : vk_R own is text sa s' := vk_R.warm hW0 hstr
  have ctor : ∀ k6 : Nat, decode c.code (pc + k6) = .ok (.invokespecial ic, 3) → k6 + 3 = k9 → ∃ t, (Steps p.tables e below (T1.setTop { method := m, pc := pc + k6, locals := ls, stack := .ref sa :: .ref T.heap.size :: .ref T.heap.size :: rest, locked := none }) t) ∧ Q t := by
    intro k6 hd6 hk6
    obtain ⟨V, ce, L, Z, hL, hlt, hcl9, hvm9, st⟩ := xx_ctorMadeS X₁ hexec htr (own := own) (cls := cls) (names := names) (ic := ic) x0 x1 x2 x5 hown' hcls hnames h (fun x hx => nomatch hx) hfX hkX hcellA (by rw [hhp]; exact Nat.le_refl _) (msg := .ref sa) rfl
      (g := { method := m, pc := pc + k6, locals := ls, stack := .ref sa :: .ref T.heap.size :: .ref T.heap.size :: rest, locked := none }) rfl hsize (rest := rest) rfl
      hd6 hRframes (by simp only [List.map_cons, List.sum_cons, hcat]; omega)
    have Z0 := Stand.forget (locs := []) Z (fun y hy => by rw [hL y hy, hhp]; exact Nat.le_refl _)
    obtain ⟨f1, f2⟩ := vx_frame Z0.same
    rw [hhp] at f1 f2
    have hcid : s.vm.findClass cls = some ce.cls := by
      rw [hcl9, ← hvm]
      exact hfX
    have hh : (V.setCell T.heap.size ce).heap[T.heap.size]? = some ce := heapAt_setCell_self (s := V) ce hlt
    have X5 : Stand p l e R s m args below meth c (V.setCell T.heap.size ce) locs (cells + 1) (slots + 6) := by
      subst hA'
      have X5 := vx_back9 X Y Z0
      exact { X5 with same := X5.same.mono (by omega) (by omega) }
    obtain ⟨t, a1, b1⟩ := kk T.heap.size ce (V.setCell T.heap.size ce).heap hh hvm9 hcid f1 (fun x hx => f2 x hx (fun z hz => nomatch hz)) _ rfl X5
    refine ⟨t, st t ?_, b1⟩
    have hpk : pc + k6 + 3 = pc + k9 := by omega
    show Steps p.tables e below ((V.setCell T.heap.size ce).setTop { method := m, pc := pc + k6 + 3, locals := ls, stack := .ref T.heap.size :: rest, locked := none }) t
    rw [hpk]
    exact a1
  have fin : ∀ t : State, Steps p.tables e below (T1.setTop { method := m, pc := pc + 4, locals := ls, stack := .ref T.heap.size :: .ref T.heap.size :: rest, locked := none }) t → Steps p.tables e below (T.setTop (F0 m pc ls rest)) t := by
    intro t ht
    refine st1 _ ?_
    show Steps p.tables e below (T1.setTop { method := m, pc := pc + 3, locals := ls, stack := .ref T.heap.size :: rest, locked := none }) _
    jvm_step X₁.here [X₁.here.top, hexec, d3', Value.category]
    exact ht
  rcases dd with ⟨d4, d6, h9⟩ | ⟨d4, d7, h9⟩
  · have d4' : decode c.code (pc + 4) = .ok (.ldc is, 2) := by rw [hb]; exact d4
    obtain ⟨t, a1, b1⟩ := ctor 6 (by rw [hb]; exact d6) (by omega)
    refine ⟨t, fin t ?_, b1⟩
    exact X₁.ldcString hexec (own := own) (text := text) (index := is) (a := sa) hown' hstr'.1 hstr'.2
      (g := { method := m, pc := pc + 4, locals := ls, stack := .ref T.heap.size :: .ref T.heap.size :: rest, locked := none }) rfl d4' _ a1
  · have d4' : decode c.code (pc + 4) = .ok (.ldc_w is, 3) := by rw [hb]; exact d4
    obtain ⟨t, a1, b1⟩ := ctor 7 (by rw [hb]; exact d7) (by omega)
    refine ⟨t, fin t ?_, b1⟩
    exact X₁.ldcStringW hexec (own := own) (text := text) (index := is) (a := sa) hown' hstr'.1 hstr'.2
      (g := { method := m, pc := pc + 4, locals := ls, stack := .ref T.heap.size :: .ref T.heap.size :: rest, locked := none }) rfl d4' _ a1
end
end XNSE
end
section
set_option maxRecDepth 20000
section XJ
/-- a value of the small machine: a number, null or a raw address; or an object by its name -/
abbrev xV : Type := Value ⊕ (Nat × Nat)
/-- an object: class and fields; or kind, length and content of an array -/
abbrev xO : Type := (Nat × List xV) ⊕ (Nat × Nat × (Nat → xV))
abbrev xL : Type := List (Nat × xV)
abbrev xH : Type := Nat × Nat → Option xO
/-- names to be given, cells made, slots made, heap -/
abbrev xA : Type := List (Nat × Nat) × Nat × Nat × xH
abbrev xN : Type := Nat × Nat → Nat
def xcat : xV → Nat
  | .inl v => v.category
  | .inr _ => 1
def xc (ad : xN) : xV → Value
  | .inl v => v
  | .inr q => .ref (ad q)
theorem xc_cat (ad : xN) (v : xV) : (xc ad v).category = xcat v := by cases v <;> rfl
abbrev xlm (ad : xN) (l : xL) : List (Nat × Value) := l.map (fun q => (q.1, xc ad q.2))
def xl : xL → Nat → Option xV
  | [], _ => none
  | q :: r, i => if q.1 = i then some q.2 else xl r i
theorem xl_mem {l : xL} {i : Nat} {v : xV} (h : xl l i = some v) : (i, v) ∈ l := by
  induction l with
  | nil => cases h
  | cons q r ih =>
    unfold xl at h
    split at h
    next e => cases h; subst e; exact List.mem_cons_self
    next e => exact List.mem_cons_of_mem _ (ih h)
theorem xl_at {ls : Array Slot} {nL : Nat} {ad : xN} {l : xL} (hl : lv_has ls nL (xlm ad l)) {i : Nat} {v : xV} (h : xl l i = some v) : ls[i]? = some (.val (xc ad v)) :=
  hl.2.2 (i, xc ad v) (List.mem_map.mpr ⟨(i, v), xl_mem h, rfl⟩)
def xst1 (l : xL) (i : Nat) (v : xV) : xL := (i, v) :: l.filter (fun q => !(q.1 == i) && !(q.1 + 1 == i && xcat q.2 == 2))
def xst2 (l : xL) (i : Nat) (v : xV) : xL := (i, v) :: l.filter (fun q => !(q.1 == i) && (!(q.1 == i + 1) && !(q.1 + 1 == i && xcat q.2 == 2)))
theorem xst1_map (ad : xN) (l : xL) (i : Nat) (v : xV) : (i, xc ad v) :: (xlm ad l).filter (fun q => !(q.1 == i) && !(q.1 + 1 == i && q.2.category == 2)) = xlm ad (xst1 l i v) := by
  unfold xst1 xlm
  rw [List.map_cons, List.filter_map]
  congr 2
  refine List.filter_congr fun q _ => ?_
  simp only [Function.comp, xc_cat]
theorem xst2_map (ad : xN) (l : xL) (i : Nat) (v : xV) : (i, xc ad v) :: (xlm ad l).filter (fun q => !(q.1 == i) && (!(q.1 == i + 1) && !(q.1 + 1 == i && q.2.category == 2))) = xlm ad (xst2 l i v) := by
  unfold xst2 xlm
  rw [List.map_cons, List.filter_map]
  congr 2
  refine List.filter_congr fun q _ => ?_
  simp only [Function.comp, xc_cat]
/-- all values of a frame are live -/
def xok (Lv : xV → Prop) (l : xL) (st : List xV) : Prop := (∀ q ∈ l, Lv q.2) ∧ ∀ v ∈ st, Lv v
theorem xok_l {Lv : xV → Prop} {l : xL} {st : List xV} (h : xok Lv l st) {i : Nat} {v : xV} (e : xl l i = some v) : Lv v := h.1 _ (xl_mem e)
theorem xok_push {Lv : xV → Prop} {l : xL} {st : List xV} (h : xok Lv l st) {v : xV} (e : Lv v) : xok Lv l (v :: st) := ⟨h.1, List.forall_mem_cons.mpr ⟨e, h.2⟩⟩
theorem xok_tl {Lv : xV → Prop} {l : xL} {st : List xV} {v : xV} (h : xok Lv l (v :: st)) : xok Lv l st := ⟨h.1, (List.forall_mem_cons.mp h.2).2⟩
theorem xok_hd {Lv : xV → Prop} {l : xL} {st : List xV} {v : xV} (h : xok Lv l (v :: st)) : Lv v := (List.forall_mem_cons.mp h.2).1
theorem xok_1 {Lv : xV → Prop} {l : xL} {st : List xV} (h : xok Lv l st) (i : Nat) {v : xV} (e : Lv v) : xok Lv (xst1 l i v) st :=
  ⟨List.forall_mem_cons.mpr ⟨e, fun q hq => h.1 q (List.mem_filter.mp hq).1⟩, h.2⟩
theorem xok_2 {Lv : xV → Prop} {l : xL} {st : List xV} (h : xok Lv l st) (i : Nat) {v : xV} (e : Lv v) : xok Lv (xst2 l i v) st :=
  ⟨List.forall_mem_cons.mpr ⟨e, fun q hq => h.1 q (List.mem_filter.mp hq).1⟩, h.2⟩

/-- one plain instruction: the next place, locals, stack -/
def xs1 (nL : Nat) (i : Instr) (pc : Nat) (l : xL) (st : List xV) : Option (Nat × xL × List xV) :=
  match i with
  | .aconst_null => some (pc + 1, l, .inl .null :: st)
  | .iconst n => some (pc + 1, l, .inl (.int (Int32.ofInt n)) :: st)
  | .bipush n => some (pc + 2, l, .inl (.int (Int8.ofInt n).toInt32) :: st)
  | .sipush n => some (pc + 3, l, .inl (.int (Int16.ofInt n).toInt32) :: st)
  | .lconst n => some (pc + 1, l, .inl (.long (Int64.ofNat n)) :: st)
  | .fconst 0 => some (pc + 1, l, .inl (.float FP.fconst0) :: st)
  | .fconst 1 => some (pc + 1, l, .inl (.float FP.fconst1) :: st)
  | .fconst 2 => some (pc + 1, l, .inl (.float FP.fconst2) :: st)
  | .dconst 0 => some (pc + 1, l, .inl (.double FP.dconst0) :: st)
  | .dconst 1 => some (pc + 1, l, .inl (.double FP.dconst1) :: st)
  | .iadd => match st with
    | .inl (.int y) :: .inl (.int x) :: r => some (pc + 1, l, .inl (.int (x + y)) :: r)
    | _ => none
  | .isub => match st with
    | .inl (.int y) :: .inl (.int x) :: r => some (pc + 1, l, .inl (.int (x - y)) :: r)
    | _ => none
  | .imul => match st with
    | .inl (.int y) :: .inl (.int x) :: r => some (pc + 1, l, .inl (.int (x * y)) :: r)
    | _ => none
  | .iand => match st with
    | .inl (.int y) :: .inl (.int x) :: r => some (pc + 1, l, .inl (.int (x &&& y)) :: r)
    | _ => none
  | .ior => match st with
    | .inl (.int y) :: .inl (.int x) :: r => some (pc + 1, l, .inl (.int (x ||| y)) :: r)
    | _ => none
  | .ixor => match st with
    | .inl (.int y) :: .inl (.int x) :: r => some (pc + 1, l, .inl (.int (x ^^^ y)) :: r)
    | _ => none
  | .ishl => match st with
    | .inl (.int y) :: .inl (.int x) :: r => some (pc + 1, l, .inl (.int (x <<< (y &&& 31))) :: r)
    | _ => none
  | .ishr => match st with
    | .inl (.int y) :: .inl (.int x) :: r => some (pc + 1, l, .inl (.int (x >>> (y &&& 31))) :: r)
    | _ => none
  | .iushr => match st with
    | .inl (.int y) :: .inl (.int x) :: r => some (pc + 1, l, .inl (.int (x.toUInt32 >>> (y.toUInt32 &&& Int32.toUInt32 31)).toInt32) :: r)
    | _ => none
  | .idiv => match st with
    | .inl (.int y) :: .inl (.int x) :: r => if ¬ y = 0 then some (pc + 1, l, .inl (.int (x / y)) :: r) else none
    | _ => none
  | .irem => match st with
    | .inl (.int y) :: .inl (.int x) :: r => if ¬ y = 0 then some (pc + 1, l, .inl (.int (x - x / y * y)) :: r) else none
    | _ => none
  | .ineg => match st with
    | .inl (.int x) :: r => some (pc + 1, l, .inl (.int (-x)) :: r)
    | _ => none
  | .ladd => match st with
    | .inl (.long y) :: .inl (.long x) :: r => some (pc + 1, l, .inl (.long (x + y)) :: r)
    | _ => none
  | .lsub => match st with
    | .inl (.long y) :: .inl (.long x) :: r => some (pc + 1, l, .inl (.long (x - y)) :: r)
    | _ => none
  | .lmul => match st with
    | .inl (.long y) :: .inl (.long x) :: r => some (pc + 1, l, .inl (.long (x * y)) :: r)
    | _ => none
  | .land => match st with
    | .inl (.long y) :: .inl (.long x) :: r => some (pc + 1, l, .inl (.long (x &&& y)) :: r)
    | _ => none
  | .lor => match st with
    | .inl (.long y) :: .inl (.long x) :: r => some (pc + 1, l, .inl (.long (x ||| y)) :: r)
    | _ => none
  | .lxor => match st with
    | .inl (.long y) :: .inl (.long x) :: r => some (pc + 1, l, .inl (.long (x ^^^ y)) :: r)
    | _ => none
  | .ldiv => match st with
    | .inl (.long y) :: .inl (.long x) :: r => if ¬ y = 0 then some (pc + 1, l, .inl (.long (x / y)) :: r) else none
    | _ => none
  | .lrem => match st with
    | .inl (.long y) :: .inl (.long x) :: r => if ¬ y = 0 then some (pc + 1, l, .inl (.long (x - x / y * y)) :: r) else none
    | _ => none
  | .lneg => match st with
    | .inl (.long x) :: r => some (pc + 1, l, .inl (.long (-x)) :: r)
    | _ => none
  | .lcmp => match st with
    | .inl (.long y) :: .inl (.long x) :: r => some (pc + 1, l, .inl (.int (lg_cmp x y)) :: r)
    | _ => none
  | .lshl => match st with
    | .inl (.int y) :: .inl (.long x) :: r => some (pc + 1, l, .inl (.long (x <<< (y.toInt64 &&& 63))) :: r)
    | _ => none
  | .lshr => match st with
    | .inl (.int y) :: .inl (.long x) :: r => some (pc + 1, l, .inl (.long (x >>> (y.toInt64 &&& 63))) :: r)
    | _ => none
  | .lushr => match st with
    | .inl (.int y) :: .inl (.long x) :: r => some (pc + 1, l, .inl (.long (x.toUInt64 >>> (y.toInt64.toUInt64 &&& Int64.toUInt64 63)).toInt64) :: r)
    | _ => none
  | .i2l => match st with
    | .inl (.int x) :: r => some (pc + 1, l, .inl (.long x.toInt64) :: r)
    | _ => none
  | .l2i => match st with
    | .inl (.long x) :: r => some (pc + 1, l, .inl (.int x.toInt32) :: r)
    | _ => none
  | .i2b => match st with
    | .inl (.int x) :: r => some (pc + 1, l, .inl (.int x.toInt8.toInt32) :: r)
    | _ => none
  | .i2s => match st with
    | .inl (.int x) :: r => some (pc + 1, l, .inl (.int x.toInt16.toInt32) :: r)
    | _ => none
  | .i2c => match st with
    | .inl (.int x) :: r => some (pc + 1, l, .inl (.int (x.toUInt32 % 65536).toInt32) :: r)
    | _ => none
  | .fadd => match st with
    | .inl (.float y) :: .inl (.float x) :: r => if FP.fadd x y &&& 0x7fffffff ≤ 0x7f800000 then some (pc + 1, l, .inl (.float (FP.fadd x y)) :: r) else none
    | _ => none
  | .fsub => match st with
    | .inl (.float y) :: .inl (.float x) :: r => if FP.fsub x y &&& 0x7fffffff ≤ 0x7f800000 then some (pc + 1, l, .inl (.float (FP.fsub x y)) :: r) else none
    | _ => none
  | .fmul => match st with
    | .inl (.float y) :: .inl (.float x) :: r => if FP.fmul x y &&& 0x7fffffff ≤ 0x7f800000 then some (pc + 1, l, .inl (.float (FP.fmul x y)) :: r) else none
    | _ => none
  | .fdiv => match st with
    | .inl (.float y) :: .inl (.float x) :: r => if FP.fdiv x y &&& 0x7fffffff ≤ 0x7f800000 then some (pc + 1, l, .inl (.float (FP.fdiv x y)) :: r) else none
    | _ => none
  | .frem => match st with
    | .inl (.float y) :: .inl (.float x) :: r => if FP.frem x y &&& 0x7fffffff ≤ 0x7f800000 then some (pc + 1, l, .inl (.float (FP.frem x y)) :: r) else none
    | _ => none
  | .dadd => match st with
    | .inl (.double y) :: .inl (.double x) :: r => if FP.dadd x y &&& 0x7fffffffffffffff ≤ 0x7ff0000000000000 then some (pc + 1, l, .inl (.double (FP.dadd x y)) :: r) else none
    | _ => none
  | .dsub => match st with
    | .inl (.double y) :: .inl (.double x) :: r => if FP.dsub x y &&& 0x7fffffffffffffff ≤ 0x7ff0000000000000 then some (pc + 1, l, .inl (.double (FP.dsub x y)) :: r) else none
    | _ => none
  | .dmul => match st with
    | .inl (.double y) :: .inl (.double x) :: r => if FP.dmul x y &&& 0x7fffffffffffffff ≤ 0x7ff0000000000000 then some (pc + 1, l, .inl (.double (FP.dmul x y)) :: r) else none
    | _ => none
  | .ddiv => match st with
    | .inl (.double y) :: .inl (.double x) :: r => if FP.ddiv x y &&& 0x7fffffffffffffff ≤ 0x7ff0000000000000 then some (pc + 1, l, .inl (.double (FP.ddiv x y)) :: r) else none
    | _ => none
  | .drem => match st with
    | .inl (.double y) :: .inl (.double x) :: r => if FP.drem x y &&& 0x7fffffffffffffff ≤ 0x7ff0000000000000 then some (pc + 1, l, .inl (.double (FP.drem x y)) :: r) else none
    | _ => none
  | .fneg => match st with
    | .inl (.float x) :: r => some (pc + 1, l, .inl (.float (FP.fneg x)) :: r)
    | _ => none
  | .dneg => match st with
    | .inl (.double x) :: r => some (pc + 1, l, .inl (.double (FP.dneg x)) :: r)
    | _ => none
  | .fcmp o => match st with
    | .inl (.float y) :: .inl (.float x) :: r => some (pc + 1, l, .inl (.int (Op.cmpValue (FP.fcmp x y) o)) :: r)
    | _ => none
  | .dcmp o => match st with
    | .inl (.double y) :: .inl (.double x) :: r => some (pc + 1, l, .inl (.int (Op.cmpValue (FP.dcmp x y) o)) :: r)
    | _ => none
  | .i2f => match st with
    | .inl (.int x) :: r => some (pc + 1, l, .inl (.float (FP.i2f x)) :: r)
    | _ => none
  | .l2f => match st with
    | .inl (.long x) :: r => some (pc + 1, l, .inl (.float (FP.l2f x)) :: r)
    | _ => none
  | .f2i => match st with
    | .inl (.float x) :: r => some (pc + 1, l, .inl (.int (FP.f2i x)) :: r)
    | _ => none
  | .f2l => match st with
    | .inl (.float x) :: r => some (pc + 1, l, .inl (.long (FP.f2l x)) :: r)
    | _ => none
  | .i2d => match st with
    | .inl (.int x) :: r => some (pc + 1, l, .inl (.double (FP.i2d x)) :: r)
    | _ => none
  | .l2d => match st with
    | .inl (.long x) :: r => some (pc + 1, l, .inl (.double (FP.l2d x)) :: r)
    | _ => none
  | .d2i => match st with
    | .inl (.double x) :: r => some (pc + 1, l, .inl (.int (FP.d2i x)) :: r)
    | _ => none
  | .d2l => match st with
    | .inl (.double x) :: r => some (pc + 1, l, .inl (.long (FP.d2l x)) :: r)
    | _ => none
  | .f2d => match st with
    | .inl (.float x) :: r => if FP.f2d x &&& 0x7fffffffffffffff ≤ 0x7ff0000000000000 then some (pc + 1, l, .inl (.double (FP.f2d x)) :: r) else none
    | _ => none
  | .d2f => match st with
    | .inl (.double x) :: r => if FP.d2f x &&& 0x7fffffff ≤ 0x7f800000 then some (pc + 1, l, .inl (.float (FP.d2f x)) :: r) else none
    | _ => none
  | .dup => match st with
    | v :: r => if xcat v = 1 then some (pc + 1, l, v :: v :: r) else none
    | _ => none
  | .pop => match st with
    | v :: r => if xcat v = 1 then some (pc + 1, l, r) else none
    | _ => none
  | .dup_x1 => match st with
    | v :: w :: r => if xcat v = 1 ∧ xcat w = 1 then some (pc + 1, l, v :: w :: v :: r) else none
    | _ => none
  | .dup_x2 => match st with
    | v :: w :: u :: r => if xcat v = 1 ∧ xcat w = 1 ∧ xcat u = 1 then some (pc + 1, l, v :: w :: u :: v :: r) else none
    | _ => none
  | .dup2 => match st with
    | v :: w :: r => if xcat v = 1 ∧ xcat w = 1 then some (pc + 1, l, v :: w :: v :: w :: r) else none
    | _ => none
  | .iload_n n => match xl l n.val with
    | some (.inl (.int x)) => some (pc + 1, l, .inl (.int x) :: st)
    | _ => none
  | .iload n => match xl l n with
    | some (.inl (.int x)) => some (pc + 2, l, .inl (.int x) :: st)
    | _ => none
  | .lload_n n => match xl l n.val with
    | some (.inl (.long x)) => some (pc + 1, l, .inl (.long x) :: st)
    | _ => none
  | .lload n => match xl l n with
    | some (.inl (.long x)) => some (pc + 2, l, .inl (.long x) :: st)
    | _ => none
  | .fload_n n => match xl l n.val with
    | some (.inl (.float x)) => some (pc + 1, l, .inl (.float x) :: st)
    | _ => none
  | .fload n => match xl l n with
    | some (.inl (.float x)) => some (pc + 2, l, .inl (.float x) :: st)
    | _ => none
  | .dload_n n => match xl l n.val with
    | some (.inl (.double x)) => some (pc + 1, l, .inl (.double x) :: st)
    | _ => none
  | .dload n => match xl l n with
    | some (.inl (.double x)) => some (pc + 2, l, .inl (.double x) :: st)
    | _ => none
  | .aload_n n => match xl l n.val with
    | some (.inl .null) => some (pc + 1, l, .inl .null :: st)
    | some (.inl (.ref a)) => some (pc + 1, l, .inl (.ref a) :: st)
    | some (.inr q) => some (pc + 1, l, .inr q :: st)
    | _ => none
  | .aload n => match xl l n with
    | some (.inl .null) => some (pc + 2, l, .inl .null :: st)
    | some (.inl (.ref a)) => some (pc + 2, l, .inl (.ref a) :: st)
    | some (.inr q) => some (pc + 2, l, .inr q :: st)
    | _ => none
  | .istore_n n => match st with
    | .inl (.int x) :: r => if n.val < nL then some (pc + 1, xst1 l n.val (.inl (.int x)), r) else none
    | _ => none
  | .istore n => match st with
    | .inl (.int x) :: r => if n < nL then some (pc + 2, xst1 l n (.inl (.int x)), r) else none
    | _ => none
  | .lstore_n n => match st with
    | .inl (.long x) :: r => if n.val + 1 < nL then some (pc + 1, xst2 l n.val (.inl (.long x)), r) else none
    | _ => none
  | .lstore n => match st with
    | .inl (.long x) :: r => if n + 1 < nL then some (pc + 2, xst2 l n (.inl (.long x)), r) else none
    | _ => none
  | .fstore_n n => match st with
    | .inl (.float x) :: r => if n.val < nL then some (pc + 1, xst1 l n.val (.inl (.float x)), r) else none
    | _ => none
  | .fstore n => match st with
    | .inl (.float x) :: r => if n < nL then some (pc + 2, xst1 l n (.inl (.float x)), r) else none
    | _ => none
  | .dstore_n n => match st with
    | .inl (.double x) :: r => if n.val + 1 < nL then some (pc + 1, xst2 l n.val (.inl (.double x)), r) else none
    | _ => none
  | .dstore n => match st with
    | .inl (.double x) :: r => if n + 1 < nL then some (pc + 2, xst2 l n (.inl (.double x)), r) else none
    | _ => none
  | .astore_n n => match st with
    | .inl .null :: r => if n.val < nL then some (pc + 1, xst1 l n.val (.inl .null), r) else none
    | .inr q :: r => if n.val < nL then some (pc + 1, xst1 l n.val (.inr q), r) else none
    | _ => none
  | .astore n => match st with
    | .inl .null :: r => if n < nL then some (pc + 2, xst1 l n (.inl .null), r) else none
    | .inr q :: r => if n < nL then some (pc + 2, xst1 l n (.inr q), r) else none
    | _ => none
  | .iinc i n => match xl l i with
    | some (.inl (.int x)) => if i < nL then some (pc + 3, xst1 l i (.inl (.int (x + Int32.ofInt n))), st) else none
    | _ => none
  | .goto off => if 0 ≤ (pc : Int) + off then some (((pc : Int) + off).toNat, l, st) else none
  | .ifnull off => match st with
    | .inl .null :: r => if 0 ≤ (pc : Int) + off then some (((pc : Int) + off).toNat, l, r) else none
    | .inr _ :: r => some (pc + 3, l, r)
    | _ => none
  | .ifnonnull off => match st with
    | .inl .null :: r => some (pc + 3, l, r)
    | .inr _ :: r => if 0 ≤ (pc : Int) + off then some (((pc : Int) + off).toNat, l, r) else none
    | _ => none
  | _ => none
/-- how many bytes -/
def xlen : Instr → Nat
  | .aconst_null => 1
  | .iconst _ => 1
  | .bipush _ => 2
  | .sipush _ => 3
  | .lconst _ => 1
  | .fconst 0 => 1
  | .fconst 1 => 1
  | .fconst 2 => 1
  | .dconst 0 => 1
  | .dconst 1 => 1
  | .iadd => 1
  | .isub => 1
  | .imul => 1
  | .iand => 1
  | .ior => 1
  | .ixor => 1
  | .ishl => 1
  | .ishr => 1
  | .iushr => 1
  | .idiv => 1
  | .irem => 1
  | .ineg => 1
  | .ladd => 1
  | .lsub => 1
  | .lmul => 1
  | .land => 1
  | .lor => 1
  | .lxor => 1
  | .ldiv => 1
  | .lrem => 1
  | .lneg => 1
  | .lcmp => 1
  | .lshl => 1
  | .lshr => 1
  | .lushr => 1
  | .i2l => 1
  | .l2i => 1
  | .i2b => 1
  | .i2s => 1
  | .i2c => 1
  | .fadd => 1
  | .fsub => 1
  | .fmul => 1
  | .fdiv => 1
  | .frem => 1
  | .dadd => 1
  | .dsub => 1
  | .dmul => 1
  | .ddiv => 1
  | .drem => 1
  | .fneg => 1
  | .dneg => 1
  | .fcmp _ => 1
  | .dcmp _ => 1
  | .i2f => 1
  | .l2f => 1
  | .f2i => 1
  | .f2l => 1
  | .i2d => 1
  | .l2d => 1
  | .d2i => 1
  | .d2l => 1
  | .f2d => 1
  | .d2f => 1
  | .dup => 1
  | .pop => 1
  | .dup_x1 => 1
  | .dup_x2 => 1
  | .dup2 => 1
  | .iload_n _ => 1
  | .iload _ => 2
  | .lload_n _ => 1
  | .lload _ => 2
  | .fload_n _ => 1
  | .fload _ => 2
  | .dload_n _ => 1
  | .dload _ => 2
  | .aload_n _ => 1
  | .aload _ => 2
  | .istore_n _ => 1
  | .istore _ => 2
  | .lstore_n _ => 1
  | .lstore _ => 2
  | .fstore_n _ => 1
  | .fstore _ => 2
  | .dstore_n _ => 1
  | .dstore _ => 2
  | .astore_n _ => 1
  | .astore _ => 2
  | .iinc _ _ => 3
  | .goto _ => 3
  | .ifnull _ => 3
  | .ifnonnull _ => 3
  | _ => 0
variable {p : Program} {l0 : Launch} {e : Env} {R : Room} {s : State} {m : MethodId} {args : Array Value} {below : List Frame} {meth : Method} {c : Code} {H : Heap} {locs : List Loc} {cells slots : Nat} {Q : State → Prop}
variable {cc : ByteArray} {pc : Nat} {ls : Array Slot} {ad : xN}
theorem xs_aconst_null {Lv : xV → Prop} {l l2 : xL} {st st2 : List xV} {nL pc2 : Nat} (h0 : ∀ v, Lv (.inl v)) (hx : p.tables.exec = Jvm.exec) (hb : c.code = cc) (hd : decode cc pc = .ok (.aconst_null, 1)) (hl : lv_has ls nL (xlm ad l)) (hk : xok Lv l st) (h : xs1 nL (.aconst_null) pc l st = some (pc2, l2, st2)) (k : ∀ ls2 : Array Slot, lv_has ls2 nL (xlm ad l2) → xok Lv l2 st2 → W p l0 e R s m args below meth c H locs cells slots Q (F0 m pc2 ls2 (st2.map (xc ad)))) : W p l0 e R s m args below meth c H locs cells slots Q (F0 m pc ls (st.map (xc ad))) := by
  simp only [xs1] at h
  cases h
  exact lv_null hx hb hd (k _ hl (xok_push hk (h0 _)))
theorem xs_iconst {Lv : xV → Prop} {l l2 : xL} {st st2 : List xV} {nL pc2 : Nat} (h0 : ∀ v, Lv (.inl v)) (hx : p.tables.exec = Jvm.exec) (hb : c.code = cc) {n : Int} (hd : decode cc pc = .ok (.iconst n, 1)) (hl : lv_has ls nL (xlm ad l)) (hk : xok Lv l st) (h : xs1 nL (.iconst n) pc l st = some (pc2, l2, st2)) (k : ∀ ls2 : Array Slot, lv_has ls2 nL (xlm ad l2) → xok Lv l2 st2 → W p l0 e R s m args below meth c H locs cells slots Q (F0 m pc2 ls2 (st2.map (xc ad)))) : W p l0 e R s m args below meth c H locs cells slots Q (F0 m pc ls (st.map (xc ad))) := by
  simp only [xs1] at h
  cases h
  exact lv_iconst hx hb hd rfl (k _ hl (xok_push hk (h0 _)))
theorem xs_bipush {Lv : xV → Prop} {l l2 : xL} {st st2 : List xV} {nL pc2 : Nat} (h0 : ∀ v, Lv (.inl v)) (hx : p.tables.exec = Jvm.exec) (hb : c.code = cc) {n : Int} (hd : decode cc pc = .ok (.bipush n, 2)) (hl : lv_has ls nL (xlm ad l)) (hk : xok Lv l st) (h : xs1 nL (.bipush n) pc l st = some (pc2, l2, st2)) (k : ∀ ls2 : Array Slot, lv_has ls2 nL (xlm ad l2) → xok Lv l2 st2 → W p l0 e R s m args below meth c H locs cells slots Q (F0 m pc2 ls2 (st2.map (xc ad)))) : W p l0 e R s m args below meth c H locs cells slots Q (F0 m pc ls (st.map (xc ad))) := by
  simp only [xs1] at h
  cases h
  exact lv_bipush hx hb hd rfl (k _ hl (xok_push hk (h0 _)))
theorem xs_sipush {Lv : xV → Prop} {l l2 : xL} {st st2 : List xV} {nL pc2 : Nat} (h0 : ∀ v, Lv (.inl v)) (hx : p.tables.exec = Jvm.exec) (hb : c.code = cc) {n : Int} (hd : decode cc pc = .ok (.sipush n, 3)) (hl : lv_has ls nL (xlm ad l)) (hk : xok Lv l st) (h : xs1 nL (.sipush n) pc l st = some (pc2, l2, st2)) (k : ∀ ls2 : Array Slot, lv_has ls2 nL (xlm ad l2) → xok Lv l2 st2 → W p l0 e R s m args below meth c H locs cells slots Q (F0 m pc2 ls2 (st2.map (xc ad)))) : W p l0 e R s m args below meth c H locs cells slots Q (F0 m pc ls (st.map (xc ad))) := by
  simp only [xs1] at h
  cases h
  exact lv_sipush hx hb hd rfl (k _ hl (xok_push hk (h0 _)))
theorem xs_lconst {Lv : xV → Prop} {l l2 : xL} {st st2 : List xV} {nL pc2 : Nat} (h0 : ∀ v, Lv (.inl v)) (hx : p.tables.exec = Jvm.exec) (hb : c.code = cc) {n : Fin 2} (hd : decode cc pc = .ok (.lconst n, 1)) (hl : lv_has ls nL (xlm ad l)) (hk : xok Lv l st) (h : xs1 nL (.lconst n) pc l st = some (pc2, l2, st2)) (k : ∀ ls2 : Array Slot, lv_has ls2 nL (xlm ad l2) → xok Lv l2 st2 → W p l0 e R s m args below meth c H locs cells slots Q (F0 m pc2 ls2 (st2.map (xc ad)))) : W p l0 e R s m args below meth c H locs cells slots Q (F0 m pc ls (st.map (xc ad))) := by
  simp only [xs1] at h
  cases h
  exact lv_lconst hx hb hd rfl (k _ hl (xok_push hk (h0 _)))
theorem xs_fconst0 {Lv : xV → Prop} {l l2 : xL} {st st2 : List xV} {nL pc2 : Nat} (h0 : ∀ v, Lv (.inl v)) (hx : p.tables.exec = Jvm.exec) (hb : c.code = cc) (hd : decode cc pc = .ok (.fconst 0, 1)) (hl : lv_has ls nL (xlm ad l)) (hk : xok Lv l st) (h : xs1 nL (.fconst 0) pc l st = some (pc2, l2, st2)) (k : ∀ ls2 : Array Slot, lv_has ls2 nL (xlm ad l2) → xok Lv l2 st2 → W p l0 e R s m args below meth c H locs cells slots Q (F0 m pc2 ls2 (st2.map (xc ad)))) : W p l0 e R s m args below meth c H locs cells slots Q (F0 m pc ls (st.map (xc ad))) := by
  simp only [xs1] at h
  cases h
  exact lv_fconst0 hx hb hd (k _ hl (xok_push hk (h0 _)))
theorem xs_fconst1 {Lv : xV → Prop} {l l2 : xL} {st st2 : List xV} {nL pc2 : Nat} (h0 : ∀ v, Lv (.inl v)) (hx : p.tables.exec = Jvm.exec) (hb : c.code = cc) (hd : decode cc pc = .ok (.fconst 1, 1)) (hl : lv_has ls nL (xlm ad l)) (hk : xok Lv l st) (h : xs1 nL (.fconst 1) pc l st = some (pc2, l2, st2)) (k : ∀ ls2 : Array Slot, lv_has ls2 nL (xlm ad l2) → xok Lv l2 st2 → W p l0 e R s m args below meth c H locs cells slots Q (F0 m pc2 ls2 (st2.map (xc ad)))) : W p l0 e R s m args below meth c H locs cells slots Q (F0 m pc ls (st.map (xc ad))) := by
  simp only [xs1] at h
  cases h
  exact lv_fconst1 hx hb hd (k _ hl (xok_push hk (h0 _)))
theorem xs_fconst2 {Lv : xV → Prop} {l l2 : xL} {st st2 : List xV} {nL pc2 : Nat} (h0 : ∀ v, Lv (.inl v)) (hx : p.tables.exec = Jvm.exec) (hb : c.code = cc) (hd : decode cc pc = .ok (.fconst 2, 1)) (hl : lv_has ls nL (xlm ad l)) (hk : xok Lv l st) (h : xs1 nL (.fconst 2) pc l st = some (pc2, l2, st2)) (k : ∀ ls2 : Array Slot, lv_has ls2 nL (xlm ad l2) → xok Lv l2 st2 → W p l0 e R s m args below meth c H locs cells slots Q (F0 m pc2 ls2 (st2.map (xc ad)))) : W p l0 e R s m args below meth c H locs cells slots Q (F0 m pc ls (st.map (xc ad))) := by
  simp only [xs1] at h
  cases h
  exact lv_fconst2 hx hb hd (k _ hl (xok_push hk (h0 _)))
theorem xs_dconst0 {Lv : xV → Prop} {l l2 : xL} {st st2 : List xV} {nL pc2 : Nat} (h0 : ∀ v, Lv (.inl v)) (hx : p.tables.exec = Jvm.exec) (hb : c.code = cc) (hd : decode cc pc = .ok (.dconst 0, 1)) (hl : lv_has ls nL (xlm ad l)) (hk : xok Lv l st) (h : xs1 nL (.dconst 0) pc l st = some (pc2, l2, st2)) (k : ∀ ls2 : Array Slot, lv_has ls2 nL (xlm ad l2) → xok Lv l2 st2 → W p l0 e R s m args below meth c H locs cells slots Q (F0 m pc2 ls2 (st2.map (xc ad)))) : W p l0 e R s m args below meth c H locs cells slots Q (F0 m pc ls (st.map (xc ad))) := by
  simp only [xs1] at h
  cases h
  exact lv_dconst0 hx hb hd (k _ hl (xok_push hk (h0 _)))
theorem xs_dconst1 {Lv : xV → Prop} {l l2 : xL} {st st2 : List xV} {nL pc2 : Nat} (h0 : ∀ v, Lv (.inl v)) (hx : p.tables.exec = Jvm.exec) (hb : c.code = cc) (hd : decode cc pc = .ok (.dconst 1, 1)) (hl : lv_has ls nL (xlm ad l)) (hk : xok Lv l st) (h : xs1 nL (.dconst 1) pc l st = some (pc2, l2, st2)) (k : ∀ ls2 : Array Slot, lv_has ls2 nL (xlm ad l2) → xok Lv l2 st2 → W p l0 e R s m args below meth c H locs cells slots Q (F0 m pc2 ls2 (st2.map (xc ad)))) : W p l0 e R s m args below meth c H locs cells slots Q (F0 m pc ls (st.map (xc ad))) := by
  simp only [xs1] at h
  cases h
  exact lv_dconst1 hx hb hd (k _ hl (xok_push hk (h0 _)))
theorem xs_iadd {Lv : xV → Prop} {l l2 : xL} {st st2 : List xV} {nL pc2 : Nat} (h0 : ∀ v, Lv (.inl v)) (hx : p.tables.exec = Jvm.exec) (hb : c.code = cc) (hd : decode cc pc = .ok (.iadd, 1)) (hl : lv_has ls nL (xlm ad l)) (hk : xok Lv l st) (h : xs1 nL (.iadd) pc l st = some (pc2, l2, st2)) (k : ∀ ls2 : Array Slot, lv_has ls2 nL (xlm ad l2) → xok Lv l2 st2 → W p l0 e R s m args below meth c H locs cells slots Q (F0 m pc2 ls2 (st2.map (xc ad)))) : W p l0 e R s m args below meth c H locs cells slots Q (F0 m pc ls (st.map (xc ad))) := by
  simp only [xs1] at h
  split at h
  next =>
    cases h
    exact lv_iadd hx hb hd (k _ hl (xok_push (xok_tl (xok_tl hk)) (h0 _)))
  next => cases h
theorem xs_isub {Lv : xV → Prop} {l l2 : xL} {st st2 : List xV} {nL pc2 : Nat} (h0 : ∀ v, Lv (.inl v)) (hx : p.tables.exec = Jvm.exec) (hb : c.code = cc) (hd : decode cc pc = .ok (.isub, 1)) (hl : lv_has ls nL (xlm ad l)) (hk : xok Lv l st) (h : xs1 nL (.isub) pc l st = some (pc2, l2, st2)) (k : ∀ ls2 : Array Slot, lv_has ls2 nL (xlm ad l2) → xok Lv l2 st2 → W p l0 e R s m args below meth c H locs cells slots Q (F0 m pc2 ls2 (st2.map (xc ad)))) : W p l0 e R s m args below meth c H locs cells slots Q (F0 m pc ls (st.map (xc ad))) := by
  simp only [xs1] at h
  split at h
  next =>
    cases h
    exact lv_isub hx hb hd (k _ hl (xok_push (xok_tl (xok_tl hk)) (h0 _)))
  next => cases h
theorem xs_imul {Lv : xV → Prop} {l l2 : xL} {st st2 : List xV} {nL pc2 : Nat} (h0 : ∀ v, Lv (.inl v)) (hx : p.tables.exec = Jvm.exec) (hb : c.code = cc) (hd : decode cc pc = .ok (.imul, 1)) (hl : lv_has ls nL (xlm ad l)) (hk : xok Lv l st) (h : xs1 nL (.imul) pc l st = some (pc2, l2, st2)) (k : ∀ ls2 : Array Slot, lv_has ls2 nL (xlm ad l2) → xok Lv l2 st2 → W p l0 e R s m args below meth c H locs cells slots Q (F0 m pc2 ls2 (st2.map (xc ad)))) : W p l0 e R s m args below meth c H locs cells slots Q (F0 m pc ls (st.map (xc ad))) := by
  simp only [xs1] at h
  split at h
  next =>
    cases h
    exact lv_imul hx hb hd (k _ hl (xok_push (xok_tl (xok_tl hk)) (h0 _)))
  next => cases h
theorem xs_iand {Lv : xV → Prop} {l l2 : xL} {st st2 : List xV} {nL pc2 : Nat} (h0 : ∀ v, Lv (.inl v)) (hx : p.tables.exec = Jvm.exec) (hb : c.code = cc) (hd : decode cc pc = .ok (.iand, 1)) (hl : lv_has ls nL (xlm ad l)) (hk : xok Lv l st) (h : xs1 nL (.iand) pc l st = some (pc2, l2, st2)) (k : ∀ ls2 : Array Slot, lv_has ls2 nL (xlm ad l2) → xok Lv l2 st2 → W p l0 e R s m args below meth c H locs cells slots Q (F0 m pc2 ls2 (st2.map (xc ad)))) : W p l0 e R s m args below meth c H locs cells slots Q (F0 m pc ls (st.map (xc ad))) := by
  simp only [xs1] at h
  split at h
  next =>
    cases h
    exact lv_iand hx hb hd (k _ hl (xok_push (xok_tl (xok_tl hk)) (h0 _)))
  next => cases h
theorem xs_ior {Lv : xV → Prop} {l l2 : xL} {st st2 : List xV} {nL pc2 : Nat} (h0 : ∀ v, Lv (.inl v)) (hx : p.tables.exec = Jvm.exec) (hb : c.code = cc) (hd : decode cc pc = .ok (.ior, 1)) (hl : lv_has ls nL (xlm ad l)) (hk : xok Lv l st) (h : xs1 nL (.ior) pc l st = some (pc2, l2, st2)) (k : ∀ ls2 : Array Slot, lv_has ls2 nL (xlm ad l2) → xok Lv l2 st2 → W p l0 e R s m args below meth c H locs cells slots Q (F0 m pc2 ls2 (st2.map (xc ad)))) : W p l0 e R s m args below meth c H locs cells slots Q (F0 m pc ls (st.map (xc ad))) := by
  simp only [xs1] at h
  split at h
  next =>
    cases h
    exact lv_ior hx hb hd (k _ hl (xok_push (xok_tl (xok_tl hk)) (h0 _)))
  next => cases h
theorem xs_ixor {Lv : xV → Prop} {l l2 : xL} {st st2 : List xV} {nL pc2 : Nat} (h0 : ∀ v, Lv (.inl v)) (hx : p.tables.exec = Jvm.exec) (hb : c.code = cc) (hd : decode cc pc = .ok (.ixor, 1)) (hl : lv_has ls nL (xlm ad l)) (hk : xok Lv l st) (h : xs1 nL (.ixor) pc l st = some (pc2, l2, st2)) (k : ∀ ls2 : Array Slot, lv_has ls2 nL (xlm ad l2) → xok Lv l2 st2 → W p l0 e R s m args below meth c H locs cells slots Q (F0 m pc2 ls2 (st2.map (xc ad)))) : W p l0 e R s m args below meth c H locs cells slots Q (F0 m pc ls (st.map (xc ad))) := by
  simp only [xs1] at h
  split at h
  next =>
    cases h
    exact lv_ixor hx hb hd (k _ hl (xok_push (xok_tl (xok_tl hk)) (h0 _)))
  next => cases h
theorem xs_ishl {Lv : xV → Prop} {l l2 : xL} {st st2 : List xV} {nL pc2 : Nat} (h0 : ∀ v, Lv (.inl v)) (hx : p.tables.exec = Jvm.exec) (hb : c.code = cc) (hd : decode cc pc = .ok (.ishl, 1)) (hl : lv_has ls nL (xlm ad l)) (hk : xok Lv l st) (h : xs1 nL (.ishl) pc l st = some (pc2, l2, st2)) (k : ∀ ls2 : Array Slot, lv_has ls2 nL (xlm ad l2) → xok Lv l2 st2 → W p l0 e R s m args below meth c H locs cells slots Q (F0 m pc2 ls2 (st2.map (xc ad)))) : W p l0 e R s m args below meth c H locs cells slots Q (F0 m pc ls (st.map (xc ad))) := by
  simp only [xs1] at h
  split at h
  next =>
    cases h
    exact lv_ishl hx hb hd (k _ hl (xok_push (xok_tl (xok_tl hk)) (h0 _)))
  next => cases h
theorem xs_ishr {Lv : xV → Prop} {l l2 : xL} {st st2 : List xV} {nL pc2 : Nat} (h0 : ∀ v, Lv (.inl v)) (hx : p.tables.exec = Jvm.exec) (hb : c.code = cc) (hd : decode cc pc = .ok (.ishr, 1)) (hl : lv_has ls nL (xlm ad l)) (hk : xok Lv l st) (h : xs1 nL (.ishr) pc l st = some (pc2, l2, st2)) (k : ∀ ls2 : Array Slot, lv_has ls2 nL (xlm ad l2) → xok Lv l2 st2 → W p l0 e R s m args below meth c H locs cells slots Q (F0 m pc2 ls2 (st2.map (xc ad)))) : W p l0 e R s m args below meth c H locs cells slots Q (F0 m pc ls (st.map (xc ad))) := by
  simp only [xs1] at h
  split at h
  next =>
    cases h
    exact lv_ishr hx hb hd (k _ hl (xok_push (xok_tl (xok_tl hk)) (h0 _)))
  next => cases h
theorem xs_iushr {Lv : xV → Prop} {l l2 : xL} {st st2 : List xV} {nL pc2 : Nat} (h0 : ∀ v, Lv (.inl v)) (hx : p.tables.exec = Jvm.exec) (hb : c.code = cc) (hd : decode cc pc = .ok (.iushr, 1)) (hl : lv_has ls nL (xlm ad l)) (hk : xok Lv l st) (h : xs1 nL (.iushr) pc l st = some (pc2, l2, st2)) (k : ∀ ls2 : Array Slot, lv_has ls2 nL (xlm ad l2) → xok Lv l2 st2 → W p l0 e R s m args below meth c H locs cells slots Q (F0 m pc2 ls2 (st2.map (xc ad)))) : W p l0 e R s m args below meth c H locs cells slots Q (F0 m pc ls (st.map (xc ad))) := by
  simp only [xs1] at h
  split at h
  next =>
    cases h
    exact lv_iushr hx hb hd rfl (k _ hl (xok_push (xok_tl (xok_tl hk)) (h0 _)))
  next => cases h
theorem xs_idiv {Lv : xV → Prop} {l l2 : xL} {st st2 : List xV} {nL pc2 : Nat} (h0 : ∀ v, Lv (.inl v)) (hx : p.tables.exec = Jvm.exec) (hb : c.code = cc) (hd : decode cc pc = .ok (.idiv, 1)) (hl : lv_has ls nL (xlm ad l)) (hk : xok Lv l st) (h : xs1 nL (.idiv) pc l st = some (pc2, l2, st2)) (k : ∀ ls2 : Array Slot, lv_has ls2 nL (xlm ad l2) → xok Lv l2 st2 → W p l0 e R s m args below meth c H locs cells slots Q (F0 m pc2 ls2 (st2.map (xc ad)))) : W p l0 e R s m args below meth c H locs cells slots Q (F0 m pc ls (st.map (xc ad))) := by
  simp only [xs1] at h
  split at h
  next =>
    split at h
    next hg =>
      cases h
      exact lv_idiv hx hb hd hg (k _ hl (xok_push (xok_tl (xok_tl hk)) (h0 _)))
    next => cases h
  next => cases h
theorem xs_irem {Lv : xV → Prop} {l l2 : xL} {st st2 : List xV} {nL pc2 : Nat} (h0 : ∀ v, Lv (.inl v)) (hx : p.tables.exec = Jvm.exec) (hb : c.code = cc) (hd : decode cc pc = .ok (.irem, 1)) (hl : lv_has ls nL (xlm ad l)) (hk : xok Lv l st) (h : xs1 nL (.irem) pc l st = some (pc2, l2, st2)) (k : ∀ ls2 : Array Slot, lv_has ls2 nL (xlm ad l2) → xok Lv l2 st2 → W p l0 e R s m args below meth c H locs cells slots Q (F0 m pc2 ls2 (st2.map (xc ad)))) : W p l0 e R s m args below meth c H locs cells slots Q (F0 m pc ls (st.map (xc ad))) := by
  simp only [xs1] at h
  split at h
  next =>
    split at h
    next hg =>
      cases h
      exact lv_irem hx hb hd hg (k _ hl (xok_push (xok_tl (xok_tl hk)) (h0 _)))
    next => cases h
  next => cases h
theorem xs_ineg {Lv : xV → Prop} {l l2 : xL} {st st2 : List xV} {nL pc2 : Nat} (h0 : ∀ v, Lv (.inl v)) (hx : p.tables.exec = Jvm.exec) (hb : c.code = cc) (hd : decode cc pc = .ok (.ineg, 1)) (hl : lv_has ls nL (xlm ad l)) (hk : xok Lv l st) (h : xs1 nL (.ineg) pc l st = some (pc2, l2, st2)) (k : ∀ ls2 : Array Slot, lv_has ls2 nL (xlm ad l2) → xok Lv l2 st2 → W p l0 e R s m args below meth c H locs cells slots Q (F0 m pc2 ls2 (st2.map (xc ad)))) : W p l0 e R s m args below meth c H locs cells slots Q (F0 m pc ls (st.map (xc ad))) := by
  simp only [xs1] at h
  split at h
  next =>
    cases h
    exact lv_ineg hx hb hd (k _ hl (xok_push (xok_tl hk) (h0 _)))
  next => cases h
theorem xs_ladd {Lv : xV → Prop} {l l2 : xL} {st st2 : List xV} {nL pc2 : Nat} (h0 : ∀ v, Lv (.inl v)) (hx : p.tables.exec = Jvm.exec) (hb : c.code = cc) (hd : decode cc pc = .ok (.ladd, 1)) (hl : lv_has ls nL (xlm ad l)) (hk : xok Lv l st) (h : xs1 nL (.ladd) pc l st = some (pc2, l2, st2)) (k : ∀ ls2 : Array Slot, lv_has ls2 nL (xlm ad l2) → xok Lv l2 st2 → W p l0 e R s m args below meth c H locs cells slots Q (F0 m pc2 ls2 (st2.map (xc ad)))) : W p l0 e R s m args below meth c H locs cells slots Q (F0 m pc ls (st.map (xc ad))) := by
  simp only [xs1] at h
  split at h
  next =>
    cases h
    exact lv_ladd hx hb hd (k _ hl (xok_push (xok_tl (xok_tl hk)) (h0 _)))
  next => cases h
theorem xs_lsub {Lv : xV → Prop} {l l2 : xL} {st st2 : List xV} {nL pc2 : Nat} (h0 : ∀ v, Lv (.inl v)) (hx : p.tables.exec = Jvm.exec) (hb : c.code = cc) (hd : decode cc pc = .ok (.lsub, 1)) (hl : lv_has ls nL (xlm ad l)) (hk : xok Lv l st) (h : xs1 nL (.lsub) pc l st = some (pc2, l2, st2)) (k : ∀ ls2 : Array Slot, lv_has ls2 nL (xlm ad l2) → xok Lv l2 st2 → W p l0 e R s m args below meth c H locs cells slots Q (F0 m pc2 ls2 (st2.map (xc ad)))) : W p l0 e R s m args below meth c H locs cells slots Q (F0 m pc ls (st.map (xc ad))) := by
  simp only [xs1] at h
  split at h
  next =>
    cases h
    exact lv_lsub hx hb hd (k _ hl (xok_push (xok_tl (xok_tl hk)) (h0 _)))
  next => cases h
theorem xs_lmul {Lv : xV → Prop} {l l2 : xL} {st st2 : List xV} {nL pc2 : Nat} (h0 : ∀ v, Lv (.inl v)) (hx : p.tables.exec = Jvm.exec) (hb : c.code = cc) (hd : decode cc pc = .ok (.lmul, 1)) (hl : lv_has ls nL (xlm ad l)) (hk : xok Lv l st) (h : xs1 nL (.lmul) pc l st = some (pc2, l2, st2)) (k : ∀ ls2 : Array Slot, lv_has ls2 nL (xlm ad l2) → xok Lv l2 st2 → W p l0 e R s m args below meth c H locs cells slots Q (F0 m pc2 ls2 (st2.map (xc ad)))) : W p l0 e R s m args below meth c H locs cells slots Q (F0 m pc ls (st.map (xc ad))) := by
  simp only [xs1] at h
  split at h
  next =>
    cases h
    exact lv_lmul hx hb hd (k _ hl (xok_push (xok_tl (xok_tl hk)) (h0 _)))
  next => cases h
theorem xs_land {Lv : xV → Prop} {l l2 : xL} {st st2 : List xV} {nL pc2 : Nat} (h0 : ∀ v, Lv (.inl v)) (hx : p.tables.exec = Jvm.exec) (hb : c.code = cc) (hd : decode cc pc = .ok (.land, 1)) (hl : lv_has ls nL (xlm ad l)) (hk : xok Lv l st) (h : xs1 nL (.land) pc l st = some (pc2, l2, st2)) (k : ∀ ls2 : Array Slot, lv_has ls2 nL (xlm ad l2) → xok Lv l2 st2 → W p l0 e R s m args below meth c H locs cells slots Q (F0 m pc2 ls2 (st2.map (xc ad)))) : W p l0 e R s m args below meth c H locs cells slots Q (F0 m pc ls (st.map (xc ad))) := by
  simp only [xs1] at h
  split at h
  next =>
    cases h
    exact lv_land hx hb hd (k _ hl (xok_push (xok_tl (xok_tl hk)) (h0 _)))
  next => cases h
theorem xs_lor {Lv : xV → Prop} {l l2 : xL} {st st2 : List xV} {nL pc2 : Nat} (h0 : ∀ v, Lv (.inl v)) (hx : p.tables.exec = Jvm.exec) (hb : c.code = cc) (hd : decode cc pc = .ok (.lor, 1)) (hl : lv_has ls nL (xlm ad l)) (hk : xok Lv l st) (h : xs1 nL (.lor) pc l st = some (pc2, l2, st2)) (k : ∀ ls2 : Array Slot, lv_has ls2 nL (xlm ad l2) → xok Lv l2 st2 → W p l0 e R s m args below meth c H locs cells slots Q (F0 m pc2 ls2 (st2.map (xc ad)))) : W p l0 e R s m args below meth c H locs cells slots Q (F0 m pc ls (st.map (xc ad))) := by
  simp only [xs1] at h
  split at h
  next =>
    cases h
    exact lv_lor hx hb hd (k _ hl (xok_push (xok_tl (xok_tl hk)) (h0 _)))
  next => cases h
theorem xs_lxor {Lv : xV → Prop} {l l2 : xL} {st st2 : List xV} {nL pc2 : Nat} (h0 : ∀ v, Lv (.inl v)) (hx : p.tables.exec = Jvm.exec) (hb : c.code = cc) (hd : decode cc pc = .ok (.lxor, 1)) (hl : lv_has ls nL (xlm ad l)) (hk : xok Lv l st) (h : xs1 nL (.lxor) pc l st = some (pc2, l2, st2)) (k : ∀ ls2 : Array Slot, lv_has ls2 nL (xlm ad l2) → xok Lv l2 st2 → W p l0 e R s m args below meth c H locs cells slots Q (F0 m pc2 ls2 (st2.map (xc ad)))) : W p l0 e R s m args below meth c H locs cells slots Q (F0 m pc ls (st.map (xc ad))) := by
  simp only [xs1] at h
  split at h
  next =>
    cases h
    exact lv_lxor hx hb hd (k _ hl (xok_push (xok_tl (xok_tl hk)) (h0 _)))
  next => cases h
theorem xs_ldiv {Lv : xV → Prop} {l l2 : xL} {st st2 : List xV} {nL pc2 : Nat} (h0 : ∀ v, Lv (.inl v)) (hx : p.tables.exec = Jvm.exec) (hb : c.code = cc) (hd : decode cc pc = .ok (.ldiv, 1)) (hl : lv_has ls nL (xlm ad l)) (hk : xok Lv l st) (h : xs1 nL (.ldiv) pc l st = some (pc2, l2, st2)) (k : ∀ ls2 : Array Slot, lv_has ls2 nL (xlm ad l2) → xok Lv l2 st2 → W p l0 e R s m args below meth c H locs cells slots Q (F0 m pc2 ls2 (st2.map (xc ad)))) : W p l0 e R s m args below meth c H locs cells slots Q (F0 m pc ls (st.map (xc ad))) := by
  simp only [xs1] at h
  split at h
  next =>
    split at h
    next hg =>
      cases h
      exact lv_ldiv hx hb hd hg (k _ hl (xok_push (xok_tl (xok_tl hk)) (h0 _)))
    next => cases h
  next => cases h
theorem xs_lrem {Lv : xV → Prop} {l l2 : xL} {st st2 : List xV} {nL pc2 : Nat} (h0 : ∀ v, Lv (.inl v)) (hx : p.tables.exec = Jvm.exec) (hb : c.code = cc) (hd : decode cc pc = .ok (.lrem, 1)) (hl : lv_has ls nL (xlm ad l)) (hk : xok Lv l st) (h : xs1 nL (.lrem) pc l st = some (pc2, l2, st2)) (k : ∀ ls2 : Array Slot, lv_has ls2 nL (xlm ad l2) → xok Lv l2 st2 → W p l0 e R s m args below meth c H locs cells slots Q (F0 m pc2 ls2 (st2.map (xc ad)))) : W p l0 e R s m args below meth c H locs cells slots Q (F0 m pc ls (st.map (xc ad))) := by
  simp only [xs1] at h
  split at h
  next =>
    split at h
    next hg =>
      cases h
      exact lv_lrem hx hb hd hg (k _ hl (xok_push (xok_tl (xok_tl hk)) (h0 _)))
    next => cases h
  next => cases h
theorem xs_lneg {Lv : xV → Prop} {l l2 : xL} {st st2 : List xV} {nL pc2 : Nat} (h0 : ∀ v, Lv (.inl v)) (hx : p.tables.exec = Jvm.exec) (hb : c.code = cc) (hd : decode cc pc = .ok (.lneg, 1)) (hl : lv_has ls nL (xlm ad l)) (hk : xok Lv l st) (h : xs1 nL (.lneg) pc l st = some (pc2, l2, st2)) (k : ∀ ls2 : Array Slot, lv_has ls2 nL (xlm ad l2) → xok Lv l2 st2 → W p l0 e R s m args below meth c H locs cells slots Q (F0 m pc2 ls2 (st2.map (xc ad)))) : W p l0 e R s m args below meth c H locs cells slots Q (F0 m pc ls (st.map (xc ad))) := by
  simp only [xs1] at h
  split at h
  next =>
    cases h
    exact lv_lneg hx hb hd (k _ hl (xok_push (xok_tl hk) (h0 _)))
  next => cases h
theorem xs_lcmp {Lv : xV → Prop} {l l2 : xL} {st st2 : List xV} {nL pc2 : Nat} (h0 : ∀ v, Lv (.inl v)) (hx : p.tables.exec = Jvm.exec) (hb : c.code = cc) (hd : decode cc pc = .ok (.lcmp, 1)) (hl : lv_has ls nL (xlm ad l)) (hk : xok Lv l st) (h : xs1 nL (.lcmp) pc l st = some (pc2, l2, st2)) (k : ∀ ls2 : Array Slot, lv_has ls2 nL (xlm ad l2) → xok Lv l2 st2 → W p l0 e R s m args below meth c H locs cells slots Q (F0 m pc2 ls2 (st2.map (xc ad)))) : W p l0 e R s m args below meth c H locs cells slots Q (F0 m pc ls (st.map (xc ad))) := by
  simp only [xs1] at h
  split at h
  next =>
    cases h
    exact W.lcmp hx hb hd (k _ hl (xok_push (xok_tl (xok_tl hk)) (h0 _)))
  next => cases h
theorem xs_lshl {Lv : xV → Prop} {l l2 : xL} {st st2 : List xV} {nL pc2 : Nat} (h0 : ∀ v, Lv (.inl v)) (hx : p.tables.exec = Jvm.exec) (hb : c.code = cc) (hd : decode cc pc = .ok (.lshl, 1)) (hl : lv_has ls nL (xlm ad l)) (hk : xok Lv l st) (h : xs1 nL (.lshl) pc l st = some (pc2, l2, st2)) (k : ∀ ls2 : Array Slot, lv_has ls2 nL (xlm ad l2) → xok Lv l2 st2 → W p l0 e R s m args below meth c H locs cells slots Q (F0 m pc2 ls2 (st2.map (xc ad)))) : W p l0 e R s m args below meth c H locs cells slots Q (F0 m pc ls (st.map (xc ad))) := by
  simp only [xs1] at h
  split at h
  next =>
    cases h
    exact lv_lshl hx hb hd rfl (k _ hl (xok_push (xok_tl (xok_tl hk)) (h0 _)))
  next => cases h
theorem xs_lshr {Lv : xV → Prop} {l l2 : xL} {st st2 : List xV} {nL pc2 : Nat} (h0 : ∀ v, Lv (.inl v)) (hx : p.tables.exec = Jvm.exec) (hb : c.code = cc) (hd : decode cc pc = .ok (.lshr, 1)) (hl : lv_has ls nL (xlm ad l)) (hk : xok Lv l st) (h : xs1 nL (.lshr) pc l st = some (pc2, l2, st2)) (k : ∀ ls2 : Array Slot, lv_has ls2 nL (xlm ad l2) → xok Lv l2 st2 → W p l0 e R s m args below meth c H locs cells slots Q (F0 m pc2 ls2 (st2.map (xc ad)))) : W p l0 e R s m args below meth c H locs cells slots Q (F0 m pc ls (st.map (xc ad))) := by
  simp only [xs1] at h
  split at h
  next =>
    cases h
    exact lv_lshr hx hb hd rfl (k _ hl (xok_push (xok_tl (xok_tl hk)) (h0 _)))
  next => cases h
theorem xs_lushr {Lv : xV → Prop} {l l2 : xL} {st st2 : List xV} {nL pc2 : Nat} (h0 : ∀ v, Lv (.inl v)) (hx : p.tables.exec = Jvm.exec) (hb : c.code = cc) (hd : decode cc pc = .ok (.lushr, 1)) (hl : lv_has ls nL (xlm ad l)) (hk : xok Lv l st) (h : xs1 nL (.lushr) pc l st = some (pc2, l2, st2)) (k : ∀ ls2 : Array Slot, lv_has ls2 nL (xlm ad l2) → xok Lv l2 st2 → W p l0 e R s m args below meth c H locs cells slots Q (F0 m pc2 ls2 (st2.map (xc ad)))) : W p l0 e R s m args below meth c H locs cells slots Q (F0 m pc ls (st.map (xc ad))) := by
  simp only [xs1] at h
  split at h
  next =>
    cases h
    exact lv_lushr hx hb hd rfl (k _ hl (xok_push (xok_tl (xok_tl hk)) (h0 _)))
  next => cases h
theorem xs_i2l {Lv : xV → Prop} {l l2 : xL} {st st2 : List xV} {nL pc2 : Nat} (h0 : ∀ v, Lv (.inl v)) (hx : p.tables.exec = Jvm.exec) (hb : c.code = cc) (hd : decode cc pc = .ok (.i2l, 1)) (hl : lv_has ls nL (xlm ad l)) (hk : xok Lv l st) (h : xs1 nL (.i2l) pc l st = some (pc2, l2, st2)) (k : ∀ ls2 : Array Slot, lv_has ls2 nL (xlm ad l2) → xok Lv l2 st2 → W p l0 e R s m args below meth c H locs cells slots Q (F0 m pc2 ls2 (st2.map (xc ad)))) : W p l0 e R s m args below meth c H locs cells slots Q (F0 m pc ls (st.map (xc ad))) := by
  simp only [xs1] at h
  split at h
  next =>
    cases h
    exact lv_i2l hx hb hd rfl (k _ hl (xok_push (xok_tl hk) (h0 _)))
  next => cases h
theorem xs_l2i {Lv : xV → Prop} {l l2 : xL} {st st2 : List xV} {nL pc2 : Nat} (h0 : ∀ v, Lv (.inl v)) (hx : p.tables.exec = Jvm.exec) (hb : c.code = cc) (hd : decode cc pc = .ok (.l2i, 1)) (hl : lv_has ls nL (xlm ad l)) (hk : xok Lv l st) (h : xs1 nL (.l2i) pc l st = some (pc2, l2, st2)) (k : ∀ ls2 : Array Slot, lv_has ls2 nL (xlm ad l2) → xok Lv l2 st2 → W p l0 e R s m args below meth c H locs cells slots Q (F0 m pc2 ls2 (st2.map (xc ad)))) : W p l0 e R s m args below meth c H locs cells slots Q (F0 m pc ls (st.map (xc ad))) := by
  simp only [xs1] at h
  split at h
  next =>
    cases h
    exact lv_l2i hx hb hd rfl (k _ hl (xok_push (xok_tl hk) (h0 _)))
  next => cases h
theorem xs_i2b {Lv : xV → Prop} {l l2 : xL} {st st2 : List xV} {nL pc2 : Nat} (h0 : ∀ v, Lv (.inl v)) (hx : p.tables.exec = Jvm.exec) (hb : c.code = cc) (hd : decode cc pc = .ok (.i2b, 1)) (hl : lv_has ls nL (xlm ad l)) (hk : xok Lv l st) (h : xs1 nL (.i2b) pc l st = some (pc2, l2, st2)) (k : ∀ ls2 : Array Slot, lv_has ls2 nL (xlm ad l2) → xok Lv l2 st2 → W p l0 e R s m args below meth c H locs cells slots Q (F0 m pc2 ls2 (st2.map (xc ad)))) : W p l0 e R s m args below meth c H locs cells slots Q (F0 m pc ls (st.map (xc ad))) := by
  simp only [xs1] at h
  split at h
  next =>
    cases h
    exact lv_i2b hx hb hd rfl (k _ hl (xok_push (xok_tl hk) (h0 _)))
  next => cases h
theorem xs_i2s {Lv : xV → Prop} {l l2 : xL} {st st2 : List xV} {nL pc2 : Nat} (h0 : ∀ v, Lv (.inl v)) (hx : p.tables.exec = Jvm.exec) (hb : c.code = cc) (hd : decode cc pc = .ok (.i2s, 1)) (hl : lv_has ls nL (xlm ad l)) (hk : xok Lv l st) (h : xs1 nL (.i2s) pc l st = some (pc2, l2, st2)) (k : ∀ ls2 : Array Slot, lv_has ls2 nL (xlm ad l2) → xok Lv l2 st2 → W p l0 e R s m args below meth c H locs cells slots Q (F0 m pc2 ls2 (st2.map (xc ad)))) : W p l0 e R s m args below meth c H locs cells slots Q (F0 m pc ls (st.map (xc ad))) := by
  simp only [xs1] at h
  split at h
  next =>
    cases h
    exact lv_i2s hx hb hd rfl (k _ hl (xok_push (xok_tl hk) (h0 _)))
  next => cases h
theorem xs_i2c {Lv : xV → Prop} {l l2 : xL} {st st2 : List xV} {nL pc2 : Nat} (h0 : ∀ v, Lv (.inl v)) (hx : p.tables.exec = Jvm.exec) (hb : c.code = cc) (hd : decode cc pc = .ok (.i2c, 1)) (hl : lv_has ls nL (xlm ad l)) (hk : xok Lv l st) (h : xs1 nL (.i2c) pc l st = some (pc2, l2, st2)) (k : ∀ ls2 : Array Slot, lv_has ls2 nL (xlm ad l2) → xok Lv l2 st2 → W p l0 e R s m args below meth c H locs cells slots Q (F0 m pc2 ls2 (st2.map (xc ad)))) : W p l0 e R s m args below meth c H locs cells slots Q (F0 m pc ls (st.map (xc ad))) := by
  simp only [xs1] at h
  split at h
  next =>
    cases h
    exact lv_i2c hx hb hd rfl (k _ hl (xok_push (xok_tl hk) (h0 _)))
  next => cases h
theorem xs_fadd {Lv : xV → Prop} {l l2 : xL} {st st2 : List xV} {nL pc2 : Nat} (h0 : ∀ v, Lv (.inl v)) (hx : p.tables.exec = Jvm.exec) (hb : c.code = cc) (hd : decode cc pc = .ok (.fadd, 1)) (hl : lv_has ls nL (xlm ad l)) (hk : xok Lv l st) (h : xs1 nL (.fadd) pc l st = some (pc2, l2, st2)) (k : ∀ ls2 : Array Slot, lv_has ls2 nL (xlm ad l2) → xok Lv l2 st2 → W p l0 e R s m args below meth c H locs cells slots Q (F0 m pc2 ls2 (st2.map (xc ad)))) : W p l0 e R s m args below meth c H locs cells slots Q (F0 m pc ls (st.map (xc ad))) := by
  simp only [xs1] at h
  split at h
  next =>
    split at h
    next hg =>
      cases h
      exact lv_fadd hx hb hd hg (k _ hl (xok_push (xok_tl (xok_tl hk)) (h0 _)))
    next => cases h
  next => cases h
theorem xs_fsub {Lv : xV → Prop} {l l2 : xL} {st st2 : List xV} {nL pc2 : Nat} (h0 : ∀ v, Lv (.inl v)) (hx : p.tables.exec = Jvm.exec) (hb : c.code = cc) (hd : decode cc pc = .ok (.fsub, 1)) (hl : lv_has ls nL (xlm ad l)) (hk : xok Lv l st) (h : xs1 nL (.fsub) pc l st = some (pc2, l2, st2)) (k : ∀ ls2 : Array Slot, lv_has ls2 nL (xlm ad l2) → xok Lv l2 st2 → W p l0 e R s m args below meth c H locs cells slots Q (F0 m pc2 ls2 (st2.map (xc ad)))) : W p l0 e R s m args below meth c H locs cells slots Q (F0 m pc ls (st.map (xc ad))) := by
  simp only [xs1] at h
  split at h
  next =>
    split at h
    next hg =>
      cases h
      exact lv_fsub hx hb hd hg (k _ hl (xok_push (xok_tl (xok_tl hk)) (h0 _)))
    next => cases h
  next => cases h
theorem xs_fmul {Lv : xV → Prop} {l l2 : xL} {st st2 : List xV} {nL pc2 : Nat} (h0 : ∀ v, Lv (.inl v)) (hx : p.tables.exec = Jvm.exec) (hb : c.code = cc) (hd : decode cc pc = .ok (.fmul, 1)) (hl : lv_has ls nL (xlm ad l)) (hk : xok Lv l st) (h : xs1 nL (.fmul) pc l st = some (pc2, l2, st2)) (k : ∀ ls2 : Array Slot, lv_has ls2 nL (xlm ad l2) → xok Lv l2 st2 → W p l0 e R s m args below meth c H locs cells slots Q (F0 m pc2 ls2 (st2.map (xc ad)))) : W p l0 e R s m args below meth c H locs cells slots Q (F0 m pc ls (st.map (xc ad))) := by
  simp only [xs1] at h
  split at h
  next =>
    split at h
    next hg =>
      cases h
      exact lv_fmul hx hb hd hg (k _ hl (xok_push (xok_tl (xok_tl hk)) (h0 _)))
    next => cases h
  next => cases h
theorem xs_fdiv {Lv : xV → Prop} {l l2 : xL} {st st2 : List xV} {nL pc2 : Nat} (h0 : ∀ v, Lv (.inl v)) (hx : p.tables.exec = Jvm.exec) (hb : c.code = cc) (hd : decode cc pc = .ok (.fdiv, 1)) (hl : lv_has ls nL (xlm ad l)) (hk : xok Lv l st) (h : xs1 nL (.fdiv) pc l st = some (pc2, l2, st2)) (k : ∀ ls2 : Array Slot, lv_has ls2 nL (xlm ad l2) → xok Lv l2 st2 → W p l0 e R s m args below meth c H locs cells slots Q (F0 m pc2 ls2 (st2.map (xc ad)))) : W p l0 e R s m args below meth c H locs cells slots Q (F0 m pc ls (st.map (xc ad))) := by
  simp only [xs1] at h
  split at h
  next =>
    split at h
    next hg =>
      cases h
      exact lv_fdiv hx hb hd hg (k _ hl (xok_push (xok_tl (xok_tl hk)) (h0 _)))
    next => cases h
  next => cases h
theorem xs_frem {Lv : xV → Prop} {l l2 : xL} {st st2 : List xV} {nL pc2 : Nat} (h0 : ∀ v, Lv (.inl v)) (hx : p.tables.exec = Jvm.exec) (hb : c.code = cc) (hd : decode cc pc = .ok (.frem, 1)) (hl : lv_has ls nL (xlm ad l)) (hk : xok Lv l st) (h : xs1 nL (.frem) pc l st = some (pc2, l2, st2)) (k : ∀ ls2 : Array Slot, lv_has ls2 nL (xlm ad l2) → xok Lv l2 st2 → W p l0 e R s m args below meth c H locs cells slots Q (F0 m pc2 ls2 (st2.map (xc ad)))) : W p l0 e R s m args below meth c H locs cells slots Q (F0 m pc ls (st.map (xc ad))) := by
  simp only [xs1] at h
  split at h
  next =>
    split at h
    next hg =>
      cases h
      exact lv_frem hx hb hd hg (k _ hl (xok_push (xok_tl (xok_tl hk)) (h0 _)))
    next => cases h
  next => cases h
theorem xs_dadd {Lv : xV → Prop} {l l2 : xL} {st st2 : List xV} {nL pc2 : Nat} (h0 : ∀ v, Lv (.inl v)) (hx : p.tables.exec = Jvm.exec) (hb : c.code = cc) (hd : decode cc pc = .ok (.dadd, 1)) (hl : lv_has ls nL (xlm ad l)) (hk : xok Lv l st) (h : xs1 nL (.dadd) pc l st = some (pc2, l2, st2)) (k : ∀ ls2 : Array Slot, lv_has ls2 nL (xlm ad l2) → xok Lv l2 st2 → W p l0 e R s m args below meth c H locs cells slots Q (F0 m pc2 ls2 (st2.map (xc ad)))) : W p l0 e R s m args below meth c H locs cells slots Q (F0 m pc ls (st.map (xc ad))) := by
  simp only [xs1] at h
  split at h
  next =>
    split at h
    next hg =>
      cases h
      exact lv_dadd hx hb hd hg (k _ hl (xok_push (xok_tl (xok_tl hk)) (h0 _)))
    next => cases h
  next => cases h
theorem xs_dsub {Lv : xV → Prop} {l l2 : xL} {st st2 : List xV} {nL pc2 : Nat} (h0 : ∀ v, Lv (.inl v)) (hx : p.tables.exec = Jvm.exec) (hb : c.code = cc) (hd : decode cc pc = .ok (.dsub, 1)) (hl : lv_has ls nL (xlm ad l)) (hk : xok Lv l st) (h : xs1 nL (.dsub) pc l st = some (pc2, l2, st2)) (k : ∀ ls2 : Array Slot, lv_has ls2 nL (xlm ad l2) → xok Lv l2 st2 → W p l0 e R s m args below meth c H locs cells slots Q (F0 m pc2 ls2 (st2.map (xc ad)))) : W p l0 e R s m args below meth c H locs cells slots Q (F0 m pc ls (st.map (xc ad))) := by
  simp only [xs1] at h
  split at h
  next =>
    split at h
    next hg =>
      cases h
      exact lv_dsub hx hb hd hg (k _ hl (xok_push (xok_tl (xok_tl hk)) (h0 _)))
    next => cases h
  next => cases h
theorem xs_dmul {Lv : xV → Prop} {l l2 : xL} {st st2 : List xV} {nL pc2 : Nat} (h0 : ∀ v, Lv (.inl v)) (hx : p.tables.exec = Jvm.exec) (hb : c.code = cc) (hd : decode cc pc = .ok (.dmul, 1)) (hl : lv_has ls nL (xlm ad l)) (hk : xok Lv l st) (h : xs1 nL (.dmul) pc l st = some (pc2, l2, st2)) (k : ∀ ls2 : Array Slot, lv_has ls2 nL (xlm ad l2) → xok Lv l2 st2 → W p l0 e R s m args below meth c H locs cells slots Q (F0 m pc2 ls2 (st2.map (xc ad)))) : W p l0 e R s m args below meth c H locs cells slots Q (F0 m pc ls (st.map (xc ad))) := by
  simp only [xs1] at h
  split at h
  next =>
    split at h
    next hg =>
      cases h
      exact lv_dmul hx hb hd hg (k _ hl (xok_push (xok_tl (xok_tl hk)) (h0 _)))
    next => cases h
  next => cases h
theorem xs_ddiv {Lv : xV → Prop} {l l2 : xL} {st st2 : List xV} {nL pc2 : Nat} (h0 : ∀ v, Lv (.inl v)) (hx : p.tables.exec = Jvm.exec) (hb : c.code = cc) (hd : decode cc pc = .ok (.ddiv, 1)) (hl : lv_has ls nL (xlm ad l)) (hk : xok Lv l st) (h : xs1 nL (.ddiv) pc l st = some (pc2, l2, st2)) (k : ∀ ls2 : Array Slot, lv_has ls2 nL (xlm ad l2) → xok Lv l2 st2 → W p l0 e R s m args below meth c H locs cells slots Q (F0 m pc2 ls2 (st2.map (xc ad)))) : W p l0 e R s m args below meth c H locs cells slots Q (F0 m pc ls (st.map (xc ad))) := by
  simp only [xs1] at h
  split at h
  next =>
    split at h
    next hg =>
      cases h
      exact lv_ddiv hx hb hd hg (k _ hl (xok_push (xok_tl (xok_tl hk)) (h0 _)))
    next => cases h
  next => cases h
theorem xs_drem {Lv : xV → Prop} {l l2 : xL} {st st2 : List xV} {nL pc2 : Nat} (h0 : ∀ v, Lv (.inl v)) (hx : p.tables.exec = Jvm.exec) (hb : c.code = cc) (hd : decode cc pc = .ok (.drem, 1)) (hl : lv_has ls nL (xlm ad l)) (hk : xok Lv l st) (h : xs1 nL (.drem) pc l st = some (pc2, l2, st2)) (k : ∀ ls2 : Array Slot, lv_has ls2 nL (xlm ad l2) → xok Lv l2 st2 → W p l0 e R s m args below meth c H locs cells slots Q (F0 m pc2 ls2 (st2.map (xc ad)))) : W p l0 e R s m args below meth c H locs cells slots Q (F0 m pc ls (st.map (xc ad))) := by
  simp only [xs1] at h
  split at h
  next =>
    split at h
    next hg =>
      cases h
      exact lv_drem hx hb hd hg (k _ hl (xok_push (xok_tl (xok_tl hk)) (h0 _)))
    next => cases h
  next => cases h
theorem xs_fneg {Lv : xV → Prop} {l l2 : xL} {st st2 : List xV} {nL pc2 : Nat} (h0 : ∀ v, Lv (.inl v)) (hx : p.tables.exec = Jvm.exec) (hb : c.code = cc) (hd : decode cc pc = .ok (.fneg, 1)) (hl : lv_has ls nL (xlm ad l)) (hk : xok Lv l st) (h : xs1 nL (.fneg) pc l st = some (pc2, l2, st2)) (k : ∀ ls2 : Array Slot, lv_has ls2 nL (xlm ad l2) → xok Lv l2 st2 → W p l0 e R s m args below meth c H locs cells slots Q (F0 m pc2 ls2 (st2.map (xc ad)))) : W p l0 e R s m args below meth c H locs cells slots Q (F0 m pc ls (st.map (xc ad))) := by
  simp only [xs1] at h
  split at h
  next =>
    cases h
    exact lv_fneg hx hb hd (k _ hl (xok_push (xok_tl hk) (h0 _)))
  next => cases h
theorem xs_dneg {Lv : xV → Prop} {l l2 : xL} {st st2 : List xV} {nL pc2 : Nat} (h0 : ∀ v, Lv (.inl v)) (hx : p.tables.exec = Jvm.exec) (hb : c.code = cc) (hd : decode cc pc = .ok (.dneg, 1)) (hl : lv_has ls nL (xlm ad l)) (hk : xok Lv l st) (h : xs1 nL (.dneg) pc l st = some (pc2, l2, st2)) (k : ∀ ls2 : Array Slot, lv_has ls2 nL (xlm ad l2) → xok Lv l2 st2 → W p l0 e R s m args below meth c H locs cells slots Q (F0 m pc2 ls2 (st2.map (xc ad)))) : W p l0 e R s m args below meth c H locs cells slots Q (F0 m pc ls (st.map (xc ad))) := by
  simp only [xs1] at h
  split at h
  next =>
    cases h
    exact lv_dneg hx hb hd (k _ hl (xok_push (xok_tl hk) (h0 _)))
  next => cases h
theorem xs_fcmp {Lv : xV → Prop} {l l2 : xL} {st st2 : List xV} {nL pc2 : Nat} (h0 : ∀ v, Lv (.inl v)) (hx : p.tables.exec = Jvm.exec) (hb : c.code = cc) {o : CmpOp} (hd : decode cc pc = .ok (.fcmp o, 1)) (hl : lv_has ls nL (xlm ad l)) (hk : xok Lv l st) (h : xs1 nL (.fcmp o) pc l st = some (pc2, l2, st2)) (k : ∀ ls2 : Array Slot, lv_has ls2 nL (xlm ad l2) → xok Lv l2 st2 → W p l0 e R s m args below meth c H locs cells slots Q (F0 m pc2 ls2 (st2.map (xc ad)))) : W p l0 e R s m args below meth c H locs cells slots Q (F0 m pc ls (st.map (xc ad))) := by
  simp only [xs1] at h
  split at h
  next =>
    cases h
    exact lv_fcmp hx hb hd (k _ hl (xok_push (xok_tl (xok_tl hk)) (h0 _)))
  next => cases h
theorem xs_dcmp {Lv : xV → Prop} {l l2 : xL} {st st2 : List xV} {nL pc2 : Nat} (h0 : ∀ v, Lv (.inl v)) (hx : p.tables.exec = Jvm.exec) (hb : c.code = cc) {o : CmpOp} (hd : decode cc pc = .ok (.dcmp o, 1)) (hl : lv_has ls nL (xlm ad l)) (hk : xok Lv l st) (h : xs1 nL (.dcmp o) pc l st = some (pc2, l2, st2)) (k : ∀ ls2 : Array Slot, lv_has ls2 nL (xlm ad l2) → xok Lv l2 st2 → W p l0 e R s m args below meth c H locs cells slots Q (F0 m pc2 ls2 (st2.map (xc ad)))) : W p l0 e R s m args below meth c H locs cells slots Q (F0 m pc ls (st.map (xc ad))) := by
  simp only [xs1] at h
  split at h
  next =>
    cases h
    exact lv_dcmp hx hb hd (k _ hl (xok_push (xok_tl (xok_tl hk)) (h0 _)))
  next => cases h
theorem xs_i2f {Lv : xV → Prop} {l l2 : xL} {st st2 : List xV} {nL pc2 : Nat} (h0 : ∀ v, Lv (.inl v)) (hx : p.tables.exec = Jvm.exec) (hb : c.code = cc) (hd : decode cc pc = .ok (.i2f, 1)) (hl : lv_has ls nL (xlm ad l)) (hk : xok Lv l st) (h : xs1 nL (.i2f) pc l st = some (pc2, l2, st2)) (k : ∀ ls2 : Array Slot, lv_has ls2 nL (xlm ad l2) → xok Lv l2 st2 → W p l0 e R s m args below meth c H locs cells slots Q (F0 m pc2 ls2 (st2.map (xc ad)))) : W p l0 e R s m args below meth c H locs cells slots Q (F0 m pc ls (st.map (xc ad))) := by
  simp only [xs1] at h
  split at h
  next =>
    cases h
    exact lv_i2f hx hb hd (k _ hl (xok_push (xok_tl hk) (h0 _)))
  next => cases h
theorem xs_l2f {Lv : xV → Prop} {l l2 : xL} {st st2 : List xV} {nL pc2 : Nat} (h0 : ∀ v, Lv (.inl v)) (hx : p.tables.exec = Jvm.exec) (hb : c.code = cc) (hd : decode cc pc = .ok (.l2f, 1)) (hl : lv_has ls nL (xlm ad l)) (hk : xok Lv l st) (h : xs1 nL (.l2f) pc l st = some (pc2, l2, st2)) (k : ∀ ls2 : Array Slot, lv_has ls2 nL (xlm ad l2) → xok Lv l2 st2 → W p l0 e R s m args below meth c H locs cells slots Q (F0 m pc2 ls2 (st2.map (xc ad)))) : W p l0 e R s m args below meth c H locs cells slots Q (F0 m pc ls (st.map (xc ad))) := by
  simp only [xs1] at h
  split at h
  next =>
    cases h
    exact lv_l2f hx hb hd (k _ hl (xok_push (xok_tl hk) (h0 _)))
  next => cases h
theorem xs_f2i {Lv : xV → Prop} {l l2 : xL} {st st2 : List xV} {nL pc2 : Nat} (h0 : ∀ v, Lv (.inl v)) (hx : p.tables.exec = Jvm.exec) (hb : c.code = cc) (hd : decode cc pc = .ok (.f2i, 1)) (hl : lv_has ls nL (xlm ad l)) (hk : xok Lv l st) (h : xs1 nL (.f2i) pc l st = some (pc2, l2, st2)) (k : ∀ ls2 : Array Slot, lv_has ls2 nL (xlm ad l2) → xok Lv l2 st2 → W p l0 e R s m args below meth c H locs cells slots Q (F0 m pc2 ls2 (st2.map (xc ad)))) : W p l0 e R s m args below meth c H locs cells slots Q (F0 m pc ls (st.map (xc ad))) := by
  simp only [xs1] at h
  split at h
  next =>
    cases h
    exact lv_f2i hx hb hd (k _ hl (xok_push (xok_tl hk) (h0 _)))
  next => cases h
theorem xs_f2l {Lv : xV → Prop} {l l2 : xL} {st st2 : List xV} {nL pc2 : Nat} (h0 : ∀ v, Lv (.inl v)) (hx : p.tables.exec = Jvm.exec) (hb : c.code = cc) (hd : decode cc pc = .ok (.f2l, 1)) (hl : lv_has ls nL (xlm ad l)) (hk : xok Lv l st) (h : xs1 nL (.f2l) pc l st = some (pc2, l2, st2)) (k : ∀ ls2 : Array Slot, lv_has ls2 nL (xlm ad l2) → xok Lv l2 st2 → W p l0 e R s m args below meth c H locs cells slots Q (F0 m pc2 ls2 (st2.map (xc ad)))) : W p l0 e R s m args below meth c H locs cells slots Q (F0 m pc ls (st.map (xc ad))) := by
  simp only [xs1] at h
  split at h
  next =>
    cases h
    exact lv_f2l hx hb hd (k _ hl (xok_push (xok_tl hk) (h0 _)))
  next => cases h
theorem xs_i2d {Lv : xV → Prop} {l l2 : xL} {st st2 : List xV} {nL pc2 : Nat} (h0 : ∀ v, Lv (.inl v)) (hx : p.tables.exec = Jvm.exec) (hb : c.code = cc) (hd : decode cc pc = .ok (.i2d, 1)) (hl : lv_has ls nL (xlm ad l)) (hk : xok Lv l st) (h : xs1 nL (.i2d) pc l st = some (pc2, l2, st2)) (k : ∀ ls2 : Array Slot, lv_has ls2 nL (xlm ad l2) → xok Lv l2 st2 → W p l0 e R s m args below meth c H locs cells slots Q (F0 m pc2 ls2 (st2.map (xc ad)))) : W p l0 e R s m args below meth c H locs cells slots Q (F0 m pc ls (st.map (xc ad))) := by
  simp only [xs1] at h
  split at h
  next =>
    cases h
    exact lv_i2d hx hb hd (k _ hl (xok_push (xok_tl hk) (h0 _)))
  next => cases h
theorem xs_l2d {Lv : xV → Prop} {l l2 : xL} {st st2 : List xV} {nL pc2 : Nat} (h0 : ∀ v, Lv (.inl v)) (hx : p.tables.exec = Jvm.exec) (hb : c.code = cc) (hd : decode cc pc = .ok (.l2d, 1)) (hl : lv_has ls nL (xlm ad l)) (hk : xok Lv l st) (h : xs1 nL (.l2d) pc l st = some (pc2, l2, st2)) (k : ∀ ls2 : Array Slot, lv_has ls2 nL (xlm ad l2) → xok Lv l2 st2 → W p l0 e R s m args below meth c H locs cells slots Q (F0 m pc2 ls2 (st2.map (xc ad)))) : W p l0 e R s m args below meth c H locs cells slots Q (F0 m pc ls (st.map (xc ad))) := by
  simp only [xs1] at h
  split at h
  next =>
    cases h
    exact lv_l2d hx hb hd (k _ hl (xok_push (xok_tl hk) (h0 _)))
  next => cases h
theorem xs_d2i {Lv : xV → Prop} {l l2 : xL} {st st2 : List xV} {nL pc2 : Nat} (h0 : ∀ v, Lv (.inl v)) (hx : p.tables.exec = Jvm.exec) (hb : c.code = cc) (hd : decode cc pc = .ok (.d2i, 1)) (hl : lv_has ls nL (xlm ad l)) (hk : xok Lv l st) (h : xs1 nL (.d2i) pc l st = some (pc2, l2, st2)) (k : ∀ ls2 : Array Slot, lv_has ls2 nL (xlm ad l2) → xok Lv l2 st2 → W p l0 e R s m args below meth c H locs cells slots Q (F0 m pc2 ls2 (st2.map (xc ad)))) : W p l0 e R s m args below meth c H locs cells slots Q (F0 m pc ls (st.map (xc ad))) := by
  simp only [xs1] at h
  split at h
  next =>
    cases h
    exact lv_d2i hx hb hd (k _ hl (xok_push (xok_tl hk) (h0 _)))
  next => cases h
theorem xs_d2l {Lv : xV → Prop} {l l2 : xL} {st st2 : List xV} {nL pc2 : Nat} (h0 : ∀ v, Lv (.inl v)) (hx : p.tables.exec = Jvm.exec) (hb : c.code = cc) (hd : decode cc pc = .ok (.d2l, 1)) (hl : lv_has ls nL (xlm ad l)) (hk : xok Lv l st) (h : xs1 nL (.d2l) pc l st = some (pc2, l2, st2)) (k : ∀ ls2 : Array Slot, lv_has ls2 nL (xlm ad l2) → xok Lv l2 st2 → W p l0 e R s m args below meth c H locs cells slots Q (F0 m pc2 ls2 (st2.map (xc ad)))) : W p l0 e R s m args below meth c H locs cells slots Q (F0 m pc ls (st.map (xc ad))) := by
  simp only [xs1] at h
  split at h
  next =>
    cases h
    exact lv_d2l hx hb hd (k _ hl (xok_push (xok_tl hk) (h0 _)))
  next => cases h
theorem xs_f2d {Lv : xV → Prop} {l l2 : xL} {st st2 : List xV} {nL pc2 : Nat} (h0 : ∀ v, Lv (.inl v)) (hx : p.tables.exec = Jvm.exec) (hb : c.code = cc) (hd : decode cc pc = .ok (.f2d, 1)) (hl : lv_has ls nL (xlm ad l)) (hk : xok Lv l st) (h : xs1 nL (.f2d) pc l st = some (pc2, l2, st2)) (k : ∀ ls2 : Array Slot, lv_has ls2 nL (xlm ad l2) → xok Lv l2 st2 → W p l0 e R s m args below meth c H locs cells slots Q (F0 m pc2 ls2 (st2.map (xc ad)))) : W p l0 e R s m args below meth c H locs cells slots Q (F0 m pc ls (st.map (xc ad))) := by
  simp only [xs1] at h
  split at h
  next =>
    split at h
    next hg =>
      cases h
      exact lv_f2d hx hb hd hg (k _ hl (xok_push (xok_tl hk) (h0 _)))
    next => cases h
  next => cases h
theorem xs_d2f {Lv : xV → Prop} {l l2 : xL} {st st2 : List xV} {nL pc2 : Nat} (h0 : ∀ v, Lv (.inl v)) (hx : p.tables.exec = Jvm.exec) (hb : c.code = cc) (hd : decode cc pc = .ok (.d2f, 1)) (hl : lv_has ls nL (xlm ad l)) (hk : xok Lv l st) (h : xs1 nL (.d2f) pc l st = some (pc2, l2, st2)) (k : ∀ ls2 : Array Slot, lv_has ls2 nL (xlm ad l2) → xok Lv l2 st2 → W p l0 e R s m args below meth c H locs cells slots Q (F0 m pc2 ls2 (st2.map (xc ad)))) : W p l0 e R s m args below meth c H locs cells slots Q (F0 m pc ls (st.map (xc ad))) := by
  simp only [xs1] at h
  split at h
  next =>
    split at h
    next hg =>
      cases h
      exact lv_d2f hx hb hd hg (k _ hl (xok_push (xok_tl hk) (h0 _)))
    next => cases h
  next => cases h
theorem xs_dup {Lv : xV → Prop} {l l2 : xL} {st st2 : List xV} {nL pc2 : Nat} (h0 : ∀ v, Lv (.inl v)) (hx : p.tables.exec = Jvm.exec) (hb : c.code = cc) (hd : decode cc pc = .ok (.dup, 1)) (hl : lv_has ls nL (xlm ad l)) (hk : xok Lv l st) (h : xs1 nL (.dup) pc l st = some (pc2, l2, st2)) (k : ∀ ls2 : Array Slot, lv_has ls2 nL (xlm ad l2) → xok Lv l2 st2 → W p l0 e R s m args below meth c H locs cells slots Q (F0 m pc2 ls2 (st2.map (xc ad)))) : W p l0 e R s m args below meth c H locs cells slots Q (F0 m pc ls (st.map (xc ad))) := by
  simp only [xs1] at h
  split at h
  next =>
    split at h
    next hg =>
      cases h
      exact lv_dup hx hb hd (by rw [xc_cat]; exact hg) (k _ hl (xok_push hk (xok_hd hk)))
    next => cases h
  next => cases h
theorem xs_pop {Lv : xV → Prop} {l l2 : xL} {st st2 : List xV} {nL pc2 : Nat} (h0 : ∀ v, Lv (.inl v)) (hx : p.tables.exec = Jvm.exec) (hb : c.code = cc) (hd : decode cc pc = .ok (.pop, 1)) (hl : lv_has ls nL (xlm ad l)) (hk : xok Lv l st) (h : xs1 nL (.pop) pc l st = some (pc2, l2, st2)) (k : ∀ ls2 : Array Slot, lv_has ls2 nL (xlm ad l2) → xok Lv l2 st2 → W p l0 e R s m args below meth c H locs cells slots Q (F0 m pc2 ls2 (st2.map (xc ad)))) : W p l0 e R s m args below meth c H locs cells slots Q (F0 m pc ls (st.map (xc ad))) := by
  simp only [xs1] at h
  split at h
  next =>
    split at h
    next hg =>
      cases h
      exact lv_pop hx hb hd (by rw [xc_cat]; exact hg) (k _ hl (xok_tl hk))
    next => cases h
  next => cases h
theorem xs_dup_x1 {Lv : xV → Prop} {l l2 : xL} {st st2 : List xV} {nL pc2 : Nat} (h0 : ∀ v, Lv (.inl v)) (hx : p.tables.exec = Jvm.exec) (hb : c.code = cc) (hd : decode cc pc = .ok (.dup_x1, 1)) (hl : lv_has ls nL (xlm ad l)) (hk : xok Lv l st) (h : xs1 nL (.dup_x1) pc l st = some (pc2, l2, st2)) (k : ∀ ls2 : Array Slot, lv_has ls2 nL (xlm ad l2) → xok Lv l2 st2 → W p l0 e R s m args below meth c H locs cells slots Q (F0 m pc2 ls2 (st2.map (xc ad)))) : W p l0 e R s m args below meth c H locs cells slots Q (F0 m pc ls (st.map (xc ad))) := by
  simp only [xs1] at h
  split at h
  next =>
    split at h
    next hg =>
      cases h
      exact lv_dup_x1 hx hb hd (by rw [xc_cat]; exact hg.1) (by rw [xc_cat]; exact hg.2) (k _ hl (xok_push (xok_push (xok_push (xok_tl (xok_tl hk)) (xok_hd hk)) (xok_hd (xok_tl hk))) (xok_hd hk)))
    next => cases h
  next => cases h
theorem xs_dup_x2 {Lv : xV → Prop} {l l2 : xL} {st st2 : List xV} {nL pc2 : Nat} (h0 : ∀ v, Lv (.inl v)) (hx : p.tables.exec = Jvm.exec) (hb : c.code = cc) (hd : decode cc pc = .ok (.dup_x2, 1)) (hl : lv_has ls nL (xlm ad l)) (hk : xok Lv l st) (h : xs1 nL (.dup_x2) pc l st = some (pc2, l2, st2)) (k : ∀ ls2 : Array Slot, lv_has ls2 nL (xlm ad l2) → xok Lv l2 st2 → W p l0 e R s m args below meth c H locs cells slots Q (F0 m pc2 ls2 (st2.map (xc ad)))) : W p l0 e R s m args below meth c H locs cells slots Q (F0 m pc ls (st.map (xc ad))) := by
  simp only [xs1] at h
  split at h
  next =>
    split at h
    next hg =>
      cases h
      exact lv_dup_x2 hx hb hd (by rw [xc_cat]; exact hg.1) (by rw [xc_cat]; exact hg.2.1) (by rw [xc_cat]; exact hg.2.2) (k _ hl (xok_push (xok_push (xok_push (xok_push (xok_tl (xok_tl (xok_tl hk))) (xok_hd hk)) (xok_hd (xok_tl (xok_tl hk)))) (xok_hd (xok_tl hk))) (xok_hd hk)))
    next => cases h
  next => cases h
theorem xs_dup2 {Lv : xV → Prop} {l l2 : xL} {st st2 : List xV} {nL pc2 : Nat} (h0 : ∀ v, Lv (.inl v)) (hx : p.tables.exec = Jvm.exec) (hb : c.code = cc) (hd : decode cc pc = .ok (.dup2, 1)) (hl : lv_has ls nL (xlm ad l)) (hk : xok Lv l st) (h : xs1 nL (.dup2) pc l st = some (pc2, l2, st2)) (k : ∀ ls2 : Array Slot, lv_has ls2 nL (xlm ad l2) → xok Lv l2 st2 → W p l0 e R s m args below meth c H locs cells slots Q (F0 m pc2 ls2 (st2.map (xc ad)))) : W p l0 e R s m args below meth c H locs cells slots Q (F0 m pc ls (st.map (xc ad))) := by
  simp only [xs1] at h
  split at h
  next =>
    split at h
    next hg =>
      cases h
      exact lv_dup2_11 hx hb hd (by rw [xc_cat]; exact hg.1) (by rw [xc_cat]; exact hg.2) (k _ hl (xok_push (xok_push hk (xok_hd (xok_tl hk))) (xok_hd hk)))
    next => cases h
  next => cases h
theorem xs_iload_n {Lv : xV → Prop} {l l2 : xL} {st st2 : List xV} {nL pc2 : Nat} (h0 : ∀ v, Lv (.inl v)) (hx : p.tables.exec = Jvm.exec) (hb : c.code = cc) {n : Fin 4} (hd : decode cc pc = .ok (.iload_n n, 1)) (hl : lv_has ls nL (xlm ad l)) (hk : xok Lv l st) (h : xs1 nL (.iload_n n) pc l st = some (pc2, l2, st2)) (k : ∀ ls2 : Array Slot, lv_has ls2 nL (xlm ad l2) → xok Lv l2 st2 → W p l0 e R s m args below meth c H locs cells slots Q (F0 m pc2 ls2 (st2.map (xc ad)))) : W p l0 e R s m args below meth c H locs cells slots Q (F0 m pc ls (st.map (xc ad))) := by
  simp only [xs1] at h
  split at h
  next e0 =>
    cases h
    exact lv_iload_n hx hb hd rfl (xl_at hl e0) (k _ hl (xok_push hk (h0 _)))
  next => cases h
theorem xs_iload {Lv : xV → Prop} {l l2 : xL} {st st2 : List xV} {nL pc2 : Nat} (h0 : ∀ v, Lv (.inl v)) (hx : p.tables.exec = Jvm.exec) (hb : c.code = cc) {n : Nat} (hd : decode cc pc = .ok (.iload n, 2)) (hl : lv_has ls nL (xlm ad l)) (hk : xok Lv l st) (h : xs1 nL (.iload n) pc l st = some (pc2, l2, st2)) (k : ∀ ls2 : Array Slot, lv_has ls2 nL (xlm ad l2) → xok Lv l2 st2 → W p l0 e R s m args below meth c H locs cells slots Q (F0 m pc2 ls2 (st2.map (xc ad)))) : W p l0 e R s m args below meth c H locs cells slots Q (F0 m pc ls (st.map (xc ad))) := by
  simp only [xs1] at h
  split at h
  next e0 =>
    cases h
    exact lv_iload hx hb hd (xl_at hl e0) (k _ hl (xok_push hk (h0 _)))
  next => cases h
theorem xs_lload_n {Lv : xV → Prop} {l l2 : xL} {st st2 : List xV} {nL pc2 : Nat} (h0 : ∀ v, Lv (.inl v)) (hx : p.tables.exec = Jvm.exec) (hb : c.code = cc) {n : Fin 4} (hd : decode cc pc = .ok (.lload_n n, 1)) (hl : lv_has ls nL (xlm ad l)) (hk : xok Lv l st) (h : xs1 nL (.lload_n n) pc l st = some (pc2, l2, st2)) (k : ∀ ls2 : Array Slot, lv_has ls2 nL (xlm ad l2) → xok Lv l2 st2 → W p l0 e R s m args below meth c H locs cells slots Q (F0 m pc2 ls2 (st2.map (xc ad)))) : W p l0 e R s m args below meth c H locs cells slots Q (F0 m pc ls (st.map (xc ad))) := by
  simp only [xs1] at h
  split at h
  next e0 =>
    cases h
    exact lv_lload_n hx hb hd rfl (xl_at hl e0) (k _ hl (xok_push hk (h0 _)))
  next => cases h
theorem xs_lload {Lv : xV → Prop} {l l2 : xL} {st st2 : List xV} {nL pc2 : Nat} (h0 : ∀ v, Lv (.inl v)) (hx : p.tables.exec = Jvm.exec) (hb : c.code = cc) {n : Nat} (hd : decode cc pc = .ok (.lload n, 2)) (hl : lv_has ls nL (xlm ad l)) (hk : xok Lv l st) (h : xs1 nL (.lload n) pc l st = some (pc2, l2, st2)) (k : ∀ ls2 : Array Slot, lv_has ls2 nL (xlm ad l2) → xok Lv l2 st2 → W p l0 e R s m args below meth c H locs cells slots Q (F0 m pc2 ls2 (st2.map (xc ad)))) : W p l0 e R s m args below meth c H locs cells slots Q (F0 m pc ls (st.map (xc ad))) := by
  simp only [xs1] at h
  split at h
  next e0 =>
    cases h
    exact lv_lload hx hb hd (xl_at hl e0) (k _ hl (xok_push hk (h0 _)))
  next => cases h
theorem xs_fload_n {Lv : xV → Prop} {l l2 : xL} {st st2 : List xV} {nL pc2 : Nat} (h0 : ∀ v, Lv (.inl v)) (hx : p.tables.exec = Jvm.exec) (hb : c.code = cc) {n : Fin 4} (hd : decode cc pc = .ok (.fload_n n, 1)) (hl : lv_has ls nL (xlm ad l)) (hk : xok Lv l st) (h : xs1 nL (.fload_n n) pc l st = some (pc2, l2, st2)) (k : ∀ ls2 : Array Slot, lv_has ls2 nL (xlm ad l2) → xok Lv l2 st2 → W p l0 e R s m args below meth c H locs cells slots Q (F0 m pc2 ls2 (st2.map (xc ad)))) : W p l0 e R s m args below meth c H locs cells slots Q (F0 m pc ls (st.map (xc ad))) := by
  simp only [xs1] at h
  split at h
  next e0 =>
    cases h
    exact lv_fload_n hx hb hd rfl (xl_at hl e0) (k _ hl (xok_push hk (h0 _)))
  next => cases h
theorem xs_fload {Lv : xV → Prop} {l l2 : xL} {st st2 : List xV} {nL pc2 : Nat} (h0 : ∀ v, Lv (.inl v)) (hx : p.tables.exec = Jvm.exec) (hb : c.code = cc) {n : Nat} (hd : decode cc pc = .ok (.fload n, 2)) (hl : lv_has ls nL (xlm ad l)) (hk : xok Lv l st) (h : xs1 nL (.fload n) pc l st = some (pc2, l2, st2)) (k : ∀ ls2 : Array Slot, lv_has ls2 nL (xlm ad l2) → xok Lv l2 st2 → W p l0 e R s m args below meth c H locs cells slots Q (F0 m pc2 ls2 (st2.map (xc ad)))) : W p l0 e R s m args below meth c H locs cells slots Q (F0 m pc ls (st.map (xc ad))) := by
  simp only [xs1] at h
  split at h
  next e0 =>
    cases h
    exact lv_fload hx hb hd (xl_at hl e0) (k _ hl (xok_push hk (h0 _)))
  next => cases h
theorem xs_dload_n {Lv : xV → Prop} {l l2 : xL} {st st2 : List xV} {nL pc2 : Nat} (h0 : ∀ v, Lv (.inl v)) (hx : p.tables.exec = Jvm.exec) (hb : c.code = cc) {n : Fin 4} (hd : decode cc pc = .ok (.dload_n n, 1)) (hl : lv_has ls nL (xlm ad l)) (hk : xok Lv l st) (h : xs1 nL (.dload_n n) pc l st = some (pc2, l2, st2)) (k : ∀ ls2 : Array Slot, lv_has ls2 nL (xlm ad l2) → xok Lv l2 st2 → W p l0 e R s m args below meth c H locs cells slots Q (F0 m pc2 ls2 (st2.map (xc ad)))) : W p l0 e R s m args below meth c H locs cells slots Q (F0 m pc ls (st.map (xc ad))) := by
  simp only [xs1] at h
  split at h
  next e0 =>
    cases h
    exact lv_dload_n hx hb hd rfl (xl_at hl e0) (k _ hl (xok_push hk (h0 _)))
  next => cases h
theorem xs_dload {Lv : xV → Prop} {l l2 : xL} {st st2 : List xV} {nL pc2 : Nat} (h0 : ∀ v, Lv (.inl v)) (hx : p.tables.exec = Jvm.exec) (hb : c.code = cc) {n : Nat} (hd : decode cc pc = .ok (.dload n, 2)) (hl : lv_has ls nL (xlm ad l)) (hk : xok Lv l st) (h : xs1 nL (.dload n) pc l st = some (pc2, l2, st2)) (k : ∀ ls2 : Array Slot, lv_has ls2 nL (xlm ad l2) → xok Lv l2 st2 → W p l0 e R s m args below meth c H locs cells slots Q (F0 m pc2 ls2 (st2.map (xc ad)))) : W p l0 e R s m args below meth c H locs cells slots Q (F0 m pc ls (st.map (xc ad))) := by
  simp only [xs1] at h
  split at h
  next e0 =>
    cases h
    exact lv_dload hx hb hd (xl_at hl e0) (k _ hl (xok_push hk (h0 _)))
  next => cases h
theorem xs_aload_n {Lv : xV → Prop} {l l2 : xL} {st st2 : List xV} {nL pc2 : Nat} (h0 : ∀ v, Lv (.inl v)) (hx : p.tables.exec = Jvm.exec) (hb : c.code = cc) {n : Fin 4} (hd : decode cc pc = .ok (.aload_n n, 1)) (hl : lv_has ls nL (xlm ad l)) (hk : xok Lv l st) (h : xs1 nL (.aload_n n) pc l st = some (pc2, l2, st2)) (k : ∀ ls2 : Array Slot, lv_has ls2 nL (xlm ad l2) → xok Lv l2 st2 → W p l0 e R s m args below meth c H locs cells slots Q (F0 m pc2 ls2 (st2.map (xc ad)))) : W p l0 e R s m args below meth c H locs cells slots Q (F0 m pc ls (st.map (xc ad))) := by
  simp only [xs1] at h
  split at h
  next e0 =>
    cases h
    exact lv_aload_nN hx hb hd rfl (xl_at hl e0) (k _ hl (xok_push hk (h0 _)))
  next e0 =>
    cases h
    exact lv_aload_n hx hb hd rfl (xl_at hl e0) (k _ hl (xok_push hk (h0 _)))
  next e0 =>
    cases h
    exact lv_aload_n hx hb hd rfl (xl_at hl e0) (k _ hl (xok_push hk (xok_l hk e0)))
  next => cases h
theorem xs_aload {Lv : xV → Prop} {l l2 : xL} {st st2 : List xV} {nL pc2 : Nat} (h0 : ∀ v, Lv (.inl v)) (hx : p.tables.exec = Jvm.exec) (hb : c.code = cc) {n : Nat} (hd : decode cc pc = .ok (.aload n, 2)) (hl : lv_has ls nL (xlm ad l)) (hk : xok Lv l st) (h : xs1 nL (.aload n) pc l st = some (pc2, l2, st2)) (k : ∀ ls2 : Array Slot, lv_has ls2 nL (xlm ad l2) → xok Lv l2 st2 → W p l0 e R s m args below meth c H locs cells slots Q (F0 m pc2 ls2 (st2.map (xc ad)))) : W p l0 e R s m args below meth c H locs cells slots Q (F0 m pc ls (st.map (xc ad))) := by
  simp only [xs1] at h
  split at h
  next e0 =>
    cases h
    exact lv_aloadN hx hb hd (xl_at hl e0) (k _ hl (xok_push hk (h0 _)))
  next e0 =>
    cases h
    exact lv_aload hx hb hd (xl_at hl e0) (k _ hl (xok_push hk (h0 _)))
  next e0 =>
    cases h
    exact lv_aload hx hb hd (xl_at hl e0) (k _ hl (xok_push hk (xok_l hk e0)))
  next => cases h
theorem xs_istore_n {Lv : xV → Prop} {l l2 : xL} {st st2 : List xV} {nL pc2 : Nat} (h0 : ∀ v, Lv (.inl v)) (hx : p.tables.exec = Jvm.exec) (hb : c.code = cc) {n : Fin 4} (hd : decode cc pc = .ok (.istore_n n, 1)) (hl : lv_has ls nL (xlm ad l)) (hk : xok Lv l st) (h : xs1 nL (.istore_n n) pc l st = some (pc2, l2, st2)) (k : ∀ ls2 : Array Slot, lv_has ls2 nL (xlm ad l2) → xok Lv l2 st2 → W p l0 e R s m args below meth c H locs cells slots Q (F0 m pc2 ls2 (st2.map (xc ad)))) : W p l0 e R s m args below meth c H locs cells slots Q (F0 m pc ls (st.map (xc ad))) := by
  simp only [xs1] at h
  split at h
  next =>
    split at h
    next hg =>
      cases h
      exact lv_istore_n hx hb hd rfl hl hg (xst1_map ad l _ (.inl (.int _))) (fun ls2 hl2 => k ls2 hl2 (xok_1 (xok_tl hk) _ (h0 _)))
    next => cases h
  next => cases h
theorem xs_istore {Lv : xV → Prop} {l l2 : xL} {st st2 : List xV} {nL pc2 : Nat} (h0 : ∀ v, Lv (.inl v)) (hx : p.tables.exec = Jvm.exec) (hb : c.code = cc) {n : Nat} (hd : decode cc pc = .ok (.istore n, 2)) (hl : lv_has ls nL (xlm ad l)) (hk : xok Lv l st) (h : xs1 nL (.istore n) pc l st = some (pc2, l2, st2)) (k : ∀ ls2 : Array Slot, lv_has ls2 nL (xlm ad l2) → xok Lv l2 st2 → W p l0 e R s m args below meth c H locs cells slots Q (F0 m pc2 ls2 (st2.map (xc ad)))) : W p l0 e R s m args below meth c H locs cells slots Q (F0 m pc ls (st.map (xc ad))) := by
  simp only [xs1] at h
  split at h
  next =>
    split at h
    next hg =>
      cases h
      exact lv_istore hx hb hd hl hg (xst1_map ad l _ (.inl (.int _))) (fun ls2 hl2 => k ls2 hl2 (xok_1 (xok_tl hk) _ (h0 _)))
    next => cases h
  next => cases h
theorem xs_lstore_n {Lv : xV → Prop} {l l2 : xL} {st st2 : List xV} {nL pc2 : Nat} (h0 : ∀ v, Lv (.inl v)) (hx : p.tables.exec = Jvm.exec) (hb : c.code = cc) {n : Fin 4} (hd : decode cc pc = .ok (.lstore_n n, 1)) (hl : lv_has ls nL (xlm ad l)) (hk : xok Lv l st) (h : xs1 nL (.lstore_n n) pc l st = some (pc2, l2, st2)) (k : ∀ ls2 : Array Slot, lv_has ls2 nL (xlm ad l2) → xok Lv l2 st2 → W p l0 e R s m args below meth c H locs cells slots Q (F0 m pc2 ls2 (st2.map (xc ad)))) : W p l0 e R s m args below meth c H locs cells slots Q (F0 m pc ls (st.map (xc ad))) := by
  simp only [xs1] at h
  split at h
  next =>
    split at h
    next hg =>
      cases h
      exact lv_lstore_n hx hb hd rfl hl hg (xst2_map ad l _ (.inl (.long _))) (fun ls2 hl2 => k ls2 hl2 (xok_2 (xok_tl hk) _ (h0 _)))
    next => cases h
  next => cases h
theorem xs_lstore {Lv : xV → Prop} {l l2 : xL} {st st2 : List xV} {nL pc2 : Nat} (h0 : ∀ v, Lv (.inl v)) (hx : p.tables.exec = Jvm.exec) (hb : c.code = cc) {n : Nat} (hd : decode cc pc = .ok (.lstore n, 2)) (hl : lv_has ls nL (xlm ad l)) (hk : xok Lv l st) (h : xs1 nL (.lstore n) pc l st = some (pc2, l2, st2)) (k : ∀ ls2 : Array Slot, lv_has ls2 nL (xlm ad l2) → xok Lv l2 st2 → W p l0 e R s m args below meth c H locs cells slots Q (F0 m pc2 ls2 (st2.map (xc ad)))) : W p l0 e R s m args below meth c H locs cells slots Q (F0 m pc ls (st.map (xc ad))) := by
  simp only [xs1] at h
  split at h
  next =>
    split at h
    next hg =>
      cases h
      exact lv_lstore hx hb hd hl hg (xst2_map ad l _ (.inl (.long _))) (fun ls2 hl2 => k ls2 hl2 (xok_2 (xok_tl hk) _ (h0 _)))
    next => cases h
  next => cases h
theorem xs_fstore_n {Lv : xV → Prop} {l l2 : xL} {st st2 : List xV} {nL pc2 : Nat} (h0 : ∀ v, Lv (.inl v)) (hx : p.tables.exec = Jvm.exec) (hb : c.code = cc) {n : Fin 4} (hd : decode cc pc = .ok (.fstore_n n, 1)) (hl : lv_has ls nL (xlm ad l)) (hk : xok Lv l st) (h : xs1 nL (.fstore_n n) pc l st = some (pc2, l2, st2)) (k : ∀ ls2 : Array Slot, lv_has ls2 nL (xlm ad l2) → xok Lv l2 st2 → W p l0 e R s m args below meth c H locs cells slots Q (F0 m pc2 ls2 (st2.map (xc ad)))) : W p l0 e R s m args below meth c H locs cells slots Q (F0 m pc ls (st.map (xc ad))) := by
  simp only [xs1] at h
  split at h
  next =>
    split at h
    next hg =>
      cases h
      exact lv_fstore_n hx hb hd rfl hl hg (xst1_map ad l _ (.inl (.float _))) (fun ls2 hl2 => k ls2 hl2 (xok_1 (xok_tl hk) _ (h0 _)))
    next => cases h
  next => cases h
theorem xs_fstore {Lv : xV → Prop} {l l2 : xL} {st st2 : List xV} {nL pc2 : Nat} (h0 : ∀ v, Lv (.inl v)) (hx : p.tables.exec = Jvm.exec) (hb : c.code = cc) {n : Nat} (hd : decode cc pc = .ok (.fstore n, 2)) (hl : lv_has ls nL (xlm ad l)) (hk : xok Lv l st) (h : xs1 nL (.fstore n) pc l st = some (pc2, l2, st2)) (k : ∀ ls2 : Array Slot, lv_has ls2 nL (xlm ad l2) → xok Lv l2 st2 → W p l0 e R s m args below meth c H locs cells slots Q (F0 m pc2 ls2 (st2.map (xc ad)))) : W p l0 e R s m args below meth c H locs cells slots Q (F0 m pc ls (st.map (xc ad))) := by
  simp only [xs1] at h
  split at h
  next =>
    split at h
    next hg =>
      cases h
      exact lv_fstore hx hb hd hl hg (xst1_map ad l _ (.inl (.float _))) (fun ls2 hl2 => k ls2 hl2 (xok_1 (xok_tl hk) _ (h0 _)))
    next => cases h
  next => cases h
theorem xs_dstore_n {Lv : xV → Prop} {l l2 : xL} {st st2 : List xV} {nL pc2 : Nat} (h0 : ∀ v, Lv (.inl v)) (hx : p.tables.exec = Jvm.exec) (hb : c.code = cc) {n : Fin 4} (hd : decode cc pc = .ok (.dstore_n n, 1)) (hl : lv_has ls nL (xlm ad l)) (hk : xok Lv l st) (h : xs1 nL (.dstore_n n) pc l st = some (pc2, l2, st2)) (k : ∀ ls2 : Array Slot, lv_has ls2 nL (xlm ad l2) → xok Lv l2 st2 → W p l0 e R s m args below meth c H locs cells slots Q (F0 m pc2 ls2 (st2.map (xc ad)))) : W p l0 e R s m args below meth c H locs cells slots Q (F0 m pc ls (st.map (xc ad))) := by
  simp only [xs1] at h
  split at h
  next =>
    split at h
    next hg =>
      cases h
      exact lv_dstore_n hx hb hd rfl hl hg (xst2_map ad l _ (.inl (.double _))) (fun ls2 hl2 => k ls2 hl2 (xok_2 (xok_tl hk) _ (h0 _)))
    next => cases h
  next => cases h
theorem xs_dstore {Lv : xV → Prop} {l l2 : xL} {st st2 : List xV} {nL pc2 : Nat} (h0 : ∀ v, Lv (.inl v)) (hx : p.tables.exec = Jvm.exec) (hb : c.code = cc) {n : Nat} (hd : decode cc pc = .ok (.dstore n, 2)) (hl : lv_has ls nL (xlm ad l)) (hk : xok Lv l st) (h : xs1 nL (.dstore n) pc l st = some (pc2, l2, st2)) (k : ∀ ls2 : Array Slot, lv_has ls2 nL (xlm ad l2) → xok Lv l2 st2 → W p l0 e R s m args below meth c H locs cells slots Q (F0 m pc2 ls2 (st2.map (xc ad)))) : W p l0 e R s m args below meth c H locs cells slots Q (F0 m pc ls (st.map (xc ad))) := by
  simp only [xs1] at h
  split at h
  next =>
    split at h
    next hg =>
      cases h
      exact lv_dstore hx hb hd hl hg (xst2_map ad l _ (.inl (.double _))) (fun ls2 hl2 => k ls2 hl2 (xok_2 (xok_tl hk) _ (h0 _)))
    next => cases h
  next => cases h
theorem xs_astore_n {Lv : xV → Prop} {l l2 : xL} {st st2 : List xV} {nL pc2 : Nat} (h0 : ∀ v, Lv (.inl v)) (hx : p.tables.exec = Jvm.exec) (hb : c.code = cc) {n : Fin 4} (hd : decode cc pc = .ok (.astore_n n, 1)) (hl : lv_has ls nL (xlm ad l)) (hk : xok Lv l st) (h : xs1 nL (.astore_n n) pc l st = some (pc2, l2, st2)) (k : ∀ ls2 : Array Slot, lv_has ls2 nL (xlm ad l2) → xok Lv l2 st2 → W p l0 e R s m args below meth c H locs cells slots Q (F0 m pc2 ls2 (st2.map (xc ad)))) : W p l0 e R s m args below meth c H locs cells slots Q (F0 m pc ls (st.map (xc ad))) := by
  simp only [xs1] at h
  split at h
  next =>
    split at h
    next hg =>
      cases h
      exact lv_astore_nN hx hb hd rfl hl hg (xst1_map ad l _ (.inl .null)) (fun ls2 hl2 => k ls2 hl2 (xok_1 (xok_tl hk) _ (h0 _)))
    next => cases h
  next q r =>
    split at h
    next hg =>
      cases h
      exact lv_astore_n hx hb hd rfl hl hg (xst1_map ad l _ (.inr q)) (fun ls2 hl2 => k ls2 hl2 (xok_1 (xok_tl hk) _ (xok_hd hk)))
    next => cases h
  next => cases h
theorem xs_astore {Lv : xV → Prop} {l l2 : xL} {st st2 : List xV} {nL pc2 : Nat} (h0 : ∀ v, Lv (.inl v)) (hx : p.tables.exec = Jvm.exec) (hb : c.code = cc) {n : Nat} (hd : decode cc pc = .ok (.astore n, 2)) (hl : lv_has ls nL (xlm ad l)) (hk : xok Lv l st) (h : xs1 nL (.astore n) pc l st = some (pc2, l2, st2)) (k : ∀ ls2 : Array Slot, lv_has ls2 nL (xlm ad l2) → xok Lv l2 st2 → W p l0 e R s m args below meth c H locs cells slots Q (F0 m pc2 ls2 (st2.map (xc ad)))) : W p l0 e R s m args below meth c H locs cells slots Q (F0 m pc ls (st.map (xc ad))) := by
  simp only [xs1] at h
  split at h
  next =>
    split at h
    next hg =>
      cases h
      exact lv_astoreN hx hb hd hl hg (xst1_map ad l _ (.inl .null)) (fun ls2 hl2 => k ls2 hl2 (xok_1 (xok_tl hk) _ (h0 _)))
    next => cases h
  next q r =>
    split at h
    next hg =>
      cases h
      exact lv_astore hx hb hd hl hg (xst1_map ad l _ (.inr q)) (fun ls2 hl2 => k ls2 hl2 (xok_1 (xok_tl hk) _ (xok_hd hk)))
    next => cases h
  next => cases h
theorem xs_iinc {Lv : xV → Prop} {l l2 : xL} {st st2 : List xV} {nL pc2 : Nat} (h0 : ∀ v, Lv (.inl v)) (hx : p.tables.exec = Jvm.exec) (hb : c.code = cc) {i : Nat} {n : Int} (hd : decode cc pc = .ok (.iinc i n, 3)) (hl : lv_has ls nL (xlm ad l)) (hk : xok Lv l st) (h : xs1 nL (.iinc i n) pc l st = some (pc2, l2, st2)) (k : ∀ ls2 : Array Slot, lv_has ls2 nL (xlm ad l2) → xok Lv l2 st2 → W p l0 e R s m args below meth c H locs cells slots Q (F0 m pc2 ls2 (st2.map (xc ad)))) : W p l0 e R s m args below meth c H locs cells slots Q (F0 m pc ls (st.map (xc ad))) := by
  simp only [xs1] at h
  split at h
  next e0 =>
    split at h
    next hg =>
      cases h
      obtain ⟨k0, hk0⟩ := List.getElem?_of_mem (xl_mem e0)
      exact lv_iinc hx hb hd hl (k := k0) (by rw [List.getElem?_map, hk0]; rfl) rfl hg (xst1_map ad l _ (.inl (.int _))) (fun ls2 hl2 => k ls2 hl2 (xok_1 hk _ (h0 _)))
    next => cases h
  next => cases h
theorem xs_goto {Lv : xV → Prop} {l l2 : xL} {st st2 : List xV} {nL pc2 : Nat} (h0 : ∀ v, Lv (.inl v)) (hx : p.tables.exec = Jvm.exec) (hb : c.code = cc) {off : Int} (hd : decode cc pc = .ok (.goto off, 3)) (hl : lv_has ls nL (xlm ad l)) (hk : xok Lv l st) (h : xs1 nL (.goto off) pc l st = some (pc2, l2, st2)) (k : ∀ ls2 : Array Slot, lv_has ls2 nL (xlm ad l2) → xok Lv l2 st2 → W p l0 e R s m args below meth c H locs cells slots Q (F0 m pc2 ls2 (st2.map (xc ad)))) : W p l0 e R s m args below meth c H locs cells slots Q (F0 m pc ls (st.map (xc ad))) := by
  simp only [xs1] at h
  split at h
  next hg =>
    cases h
    exact lv_goto hx hb hd (Int.toNat_of_nonneg hg).symm (k _ hl hk)
  next => cases h
theorem xs_ifnull {Lv : xV → Prop} {l l2 : xL} {st st2 : List xV} {nL pc2 : Nat} (h0 : ∀ v, Lv (.inl v)) (hx : p.tables.exec = Jvm.exec) (hb : c.code = cc) {off : Int} (hd : decode cc pc = .ok (.ifnull off, 3)) (hl : lv_has ls nL (xlm ad l)) (hk : xok Lv l st) (h : xs1 nL (.ifnull off) pc l st = some (pc2, l2, st2)) (k : ∀ ls2 : Array Slot, lv_has ls2 nL (xlm ad l2) → xok Lv l2 st2 → W p l0 e R s m args below meth c H locs cells slots Q (F0 m pc2 ls2 (st2.map (xc ad)))) : W p l0 e R s m args below meth c H locs cells slots Q (F0 m pc ls (st.map (xc ad))) := by
  simp only [xs1] at h
  split at h
  next =>
    split at h
    next hg =>
      cases h
      exact lv_ifnullN hx hb hd (Int.toNat_of_nonneg hg).symm (k _ hl (xok_tl hk))
    next => cases h
  next =>
    cases h
    exact lv_ifnull hx hb hd (k _ hl (xok_tl hk))
  next => cases h
theorem xs_ifnonnull {Lv : xV → Prop} {l l2 : xL} {st st2 : List xV} {nL pc2 : Nat} (h0 : ∀ v, Lv (.inl v)) (hx : p.tables.exec = Jvm.exec) (hb : c.code = cc) {off : Int} (hd : decode cc pc = .ok (.ifnonnull off, 3)) (hl : lv_has ls nL (xlm ad l)) (hk : xok Lv l st) (h : xs1 nL (.ifnonnull off) pc l st = some (pc2, l2, st2)) (k : ∀ ls2 : Array Slot, lv_has ls2 nL (xlm ad l2) → xok Lv l2 st2 → W p l0 e R s m args below meth c H locs cells slots Q (F0 m pc2 ls2 (st2.map (xc ad)))) : W p l0 e R s m args below meth c H locs cells slots Q (F0 m pc ls (st.map (xc ad))) := by
  simp only [xs1] at h
  split at h
  next =>
    cases h
    exact lv_ifnonnullN hx hb hd (k _ hl (xok_tl hk))
  next =>
    split at h
    next hg =>
      cases h
      exact lv_ifnonnull hx hb hd (Int.toNat_of_nonneg hg).symm (k _ hl (xok_tl hk))
    next => cases h
  next => cases h
set_option maxHeartbeats 4000000 in
/-- each plain instruction is the machine's own -/
theorem xs1_ok {Lv : xV → Prop} {l l2 : xL} {st st2 : List xV} {nL pc2 : Nat} {i : Instr} (h0 : ∀ v, Lv (.inl v)) (hx : p.tables.exec = Jvm.exec) (hb : c.code = cc) (hd : decode cc pc = .ok (i, xlen i)) (hl : lv_has ls nL (xlm ad l)) (hk : xok Lv l st) (h : xs1 nL i pc l st = some (pc2, l2, st2)) (k : ∀ ls2 : Array Slot, lv_has ls2 nL (xlm ad l2) → xok Lv l2 st2 → W p l0 e R s m args below meth c H locs cells slots Q (F0 m pc2 ls2 (st2.map (xc ad)))) : W p l0 e R s m args below meth c H locs cells slots Q (F0 m pc ls (st.map (xc ad))) := by
  cases i
  case aconst_null => exact xs_aconst_null h0 hx hb hd hl hk h k
  case iconst _ => exact xs_iconst h0 hx hb hd hl hk h k
  case bipush _ => exact xs_bipush h0 hx hb hd hl hk h k
  case sipush _ => exact xs_sipush h0 hx hb hd hl hk h k
  case lconst _ => exact xs_lconst h0 hx hb hd hl hk h k
  case iadd => exact xs_iadd h0 hx hb hd hl hk h k
  case isub => exact xs_isub h0 hx hb hd hl hk h k
  case imul => exact xs_imul h0 hx hb hd hl hk h k
  case iand => exact xs_iand h0 hx hb hd hl hk h k
  case ior => exact xs_ior h0 hx hb hd hl hk h k
  case ixor => exact xs_ixor h0 hx hb hd hl hk h k
  case ishl => exact xs_ishl h0 hx hb hd hl hk h k
  case ishr => exact xs_ishr h0 hx hb hd hl hk h k
  case iushr => exact xs_iushr h0 hx hb hd hl hk h k
  case idiv => exact xs_idiv h0 hx hb hd hl hk h k
  case irem => exact xs_irem h0 hx hb hd hl hk h k
  case ineg => exact xs_ineg h0 hx hb hd hl hk h k
  case ladd => exact xs_ladd h0 hx hb hd hl hk h k
  case lsub => exact xs_lsub h0 hx hb hd hl hk h k
  case lmul => exact xs_lmul h0 hx hb hd hl hk h k
  case land => exact xs_land h0 hx hb hd hl hk h k
  case lor => exact xs_lor h0 hx hb hd hl hk h k
  case lxor => exact xs_lxor h0 hx hb hd hl hk h k
  case ldiv => exact xs_ldiv h0 hx hb hd hl hk h k
  case lrem => exact xs_lrem h0 hx hb hd hl hk h k
  case lneg => exact xs_lneg h0 hx hb hd hl hk h k
  case lcmp => exact xs_lcmp h0 hx hb hd hl hk h k
  case lshl => exact xs_lshl h0 hx hb hd hl hk h k
  case lshr => exact xs_lshr h0 hx hb hd hl hk h k
  case lushr => exact xs_lushr h0 hx hb hd hl hk h k
  case i2l => exact xs_i2l h0 hx hb hd hl hk h k
  case l2i => exact xs_l2i h0 hx hb hd hl hk h k
  case i2b => exact xs_i2b h0 hx hb hd hl hk h k
  case i2s => exact xs_i2s h0 hx hb hd hl hk h k
  case i2c => exact xs_i2c h0 hx hb hd hl hk h k
  case fadd => exact xs_fadd h0 hx hb hd hl hk h k
  case fsub => exact xs_fsub h0 hx hb hd hl hk h k
  case fmul => exact xs_fmul h0 hx hb hd hl hk h k
  case fdiv => exact xs_fdiv h0 hx hb hd hl hk h k
  case frem => exact xs_frem h0 hx hb hd hl hk h k
  case dadd => exact xs_dadd h0 hx hb hd hl hk h k
  case dsub => exact xs_dsub h0 hx hb hd hl hk h k
  case dmul => exact xs_dmul h0 hx hb hd hl hk h k
  case ddiv => exact xs_ddiv h0 hx hb hd hl hk h k
  case drem => exact xs_drem h0 hx hb hd hl hk h k
  case fneg => exact xs_fneg h0 hx hb hd hl hk h k
  case dneg => exact xs_dneg h0 hx hb hd hl hk h k
  case fcmp _ => exact xs_fcmp h0 hx hb hd hl hk h k
  case dcmp _ => exact xs_dcmp h0 hx hb hd hl hk h k
  case i2f => exact xs_i2f h0 hx hb hd hl hk h k
  case l2f => exact xs_l2f h0 hx hb hd hl hk h k
  case f2i => exact xs_f2i h0 hx hb hd hl hk h k
  case f2l => exact xs_f2l h0 hx hb hd hl hk h k
  case i2d => exact xs_i2d h0 hx hb hd hl hk h k
  case l2d => exact xs_l2d h0 hx hb hd hl hk h k
  case d2i => exact xs_d2i h0 hx hb hd hl hk h k
  case d2l => exact xs_d2l h0 hx hb hd hl hk h k
  case f2d => exact xs_f2d h0 hx hb hd hl hk h k
  case d2f => exact xs_d2f h0 hx hb hd hl hk h k
  case dup => exact xs_dup h0 hx hb hd hl hk h k
  case pop => exact xs_pop h0 hx hb hd hl hk h k
  case dup_x1 => exact xs_dup_x1 h0 hx hb hd hl hk h k
  case dup_x2 => exact xs_dup_x2 h0 hx hb hd hl hk h k
  case dup2 => exact xs_dup2 h0 hx hb hd hl hk h k
  case iload_n _ => exact xs_iload_n h0 hx hb hd hl hk h k
  case iload _ => exact xs_iload h0 hx hb hd hl hk h k
  case lload_n _ => exact xs_lload_n h0 hx hb hd hl hk h k
  case lload _ => exact xs_lload h0 hx hb hd hl hk h k
  case fload_n _ => exact xs_fload_n h0 hx hb hd hl hk h k
  case fload _ => exact xs_fload h0 hx hb hd hl hk h k
  case dload_n _ => exact xs_dload_n h0 hx hb hd hl hk h k
  case dload _ => exact xs_dload h0 hx hb hd hl hk h k
  case aload_n _ => exact xs_aload_n h0 hx hb hd hl hk h k
  case aload _ => exact xs_aload h0 hx hb hd hl hk h k
  case istore_n _ => exact xs_istore_n h0 hx hb hd hl hk h k
  case istore _ => exact xs_istore h0 hx hb hd hl hk h k
  case lstore_n _ => exact xs_lstore_n h0 hx hb hd hl hk h k
  case lstore _ => exact xs_lstore h0 hx hb hd hl hk h k
  case fstore_n _ => exact xs_fstore_n h0 hx hb hd hl hk h k
  case fstore _ => exact xs_fstore h0 hx hb hd hl hk h k
  case dstore_n _ => exact xs_dstore_n h0 hx hb hd hl hk h k
  case dstore _ => exact xs_dstore h0 hx hb hd hl hk h k
  case astore_n _ => exact xs_astore_n h0 hx hb hd hl hk h k
  case astore _ => exact xs_astore h0 hx hb hd hl hk h k
  case iinc _ _ => exact xs_iinc h0 hx hb hd hl hk h k
  case goto _ => exact xs_goto h0 hx hb hd hl hk h k
  case ifnull _ => exact xs_ifnull h0 hx hb hd hl hk h k
  case ifnonnull _ => exact xs_ifnonnull h0 hx hb hd hl hk h k
  case fconst n =>
    match n, hd, h with
    | 0, hd, h => exact xs_fconst0 h0 hx hb hd hl hk h k
    | 1, hd, h => exact xs_fconst1 h0 hx hb hd hl hk h k
    | 2, hd, h => exact xs_fconst2 h0 hx hb hd hl hk h k
  case dconst n =>
    match n, hd, h with
    | 0, hd, h => exact xs_dconst0 h0 hx hb hd hl hk h k
    | 1, hd, h => exact xs_dconst1 h0 hx hb hd hl hk h k
  all_goals (cases h)
end XJ
end
section
set_option maxRecDepth 20000
section XH
/-- the kinds of arrays: 0 int, 1 long, 2 char, 3 double, 4 objects, 5 the reference's holders, 9 an int array that is only read -/
def xak (k : Nat) : FieldType := match k with
  | 1 => .long
  | 2 => .char
  | 3 => .double
  | 4 => .object "java/lang/Object"
  | 5 => .object "ViewFoundryModel$Held"
  | _ => .int
def xlv (h : xH) : xV → Prop
  | .inl _ => True
  | .inr q => h q ≠ none
def xOl (h : xH) : xO → Prop
  | .inl w => ∀ v ∈ w.2, xlv h v
  | .inr w => ∀ j, xlv h (w.2.2 j)
def xup (h : xH) (q : Nat × Nat) (o : xO) : xH := fun z => if z = q then some o else h z
def xan (ad : xN) (q : Nat × Nat) (a : Nat) : xN := fun z => if z = q then a else ad z
def xfu (f : Nat → xV) (i : Nat) (v : xV) : Nat → xV := fun j => if j = i then v else f j
theorem xup_dom {h : xH} {q z : Nat × Nat} {o : xO} (hz : h z ≠ none) : xup h q o z ≠ none := by
  unfold xup
  split
  · simp
  · exact hz
theorem xup_lv {h : xH} {q : Nat × Nat} {o : xO} {v : xV} (hv : xlv h v) : xlv (xup h q o) v := by
  cases v with
  | inl v => trivial
  | inr z => exact xup_dom hv
theorem xup_Ol {h : xH} {q : Nat × Nat} {o o1 : xO} (ho : xOl h o1) : xOl (xup h q o) o1 := by
  cases o1 with
  | inl w => exact fun v hv => xup_lv (ho v hv)
  | inr w => exact fun j => xup_lv (ho j)
theorem xan_c {h : xH} {ad : xN} {q : Nat × Nat} {a : Nat} (hq : h q = none) {v : xV} (hv : xlv h v) : xc (xan ad q a) v = xc ad v := by
  cases v with
  | inl v => rfl
  | inr z =>
    show Value.ref (xan ad q a z) = Value.ref (ad z)
    unfold xan
    exact congrArg Value.ref (if_neg (fun e : z = q => hv (by rw [e]; exact hq)))
/-- what a cell of the machine is of an object -/
def xcell (s : State) (D : va_G) (cl : List vw_C) (ad : xN) (a : Nat) (o : xO) (H : Heap) : Prop := match o with
  | .inl w => ∃ r : vw_C, cl[w.1]? = some r ∧ w.2.length = r.2.2 ∧ t_OB a (D.1 w.1) r.2.2 (D.2 w.1) H (vp_V (w.2.map (xc ad)))
  | .inr w => ∃ cell : Cell, H[a]? = some cell ∧ s.isArrayOf cell (xak w.1) ∧ (w.1 = 9 ∨ va_RA s cell.cls (xak w.1)) ∧ cell.vm ≠ .unknown ∧ cell.slots.size = w.2.1 ∧ ∀ j, j < w.2.1 → cell.slots[j]? = some (xc ad (w.2.2 j))
theorem xcell.kept {s : State} {D : va_G} {cl : List vw_C} {ad : xN} {a : Nat} {o : xO} {H H1 : Heap} (h : xcell s D cl ad a o H) (e : H1[a]? = H[a]?) : xcell s D cl ad a o H1 := by
  cases o with
  | inl w =>
    obtain ⟨r, h1, h2, h3⟩ := h
    exact ⟨r, h1, h2, h3.kept e⟩
  | inr w =>
    obtain ⟨cell, h1, h2⟩ := h
    exact ⟨cell, by rw [e]; exact h1, h2⟩
theorem xcell.lt {s : State} {D : va_G} {cl : List vw_C} {ad : xN} {a : Nat} {o : xO} {H : Heap} (h : xcell s D cl ad a o H) : a < H.size := by
  cases o with
  | inl w =>
    obtain ⟨r, h1, h2, cell, h3, -⟩ := h
    exact (Array.getElem?_eq_some_iff.mp h3).1
  | inr w =>
    obtain ⟨cell, h1, -⟩ := h
    exact (Array.getElem?_eq_some_iff.mp h1).1
theorem xcell.ad {s : State} {D : va_G} {cl : List vw_C} {ad ad2 : xN} {a : Nat} {o : xO} {H : Heap} {h : xH} (hc : xcell s D cl ad a o H) (ho : xOl h o) (e : ∀ v, xlv h v → xc ad2 v = xc ad v) : xcell s D cl ad2 a o H := by
  cases o with
  | inl w =>
    obtain ⟨r, h1, h2, h3⟩ := hc
    refine ⟨r, h1, h2, ?_⟩
    rw [List.map_congr_left (fun v hv => e v (ho v hv))]
    exact h3
  | inr w =>
    obtain ⟨cell, h1, h2, h3, h4, h5, h6⟩ := hc
    exact ⟨cell, h1, h2, h3, h4, h5, fun j hj => by rw [e _ (ho j)]; exact h6 j hj⟩
theorem xcell.moved {s U : State} {D : va_G} {cl : List vw_C} {ad : xN} {a : Nat} {o : xO} {H : Heap} (hvm : s.vm.Alike U.vm) (h : xcell s D cl ad a o H) : xcell U D cl ad a o H := by
  cases o with
  | inl w => exact h
  | inr w =>
    obtain ⟨cell, h1, h2, h3, h4⟩ := h
    exact ⟨cell, h1, State.isArrayOf_alike hvm h2, h3.imp id (fun z => z.moved hvm), h4⟩
/-- the machine's heap holds the small machine's objects, each at the address of its name -/
def xRep (s : State) (D : va_G) (cl : List vw_C) (B : Nat) (ad : xN) (h : xH) (H : Heap) : Prop :=
  (∀ q o, h q = some o → xcell s D cl ad (ad q) o H) ∧ (∀ q z, h q ≠ none → h z ≠ none → ad q = ad z → q = z) ∧ (∀ q, h q ≠ none → q.1 ≠ 0 → B ≤ ad q) ∧ ∀ q o, h q = some o → xOl h o
theorem xRep.moved {s U : State} {D : va_G} {cl : List vw_C} {B : Nat} {ad : xN} {h : xH} {H : Heap} (hvm : s.vm.Alike U.vm) (hR : xRep s D cl B ad h H) : xRep U D cl B ad h H :=
  ⟨fun q o hq => (hR.1 q o hq).moved hvm, hR.2⟩
theorem xRep.put {s : State} {D : va_G} {cl : List vw_C} {B : Nat} {ad : xN} {h : xH} {H H1 : Heap} {q : Nat × Nat} {o o1 : xO} (hR : xRep s D cl B ad h H) (hq : h q = some o) (hc : xcell s D cl ad (ad q) o1 H1) (hk : ∀ a, a ≠ ad q → H1[a]? = H[a]?) (ho : xOl h o1) : xRep s D cl B ad (xup h q o1) H1 := by
  obtain ⟨r1, r2, r3, r4⟩ := hR
  have hq0 : h q ≠ none := by rw [hq]; simp
  have dom : ∀ z, xup h q o1 z ≠ none → h z ≠ none := by
    intro z hz
    unfold xup at hz
    split at hz
    next e => subst e; exact hq0
    next => exact hz
  refine ⟨fun z oz hz => ?_, fun z y hz hy e => r2 z y (dom z hz) (dom y hy) e, fun z hz h0 => r3 z (dom z hz) h0, fun z oz hz => ?_⟩
  · unfold xup at hz
    split at hz
    next e => cases hz; subst e; exact hc
    next e => exact (r1 z oz hz).kept (hk _ (fun a => e (r2 z q (by rw [hz]; simp) hq0 a)))
  · unfold xup at hz
    split at hz
    next e => cases hz; exact xup_Ol ho
    next e => exact xup_Ol (r4 z oz hz)
theorem xRep.new {s : State} {D : va_G} {cl : List vw_C} {B : Nat} {ad : xN} {h : xH} {H H1 : Heap} {q : Nat × Nat} {o1 : xO} (hR : xRep s D cl B ad h H) (hq : h q = none) (hB : B ≤ H.size) (hc : xcell s D cl (xan ad q H.size) H.size o1 H1) (hk : ∀ x, x < H.size → H1[x]? = H[x]?) (ho : xOl (xup h q o1) o1) : xRep s D cl B (xan ad q H.size) (xup h q o1) H1 := by
  obtain ⟨r1, r2, r3, r4⟩ := hR
  have hlt : ∀ z, h z ≠ none → ad z < H.size := by
    intro z hz
    cases e : h z with
    | none => exact absurd e hz
    | some o => exact (r1 z o e).lt
  have hae : ∀ z, h z ≠ none → xan ad q H.size z = ad z := fun z hz => by
    unfold xan
    exact if_neg (fun e : z = q => hz (by rw [e]; exact hq))
  have hself : xan ad q H.size q = H.size := by unfold xan; rw [if_pos rfl]
  have dom : ∀ z, xup h q o1 z ≠ none → z = q ∨ h z ≠ none := by
    intro z hz
    unfold xup at hz
    split at hz
    next e => exact Or.inl e
    next => exact Or.inr hz
  refine ⟨fun z oz hz => ?_, fun z y hz hy e => ?_, fun z hz h0 => ?_, fun z oz hz => ?_⟩
  · unfold xup at hz
    split at hz
    next e =>
      cases hz
      subst e
      rw [hself]
      exact hc
    next e =>
      have hz0 : h z ≠ none := by rw [hz]; simp
      rw [hae z hz0]
      exact ((r1 z oz hz).ad (r4 z oz hz) (fun v hv => xan_c hq hv)).kept (hk _ (hlt z hz0))
  · rcases dom z hz with rfl | hz0 <;> rcases dom y hy with rfl | hy0
    · rfl
    · rw [hself, hae y hy0] at e
      exact absurd (hlt y hy0) (by omega)
    · rw [hself, hae z hz0] at e
      exact absurd (hlt z hz0) (by omega)
    · rw [hae z hz0, hae y hy0] at e
      exact r2 z y hz0 hy0 e
  · rcases dom z hz with rfl | hz0
    · rw [hself]; exact hB
    · rw [hae z hz0]; exact r3 z hz0 h0
  · unfold xup at hz
    split at hz
    next e => cases hz; exact ho
    next e => exact xup_Ol (r4 z oz hz)
theorem xarr_set {ad : xN} {cell : Cell} {n : Nat} {f : Nat → xV} {i : Nat} {v : xV} (hsz : cell.slots.size = n) (hv : ∀ j, j < n → cell.slots[j]? = some (xc ad (f j))) (hi : i < n) :
    (cell.setSlot i (xc ad v)).slots.size = n ∧ ∀ j, j < n → (cell.setSlot i (xc ad v)).slots[j]? = some (xc ad (xfu f i v j)) := by
  refine ⟨by simp [Cell.setSlot, hsz], fun j hj => ?_⟩
  show (cell.slots.setIfInBounds i (xc ad v))[j]? = _
  unfold xfu
  by_cases e : j = i
  · subst e
    rw [if_pos rfl, Array.getElem?_setIfInBounds_self_of_lt (by omega)]
  · rw [if_neg e, Array.getElem?_setIfInBounds_ne (fun z => e z.symm)]
    exact hv j hj
/-- what a frame knows of the heap: the objects, and that nothing else that was there at its start has changed -/
def xI (s : State) (D : va_G) (cl : List vw_C) (B : Nat) (ad : xN) (h : xH) (H : Heap) (locs : List Loc) : Prop :=
  xRep s D cl B ad h H ∧ va_S (fun q => B ≤ q) s.heap H locs ∧ B ≤ s.heap.size
/-- one address more was written -/
theorem xS_put {B : Nat} {H0 H H1 : Heap} {locs : List Loc} {a i : Nat} (hS : va_S (fun q => B ≤ q) H0 H locs) (hz : H1.size = H.size) (hk : ∀ x, x ≠ a → H1[x]? = H[x]?) (ha : B ≤ a) : va_S (fun q => B ≤ q) H0 H1 (locs ++ [⟨a, i⟩]) := by
  refine ⟨by rw [hz]; exact hS.1, fun q h1 h2 => ?_, fun l hl => ?_⟩
  · have h2' : ¬ B ≤ q := h2
    rw [hk q (fun e => h2' (e ▸ ha))]
    exact hS.2.1 q h1 h2
  · rcases List.mem_append.mp hl with h | h
    · exact hS.2.2 l h
    · rw [List.mem_singleton.mp h]
      exact ha
theorem xS_new {B : Nat} {H0 H H1 : Heap} {locs : List Loc} (hS : va_S (fun q => B ≤ q) H0 H locs) (hz : H.size ≤ H1.size) (hk : ∀ x, x < H.size → H1[x]? = H[x]?) : va_S (fun q => B ≤ q) H0 H1 locs :=
  ⟨Nat.le_trans hS.1 hz, fun q h1 h2 => by rw [hk q (Nat.lt_of_lt_of_le h1 hS.1)]; exact hS.2.1 q h1 h2, hS.2.2⟩
/-- a write of an object that is there, but not one that is only read -/
theorem xI.put {s : State} {D : va_G} {cl : List vw_C} {B : Nat} {ad : xN} {h : xH} {H H1 : Heap} {locs : List Loc} {q : Nat × Nat} {o o1 : xO} {i : Nat} (hI : xI s D cl B ad h H locs) (hq : h q = some o) (h0 : q.1 ≠ 0) (hc : xcell s D cl ad (ad q) o1 H1) (hz : H1.size = H.size) (hk : ∀ a, a ≠ ad q → H1[a]? = H[a]?) (ho : xOl h o1) : xI s D cl B ad (xup h q o1) H1 (locs ++ [⟨ad q, i⟩]) :=
  ⟨hI.1.put hq hc hk ho, xS_put hI.2.1 hz hk (hI.1.2.2.1 q (by rw [hq]; simp) h0), hI.2.2⟩
theorem xI.new {s : State} {D : va_G} {cl : List vw_C} {B : Nat} {ad : xN} {h : xH} {H H1 : Heap} {locs : List Loc} {q : Nat × Nat} {o1 : xO} (hI : xI s D cl B ad h H locs) (hq : h q = none) (hc : xcell s D cl (xan ad q H.size) H.size o1 H1) (hz : H.size ≤ H1.size) (hk : ∀ x, x < H.size → H1[x]? = H[x]?) (ho : xOl (xup h q o1) o1) : xI s D cl B (xan ad q H.size) (xup h q o1) H1 locs :=
  ⟨hI.1.new hq (Nat.le_trans hI.2.2 hI.2.1.1) hc hk ho, xS_new hI.2.1 hz hk, hI.2.2⟩
theorem xlm_an {h : xH} {ad : xN} {q : Nat × Nat} {a : Nat} {l : xL} (hq : h q = none) (hl : ∀ z ∈ l, xlv h z.2) : xlm (xan ad q a) l = xlm ad l :=
  List.map_congr_left (fun z hz => by rw [xan_c hq (hl z hz)])
theorem xst_an {h : xH} {ad : xN} {q : Nat × Nat} {a : Nat} {st : List xV} (hq : h q = none) (hl : ∀ v ∈ st, xlv h v) : st.map (xc (xan ad q a)) = st.map (xc ad) :=
  List.map_congr_left (fun z hz => xan_c hq (hl z hz))
theorem xok_up {h : xH} {q : Nat × Nat} {o : xO} {l : xL} {st : List xV} (hk : xok (xlv h) l st) : xok (xlv (xup h q o)) l st := ⟨fun z hz => xup_lv (hk.1 z hz), fun v hv => xup_lv (hk.2 v hv)⟩
theorem xlv_self {h : xH} {q : Nat × Nat} {o : xO} : xlv (xup h q o) (.inr q) := by
  show xup h q o q ≠ none
  unfold xup
  rw [if_pos rfl]
  simp
end XH
end
section
set_option maxRecDepth 20000
section XT
def xtyc (t : Nat) (ty : FieldType) : Prop := match t, ty with
  | 0, .int => True
  | 1, .long => True
  | 2, .object _ => True
  | 2, .array _ => True
  | 3, .boolean => True
  | 4, .char => True
  | _, _ => False
def xfit (t : Nat) (v : xV) : Bool := match t, v with
  | 0, .inl (.int _) => true
  | 1, .inl (.long _) => true
  | 2, .inl .null => true
  | 2, .inr _ => true
  | 3, .inl (.int x) => decide (x = 0 ∨ x = 1)
  | 4, .inl (.int x) => decide (0 ≤ x ∧ x ≤ 65535)
  | _, _ => false
theorem xfit_char {x : Int32} (h : 0 ≤ x ∧ x ≤ 65535) : narrow .char (.int x) = .int x ∧ fits .char (.int x) = true := by
  obtain ⟨j, hj, rfl⟩ := nI_of2 (M := 65535) (n := 65535) rfl (by
    have h2 := Int32.le_iff_toInt_le.mp h.1
    intro q
    have h3 := Int32.lt_iff_toInt_lt.mp q
    omega) h.2
  exact pk_charN (by omega)
theorem xfit_ok {t : Nat} {ty : FieldType} {v : xV} {ad : xN} (ht : xtyc t ty) (h : xfit t v = true) : narrow ty (xc ad v) = xc ad v ∧ fits ty (xc ad v) = true := by
  unfold xfit at h
  split at h
  next => cases ty <;> first | exact ⟨rfl, rfl⟩ | exact absurd ht id
  next => cases ty <;> first | exact ⟨rfl, rfl⟩ | exact absurd ht id
  next => cases ty <;> first | exact ⟨rfl, rfl⟩ | exact absurd ht id
  next => cases ty <;> first | exact ⟨rfl, rfl⟩ | exact absurd ht id
  next x =>
    have h := of_decide_eq_true h
    cases ty <;> first | exact absurd ht id | (rcases h with rfl | rfl <;> exact ⟨rfl, rfl⟩)
  next x =>
    have h := of_decide_eq_true h
    cases ty <;> first | exact absurd ht id | exact xfit_char h
  next => cases h
/-- a fresh field of a type -/
def xd0 (t : Nat) : xV := match t with
  | 0 => .inl (.int 0)
  | 1 => .inl (.long 0)
  | 2 => .inl .null
  | 3 => .inl (.int 0)
  | 4 => .inl (.int 0)
  | _ => .inl (.double 0)
def xcd (o : Jvm.ClassFile.Cond) (x y : Int32) : Bool := match o with
  | .eq => decide (x = y)
  | .ne => decide (¬ x = y)
  | .lt => decide (x < y)
  | .ge => decide (y ≤ x)
  | .gt => decide (y < x)
  | .le => decide (x ≤ y)
def xjmp (pc : Nat) (off : Int) (l : xL) (st : List xV) (A : xA) : Option (Nat × xL × List xV × xA) := if 0 ≤ (pc : Int) + off then some (((pc : Int) + off).toNat, l, st, A) else none
def xbr (b : Bool) (pc : Nat) (off : Int) (l : xL) (st : List xV) (A : xA) : Option (Nat × xL × List xV × xA) := if 0 ≤ (pc : Int) + off then (if b = true then some (((pc : Int) + off).toNat, l, st, A) else some (pc + 3, l, st, A)) else none
/-- how many bytes -/
def xlen2 : Instr → Nat
  | .ifCond _ _ => 3
  | .if_icmp _ _ => 3
  | .if_acmp _ _ => 3
  | .getfield _ => 3
  | .putfield _ => 3
  | .newarray _ => 2
  | .anewarray _ => 3
  | .new _ => 3
  | .checkcast _ => 3
  | .ldc _ => 2
  | .ldc_w _ => 3
  | .ldc2_w _ => 3
  | .getstatic _ => 3
  | _ => 1
def xarr (kd : Nat) (i : Int32) (n : Nat) (f : Nat → xV) (want : Nat) : Option xV := if (kd = want ∨ want = 0 ∧ kd = 9) ∧ ¬ (i < 0 ∨ n ≤ i.toNatClampNeg) then some (f i.toNatClampNeg) else none
def xsto (A : xA) (q : Nat × Nat) (kd : Nat) (i : Int32) (n : Nat) (f : Nat → xV) (want : Nat) (v : xV) : Option xA := if kd = want ∧ q.1 ≠ 0 ∧ ¬ (i < 0 ∨ n ≤ i.toNatClampNeg) then some (A.1, A.2.1, A.2.2.1, xup A.2.2.2 q (.inr (kd, n, xfu f i.toNatClampNeg v))) else none
/-- one instruction that branches or touches the heap -/
def xs2 (i : Instr) (ops : List Nat) (pc : Nat) (l : xL) (st : List xV) (A : xA) : Option (Nat × xL × List xV × xA) :=
  match i with
  | .ifCond o off => match st with
    | .inl (.int x) :: r => xbr (xcd o x 0) pc off l r A
    | _ => none
  | .if_icmp o off => match st with
    | .inl (.int y) :: .inl (.int x) :: r => xbr (xcd o x y) pc off l r A
    | _ => none
  | .if_acmp .eq off => match st with
    | .inr q :: .inr z :: r => xbr (decide (z = q)) pc off l r A
    | .inl .null :: .inr _ :: r => xbr false pc off l r A
    | .inr _ :: .inl .null :: r => xbr false pc off l r A
    | .inl .null :: .inl .null :: r => xbr true pc off l r A
    | _ => none
  | .if_acmp .ne off => match st with
    | .inr q :: .inr z :: r => xbr (decide (¬ z = q)) pc off l r A
    | .inl .null :: .inr _ :: r => xbr true pc off l r A
    | .inr _ :: .inl .null :: r => xbr true pc off l r A
    | .inl .null :: .inl .null :: r => xbr false pc off l r A
    | _ => none
  | .tableswitch dflt lo hi offs => match st with
    | .inl (.int x) :: r => if x.toInt < lo ∨ hi < x.toInt then xjmp pc dflt l r A else (match offs[(x.toInt - lo).toNat]? with
      | some off => xjmp pc off l r A
      | none => none)
    | _ => none
  | .getfield _ => match st with
    | .inr q :: r => match A.2.2.2 q with
      | some (.inl (ci, fs)) => match ops with
        | kx :: cis => if cis.elem ci = true then (match fs[kx]? with
          | some v => some (pc + 3, l, v :: r, A)
          | none => none) else none
        | _ => none
      | _ => none
    | _ => none
  | .putfield _ => match st with
    | v :: .inr q :: r => match A.2.2.2 q with
      | some (.inl (ci, fs)) => match ops with
        | kx :: t :: cis => if cis.elem ci = true ∧ q.1 ≠ 0 ∧ xfit t v = true then some (pc + 3, l, r, (A.1, A.2.1, A.2.2.1, xup A.2.2.2 q (.inl (ci, fs.set kx v)))) else none
        | _ => none
      | _ => none
    | _ => none
  | .iaload => match st with
    | .inl (.int j) :: .inr q :: r => match A.2.2.2 q with
      | some (.inr (kd, n, f)) => match xarr kd j n f 0 with
        | some v => some (pc + 1, l, v :: r, A)
        | none => none
      | _ => none
    | _ => none
  | .laload => match st with
    | .inl (.int j) :: .inr q :: r => match A.2.2.2 q with
      | some (.inr (kd, n, f)) => match xarr kd j n f 1 with
        | some v => some (pc + 1, l, v :: r, A)
        | none => none
      | _ => none
    | _ => none
  | .caload => match st with
    | .inl (.int j) :: .inr q :: r => match A.2.2.2 q with
      | some (.inr (kd, n, f)) => match xarr kd j n f 2 with
        | some v => some (pc + 1, l, v :: r, A)
        | none => none
      | _ => none
    | _ => none
  | .daload => match st with
    | .inl (.int j) :: .inr q :: r => match A.2.2.2 q with
      | some (.inr (kd, n, f)) => match xarr kd j n f 3 with
        | some v => some (pc + 1, l, v :: r, A)
        | none => none
      | _ => none
    | _ => none
  | .aaload => match st with
    | .inl (.int j) :: .inr q :: r => match A.2.2.2 q with
      | some (.inr (kd, n, f)) => match xarr kd j n f (if kd = 5 then 5 else 4) with
        | some v => some (pc + 1, l, v :: r, A)
        | none => none
      | _ => none
    | _ => none
  | .iastore => match st with
    | .inl (.int x) :: .inl (.int j) :: .inr q :: r => match A.2.2.2 q with
      | some (.inr (kd, n, f)) => match xsto A q kd j n f 0 (.inl (.int x)) with
        | some A1 => some (pc + 1, l, r, A1)
        | none => none
      | _ => none
    | _ => none
  | .lastore => match st with
    | .inl (.long x) :: .inl (.int j) :: .inr q :: r => match A.2.2.2 q with
      | some (.inr (kd, n, f)) => match xsto A q kd j n f 1 (.inl (.long x)) with
        | some A1 => some (pc + 1, l, r, A1)
        | none => none
      | _ => none
    | _ => none
  | .castore => match st with
    | .inl (.int x) :: .inl (.int j) :: .inr q :: r => match A.2.2.2 q with
      | some (.inr (kd, n, f)) => if 0 ≤ x ∧ x ≤ 65535 then (match xsto A q kd j n f 2 (.inl (.int x)) with
        | some A1 => some (pc + 1, l, r, A1)
        | none => none) else none
      | _ => none
    | _ => none
  | .dastore => match st with
    | .inl (.double x) :: .inl (.int j) :: .inr q :: r => match A.2.2.2 q with
      | some (.inr (kd, n, f)) => match xsto A q kd j n f 3 (.inl (.double x)) with
        | some A1 => some (pc + 1, l, r, A1)
        | none => none
      | _ => none
    | _ => none
  | .aastore => match st with
    | .inr z :: .inl (.int j) :: .inr q :: r => match A.2.2.2 q, A.2.2.2 z with
      | some (.inr (kd, n, f)), some (.inl (ci, _)) => if ops.elem ci = true ∧ (kd = 4 ∨ kd = 5 ∧ ops[0]? = some ci) then (match xsto A q kd j n f kd (.inr z) with
        | some A1 => some (pc + 1, l, r, A1)
        | none => none) else none
      | _, _ => none
    | .inl .null :: .inl (.int j) :: .inr q :: r => match A.2.2.2 q with
      | some (.inr (kd, n, f)) => if kd = 4 ∨ kd = 5 then (match xsto A q kd j n f kd (.inl .null) with
        | some A1 => some (pc + 1, l, r, A1)
        | none => none) else none
      | _ => none
    | _ => none
  | .arraylength => match st with
    | .inr q :: r => match A.2.2.2 q with
      | some (.inr (_, n, _)) => some (pc + 1, l, .inl (.int (Int32.ofNat n)) :: r, A)
      | _ => none
    | _ => none
  | .newarray _ => match st, ops, A.1 with
    | .inl (.int n) :: r, [kd], q :: nm => if ¬ n < 0 ∧ n.toNatClampNeg ≤ 67108864 ∧ (A.2.2.2 q).isNone = true ∧ q.1 ≠ 0 then some (pc + 2, l, .inr q :: r, (nm, A.2.1 + 1, A.2.2.1 + n.toNatClampNeg, xup A.2.2.2 q (.inr (kd, n.toNatClampNeg, fun _ => .inl (defaultValue (xak kd)))))) else none
    | _, _, _ => none
  | .anewarray _ => match st, ops, A.1 with
    | .inl (.int n) :: r, [kd], q :: nm => if ¬ n < 0 ∧ n.toNatClampNeg ≤ 67108864 ∧ (A.2.2.2 q).isNone = true ∧ q.1 ≠ 0 then some (pc + 3, l, .inr q :: r, (nm, A.2.1 + 1, A.2.2.1 + n.toNatClampNeg, xup A.2.2.2 q (.inr (kd, n.toNatClampNeg, fun _ => .inl .null)))) else none
    | _, _, _ => none
  | .new _ => match ops, A.1 with
    | ci :: tc, q :: nm => if (A.2.2.2 q).isNone = true ∧ q.1 ≠ 0 then some (pc + 3, l, .inr q :: st, (nm, A.2.1 + 1, A.2.2.1 + tc.length, xup A.2.2.2 q (.inl (ci, tc.map xd0)))) else none
    | _, _ => none
  | .checkcast _ => match st with
    | .inl .null :: r => some (pc + 3, l, .inl .null :: r, A)
    | .inr q :: r => match A.2.2.2 q with
      | some (.inl (ci, _)) => if ops.elem ci = true then some (pc + 3, l, .inr q :: r, A) else none
      | _ => none
    | _ => none
  | .ldc _ => match ops with
    | [0, v] => some (pc + 2, l, .inl (.int (Int32.ofNat v)) :: st, A)
    | [5, v] => some (pc + 2, l, .inl (.float (UInt32.ofNat v)) :: st, A)
    | _ => none
  | .ldc_w _ => match ops with
    | [0, v] => some (pc + 3, l, .inl (.int (Int32.ofNat v)) :: st, A)
    | _ => none
  | .ldc2_w _ => match ops with
    | [1, v] => some (pc + 3, l, .inl (.long (Int64.ofNat v)) :: st, A)
    | [6, v] => some (pc + 3, l, .inl (.double (UInt64.ofNat v)) :: st, A)
    | _ => none
  | .getstatic _ => if ops = [77] then some (pc + 3, l, .inr (0, 1) :: st, A) else none
  | _ => none
/-- a field of a class by its place: what the tables say -/
def xfld (Ts : List Cond) (cl : List vw_C) (own : String) (idx k ci : Nat) : Prop := ∃ (r : vw_C) (ref : String), cl[ci]? = some r ∧ k < r.2.2 ∧ (Cond.fieldLink own idx ref (r.2.1 k).2.1 (r.2.1 k).2.2.1 ∈ Ts ∨ ∃ host, Cond.fieldLinkNest own idx ref (r.2.1 k).2.1 (r.2.1 k).2.2.1 host ∈ Ts) ∧ (ref = (r.2.1 k).1 ∨ Cond.sameField ref (r.2.1 k).1 (r.2.1 k).2.1 (r.2.1 k).2.2.1 ∈ Ts)
def xput (Ts : List Cond) (cl : List vw_C) (own nm : String) (idx k t ci : Nat) : Prop := ∃ (r : vw_C) (ref : String) (ty : FieldType), cl[ci]? = some r ∧ k < r.2.2 ∧ parseFieldDescriptor (r.2.1 k).2.2.1 = some ty ∧ xtyc t ty ∧ (ref = (r.2.1 k).1 ∨ Cond.sameField ref (r.2.1 k).1 (r.2.1 k).2.1 (r.2.1 k).2.2.1 ∈ Ts) ∧
  ((Cond.fieldLink own idx ref (r.2.1 k).2.1 (r.2.1 k).2.2.1 ∈ Ts ∧ ((r.2.1 k).2.2.2 = false ∨ (r.2.1 k).2.2.2 = true ∧ nm = "<init>" ∧ (r.2.1 k).1 = own)) ∨ (∃ host, Cond.fieldLinkNest own idx ref (r.2.1 k).2.1 (r.2.1 k).2.2.1 host ∈ Ts) ∧ (r.2.1 k).2.2.2 = false)
def xcls (Ts : List Cond) (r : vw_C) : Prop := (∀ w ∈ u_ws r.1 r.2.1 r.2.2, w ∈ Ts) ∧ (∃ ty : Nat → FieldType, ∀ k, k < r.2.2 → parseFieldDescriptor (r.2.1 k).2.2.1 = some (ty k)) ∧ ∀ a, a < r.2.2 → ∀ b, b < r.2.2 → a ≠ b → (r.2.1 a).2.1 ≠ (r.2.1 b).2.1
/-- what the tables must say of an instruction with its operands -/
def xT (Ts : List Cond) (cl : List vw_C) (own nm : String) (i : Instr) (ops : List Nat) : Prop := match i with
  | .getfield idx => match ops with
    | kx :: cis => ∀ ci ∈ cis, xfld Ts cl own idx kx ci
    | _ => True
  | .putfield idx => match ops with
    | kx :: t :: cis => ∀ ci ∈ cis, xput Ts cl own nm idx kx t ci
    | _ => True
  | .newarray at_ => match ops with
    | [kd] => newarray.typeOf at_ = xak kd ∧ Cond.arrayClass (newarray.typeOf at_) ∈ Ts ∧ kd ≠ 4 ∧ kd ≠ 5
    | _ => True
  | .anewarray idx => match ops with
    | [kd] => ∃ C, xak kd = .object C ∧ Cond.classLink own idx C ∈ Ts ∧ Cond.arrayOver (.object C) ∈ Ts
    | _ => True
  | .new idx => match ops with
    | ci :: tc => ∃ r : vw_C, cl[ci]? = some r ∧ tc.length = r.2.2 ∧ Cond.classLink own idx r.1 ∈ Ts ∧ Cond.instantiable r.1 r.2.2 ∈ Ts ∧ Cond.initialized r.1 ∈ Ts ∧ ∀ j, j < r.2.2 → ∃ ty t, parseFieldDescriptor (r.2.1 j).2.2.1 = some ty ∧ tc[j]? = some t ∧ .inl (defaultValue ty) = xd0 t
    | _ => True
  | .checkcast idx => ∀ ci ∈ ops, ∃ (r : vw_C) (nm : String), cl[ci]? = some r ∧ Cond.classLink own idx nm ∈ Ts ∧ (Cond.castable r.1 nm ∈ Ts ∨ nm = r.1)
  | .aastore => ∀ ci ∈ ops, ∃ r : vw_C, cl[ci]? = some r ∧ Cond.castable r.1 "java/lang/Object" ∈ Ts ∧ (ops[0]? = some ci → r.1 = "ViewFoundryModel$Held")
  | .ldc idx => match ops with
    | [0, v] => Cond.constant own idx (Int32.ofNat v) ∈ Ts
    | [5, v] => Cond.constantFloat own idx (UInt32.ofNat v) ∈ Ts
    | _ => True
  | .ldc_w idx => match ops with
    | [0, v] => Cond.constant own idx (Int32.ofNat v) ∈ Ts
    | _ => True
  | .ldc2_w idx => match ops with
    | [1, v] => Cond.constantLong own idx (Int64.ofNat v) ∈ Ts
    | [6, v] => Cond.constantDouble own idx (UInt64.ofNat v) ∈ Ts
    | _ => True
  | .getstatic idx => ops = [77] → Cond.fieldLink own idx "java/util/ArrayList" "DEFAULTCAPACITY_EMPTY_ELEMENTDATA" "[Ljava/lang/Object;" ∈ Ts
  | _ => True
/-- the statics that a run reads, as they were at the frame's start -/
def xE (s : State) (B : Nat) (ad : xN) (h : xH) : Prop := h (0, 1) ≠ none ∧ va_Z "java/util/ArrayList" "DEFAULTCAPACITY_EMPTY_ELEMENTDATA" "[Ljava/lang/Object;" (.ref (ad (0, 1))) (fun q => B ≤ q) s s.heap
/-- a frame's machine, tables and code -/
def xCx (p : Program) (s : State) (m : MethodId) (args : Array Value) (meth : Method) (c : Code) (D : va_G) (cl : List vw_C) (Ts : List Cond) (own nm : String) (cc : ByteArray) : Prop :=
  p.tables.exec = Jvm.exec ∧ c.code = cc ∧ s.vm.findClass own = some m.cls ∧ (∀ w ∈ Ts, w.before args s = true) ∧ meth.name = nm ∧ va_K D cl [] s ∧ ∀ (ci : Nat) (r : vw_C), cl[ci]? = some r → xcls Ts r
/-- from the next place on, whatever addresses the new names have -/
def xCont (p : Program) (l0 : Launch) (e : Env) (R : Room) (s : State) (m : MethodId) (args : Array Value) (below : List Frame) (meth : Method) (c : Code) (D : va_G) (cl : List vw_C) (B : Nat) (ad : xN) (A A2 : xA) (l2 : xL) (st2 : List xV) (nL pc2 cells slots : Nat) (Q : State → Prop) : Prop :=
  ∀ (ad2 : xN) (H2 : Heap) (locs2 : List Loc) (ls2 : Array Slot) (cells2 slots2 : Nat), (∀ v, xlv A.2.2.2 v → xlv A2.2.2.2 v ∧ xc ad2 v = xc ad v) → (∀ z : Nat × Nat, z.1 = 0 → ad2 z = ad z) → xI s D cl B ad2 A2.2.2.2 H2 locs2 → lv_has ls2 nL (xlm ad2 l2) → xok (xlv A2.2.2.2) l2 st2 → cells2 + A.2.1 = cells + A2.2.1 → slots2 + A.2.2.1 = slots + A2.2.2.1 →
    W p l0 e R s m args below meth c H2 locs2 cells2 slots2 Q (F0 m pc2 ls2 (st2.map (xc ad2)))
variable {p : Program} {l0 : Launch} {e : Env} {R : Room} {s : State} {m : MethodId} {args : Array Value} {below : List Frame} {meth : Method} {c : Code} {H : Heap} {locs : List Loc} {cells slots : Nat} {Q : State → Prop}
variable {cc : ByteArray} {pc : Nat} {ls : Array Slot} {ad : xN} {D : va_G} {cl : List vw_C} {Ts : List Cond} {own nm : String} {B : Nat}
/-- the heap stays -/
theorem xCont.same {A : xA} {l2 : xL} {st2 : List xV} {nL pc2 : Nat} (k : xCont p l0 e R s m args below meth c D cl B ad A A l2 st2 nL pc2 cells slots Q) (hl : lv_has ls nL (xlm ad l2)) (hk : xok (xlv A.2.2.2) l2 st2) (hI : xI s D cl B ad A.2.2.2 H locs) : W p l0 e R s m args below meth c H locs cells slots Q (F0 m pc2 ls (st2.map (xc ad))) :=
  k ad H locs ls cells slots (fun v hv => ⟨hv, rfl⟩) (fun _ _ => rfl) hI hl hk rfl rfl
theorem xjmp_ok {off : Int} {tgt : Nat} {l l2 : xL} {st st2 : List xV} {A A2 : xA} (h : xjmp pc off l st A = some (tgt, l2, st2, A2)) : (pc : Int) + off = (tgt : Int) ∧ l2 = l ∧ st2 = st ∧ A2 = A := by
  unfold xjmp at h
  split at h
  next hg =>
    cases h
    exact ⟨(Int.toNat_of_nonneg hg).symm, rfl, rfl, rfl⟩
  next => cases h
theorem xbr_ok {b : Bool} {off : Int} {pc2 : Nat} {l l2 : xL} {st st2 : List xV} {A A2 : xA} (h : xbr b pc off l st A = some (pc2, l2, st2, A2)) : ∃ tgt : Nat, (pc : Int) + off = (tgt : Int) ∧ l2 = l ∧ st2 = st ∧ A2 = A ∧ (b = true ∧ pc2 = tgt ∨ b = false ∧ pc2 = pc + 3) := by
  unfold xbr at h
  split at h
  next hg =>
    refine ⟨((pc : Int) + off).toNat, (Int.toNat_of_nonneg hg).symm, ?_⟩
    split at h
    next hc => cases h; exact ⟨rfl, rfl, rfl, Or.inl ⟨hc, rfl⟩⟩
    next hc => cases h; exact ⟨rfl, rfl, rfl, Or.inr ⟨by cases b <;> simp_all, rfl⟩⟩
  next => cases h
theorem xsame_ok {args : Array Value} {ref owner name desc : String} (hts : ∀ w ∈ Ts, w.before args s = true) (h : ref = owner ∨ Cond.sameField ref owner name desc ∈ Ts) : ∀ x, s.fieldFound? owner name desc = some x → s.fieldFound? ref name desc = some x := by
  rcases h with rfl | h
  · exact fun _ z => z
  · exact u_same (hts _ h)
theorem xarr_ok {kd want n : Nat} {i : Int32} {f : Nat → xV} {v : xV} (h : xarr kd i n f want = some v) : (kd = want ∨ want = 0 ∧ kd = 9) ∧ ¬ (i < 0 ∨ n ≤ i.toNatClampNeg) ∧ v = f i.toNatClampNeg := by
  unfold xarr at h
  by_cases hg : (kd = want ∨ want = 0 ∧ kd = 9) ∧ ¬ (i < 0 ∨ n ≤ i.toNatClampNeg)
  · rw [if_pos hg] at h
    exact ⟨hg.1, hg.2, (Option.some.inj h).symm⟩
  · rw [if_neg hg] at h
    cases h
theorem xelem {n : Nat} {xs : List Nat} (h : xs.elem n = true) : n ∈ xs := by simpa using h

theorem xt_ifCond {l l2 : xL} {st st2 : List xV} {A A2 : xA} {nL pc2 : Nat} {ops : List Nat} {o : Jvm.ClassFile.Cond} {off : Int} (X : xCx p s m args meth c D cl Ts own nm cc) (hd : decode cc pc = .ok (.ifCond o off, xlen2 (.ifCond o off))) (hT : xT Ts cl own nm (.ifCond o off) ops) (hl : lv_has ls nL (xlm ad l)) (hk : xok (xlv A.2.2.2) l st) (hI : xI s D cl B ad A.2.2.2 H locs) (hE : xE s B ad A.2.2.2) (h : xs2 (.ifCond o off) ops pc l st A = some (pc2, l2, st2, A2)) (hbud : cells + A2.2.1 ≤ R.cells + A.2.1 ∧ slots + A2.2.2.1 ≤ R.slots + A.2.2.1)
    (k : xCont p l0 e R s m args below meth c D cl B ad A A2 l2 st2 nL pc2 cells slots Q) : W p l0 e R s m args below meth c H locs cells slots Q (F0 m pc ls (st.map (xc ad))) := by
  simp only [xs2] at h
  obtain ⟨hx, hb, hown, hts, hnm, hK, hcl⟩ := X
  split at h
  next =>
    obtain ⟨tgt, ht, rfl, rfl, rfl, hc⟩ := xbr_ok h
    cases o
    case eq =>
      refine lv_if_eq hx hb hd ht (fun z => ?_) (fun z => ?_)
      · rcases hc with ⟨q, rfl⟩ | ⟨q, rfl⟩
        · exact k.same hl (xok_tl hk) hI
        · exact absurd z (of_decide_eq_false q)
      · rcases hc with ⟨q, rfl⟩ | ⟨q, rfl⟩
        · first | exact absurd (of_decide_eq_true q) z | exact absurd z (of_decide_eq_true q)
        · exact k.same hl (xok_tl hk) hI
    case ne =>
      refine lv_if_ne hx hb hd ht (fun z => ?_) (fun z => ?_)
      · rcases hc with ⟨q, rfl⟩ | ⟨q, rfl⟩
        · exact k.same hl (xok_tl hk) hI
        · exact absurd z (of_decide_eq_false q)
      · rcases hc with ⟨q, rfl⟩ | ⟨q, rfl⟩
        · first | exact absurd (of_decide_eq_true q) z | exact absurd z (of_decide_eq_true q)
        · exact k.same hl (xok_tl hk) hI
    case lt =>
      refine lv_if_lt hx hb hd ht (fun z => ?_) (fun z => ?_)
      · rcases hc with ⟨q, rfl⟩ | ⟨q, rfl⟩
        · exact k.same hl (xok_tl hk) hI
        · exact absurd z (of_decide_eq_false q)
      · rcases hc with ⟨q, rfl⟩ | ⟨q, rfl⟩
        · first | exact absurd (of_decide_eq_true q) z | exact absurd z (of_decide_eq_true q)
        · exact k.same hl (xok_tl hk) hI
    case ge =>
      refine lv_if_ge hx hb hd ht (fun z => ?_) (fun z => ?_)
      · rcases hc with ⟨q, rfl⟩ | ⟨q, rfl⟩
        · exact k.same hl (xok_tl hk) hI
        · exact absurd z (of_decide_eq_false q)
      · rcases hc with ⟨q, rfl⟩ | ⟨q, rfl⟩
        · first | exact absurd (of_decide_eq_true q) z | exact absurd z (of_decide_eq_true q)
        · exact k.same hl (xok_tl hk) hI
    case gt =>
      refine lv_if_gt hx hb hd ht (fun z => ?_) (fun z => ?_)
      · rcases hc with ⟨q, rfl⟩ | ⟨q, rfl⟩
        · exact k.same hl (xok_tl hk) hI
        · exact absurd z (of_decide_eq_false q)
      · rcases hc with ⟨q, rfl⟩ | ⟨q, rfl⟩
        · first | exact absurd (of_decide_eq_true q) z | exact absurd z (of_decide_eq_true q)
        · exact k.same hl (xok_tl hk) hI
    case le =>
      refine lv_if_le hx hb hd ht (fun z => ?_) (fun z => ?_)
      · rcases hc with ⟨q, rfl⟩ | ⟨q, rfl⟩
        · exact k.same hl (xok_tl hk) hI
        · exact absurd z (of_decide_eq_false q)
      · rcases hc with ⟨q, rfl⟩ | ⟨q, rfl⟩
        · first | exact absurd (of_decide_eq_true q) z | exact absurd z (of_decide_eq_true q)
        · exact k.same hl (xok_tl hk) hI
  next => cases h

theorem xt_if_icmp {l l2 : xL} {st st2 : List xV} {A A2 : xA} {nL pc2 : Nat} {ops : List Nat} {o : Jvm.ClassFile.Cond} {off : Int} (X : xCx p s m args meth c D cl Ts own nm cc) (hd : decode cc pc = .ok (.if_icmp o off, xlen2 (.if_icmp o off))) (hT : xT Ts cl own nm (.if_icmp o off) ops) (hl : lv_has ls nL (xlm ad l)) (hk : xok (xlv A.2.2.2) l st) (hI : xI s D cl B ad A.2.2.2 H locs) (hE : xE s B ad A.2.2.2) (h : xs2 (.if_icmp o off) ops pc l st A = some (pc2, l2, st2, A2)) (hbud : cells + A2.2.1 ≤ R.cells + A.2.1 ∧ slots + A2.2.2.1 ≤ R.slots + A.2.2.1)
    (k : xCont p l0 e R s m args below meth c D cl B ad A A2 l2 st2 nL pc2 cells slots Q) : W p l0 e R s m args below meth c H locs cells slots Q (F0 m pc ls (st.map (xc ad))) := by
  simp only [xs2] at h
  obtain ⟨hx, hb, hown, hts, hnm, hK, hcl⟩ := X
  split at h
  next =>
    obtain ⟨tgt, ht, rfl, rfl, rfl, hc⟩ := xbr_ok h
    cases o
    case eq =>
      refine lv_icmp_eq hx hb hd ht (fun z => ?_) (fun z => ?_)
      · rcases hc with ⟨q, rfl⟩ | ⟨q, rfl⟩
        · exact k.same hl (xok_tl (xok_tl hk)) hI
        · exact absurd z (of_decide_eq_false q)
      · rcases hc with ⟨q, rfl⟩ | ⟨q, rfl⟩
        · first | exact absurd (of_decide_eq_true q) z | exact absurd z (of_decide_eq_true q)
        · exact k.same hl (xok_tl (xok_tl hk)) hI
    case ne =>
      refine lv_icmp_ne hx hb hd ht (fun z => ?_) (fun z => ?_)
      · rcases hc with ⟨q, rfl⟩ | ⟨q, rfl⟩
        · exact k.same hl (xok_tl (xok_tl hk)) hI
        · exact absurd z (of_decide_eq_false q)
      · rcases hc with ⟨q, rfl⟩ | ⟨q, rfl⟩
        · first | exact absurd (of_decide_eq_true q) z | exact absurd z (of_decide_eq_true q)
        · exact k.same hl (xok_tl (xok_tl hk)) hI
    case lt =>
      refine lv_icmp_lt hx hb hd ht (fun z => ?_) (fun z => ?_)
      · rcases hc with ⟨q, rfl⟩ | ⟨q, rfl⟩
        · exact k.same hl (xok_tl (xok_tl hk)) hI
        · exact absurd z (of_decide_eq_false q)
      · rcases hc with ⟨q, rfl⟩ | ⟨q, rfl⟩
        · first | exact absurd (of_decide_eq_true q) z | exact absurd z (of_decide_eq_true q)
        · exact k.same hl (xok_tl (xok_tl hk)) hI
    case ge =>
      refine lv_icmp_ge hx hb hd ht (fun z => ?_) (fun z => ?_)
      · rcases hc with ⟨q, rfl⟩ | ⟨q, rfl⟩
        · exact k.same hl (xok_tl (xok_tl hk)) hI
        · exact absurd z (of_decide_eq_false q)
      · rcases hc with ⟨q, rfl⟩ | ⟨q, rfl⟩
        · first | exact absurd (of_decide_eq_true q) z | exact absurd z (of_decide_eq_true q)
        · exact k.same hl (xok_tl (xok_tl hk)) hI
    case gt =>
      refine lv_icmp_gt hx hb hd ht (fun z => ?_) (fun z => ?_)
      · rcases hc with ⟨q, rfl⟩ | ⟨q, rfl⟩
        · exact k.same hl (xok_tl (xok_tl hk)) hI
        · exact absurd z (of_decide_eq_false q)
      · rcases hc with ⟨q, rfl⟩ | ⟨q, rfl⟩
        · first | exact absurd (of_decide_eq_true q) z | exact absurd z (of_decide_eq_true q)
        · exact k.same hl (xok_tl (xok_tl hk)) hI
    case le =>
      refine lv_icmp_le hx hb hd ht (fun z => ?_) (fun z => ?_)
      · rcases hc with ⟨q, rfl⟩ | ⟨q, rfl⟩
        · exact k.same hl (xok_tl (xok_tl hk)) hI
        · exact absurd z (of_decide_eq_false q)
      · rcases hc with ⟨q, rfl⟩ | ⟨q, rfl⟩
        · first | exact absurd (of_decide_eq_true q) z | exact absurd z (of_decide_eq_true q)
        · exact k.same hl (xok_tl (xok_tl hk)) hI
  next => cases h

theorem xt_if_acmp_eq {l l2 : xL} {st st2 : List xV} {A A2 : xA} {nL pc2 : Nat} {ops : List Nat} {off : Int} (X : xCx p s m args meth c D cl Ts own nm cc) (hd : decode cc pc = .ok (.if_acmp .eq off, xlen2 (.if_acmp .eq off))) (hT : xT Ts cl own nm (.if_acmp .eq off) ops) (hl : lv_has ls nL (xlm ad l)) (hk : xok (xlv A.2.2.2) l st) (hI : xI s D cl B ad A.2.2.2 H locs) (hE : xE s B ad A.2.2.2) (h : xs2 (.if_acmp .eq off) ops pc l st A = some (pc2, l2, st2, A2)) (hbud : cells + A2.2.1 ≤ R.cells + A.2.1 ∧ slots + A2.2.2.1 ≤ R.slots + A.2.2.1)
    (k : xCont p l0 e R s m args below meth c D cl B ad A A2 l2 st2 nL pc2 cells slots Q) : W p l0 e R s m args below meth c H locs cells slots Q (F0 m pc ls (st.map (xc ad))) := by
  simp only [xs2] at h
  obtain ⟨hx, hb, hown, hts, hnm, hK, hcl⟩ := X
  split at h
  next q z r =>
    obtain ⟨tgt, ht, rfl, rfl, rfl, hc⟩ := xbr_ok h
    refine lv_acmp_eq (ry := some (ad q)) (rx := some (ad z)) hx hb hd ht (fun w => ?_) (fun w => ?_)
    · rcases hc with ⟨u, rfl⟩ | ⟨u, rfl⟩
      · exact k.same hl (xok_tl (xok_tl hk)) hI
      · exact absurd (hI.1.2.1 _ _ (xok_hd (xok_tl hk)) (xok_hd hk) (Option.some.inj w)) (of_decide_eq_false u)
    · rcases hc with ⟨u, rfl⟩ | ⟨u, rfl⟩
      · exact absurd (by rw [of_decide_eq_true u]) w
      · exact k.same hl (xok_tl (xok_tl hk)) hI
  next z r =>
    obtain ⟨tgt, ht, rfl, rfl, rfl, hc⟩ := xbr_ok h
    refine lv_acmp_eq (ry := none) (rx := some (ad z)) hx hb hd ht (fun w => ?_) (fun w => ?_)
    · rcases hc with ⟨u, rfl⟩ | ⟨u, rfl⟩
      · exact k.same hl (xok_tl (xok_tl hk)) hI
      · first | exact absurd u (by decide) | exact absurd rfl w | (cases w; done)
    · rcases hc with ⟨u, rfl⟩ | ⟨u, rfl⟩
      · first | exact absurd u (by decide) | exact absurd rfl w | (cases w; done)
      · exact k.same hl (xok_tl (xok_tl hk)) hI
  next q r =>
    obtain ⟨tgt, ht, rfl, rfl, rfl, hc⟩ := xbr_ok h
    refine lv_acmp_eq (ry := some (ad q)) (rx := none) hx hb hd ht (fun w => ?_) (fun w => ?_)
    · rcases hc with ⟨u, rfl⟩ | ⟨u, rfl⟩
      · exact k.same hl (xok_tl (xok_tl hk)) hI
      · first | exact absurd u (by decide) | exact absurd rfl w | (cases w; done)
    · rcases hc with ⟨u, rfl⟩ | ⟨u, rfl⟩
      · first | exact absurd u (by decide) | exact absurd rfl w | (cases w; done)
      · exact k.same hl (xok_tl (xok_tl hk)) hI
  next r =>
    obtain ⟨tgt, ht, rfl, rfl, rfl, hc⟩ := xbr_ok h
    refine lv_acmp_eq (ry := none) (rx := none) hx hb hd ht (fun w => ?_) (fun w => ?_)
    · rcases hc with ⟨u, rfl⟩ | ⟨u, rfl⟩
      · exact k.same hl (xok_tl (xok_tl hk)) hI
      · first | exact absurd u (by decide) | exact absurd rfl w | (cases w; done)
    · rcases hc with ⟨u, rfl⟩ | ⟨u, rfl⟩
      · first | exact absurd u (by decide) | exact absurd rfl w | (cases w; done)
      · exact k.same hl (xok_tl (xok_tl hk)) hI
  next => cases h

theorem xt_if_acmp_ne {l l2 : xL} {st st2 : List xV} {A A2 : xA} {nL pc2 : Nat} {ops : List Nat} {off : Int} (X : xCx p s m args meth c D cl Ts own nm cc) (hd : decode cc pc = .ok (.if_acmp .ne off, xlen2 (.if_acmp .ne off))) (hT : xT Ts cl own nm (.if_acmp .ne off) ops) (hl : lv_has ls nL (xlm ad l)) (hk : xok (xlv A.2.2.2) l st) (hI : xI s D cl B ad A.2.2.2 H locs) (hE : xE s B ad A.2.2.2) (h : xs2 (.if_acmp .ne off) ops pc l st A = some (pc2, l2, st2, A2)) (hbud : cells + A2.2.1 ≤ R.cells + A.2.1 ∧ slots + A2.2.2.1 ≤ R.slots + A.2.2.1)
    (k : xCont p l0 e R s m args below meth c D cl B ad A A2 l2 st2 nL pc2 cells slots Q) : W p l0 e R s m args below meth c H locs cells slots Q (F0 m pc ls (st.map (xc ad))) := by
  simp only [xs2] at h
  obtain ⟨hx, hb, hown, hts, hnm, hK, hcl⟩ := X
  split at h
  next q z r =>
    obtain ⟨tgt, ht, rfl, rfl, rfl, hc⟩ := xbr_ok h
    refine lv_acmp_ne (ry := some (ad q)) (rx := some (ad z)) hx hb hd ht (fun w => ?_) (fun w => ?_)
    · rcases hc with ⟨u, rfl⟩ | ⟨u, rfl⟩
      · exact k.same hl (xok_tl (xok_tl hk)) hI
      · exact absurd (by rw [Decidable.of_not_not (of_decide_eq_false u)]) w
    · rcases hc with ⟨u, rfl⟩ | ⟨u, rfl⟩
      · exact absurd (hI.1.2.1 _ _ (xok_hd (xok_tl hk)) (xok_hd hk) (Option.some.inj w)) (of_decide_eq_true u)
      · exact k.same hl (xok_tl (xok_tl hk)) hI
  next z r =>
    obtain ⟨tgt, ht, rfl, rfl, rfl, hc⟩ := xbr_ok h
    refine lv_acmp_ne (ry := none) (rx := some (ad z)) hx hb hd ht (fun w => ?_) (fun w => ?_)
    · rcases hc with ⟨u, rfl⟩ | ⟨u, rfl⟩
      · exact k.same hl (xok_tl (xok_tl hk)) hI
      · first | exact absurd u (by decide) | exact absurd rfl w | (cases w; done)
    · rcases hc with ⟨u, rfl⟩ | ⟨u, rfl⟩
      · first | exact absurd u (by decide) | exact absurd rfl w | (cases w; done)
      · exact k.same hl (xok_tl (xok_tl hk)) hI
  next q r =>
    obtain ⟨tgt, ht, rfl, rfl, rfl, hc⟩ := xbr_ok h
    refine lv_acmp_ne (ry := some (ad q)) (rx := none) hx hb hd ht (fun w => ?_) (fun w => ?_)
    · rcases hc with ⟨u, rfl⟩ | ⟨u, rfl⟩
      · exact k.same hl (xok_tl (xok_tl hk)) hI
      · first | exact absurd u (by decide) | exact absurd rfl w | (cases w; done)
    · rcases hc with ⟨u, rfl⟩ | ⟨u, rfl⟩
      · first | exact absurd u (by decide) | exact absurd rfl w | (cases w; done)
      · exact k.same hl (xok_tl (xok_tl hk)) hI
  next r =>
    obtain ⟨tgt, ht, rfl, rfl, rfl, hc⟩ := xbr_ok h
    refine lv_acmp_ne (ry := none) (rx := none) hx hb hd ht (fun w => ?_) (fun w => ?_)
    · rcases hc with ⟨u, rfl⟩ | ⟨u, rfl⟩
      · exact k.same hl (xok_tl (xok_tl hk)) hI
      · first | exact absurd u (by decide) | exact absurd rfl w | (cases w; done)
    · rcases hc with ⟨u, rfl⟩ | ⟨u, rfl⟩
      · first | exact absurd u (by decide) | exact absurd rfl w | (cases w; done)
      · exact k.same hl (xok_tl (xok_tl hk)) hI
  next => cases h

theorem xt_tableswitch {l l2 : xL} {st st2 : List xV} {A A2 : xA} {nL pc2 : Nat} {ops : List Nat} {dflt lo hi : Int} {offs : Array Int} {len : Nat} (X : xCx p s m args meth c D cl Ts own nm cc) (hd : decode cc pc = .ok (.tableswitch dflt lo hi offs, len)) (hT : xT Ts cl own nm (.tableswitch dflt lo hi offs) ops) (hl : lv_has ls nL (xlm ad l)) (hk : xok (xlv A.2.2.2) l st) (hI : xI s D cl B ad A.2.2.2 H locs) (hE : xE s B ad A.2.2.2) (h : xs2 (.tableswitch dflt lo hi offs) ops pc l st A = some (pc2, l2, st2, A2)) (hbud : cells + A2.2.1 ≤ R.cells + A.2.1 ∧ slots + A2.2.2.1 ≤ R.slots + A.2.2.1)
    (k : xCont p l0 e R s m args below meth c D cl B ad A A2 l2 st2 nL pc2 cells slots Q) : W p l0 e R s m args below meth c H locs cells slots Q (F0 m pc ls (st.map (xc ad))) := by
  simp only [xs2] at h
  obtain ⟨hx, hb, hown, hts, hnm, hK, hcl⟩ := X
  split at h
  next =>
    split at h
    next hc =>
      obtain ⟨ht, rfl, rfl, rfl⟩ := xjmp_ok h
      exact lv_tableOut hx hb hd hc ht (k.same hl (xok_tl hk) hI)
    next hc =>
      split at h
      next ho =>
        obtain ⟨ht, rfl, rfl, rfl⟩ := xjmp_ok h
        exact lv_tableIn hx hb hd (fun z => hc (Or.inl z)) (fun z => hc (Or.inr z)) ho ht (k.same hl (xok_tl hk) hI)
      next => cases h
  next => cases h

theorem xt_getfield {l l2 : xL} {st st2 : List xV} {A A2 : xA} {nL pc2 : Nat} {ops : List Nat} {idx : Nat} (X : xCx p s m args meth c D cl Ts own nm cc) (hd : decode cc pc = .ok (.getfield idx, xlen2 (.getfield idx))) (hT : xT Ts cl own nm (.getfield idx) ops) (hl : lv_has ls nL (xlm ad l)) (hk : xok (xlv A.2.2.2) l st) (hI : xI s D cl B ad A.2.2.2 H locs) (hE : xE s B ad A.2.2.2) (h : xs2 (.getfield idx) ops pc l st A = some (pc2, l2, st2, A2)) (hbud : cells + A2.2.1 ≤ R.cells + A.2.1 ∧ slots + A2.2.2.1 ≤ R.slots + A.2.2.1)
    (k : xCont p l0 e R s m args below meth c D cl B ad A A2 l2 st2 nL pc2 cells slots Q) : W p l0 e R s m args below meth c H locs cells slots Q (F0 m pc ls (st.map (xc ad))) := by
  simp only [xs2] at h
  obtain ⟨hx, hb, hown, hts, hnm, hK, hcl⟩ := X
  split at h
  next q r =>
    split at h
    next ci fs hq =>
      split at h
      next kx cis =>
        split at h
        next hci =>
          split at h
          next v hv =>
            cases h
            obtain ⟨w, ref, hc, hkx, hlk, hsm⟩ := hT ci (xelem hci)
            obtain ⟨w2, h1, hlen, cell, q1, q2, q3, q4⟩ := hI.1.1 q _ hq
            cases Option.some.inj (hc.symm.trans h1)
            obtain ⟨hS, hfc, kC, hkC, hkind⟩ := hK.1 ci _ hc
            obtain ⟨cf, kf, fi, f, hi, hsl⟩ := hS kx hkx
            have hst := (u_facts hfc hkC (u_lays hts (hcl ci _ hc).1 hkx) hi).1
            have hi2 := xsame_ok hts hsm _ hi
            have hval : cell.slots[f.slot]? = some (xc ad v) := by
              rw [hsl, q4 kx hkx]
              simp [vp_V, hv]
            have hlv : xlv A.2.2.2 v := hI.1.2.2.2 q _ hq v (List.mem_of_getElem? hv)
            have kk := k.same (H := H) (locs := locs) hl (xok_push (xok_tl hk) hlv) hI
            rcases hlk with hlk | ⟨host, hlk⟩
            · exact W.getf hx hb hown (hts _ hlk) hi2 hst q1 (by rw [q3]; exact fun z => by cases z) hval rfl rfl hd kk
            · exact va_Wgetf hx hb hown (hts _ hlk) hi2 hst q1 (by rw [q3]; exact fun z => by cases z) hval rfl rfl hd kk
          next => cases h
        next => cases h
      next => cases h
    next => cases h
  next => cases h

theorem xt_putfield {l l2 : xL} {st st2 : List xV} {A A2 : xA} {nL pc2 : Nat} {ops : List Nat} {idx : Nat} (X : xCx p s m args meth c D cl Ts own nm cc) (hd : decode cc pc = .ok (.putfield idx, xlen2 (.putfield idx))) (hT : xT Ts cl own nm (.putfield idx) ops) (hl : lv_has ls nL (xlm ad l)) (hk : xok (xlv A.2.2.2) l st) (hI : xI s D cl B ad A.2.2.2 H locs) (hE : xE s B ad A.2.2.2) (h : xs2 (.putfield idx) ops pc l st A = some (pc2, l2, st2, A2)) (hbud : cells + A2.2.1 ≤ R.cells + A.2.1 ∧ slots + A2.2.2.1 ≤ R.slots + A.2.2.1)
    (k : xCont p l0 e R s m args below meth c D cl B ad A A2 l2 st2 nL pc2 cells slots Q) : W p l0 e R s m args below meth c H locs cells slots Q (F0 m pc ls (st.map (xc ad))) := by
  simp only [xs2] at h
  obtain ⟨hx, hb, hown, hts, hnm, hK, hcl⟩ := X
  split at h
  next v q r =>
    split at h
    next ci fs hq =>
      split at h
      next kx t cis =>
        split at h
        next hg =>
          cases h
          obtain ⟨hci, h0, hfit⟩ := hg
          obtain ⟨w, ref, ty, hc, hkx, hdesc, hty, hsm, hlk⟩ := hT ci (xelem hci)
          obtain ⟨w2, h1, hlen, cell, q1, q2, q3, q4⟩ := hI.1.1 q _ hq
          cases Option.some.inj (hc.symm.trans h1)
          obtain ⟨hin, ⟨ty0, hty0⟩, hnm2⟩ := hcl ci _ hc
          have hap : ∀ x y, x < w.2.2 → y < w.2.2 → x ≠ y → (D.2 ci) x ≠ (D.2 ci) y := va_apart (own := own) (C := w.1) (T := w.2.1) (N := w.2.2) hts hin ty0 hty0 hnm2 hK hc
          obtain ⟨hS, hfc, kC, hkC, hkind⟩ := hK.1 ci _ hc
          obtain ⟨cf, kf, fi, f, hi, hsl⟩ := hS kx hkx
          have hst := (u_facts hfc hkC (u_lays hts hin hkx) hi).1
          have hi2 := xsame_ok hts hsm _ hi
          obtain ⟨hn1, hf1⟩ := xfit_ok (ad := ad) hty hfit
          have hsz : f.slot < cell.slots.size := by rw [hsl]; exact k2_hasslot (q4 kx hkx)
          have hlv : xlv A.2.2.2 v := xok_hd hk
          have kk : ∀ H1 : Heap, H1[ad q]? = some (cell.setSlot f.slot (xc ad v)) → H1.size = H.size → (∀ z, z ≠ ad q → H1[z]? = H[z]?) → W p l0 e R s m args below meth c H1 (locs ++ [⟨ad q, f.slot⟩]) cells slots Q (F0 m (pc + 3) ls (st2.map (xc ad))) := by
            intro H1 e1 e2 e3
            have hcell : xcell s D cl ad (ad q) (.inl (ci, fs.set kx v)) H1 := by
              refine ⟨w, hc, by rw [List.length_set]; exact hlen, t_OB.to (V := updV (vp_V (fs.map (xc ad))) kx (xc ad v)) ⟨_, e1, q2, q3, ?_⟩ (fun j _ => ?_)⟩
              · rw [hsl]
                exact t_set q4 hap hkx _
              · rw [vp_updV_set (by rw [List.length_map]; exact Nat.lt_of_lt_of_eq hkx hlen.symm), List.map_set]
            refine k ad H1 _ ls cells slots (fun u hu => ⟨xup_lv hu, rfl⟩) (fun _ _ => rfl) (hI.put hq h0 hcell e2 e3 ?_) hl (xok_up (xok_tl (xok_tl hk))) rfl rfl
            intro u hu
            rcases List.mem_or_eq_of_mem_set hu with hu | rfl
            · exact hI.1.2.2.2 q _ hq u hu
            · exact hlv
          have hlay := hts _ (hin _ (u_in_lay hkx))
          unfold u_lay at hlay
          rcases hlk with ⟨hlk, hfin⟩ | ⟨⟨host, hlk⟩, hfin⟩
          · rcases hfin with hfin | ⟨hfin, hinit, hdecl⟩
            · rw [if_neg (by rw [hfin]; decide)] at hlay
              exact W.putK hx hb (f := f) ⟨hown, hts _ hlk, ⟨_, _, _, hi2⟩, hst⟩ (by rw [q2]; exact u_store hfc hkC hkind hlay hi hdesc hn1 hf1) q1 q3 hsz rfl rfl hd kk
            · rw [if_pos hfin] at hlay
              have hcf : m.cls = cf := by
                obtain ⟨_, _, c2, _, _, _, -, -, hf2, -, -, -, hown2, -⟩ := Cond.laysFinal_spec hlay
                have e1 : c2 = cf := by have := hi.symm.trans hf2; simp at this; exact this.1.symm
                rw [hdecl] at hown2
                rw [← e1]; exact Option.some.inj (hown.symm.trans hown2)
              exact W.putFinK hx hb hown (hts _ hlk) hi2 hst hcf (hnm.trans hinit) (by rw [q2]; exact u_fits hfc hkC hkind (Or.inr hlay) hi hdesc hn1 hf1) q1 q3 hsz rfl rfl hd kk
          · rw [if_neg (by rw [hfin]; decide)] at hlay
            exact va_WputK hx hb (f := f) hown (hts _ hlk) hi2 hst (by rw [q2]; exact u_store hfc hkC hkind hlay hi hdesc hn1 hf1) q1 q3 hsz rfl rfl hd kk
        next => cases h
      next => cases h
    next => cases h
  next => cases h

theorem xt_iaload {l l2 : xL} {st st2 : List xV} {A A2 : xA} {nL pc2 : Nat} {ops : List Nat} (X : xCx p s m args meth c D cl Ts own nm cc) (hd : decode cc pc = .ok (.iaload, xlen2 (.iaload))) (hT : xT Ts cl own nm (.iaload) ops) (hl : lv_has ls nL (xlm ad l)) (hk : xok (xlv A.2.2.2) l st) (hI : xI s D cl B ad A.2.2.2 H locs) (hE : xE s B ad A.2.2.2) (h : xs2 (.iaload) ops pc l st A = some (pc2, l2, st2, A2)) (hbud : cells + A2.2.1 ≤ R.cells + A.2.1 ∧ slots + A2.2.2.1 ≤ R.slots + A.2.2.1)
    (k : xCont p l0 e R s m args below meth c D cl B ad A A2 l2 st2 nL pc2 cells slots Q) : W p l0 e R s m args below meth c H locs cells slots Q (F0 m pc ls (st.map (xc ad))) := by
  simp only [xs2] at h
  obtain ⟨hx, hb, hown, hts, hnm, hK, hcl⟩ := X
  split at h
  next j q r =>
    split at h
    next kd n f hq =>
      split at h
      next v hv =>
        cases h
        · obtain ⟨hkd, hin, rfl⟩ := xarr_ok hv
          obtain ⟨cell, h1, h2, h3, h4, h5, h6⟩ := hI.1.1 q _ hq
          have hty : xak kd = .int := by rcases hkd with rfl | ⟨hw, rfl⟩ <;> first | rfl | exact absurd hw (by decide)
          exact W.iald hx hb h1 (by rw [← hty]; exact h2) h4 (by rw [h5]; exact hin) (h6 _ (Nat.not_le.mp fun z => hin (Or.inr z))) rfl rfl hd (k.same hl (xok_push (xok_tl (xok_tl hk)) (hI.1.2.2.2 q _ hq _)) hI)
      next => cases h
    next => cases h
  next => cases h

theorem xt_laload {l l2 : xL} {st st2 : List xV} {A A2 : xA} {nL pc2 : Nat} {ops : List Nat} (X : xCx p s m args meth c D cl Ts own nm cc) (hd : decode cc pc = .ok (.laload, xlen2 (.laload))) (hT : xT Ts cl own nm (.laload) ops) (hl : lv_has ls nL (xlm ad l)) (hk : xok (xlv A.2.2.2) l st) (hI : xI s D cl B ad A.2.2.2 H locs) (hE : xE s B ad A.2.2.2) (h : xs2 (.laload) ops pc l st A = some (pc2, l2, st2, A2)) (hbud : cells + A2.2.1 ≤ R.cells + A.2.1 ∧ slots + A2.2.2.1 ≤ R.slots + A.2.2.1)
    (k : xCont p l0 e R s m args below meth c D cl B ad A A2 l2 st2 nL pc2 cells slots Q) : W p l0 e R s m args below meth c H locs cells slots Q (F0 m pc ls (st.map (xc ad))) := by
  simp only [xs2] at h
  obtain ⟨hx, hb, hown, hts, hnm, hK, hcl⟩ := X
  split at h
  next j q r =>
    split at h
    next kd n f hq =>
      split at h
      next v hv =>
        cases h
        · obtain ⟨hkd, hin, rfl⟩ := xarr_ok hv
          obtain ⟨cell, h1, h2, h3, h4, h5, h6⟩ := hI.1.1 q _ hq
          have hty : xak kd = .long := by rcases hkd with rfl | ⟨hw, rfl⟩ <;> first | rfl | exact absurd hw (by decide)
          exact W.lald hx hb h1 (by rw [← hty]; exact h2) h4 (by rw [h5]; exact hin) (h6 _ (Nat.not_le.mp fun z => hin (Or.inr z))) rfl rfl hd (k.same hl (xok_push (xok_tl (xok_tl hk)) (hI.1.2.2.2 q _ hq _)) hI)
      next => cases h
    next => cases h
  next => cases h

theorem xt_caload {l l2 : xL} {st st2 : List xV} {A A2 : xA} {nL pc2 : Nat} {ops : List Nat} (X : xCx p s m args meth c D cl Ts own nm cc) (hd : decode cc pc = .ok (.caload, xlen2 (.caload))) (hT : xT Ts cl own nm (.caload) ops) (hl : lv_has ls nL (xlm ad l)) (hk : xok (xlv A.2.2.2) l st) (hI : xI s D cl B ad A.2.2.2 H locs) (hE : xE s B ad A.2.2.2) (h : xs2 (.caload) ops pc l st A = some (pc2, l2, st2, A2)) (hbud : cells + A2.2.1 ≤ R.cells + A.2.1 ∧ slots + A2.2.2.1 ≤ R.slots + A.2.2.1)
    (k : xCont p l0 e R s m args below meth c D cl B ad A A2 l2 st2 nL pc2 cells slots Q) : W p l0 e R s m args below meth c H locs cells slots Q (F0 m pc ls (st.map (xc ad))) := by
  simp only [xs2] at h
  obtain ⟨hx, hb, hown, hts, hnm, hK, hcl⟩ := X
  split at h
  next j q r =>
    split at h
    next kd n f hq =>
      split at h
      next v hv =>
        cases h
        · obtain ⟨hkd, hin, rfl⟩ := xarr_ok hv
          obtain ⟨cell, h1, h2, h3, h4, h5, h6⟩ := hI.1.1 q _ hq
          have hty : xak kd = .char := by rcases hkd with rfl | ⟨hw, rfl⟩ <;> first | rfl | exact absurd hw (by decide)
          exact W.cald hx hb h1 (by rw [← hty]; exact h2) h4 (by rw [h5]; exact hin) (h6 _ (Nat.not_le.mp fun z => hin (Or.inr z))) rfl rfl hd (k.same hl (xok_push (xok_tl (xok_tl hk)) (hI.1.2.2.2 q _ hq _)) hI)
      next => cases h
    next => cases h
  next => cases h

theorem xt_daload {l l2 : xL} {st st2 : List xV} {A A2 : xA} {nL pc2 : Nat} {ops : List Nat} (X : xCx p s m args meth c D cl Ts own nm cc) (hd : decode cc pc = .ok (.daload, xlen2 (.daload))) (hT : xT Ts cl own nm (.daload) ops) (hl : lv_has ls nL (xlm ad l)) (hk : xok (xlv A.2.2.2) l st) (hI : xI s D cl B ad A.2.2.2 H locs) (hE : xE s B ad A.2.2.2) (h : xs2 (.daload) ops pc l st A = some (pc2, l2, st2, A2)) (hbud : cells + A2.2.1 ≤ R.cells + A.2.1 ∧ slots + A2.2.2.1 ≤ R.slots + A.2.2.1)
    (k : xCont p l0 e R s m args below meth c D cl B ad A A2 l2 st2 nL pc2 cells slots Q) : W p l0 e R s m args below meth c H locs cells slots Q (F0 m pc ls (st.map (xc ad))) := by
  simp only [xs2] at h
  obtain ⟨hx, hb, hown, hts, hnm, hK, hcl⟩ := X
  split at h
  next j q r =>
    split at h
    next kd n f hq =>
      split at h
      next v hv =>
        cases h
        · obtain ⟨hkd, hin, rfl⟩ := xarr_ok hv
          obtain ⟨cell, h1, h2, h3, h4, h5, h6⟩ := hI.1.1 q _ hq
          have hty : xak kd = .double := by rcases hkd with rfl | ⟨hw, rfl⟩ <;> first | rfl | exact absurd hw (by decide)
          exact W.dald hx hb h1 (by rw [← hty]; exact h2) h4 (by rw [h5]; exact hin) (h6 _ (Nat.not_le.mp fun z => hin (Or.inr z))) rfl rfl hd (k.same hl (xok_push (xok_tl (xok_tl hk)) (hI.1.2.2.2 q _ hq _)) hI)
      next => cases h
    next => cases h
  next => cases h

theorem xt_aaload {l l2 : xL} {st st2 : List xV} {A A2 : xA} {nL pc2 : Nat} {ops : List Nat} (X : xCx p s m args meth c D cl Ts own nm cc) (hd : decode cc pc = .ok (.aaload, xlen2 (.aaload))) (hT : xT Ts cl own nm (.aaload) ops) (hl : lv_has ls nL (xlm ad l)) (hk : xok (xlv A.2.2.2) l st) (hI : xI s D cl B ad A.2.2.2 H locs) (hE : xE s B ad A.2.2.2) (h : xs2 (.aaload) ops pc l st A = some (pc2, l2, st2, A2)) (hbud : cells + A2.2.1 ≤ R.cells + A.2.1 ∧ slots + A2.2.2.1 ≤ R.slots + A.2.2.1)
    (k : xCont p l0 e R s m args below meth c D cl B ad A A2 l2 st2 nL pc2 cells slots Q) : W p l0 e R s m args below meth c H locs cells slots Q (F0 m pc ls (st.map (xc ad))) := by
  simp only [xs2] at h
  obtain ⟨hx, hb, hown, hts, hnm, hK, hcl⟩ := X
  split at h
  next j q r =>
    split at h
    next kd n f hq =>
      split at h
      next v hv =>
        cases h
        · obtain ⟨hkd, hin, rfl⟩ := xarr_ok hv
          obtain ⟨cell, h1, h2, h3, h4, h5, h6⟩ := hI.1.1 q _ hq
          have hty : (xak kd).isReference = true := by
            by_cases h55 : kd = 5
            · subst h55; rfl
            · rw [if_neg h55] at hkd
              rcases hkd with rfl | ⟨hw, rfl⟩
              · rfl
              · exact absurd hw (by decide)
          exact W.aald hx hb h1 h2 hty h4 (by rw [h5]; exact hin) (h6 _ (Nat.not_le.mp fun z => hin (Or.inr z))) rfl rfl hd (k.same hl (xok_push (xok_tl (xok_tl hk)) (hI.1.2.2.2 q _ hq _)) hI)
      next => cases h
    next => cases h
  next => cases h

/-- a store into an array -/
theorem xsto_ok {A A1 : xA} {q : Nat × Nat} {kd n want : Nat} {j : Int32} {f : Nat → xV} {v : xV} {l2 : xL} {st2 : List xV} {nL pc2 : Nat} (hq : A.2.2.2 q = some (.inr (kd, n, f))) (h : xsto A q kd j n f want v = some A1) (hl : lv_has ls nL (xlm ad l2)) (hk : xok (xlv A.2.2.2) l2 st2) (hv : xlv A.2.2.2 v) (hI : xI s D cl B ad A.2.2.2 H locs) (k : xCont p l0 e R s m args below meth c D cl B ad A A1 l2 st2 nL pc2 cells slots Q) :
    kd = want ∧ ¬ (j < 0 ∨ n ≤ j.toNatClampNeg) ∧ ∃ cell : Cell, H[ad q]? = some cell ∧ s.isArrayOf cell (xak kd) ∧ (kd = 9 ∨ va_RA s cell.cls (xak kd)) ∧ cell.vm ≠ .unknown ∧ cell.slots.size = n ∧ ∀ H1 : Heap, H1[ad q]? = some (cell.setSlot j.toNatClampNeg (xc ad v)) → H1.size = H.size → (∀ z, z ≠ ad q → H1[z]? = H[z]?) → W p l0 e R s m args below meth c H1 (locs ++ [⟨ad q, j.toNatClampNeg⟩]) cells slots Q (F0 m pc2 ls (st2.map (xc ad))) := by
  unfold xsto at h
  split at h
  next hg =>
    cases h
    obtain ⟨hw, h0, hin⟩ := hg
    obtain ⟨cell, h1, h2, h3, h4, h5, h6⟩ := hI.1.1 q _ hq
    refine ⟨hw, hin, cell, h1, h2, h3, h4, h5, fun H1 e1 e2 e3 => ?_⟩
    obtain ⟨g1, g2⟩ := xarr_set (v := v) h5 h6 (Nat.not_le.mp fun z => hin (Or.inr z))
    refine k ad H1 _ ls cells slots (fun u hu => ⟨xup_lv hu, rfl⟩) (fun _ _ => rfl) (hI.put hq h0 ⟨_, e1, h2, h3, h4, g1, g2⟩ e2 e3 ?_) hl (xok_up hk) rfl rfl
    intro i
    show xlv A.2.2.2 (xfu f j.toNatClampNeg v i)
    unfold xfu
    split
    · exact hv
    · exact hI.1.2.2.2 q _ hq i
  next => cases h

theorem xt_iastore {l l2 : xL} {st st2 : List xV} {A A2 : xA} {nL pc2 : Nat} {ops : List Nat} (X : xCx p s m args meth c D cl Ts own nm cc) (hd : decode cc pc = .ok (.iastore, xlen2 (.iastore))) (hT : xT Ts cl own nm (.iastore) ops) (hl : lv_has ls nL (xlm ad l)) (hk : xok (xlv A.2.2.2) l st) (hI : xI s D cl B ad A.2.2.2 H locs) (hE : xE s B ad A.2.2.2) (h : xs2 (.iastore) ops pc l st A = some (pc2, l2, st2, A2)) (hbud : cells + A2.2.1 ≤ R.cells + A.2.1 ∧ slots + A2.2.2.1 ≤ R.slots + A.2.2.1)
    (k : xCont p l0 e R s m args below meth c D cl B ad A A2 l2 st2 nL pc2 cells slots Q) : W p l0 e R s m args below meth c H locs cells slots Q (F0 m pc ls (st.map (xc ad))) := by
  simp only [xs2] at h
  obtain ⟨hx, hb, hown, hts, hnm, hK, hcl⟩ := X
  split at h
  next x j q r =>
    split at h
    next kd n f hq =>
      split at h
      next A1 ha =>
        cases h
        obtain ⟨rfl, hin, cell, h1, h2, h3, h4, h5, kk⟩ := xsto_ok hq ha hl (xok_tl (xok_tl (xok_tl hk))) (xok_hd hk) hI k
        exact W.iast hx hb h1 h2 h4 (by rw [h5]; exact hin) rfl rfl hd kk
      next => cases h
    next => cases h
  next => cases h

theorem xt_lastore {l l2 : xL} {st st2 : List xV} {A A2 : xA} {nL pc2 : Nat} {ops : List Nat} (X : xCx p s m args meth c D cl Ts own nm cc) (hd : decode cc pc = .ok (.lastore, xlen2 (.lastore))) (hT : xT Ts cl own nm (.lastore) ops) (hl : lv_has ls nL (xlm ad l)) (hk : xok (xlv A.2.2.2) l st) (hI : xI s D cl B ad A.2.2.2 H locs) (hE : xE s B ad A.2.2.2) (h : xs2 (.lastore) ops pc l st A = some (pc2, l2, st2, A2)) (hbud : cells + A2.2.1 ≤ R.cells + A.2.1 ∧ slots + A2.2.2.1 ≤ R.slots + A.2.2.1)
    (k : xCont p l0 e R s m args below meth c D cl B ad A A2 l2 st2 nL pc2 cells slots Q) : W p l0 e R s m args below meth c H locs cells slots Q (F0 m pc ls (st.map (xc ad))) := by
  simp only [xs2] at h
  obtain ⟨hx, hb, hown, hts, hnm, hK, hcl⟩ := X
  split at h
  next x j q r =>
    split at h
    next kd n f hq =>
      split at h
      next A1 ha =>
        cases h
        obtain ⟨rfl, hin, cell, h1, h2, h3, h4, h5, kk⟩ := xsto_ok hq ha hl (xok_tl (xok_tl (xok_tl hk))) (xok_hd hk) hI k
        exact W.last hx hb h1 h2 h4 (by rw [h5]; exact hin) rfl rfl hd kk
      next => cases h
    next => cases h
  next => cases h

theorem xt_dastore {l l2 : xL} {st st2 : List xV} {A A2 : xA} {nL pc2 : Nat} {ops : List Nat} (X : xCx p s m args meth c D cl Ts own nm cc) (hd : decode cc pc = .ok (.dastore, xlen2 (.dastore))) (hT : xT Ts cl own nm (.dastore) ops) (hl : lv_has ls nL (xlm ad l)) (hk : xok (xlv A.2.2.2) l st) (hI : xI s D cl B ad A.2.2.2 H locs) (hE : xE s B ad A.2.2.2) (h : xs2 (.dastore) ops pc l st A = some (pc2, l2, st2, A2)) (hbud : cells + A2.2.1 ≤ R.cells + A.2.1 ∧ slots + A2.2.2.1 ≤ R.slots + A.2.2.1)
    (k : xCont p l0 e R s m args below meth c D cl B ad A A2 l2 st2 nL pc2 cells slots Q) : W p l0 e R s m args below meth c H locs cells slots Q (F0 m pc ls (st.map (xc ad))) := by
  simp only [xs2] at h
  obtain ⟨hx, hb, hown, hts, hnm, hK, hcl⟩ := X
  split at h
  next x j q r =>
    split at h
    next kd n f hq =>
      split at h
      next A1 ha =>
        cases h
        obtain ⟨rfl, hin, cell, h1, h2, h3, h4, h5, kk⟩ := xsto_ok hq ha hl (xok_tl (xok_tl (xok_tl hk))) (xok_hd hk) hI k
        exact W.dast hx hb h1 h2 h4 (by rw [h5]; exact hin) rfl rfl hd kk
      next => cases h
    next => cases h
  next => cases h

theorem xt_castore {l l2 : xL} {st st2 : List xV} {A A2 : xA} {nL pc2 : Nat} {ops : List Nat} (X : xCx p s m args meth c D cl Ts own nm cc) (hd : decode cc pc = .ok (.castore, xlen2 (.castore))) (hT : xT Ts cl own nm (.castore) ops) (hl : lv_has ls nL (xlm ad l)) (hk : xok (xlv A.2.2.2) l st) (hI : xI s D cl B ad A.2.2.2 H locs) (hE : xE s B ad A.2.2.2) (h : xs2 (.castore) ops pc l st A = some (pc2, l2, st2, A2)) (hbud : cells + A2.2.1 ≤ R.cells + A.2.1 ∧ slots + A2.2.2.1 ≤ R.slots + A.2.2.1)
    (k : xCont p l0 e R s m args below meth c D cl B ad A A2 l2 st2 nL pc2 cells slots Q) : W p l0 e R s m args below meth c H locs cells slots Q (F0 m pc ls (st.map (xc ad))) := by
  simp only [xs2] at h
  obtain ⟨hx, hb, hown, hts, hnm, hK, hcl⟩ := X
  split at h
  next x j q r =>
    split at h
    next kd n f hq =>
      split at h
      next hch =>
        split at h
        next A1 ha =>
          cases h
          obtain ⟨rfl, hin, cell, h1, h2, h3, h4, h5, kk⟩ := xsto_ok hq ha hl (xok_tl (xok_tl (xok_tl hk))) (xok_hd hk) hI k
          exact W.cast hx hb h1 h2 h4 (by rw [h5]; exact hin) rfl rfl hd (fun H1 e1 e2 e3 => kk H1 (by rw [(xfit_char hch).1] at e1; exact e1) e2 e3)
        next => cases h
      next => cases h
    next => cases h
  next => cases h

theorem xt_arraylength {l l2 : xL} {st st2 : List xV} {A A2 : xA} {nL pc2 : Nat} {ops : List Nat} (X : xCx p s m args meth c D cl Ts own nm cc) (hd : decode cc pc = .ok (.arraylength, xlen2 (.arraylength))) (hT : xT Ts cl own nm (.arraylength) ops) (hl : lv_has ls nL (xlm ad l)) (hk : xok (xlv A.2.2.2) l st) (hI : xI s D cl B ad A.2.2.2 H locs) (hE : xE s B ad A.2.2.2) (h : xs2 (.arraylength) ops pc l st A = some (pc2, l2, st2, A2)) (hbud : cells + A2.2.1 ≤ R.cells + A.2.1 ∧ slots + A2.2.2.1 ≤ R.slots + A.2.2.1)
    (k : xCont p l0 e R s m args below meth c D cl B ad A A2 l2 st2 nL pc2 cells slots Q) : W p l0 e R s m args below meth c H locs cells slots Q (F0 m pc ls (st.map (xc ad))) := by
  simp only [xs2] at h
  obtain ⟨hx, hb, hown, hts, hnm, hK, hcl⟩ := X
  split at h
  next q r =>
    split at h
    next kd n f hq =>
      cases h
      obtain ⟨cell, h1, h2, h3, h4, h5, h6⟩ := hI.1.1 q _ hq
      exact W.alen hx hb h1 h2 (by rw [h5]) rfl rfl hd (k.same hl (xok_push (xok_tl hk) trivial) hI)
    next => cases h
  next => cases h

/-- a fresh name gets a fresh address -/
theorem xnew_ok {A : xA} {q : Nat × Nat} {nm2 : List (Nat × Nat)} {sz : Nat} {o : xO} {l2 : xL} {st2 : List xV} {nL pc2 : Nat} {H1 : Heap} (hq : A.2.2.2 q = none) (h0 : q.1 ≠ 0) (hl : lv_has ls nL (xlm ad l2)) (hk : xok (xlv A.2.2.2) l2 st2) (hI : xI s D cl B ad A.2.2.2 H locs) (k : xCont p l0 e R s m args below meth c D cl B ad A (nm2, A.2.1 + 1, A.2.2.1 + sz, xup A.2.2.2 q o) l2 (.inr q :: st2) nL pc2 cells slots Q) (hc : xcell s D cl (xan ad q H.size) H.size o H1) (hz : H1.size = H.size + 1) (o1 : ∀ x, x < H.size → H1[x]? = H[x]?) (ho : xOl (xup A.2.2.2 q o) o) :
    W p l0 e R s m args below meth c H1 locs (cells + 1) (slots + sz) Q (F0 m pc2 ls (.ref H.size :: st2.map (xc ad))) := by
  have hst : (.inr q :: st2).map (xc (xan ad q H.size)) = .ref H.size :: st2.map (xc ad) := by
    show .ref (xan ad q H.size q) :: st2.map (xc (xan ad q H.size)) = _
    rw [xst_an hq hk.2]
    unfold xan
    rw [if_pos rfl]
  rw [← hst]
  refine k (xan ad q H.size) H1 locs ls (cells + 1) (slots + sz) (fun u hu => ⟨xup_lv hu, xan_c hq hu⟩) (fun z hz => ?_) (hI.new hq hc (by omega) o1 ho) (by rw [xlm_an hq hk.1]; exact hl) (xok_push (xok_up hk) xlv_self) ?_ ?_
  · unfold xan
    exact if_neg (fun e : z = q => h0 (by rw [← e]; exact hz))
  · show cells + 1 + A.2.1 = cells + (A.2.1 + 1)
    omega
  · show slots + sz + A.2.2.1 = slots + (A.2.2.1 + sz)
    omega

theorem xt_newarray {l l2 : xL} {st st2 : List xV} {A A2 : xA} {nL pc2 : Nat} {ops : List Nat} {at_ : ArrayType} (X : xCx p s m args meth c D cl Ts own nm cc) (hd : decode cc pc = .ok (.newarray at_, xlen2 (.newarray at_))) (hT : xT Ts cl own nm (.newarray at_) ops) (hl : lv_has ls nL (xlm ad l)) (hk : xok (xlv A.2.2.2) l st) (hI : xI s D cl B ad A.2.2.2 H locs) (hE : xE s B ad A.2.2.2) (h : xs2 (.newarray at_) ops pc l st A = some (pc2, l2, st2, A2)) (hbud : cells + A2.2.1 ≤ R.cells + A.2.1 ∧ slots + A2.2.2.1 ≤ R.slots + A.2.2.1)
    (k : xCont p l0 e R s m args below meth c D cl B ad A A2 l2 st2 nL pc2 cells slots Q) : W p l0 e R s m args below meth c H locs cells slots Q (F0 m pc ls (st.map (xc ad))) := by
  simp only [xs2] at h
  obtain ⟨hx, hb, hown, hts, hnm, hK, hcl⟩ := X
  split at h
  next n r kd q nm2 hn =>
    split at h
    next hg =>
      obtain ⟨hn0, hbig, hq, h0⟩ := hg
      have hq : A.2.2.2 q = none := Option.isNone_iff_eq_none.mp hq
      cases h
      obtain ⟨hty, harr, hk4, hk5⟩ := hT
      have hb1 : cells + 1 ≤ R.cells := by have := hbud.1; dsimp only at this; omega
      have hb2 : slots + n.toNatClampNeg ≤ R.slots := by have := hbud.2; dsimp only at this; omega
      have hcb : componentBytes (newarray.typeOf at_) ≤ 8 := by cases at_ <;> decide
      refine va_newaK (atype := at_) hx hb (hts _ harr) rfl hd rfl hn0 rfl (Nat.le_trans (Nat.mul_le_mul hbig hcb) (by decide)) hb1 hb2 rfl fun H1 cA e1 z1 o1 hAr hNm => ?_
      refine xnew_ok hq h0 hl (xok_tl hk) hI k ⟨_, e1, ?_, Or.inr ?_, (fun z => by cases z), arrV_size _ _ _, fun j hj => ?_⟩ z1 o1 (fun _ => trivial)
      · show s.isArrayOf _ (xak kd)
        rw [← hty]
        exact hAr _ _
      · show va_RA s cA (xak kd)
        rw [← hty]
        cases at_ <;> exact hNm
      · show (arrV _ _ _).slots[j]? = some (defaultValue (xak kd))
        rw [← hty]
        simp [arrV, hj]
    next => cases h
  next => cases h

theorem xt_anewarray {l l2 : xL} {st st2 : List xV} {A A2 : xA} {nL pc2 : Nat} {ops : List Nat} {idx : Nat} (X : xCx p s m args meth c D cl Ts own nm cc) (hd : decode cc pc = .ok (.anewarray idx, xlen2 (.anewarray idx))) (hT : xT Ts cl own nm (.anewarray idx) ops) (hl : lv_has ls nL (xlm ad l)) (hk : xok (xlv A.2.2.2) l st) (hI : xI s D cl B ad A.2.2.2 H locs) (hE : xE s B ad A.2.2.2) (h : xs2 (.anewarray idx) ops pc l st A = some (pc2, l2, st2, A2)) (hbud : cells + A2.2.1 ≤ R.cells + A.2.1 ∧ slots + A2.2.2.1 ≤ R.slots + A.2.2.1)
    (k : xCont p l0 e R s m args below meth c D cl B ad A A2 l2 st2 nL pc2 cells slots Q) : W p l0 e R s m args below meth c H locs cells slots Q (F0 m pc ls (st.map (xc ad))) := by
  simp only [xs2] at h
  obtain ⟨hx, hb, hown, hts, hnm, hK, hcl⟩ := X
  split at h
  next n r kd q nm2 hn =>
    split at h
    next hg =>
      obtain ⟨hn0, hbig, hq, h0⟩ := hg
      have hq : A.2.2.2 q = none := Option.isNone_iff_eq_none.mp hq
      cases h
      obtain ⟨C, hty, hlk, hov⟩ := hT
      have hb1 : cells + 1 ≤ R.cells := by have := hbud.1; dsimp only at this; omega
      have hb2 : slots + n.toNatClampNeg ≤ R.slots := by have := hbud.2; dsimp only at this; omega
      refine W.anew hx hb hown (hts _ hlk) (hts _ hov) rfl hd rfl hn0 (Nat.le_trans (Nat.mul_le_mul_right 4 hbig) (by decide)) hb1 hb2 fun cA kA comp g1 g2 g3 g4 => ?_
      refine xnew_ok hq h0 hl (xok_tl hk) hI k ⟨{ cls := cA, slots := Array.replicate n.toNatClampNeg .null, vm := .none }, Array.getElem?_push_size, ?_, Or.inr ?_, (fun z => by cases z), Array.size_replicate, fun j hj => ?_⟩ (Array.size_push _) (fun x hx => ?_) (fun _ => trivial)
      · show s.isArrayOf _ (xak kd)
        rw [hty]
        exact ⟨fun z w => (by cases w), kA, g2, comp, g3⟩
      · show va_RA s cA (xak kd)
        rw [hty]
        exact ⟨kA, comp, g2, g3, g4, g1⟩
      · show (Array.replicate n.toNatClampNeg Value.null)[j]? = some Value.null
        rw [Array.getElem?_replicate, if_pos hj]
      · rw [Array.getElem?_push, if_neg (Nat.ne_of_lt hx)]
    next => cases h
  next => cases h

theorem xt_new {l l2 : xL} {st st2 : List xV} {A A2 : xA} {nL pc2 : Nat} {ops : List Nat} {idx : Nat} (X : xCx p s m args meth c D cl Ts own nm cc) (hd : decode cc pc = .ok (.new idx, xlen2 (.new idx))) (hT : xT Ts cl own nm (.new idx) ops) (hl : lv_has ls nL (xlm ad l)) (hk : xok (xlv A.2.2.2) l st) (hI : xI s D cl B ad A.2.2.2 H locs) (hE : xE s B ad A.2.2.2) (h : xs2 (.new idx) ops pc l st A = some (pc2, l2, st2, A2)) (hbud : cells + A2.2.1 ≤ R.cells + A.2.1 ∧ slots + A2.2.2.1 ≤ R.slots + A.2.2.1)
    (k : xCont p l0 e R s m args below meth c D cl B ad A A2 l2 st2 nL pc2 cells slots Q) : W p l0 e R s m args below meth c H locs cells slots Q (F0 m pc ls (st.map (xc ad))) := by
  simp only [xs2] at h
  obtain ⟨hx, hb, hown, hts, hnm, hK, hcl⟩ := X
  split at h
  next ci tc q nm2 hn =>
    split at h
    next hg =>
      obtain ⟨hq, h0⟩ := hg
      have hq : A.2.2.2 q = none := Option.isNone_iff_eq_none.mp hq
      cases h
      obtain ⟨w, hc, hlen, hlk, hins, hini, hf⟩ := hT
      obtain ⟨hin, ⟨ty0, hty0⟩, hnm2⟩ := hcl ci _ hc
      have hb1 : cells + 1 ≤ R.cells := by have := hbud.1; dsimp only at this; omega
      have hb2 : slots + tc.length ≤ R.slots := by have := hbud.2; dsimp only at this; omega
      have hKn := hK.1 ci _ hc
      refine W.newcK hx hb hown (hts _ hlk) (n := tc.length) (by rw [hlen]; exact hts _ hins) (hts _ hini) rfl hd hb1 hb2 hKn.2.1 rfl fun H1 kC hkC e1 z1 o1 => ?_
      refine xnew_ok hq h0 hl hk hI k ⟨w, hc, by rw [List.length_map]; exact hlen, t_OB.to (u_born (C := w.1) (T := w.2.1) (N := w.2.2) ty0 hts hin hKn hkC e1 hty0) (fun j hj => ?_)⟩ z1 o1 (fun v hv => ?_)
      · obtain ⟨ty, t, g1, g2, g3⟩ := hf j hj
        cases Option.some.inj (g1.symm.trans (hty0 j hj))
        show defaultValue (ty0 j) = (((tc.map xd0).map (xc _)).getD j .null)
        rw [List.getD_eq_getElem?_getD, List.getElem?_map, List.getElem?_map, g2]
        show defaultValue (ty0 j) = xc _ (xd0 t)
        rw [← g3]
        rfl
      · obtain ⟨t, -, rfl⟩ := List.mem_map.mp hv
        unfold xd0
        split <;> trivial
    next => cases h
  next => cases h

theorem xt_checkcast {l l2 : xL} {st st2 : List xV} {A A2 : xA} {nL pc2 : Nat} {ops : List Nat} {idx : Nat} (X : xCx p s m args meth c D cl Ts own nm cc) (hd : decode cc pc = .ok (.checkcast idx, xlen2 (.checkcast idx))) (hT : xT Ts cl own nm (.checkcast idx) ops) (hl : lv_has ls nL (xlm ad l)) (hk : xok (xlv A.2.2.2) l st) (hI : xI s D cl B ad A.2.2.2 H locs) (hE : xE s B ad A.2.2.2) (h : xs2 (.checkcast idx) ops pc l st A = some (pc2, l2, st2, A2)) (hbud : cells + A2.2.1 ≤ R.cells + A.2.1 ∧ slots + A2.2.2.1 ≤ R.slots + A.2.2.1)
    (k : xCont p l0 e R s m args below meth c D cl B ad A A2 l2 st2 nL pc2 cells slots Q) : W p l0 e R s m args below meth c H locs cells slots Q (F0 m pc ls (st.map (xc ad))) := by
  simp only [xs2] at h
  obtain ⟨hx, hb, hown, hts, hnm, hK, hcl⟩ := X
  split at h
  next r =>
    cases h
    exact lv_castN hx hb hd (k.same hl hk hI)
  next q r =>
    split at h
    next ci fs hq =>
      split at h
      next hci =>
        cases h
        obtain ⟨w, nm3, hc, hlk, hca⟩ := hT ci (xelem hci)
        obtain ⟨w2, h1, hlen, cell, q1, q2, q3, q4⟩ := hI.1.1 q _ hq
        cases Option.some.inj (hc.symm.trans h1)
        rcases hca with hca | rfl
        · exact va_castY (a := ad q) hx hb hown (hts _ hlk) (va_Nw.of rfl (hts _ hca)) ⟨cell, q1, by rw [q3]; rfl, by rw [q2]; exact (hK.1 ci w hc).2.1⟩ hd (k.same hl hk hI)
        · exact va_castS (a := ad q) hx hb hown (hts _ hlk) (hK.1 ci w hc).2 ⟨cell, q1, by rw [q3]; rfl, by rw [q2]; exact (hK.1 ci w hc).2.1⟩ hd (k.same hl hk hI)
      next => cases h
    next => cases h
  next => cases h

theorem xt_ldc {l l2 : xL} {st st2 : List xV} {A A2 : xA} {nL pc2 : Nat} {ops : List Nat} {idx : Nat} (X : xCx p s m args meth c D cl Ts own nm cc) (hd : decode cc pc = .ok (.ldc idx, xlen2 (.ldc idx))) (hT : xT Ts cl own nm (.ldc idx) ops) (hl : lv_has ls nL (xlm ad l)) (hk : xok (xlv A.2.2.2) l st) (hI : xI s D cl B ad A.2.2.2 H locs) (hE : xE s B ad A.2.2.2) (h : xs2 (.ldc idx) ops pc l st A = some (pc2, l2, st2, A2)) (hbud : cells + A2.2.1 ≤ R.cells + A.2.1 ∧ slots + A2.2.2.1 ≤ R.slots + A.2.2.1)
    (k : xCont p l0 e R s m args below meth c D cl B ad A A2 l2 st2 nL pc2 cells slots Q) : W p l0 e R s m args below meth c H locs cells slots Q (F0 m pc ls (st.map (xc ad))) := by
  simp only [xs2] at h
  obtain ⟨hx, hb, hown, hts, hnm, hK, hcl⟩ := X
  split at h
  next => cases h; exact lv_ldc hx hb hown (hts _ hT) hd (k.same hl (xok_push hk trivial) hI)
  next => cases h; exact lv_ldcf hx hb hown (hts _ hT) hd (k.same hl (xok_push hk trivial) hI)
  next => cases h

theorem xt_ldc_w {l l2 : xL} {st st2 : List xV} {A A2 : xA} {nL pc2 : Nat} {ops : List Nat} {idx : Nat} (X : xCx p s m args meth c D cl Ts own nm cc) (hd : decode cc pc = .ok (.ldc_w idx, xlen2 (.ldc_w idx))) (hT : xT Ts cl own nm (.ldc_w idx) ops) (hl : lv_has ls nL (xlm ad l)) (hk : xok (xlv A.2.2.2) l st) (hI : xI s D cl B ad A.2.2.2 H locs) (hE : xE s B ad A.2.2.2) (h : xs2 (.ldc_w idx) ops pc l st A = some (pc2, l2, st2, A2)) (hbud : cells + A2.2.1 ≤ R.cells + A.2.1 ∧ slots + A2.2.2.1 ≤ R.slots + A.2.2.1)
    (k : xCont p l0 e R s m args below meth c D cl B ad A A2 l2 st2 nL pc2 cells slots Q) : W p l0 e R s m args below meth c H locs cells slots Q (F0 m pc ls (st.map (xc ad))) := by
  simp only [xs2] at h
  obtain ⟨hx, hb, hown, hts, hnm, hK, hcl⟩ := X
  split at h
  next => cases h; exact lv_ldcw hx hb hown (hts _ hT) hd (k.same hl (xok_push hk trivial) hI)
  next => cases h

theorem xt_ldc2_w {l l2 : xL} {st st2 : List xV} {A A2 : xA} {nL pc2 : Nat} {ops : List Nat} {idx : Nat} (X : xCx p s m args meth c D cl Ts own nm cc) (hd : decode cc pc = .ok (.ldc2_w idx, xlen2 (.ldc2_w idx))) (hT : xT Ts cl own nm (.ldc2_w idx) ops) (hl : lv_has ls nL (xlm ad l)) (hk : xok (xlv A.2.2.2) l st) (hI : xI s D cl B ad A.2.2.2 H locs) (hE : xE s B ad A.2.2.2) (h : xs2 (.ldc2_w idx) ops pc l st A = some (pc2, l2, st2, A2)) (hbud : cells + A2.2.1 ≤ R.cells + A.2.1 ∧ slots + A2.2.2.1 ≤ R.slots + A.2.2.1)
    (k : xCont p l0 e R s m args below meth c D cl B ad A A2 l2 st2 nL pc2 cells slots Q) : W p l0 e R s m args below meth c H locs cells slots Q (F0 m pc ls (st.map (xc ad))) := by
  simp only [xs2] at h
  obtain ⟨hx, hb, hown, hts, hnm, hK, hcl⟩ := X
  split at h
  next => cases h; exact lv_ldc2 hx hb hown (hts _ hT) hd (k.same hl (xok_push hk trivial) hI)
  next => cases h; exact lv_ldc2d hx hb hown (hts _ hT) hd (k.same hl (xok_push hk trivial) hI)
  next => cases h

theorem xt_getstatic {l l2 : xL} {st st2 : List xV} {A A2 : xA} {nL pc2 : Nat} {ops : List Nat} {idx : Nat} (X : xCx p s m args meth c D cl Ts own nm cc) (hd : decode cc pc = .ok (.getstatic idx, xlen2 (.getstatic idx))) (hT : xT Ts cl own nm (.getstatic idx) ops) (hl : lv_has ls nL (xlm ad l)) (hk : xok (xlv A.2.2.2) l st) (hI : xI s D cl B ad A.2.2.2 H locs) (hE : xE s B ad A.2.2.2) (h : xs2 (.getstatic idx) ops pc l st A = some (pc2, l2, st2, A2)) (hbud : cells + A2.2.1 ≤ R.cells + A.2.1 ∧ slots + A2.2.2.1 ≤ R.slots + A.2.2.1)
    (k : xCont p l0 e R s m args below meth c D cl B ad A A2 l2 st2 nL pc2 cells slots Q) : W p l0 e R s m args below meth c H locs cells slots Q (F0 m pc ls (st.map (xc ad))) := by
  simp only [xs2] at h
  obtain ⟨hx, hb, hown, hts, hnm, hK, hcl⟩ := X
  split at h
  next ho =>
    cases h
    exact va_gets hx hb hE.2 hI.2.1 hown (hts _ (hT ho)) (fun _ z => z) hd (k.same hl (xok_push hk hE.1) hI)
  next => cases h

theorem xt_aastore {l l2 : xL} {st st2 : List xV} {A A2 : xA} {nL pc2 : Nat} {ops : List Nat} (X : xCx p s m args meth c D cl Ts own nm cc) (hd : decode cc pc = .ok (.aastore, xlen2 (.aastore))) (hT : xT Ts cl own nm (.aastore) ops) (hl : lv_has ls nL (xlm ad l)) (hk : xok (xlv A.2.2.2) l st) (hI : xI s D cl B ad A.2.2.2 H locs) (hE : xE s B ad A.2.2.2) (h : xs2 (.aastore) ops pc l st A = some (pc2, l2, st2, A2)) (hbud : cells + A2.2.1 ≤ R.cells + A.2.1 ∧ slots + A2.2.2.1 ≤ R.slots + A.2.2.1)
    (k : xCont p l0 e R s m args below meth c D cl B ad A A2 l2 st2 nL pc2 cells slots Q) : W p l0 e R s m args below meth c H locs cells slots Q (F0 m pc ls (st.map (xc ad))) := by
  simp only [xs2] at h
  obtain ⟨hx, hb, hown, hts, hnm, hK, hcl⟩ := X
  split at h
  next z j q r =>
    split at h
    next kd n f ci fs hq hz =>
      split at h
      next hg =>
        split at h
        next A1 ha =>
          cases h
          obtain ⟨hci, hkd⟩ := hg
          obtain ⟨-, hin, cell, h1, h2, h3, h4, h5, kk⟩ := xsto_ok hq ha hl (xok_tl (xok_tl (xok_tl hk))) (xok_hd hk) hI k
          obtain ⟨w, hc, hob, hhe⟩ := hT ci (xelem hci)
          obtain ⟨w2, g1, hlen, cv, q1, q2, q3, q4⟩ := hI.1.1 z _ hz
          cases Option.some.inj (hc.symm.trans g1)
          have hcls := (hK.1 ci w hc).2
          obtain ⟨kC, hkC, -⟩ := hcls.2
          have hra : ∃ E, xak kd = .object E ∧ va_RA s cell.cls (.object E) ∧ ∀ comp, s.vm.findClass E = some comp → s.vm.assignable cv.cls comp = true := by
            rcases hkd with rfl | ⟨rfl, h5⟩
            · refine ⟨"java/lang/Object", rfl, h3.resolve_left (by decide), fun comp hcomp => ?_⟩
              obtain ⟨c0, t0, f1, f2, f3⟩ := Cond.castable_spec (hts _ hob)
              cases Option.some.inj (hcls.1.symm.trans f1)
              cases Option.some.inj (hcomp.symm.trans f2)
              rw [q2]
              exact f3
            · refine ⟨"ViewFoundryModel$Held", rfl, h3.resolve_left (by decide), fun comp hcomp => ?_⟩
              rw [← hhe h5] at hcomp
              cases Option.some.inj (hcls.1.symm.trans hcomp)
              rw [q2]
              exact va_assign hcls
          obtain ⟨E, hE2, ⟨kA, comp, k1, k2, k3, k4⟩, hasg⟩ := hra
          obtain ⟨kE, hkE, -⟩ := Vm.findClass_spec k3
          exact W.aast (v := ad z) hx hb h1 h2.1 h4 k1 k2 rfl hkE ⟨fun y => hin (Or.inl y), by rw [h5]; exact Nat.not_le.mp fun y => hin (Or.inr y)⟩ q1 (fun y hy => by rw [q3] at hy; cases hy) (by rw [q2]; exact hkC) (hasg _ k3) rfl rfl hd kk
        next => cases h
      next => cases h
    next => cases h
  next j q r =>
    split at h
    next kd n f hq =>
      split at h
      next hkd =>
        split at h
        next A1 ha =>
          cases h
          obtain ⟨-, hin, cell, h1, h2, h3, h4, h5, kk⟩ := xsto_ok (v := .inl .null) hq ha hl (xok_tl (xok_tl (xok_tl hk))) trivial hI k
          have hra : ∃ E, xak kd = .object E := by
            rcases hkd with rfl | rfl
            · exact ⟨_, rfl⟩
            · exact ⟨_, rfl⟩
          obtain ⟨E, hE2⟩ := hra
          exact va_WaastN hx hb h1 (by rw [← hE2]; exact h2) h4 (by rw [h5]; exact hin) rfl rfl hd kk
        next => cases h
      next => cases h
    next => cases h
  next => cases h

end XT
end
section
set_option maxRecDepth 20000
section XR
/-- words that stay true while classes are linked and warmed -/
def xkp (w : Cond) : Bool := goodWord w || match w with
  | .castable .. => true
  | .arrayOver (.object _) => true
  | .fieldLinkNest .. => true
  | .methodLinkNest .. => true
  | .declares _ => true
  | _ => false
theorem xkp_ok {w : Cond} (h : xkp w = true) {a a2 : Array Value} {s U : State} (hW : s.WarmedH U.vm) (hb : w.before a s = true) : w.before a2 U = true := by
  unfold xkp at h
  rcases Bool.or_eq_true _ _ ▸ h with g | g
  · exact word_at hW (good_of_word g) hb
  · split at g
    next => exact (va_Nw.warmC hW (va_Nw.of rfl hb)).use rfl
    next => exact (va_AO.moved hW.alike (va_AO.of hb)).use
    next => exact (va_Nw.warmF hW (va_Nw.of rfl hb)).use rfl
    next => exact (va_Nw.warmM hW (va_Nw.of rfl hb)).use rfl
    next => exact (va_Nw.warmD hW (va_Nw.of rfl hb)).use rfl
    next => cases g
/-- a method: name, code, locals, what it returns, handlers -/
abbrev xM : Type := MethodName × ByteArray × Nat × Option FieldType × List (Nat × Nat × Nat × Nat)
/-- a program: the instructions of each method with their operands; the methods; where one throws a new exception; where it catches -/
abbrev xPr : Type := (Nat → Nat → Option (Instr × List Nat)) × (Nat → xM) × (Nat → Nat → Option String) × (Nat → Nat → String → Option (Nat × Nat × Nat))
/-- how a method ends: a value, or an exception's class -/
abbrev xR : Type := (Option xV) ⊕ String
def xcw (m : xM) : Cond := if m.2.2.2.2 = [] then .code m.1 m.2.1 m.2.2.1 m.2.2.2.1 else .codeWith m.1 m.2.1 m.2.2.1 m.2.2.2.1 m.2.2.2.2
def xpick (ci : Nat) : List Nat → Option Nat
  | a :: b :: r => if a = ci then some b else xpick ci r
  | _ => none
/-- whom an instruction calls, with what, and what is left on the stack -/
def xinv (i : Instr) (ops : List Nat) (st : List xV) (h : xH) : Option (Nat × List xV × List xV) :=
  match i with
  | .invokevirtual _ => match ops with
    | n :: tb => match st.drop n with
      | .inr q :: rest => match h q with
        | some (.inl (ci, _)) => match xpick ci tb with
          | some mid => some (mid, .inr q :: (st.take n).reverse, rest)
          | none => none
        | _ => none
      | _ => none
    | _ => none
  | .invokespecial _ => match ops with
    | [n, mid] => match st.drop n with
      | .inr q :: rest => some (mid, .inr q :: (st.take n).reverse, rest)
      | _ => none
    | _ => none
  | .invokestatic _ => match ops with
    | [n, mid] => if n ≤ st.length then some (mid, (st.take n).reverse, st.drop n) else none
    | _ => none
  | _ => none
/-- what an instruction returns -/
def xret (rt : Option FieldType) (i : Instr) (st : List xV) : Option (Option xV) :=
  match i with
  | .ireturn => match st with
    | [.inl (.int x)] => match rt with
      | some .int => some (some (.inl (.int x)))
      | some .boolean => if x = 0 ∨ x = 1 then some (some (.inl (.int x))) else none
      | _ => none
    | _ => none
  | .lreturn => match st with
    | [.inl (.long x)] => if rt = some .long then some (some (.inl (.long x))) else none
    | _ => none
  | .freturn => match st with
    | [.inl (.float x)] => if rt = some .float then some (some (.inl (.float x))) else none
    | _ => none
  | .dreturn => match st with
    | [.inl (.double x)] => if rt = some .double then some (some (.inl (.double x))) else none
    | _ => none
  | .areturn => match rt with
    | some (.object _) => match st with
      | [.inl .null] => some (some (.inl .null))
      | [.inr q] => some (some (.inr q))
      | _ => none
    | some (.array _) => match st with
      | [.inl .null] => some (some (.inl .null))
      | [.inr q] => some (some (.inr q))
      | _ => none
    | _ => none
  | .return_ => match st with
    | [] => match rt with
      | none => some none
      | some _ => none
    | _ => none
  | _ => none
/-- one instruction that stays in its method -/
def xs (nL : Nat) (i : Instr) (ops : List Nat) (pc : Nat) (l : xL) (st : List xV) (A : xA) : Option (Nat × xL × List xV × xA) :=
  match xs1 nL i pc l st with
  | some z => some (z.1, z.2.1, z.2.2, A)
  | none => match xs2 i ops pc l st A with
    | some z => some z
    | none => match i, ops, st with
      | .invokespecial _, [], .inr _ :: r => if (r.map xcat).sum ≤ 8 then some (pc + 3, l, r, A) else none
      | .invokestatic _, [81], .inl (.int y) :: .inl (.int x) :: r => if (r.map xcat).sum ≤ 8 then some (pc + 3, l, .inl (.int (if x < y then y else x)) :: r, A) else none
      | .invokestatic _, [82], .inl (.int y) :: .inl (.int x) :: r => if (r.map xcat).sum ≤ 8 then some (pc + 3, l, .inl (.int (if y < x then y else x)) :: r, A) else none
      | _, _, _ => none
def xar : Nat → List xV → xL
  | _, [] => []
  | i, v :: vs => (i, v) :: xar (if xcat v = 2 then i + 2 else i + 1) vs
def xrm (l : xL) (i : Nat) : xL := l.filter (fun q => !(q.1 == i) && !(q.1 + 1 == i && xcat q.2 == 2))
/-- THE SMALL MACHINE: fuel, frames left, method, place, locals, stack, objects; ct: methods whose end is known -/
def xrun (P : xPr) (ct : Nat → Nat → List xV → xA → Option (xR × xA)) : Nat → Nat → Nat → Nat → xL → List xV → xA → Option (xR × xA)
  | 0, _, _, _, _, _, _ => none
  | n + 1, d, mid, pc, l, st, A =>
    match P.1 mid pc with
    | none => none
    | some (i, ops) =>
      match xret (P.2.1 mid).2.2.2.1 i st with
      | some v => some (.inl v, A)
      | none =>
        match P.2.2.1 mid pc with
        | some E => if 8 ≤ d ∧ (st.map xcat).sum ≤ 8 then some (.inr E, (A.1, A.2.1 + 1, A.2.2.1 + 6, A.2.2.2)) else none
        | none =>
          match xs (P.2.1 mid).2.2.1 i ops pc l st A with
          | some z => xrun P ct n d mid z.1 z.2.1 z.2.2.1 z.2.2.2
          | none =>
            match xinv i ops st A.2.2.2, d with
            | some (mid2, args, rest), d2 + 1 =>
              if (args.map xcat).sum ≤ (P.2.1 mid2).2.2.1 ∧ (rest.map xcat).sum ≤ 8 then
                match (match ct d2 mid2 args A with
                  | some z => some z
                  | none => xrun P ct n d2 mid2 0 (xar 0 args) [] A) with
                | some (.inl v, A2) => xrun P ct n (d2 + 1) mid (pc + 3) l (v.toList ++ rest) A2
                | some (.inr E, A2) => match P.2.2.2 mid pc E with
                  | some (hpc, ln, k) => xrun P ct n (d2 + 1) mid (hpc + ln) (xrm l k) [] A2
                  | none => if (P.2.1 mid).2.2.2.2 = [] then some (.inr E, A2) else none
                | none => none
              else none
            | _, _ => none
end XR
end
section
set_option maxRecDepth 20000
section XSIM
/-- the addresses of names: those that were are as they were -/
def xAg (ad ad2 : xN) (h h2 : xH) : Prop := (∀ v, xlv h v → xlv h2 v ∧ xc ad2 v = xc ad v) ∧ ∀ z : Nat × Nat, z.1 = 0 → ad2 z = ad z
theorem xAg.rf {ad : xN} {h : xH} : xAg ad ad h h := ⟨fun _ hv => ⟨hv, rfl⟩, fun _ _ => rfl⟩
theorem xAg.tr {a1 a2 a3 : xN} {h1 h2 h3 : xH} (x : xAg a1 a2 h1 h2) (y : xAg a2 a3 h2 h3) : xAg a1 a3 h1 h3 :=
  ⟨fun v hv => ⟨(y.1 v (x.1 v hv).1).1, (y.1 v (x.1 v hv).1).2.trans (x.1 v hv).2⟩, fun z hz => (y.2 z hz).trans (x.2 z hz)⟩
theorem xAg.lm {a1 a2 : xN} {h1 h2 : xH} (x : xAg a1 a2 h1 h2) {l : xL} (hl : ∀ z ∈ l, xlv h1 z.2) : xlm a2 l = xlm a1 l :=
  List.map_congr_left (fun z hz => by rw [(x.1 _ (hl z hz)).2])
theorem xAg.st {a1 a2 : xN} {h1 h2 : xH} (x : xAg a1 a2 h1 h2) {st : List xV} (hl : ∀ v ∈ st, xlv h1 v) : st.map (xc a2) = st.map (xc a1) :=
  List.map_congr_left (fun z hz => (x.1 _ (hl z hz)).2)
theorem xAg.ok {a1 a2 : xN} {h1 h2 : xH} (x : xAg a1 a2 h1 h2) {l : xL} {st : List xV} (hk : xok (xlv h1) l st) : xok (xlv h2) l st := ⟨fun z hz => (x.1 _ (hk.1 z hz)).1, fun v hv => (x.1 v (hk.2 v hv)).1⟩
/-- texts of exceptions, and which classes aren't kinds of which -/
abbrev xSL : Type := List (String × Nat × String) × List (String × String)
/-- what else a run reads: two statics, and the texts of exceptions -/
def xZ (s : State) (B : Nat) (SL : xSL) : Prop := vx_Zq Bundle.tN "UNASSIGNED_STACK" Bundle.steD (fun q => B ≤ q) s s.heap ∧ vx_Zq Bundle.tN "SUPPRESSED_SENTINEL" Bundle.listD (fun q => B ≤ q) s s.heap ∧ (∀ z ∈ SL.1, ∃ sa, vk_R z.1 z.2.1 z.2.2 sa s) ∧ ∀ z ∈ SL.2, va_Nc z.1 z.2 s
theorem xZ.mv {s U : State} {B : Nat} {SL : xSL} {H : Heap} {locs : List Loc} (h : xZ s B SL) (hS : va_S (fun q => B ≤ q) s.heap H locs) (hU : U.heap = H) (hW : s.WarmedH U.vm) : xZ U B SL := by
  obtain ⟨h1, h2, h3, h4⟩ := h
  have hk : ∀ a : Nat, a < s.heap.size → ¬ B ≤ a → H[a]? = s.heap[a]? := hS.2.1
  refine ⟨?_, ?_, fun z hz => ?_, fun z hz => (h4 z hz).moved hW.alike⟩
  · rw [hU]; exact (h1.kept hk).moved hW.alike
  · rw [hU]; exact (h2.kept hk).moved hW.alike
  · obtain ⟨sa, hsa⟩ := h3 z hz
    exact ⟨sa, hsa.warm hW⟩
theorem xE.mv {s U : State} {B : Nat} {ad ad2 : xN} {h h2 : xH} {H : Heap} {locs : List Loc} (hE : xE s B ad h) (hg : xAg ad ad2 h h2) (hS : va_S (fun q => B ≤ q) s.heap H locs) (hU : U.heap = H) (hW : s.WarmedH U.vm) : xE U B ad2 h2 := by
  obtain ⟨h1, h3⟩ := hE
  refine ⟨(hg.1 (.inr (0, 1)) h1).1, ?_⟩
  rw [hg.2 (0, 1) rfl, hU]
  exact (h3.kept hS.2.1).moved hW.alike
theorem xE.ag {s : State} {B : Nat} {ad ad2 : xN} {h h2 : xH} (hE : xE s B ad h) (hg : xAg ad ad2 h h2) : xE s B ad2 h2 := by
  obtain ⟨h1, h3⟩ := hE
  refine ⟨(hg.1 (.inr (0, 1)) h1).1, ?_⟩
  rw [hg.2 (0, 1) rfl]
  exact h3
def xRm (d mc ms : Nat) : Room := { frames := d + 1, cells := mc, slots := ms, locals := 40 * (d + 1) }
/-- a method's start: the arguments, and all that a frame must know -/
def xPc (cl : List vw_C) (SL : xSL) (D : va_G) (B : Nat) (ad : xN) (A : xA) (args : List xV) : Array Value → State → Prop := fun a U =>
  a = (args.map (xc ad)).toArray ∧ xRep U D cl B ad A.2.2.2 U.heap ∧ B ≤ U.heap.size ∧ va_K D cl [] U ∧ xE U B ad A.2.2.2 ∧ xZ U B SL
def xQc (cl : List vw_C) (D : va_G) (B : Nat) (ad : xN) (A A2 : xA) (res : xR) : Array Value → State → Outcome → State → Prop := fun _ st o t =>
  (∃ (v : Option xV) (ad2 : xN), res = .inl v ∧ o = .returned (v.map (xc ad2)) ∧ xAg ad ad2 A.2.2.2 A2.2.2.2 ∧ xRep t D cl B ad2 A2.2.2.2 t.heap ∧ ∀ x, v = some x → xlv A2.2.2.2 x) ∧ va_F (fun q => B ≤ q) st t
def xXc (cl : List vw_C) (D : va_G) (B : Nat) (ad : xN) (A A2 : xA) (res : xR) : String → State → State → Prop := fun E st t =>
  res = .inr E ∧ (∃ ad2 : xN, xAg ad ad2 A.2.2.2 A2.2.2.2 ∧ xRep t D cl B ad2 A2.2.2.2 t.heap) ∧ va_F (fun q => B ≤ q) st t
/-- what is known of a call of a method: it ends so -/
def xMet (l0 : Launch) (P : xPr) (cl : List vw_C) (TS : List Cond) (SL : xSL) (d mid : Nat) (args : List xV) (A : xA) (res : xR) (A2 : xA) : Prop :=
  (A.2.1 ≤ A2.2.1 ∧ A.2.2.1 ≤ A2.2.2.1) ∧ ∀ (D : va_G) (B : Nat) (ad : xN), (∀ v ∈ args, xlv A.2.2.2 v) →
    vx_Met l0 (P.2.1 mid).1 (xcw (P.2.1 mid) :: TS) (xRm d (A2.2.1 - A.2.1) (A2.2.2.1 - A.2.2.1)) (xPc cl SL D B ad A args) (xQc cl D B ad A A2 res) (xXc cl D B ad A A2 res) (A2.2.1 - A.2.1) (A2.2.2.1 - A.2.2.1) (fun q => B ≤ q)
theorem xPc.blind {cl : List vw_C} {SL : xSL} {D : va_G} {B : Nat} {ad : xN} {A : xA} {args : List xV} : FrameBlind (xPc cl SL D B ad A args) := by
  intro a U g mk h
  obtain ⟨h1, h2, h3, h4, ⟨h5, h6⟩, h7, h8, h9, h10⟩ := h
  have hv : U.vm.Alike (U.calling g mk a).vm := Vm.Alike.refl U.vm
  exact ⟨h1, h2.moved hv, h3, va_K.moved (u := U) hv h4, ⟨h5, h6.moved hv⟩, h7.moved hv, h8.moved hv, fun z hz => by
    obtain ⟨sa, hsa⟩ := h9 z hz
    exact ⟨sa, vk_R.same (u := U) rfl hsa⟩, fun z hz => (h10 z hz).moved hv⟩
variable {p : Program} {l0 : Launch} {e : Env} {R : Room} {s : State} {m : MethodId} {args : Array Value} {below : List Frame} {meth : Method} {c : Code} {H : Heap} {locs : List Loc} {cells slots : Nat} {Q : State → Prop}
variable {cc : ByteArray} {pc : Nat} {ls : Array Slot} {ad : xN} {D : va_G} {cl : List vw_C} {TS : List Cond} {own nm : String} {B : Nat} {SL : xSL} {P : xPr}
/-- behind a call -/
theorem xgo {A A2 : xA} {res : xR} {a : Array Value} {st0 : List Value} {rest : List Value} {mc ms : Nat} (hr : vx_Run p l0 e R s m args below meth c H locs cells slots mc ms (F0 m pc ls st0) rest (xQc cl D B ad A A2 res a) (xXc cl D B ad A A2 res) (fun q => B ≤ q)) (hI : xI s D cl B ad A.2.2.2 H locs)
    (kk : ∀ (v : Option xV) (ad2 : xN) (H1 : Heap) (locs1 : List Loc), res = .inl v → xAg ad ad2 A.2.2.2 A2.2.2.2 → xI s D cl B ad2 A2.2.2.2 H1 locs1 → (∀ x, v = some x → xlv A2.2.2.2 x) → W p l0 e R s m args below meth c H1 locs1 (cells + mc) (slots + ms) Q (F0 m (pc + 3) ls ((v.map (xc ad2)).toList ++ rest)))
    (kx : ∀ (E : String) (ce : Cell) (q9 : Addr) (ad2 : xN) (H1 : Heap) (locs1 : List Loc), res = .inr E → xAg ad ad2 A.2.2.2 A2.2.2.2 → xI s D cl B ad2 A2.2.2.2 H1 locs1 → H1[q9]? = some ce → ce.vm = .none → s.vm.findClass E = some ce.cls → vx_W p l0 e R s m args below meth c H1 locs1 (cells + mc) (slots + ms) Q (F0 m pc ls rest) q9) :
    W p l0 e R s m args below meth c H locs cells slots Q (F0 m pc ls st0) := by
  intro T hT X
  have keep : ∀ (st₀ t T2 : State) (L : List Loc), st₀.heap = H → T2.heap = t.heap → (∀ q ∈ L, B ≤ q.base) → va_F (fun q => B ≤ q) st₀ t → va_S (fun q => B ≤ q) s.heap T2.heap (locs ++ L) := by
    intro st₀ t T2 L h0 e1 hL hF
    exact (vx_keep (A1 := fun q => B ≤ q) (free := fun q => B ≤ q) h0 e1 hI.2.1 (fun _ _ z => z) (fun _ z => z) hL hF).2.2
  rcases hr T hT X with ⟨v, st₀, t, T', L, h0, X', hL, e1, e2, ⟨⟨v1, ad2, hres, hv, hg, hrep, hlv⟩, hF⟩, st⟩ | ⟨q, st₀, t, T', L, E, ce, h0, X', hL, e1, e2, ⟨hres, ⟨ad2, hg, hrep⟩, hF⟩, hce, hcv, hcl, st⟩
  · cases hv
    have hal : s.vm.Alike t.vm := by rw [← e2]; exact X'.warmed.alike
    obtain ⟨t2, a1, b1⟩ := kk v1 ad2 T'.heap (locs ++ L) hres hg ⟨by rw [e1]; exact hrep.moved hal.symm, keep st₀ t T' L h0 e1 hL hF, hI.2.2⟩ hlv T' rfl X'
    exact ⟨t2, st t2 a1, b1⟩
  · have hal : s.vm.Alike t.vm := by rw [← e2]; exact X'.warmed.alike
    obtain ⟨t2, a1, b1⟩ := kx E ce q ad2 T'.heap (locs ++ L) hres hg ⟨by rw [e1]; exact hrep.moved hal.symm, keep st₀ t T' L h0 e1 hL hF, hI.2.2⟩ (by rw [e1]; exact hce) hcv hcl T' rfl X'
    exact ⟨t2, st.trans a1, b1⟩
/-- a callee's start, out of the caller's frame -/
theorem xpre {A : xA} {as : List xV} (X : xCx p s m args meth c D cl TS own nm cc) (hI : xI s D cl B ad A.2.2.2 H locs) (hE : xE s B ad A.2.2.2) (hZ : xZ s B SL) {U : State} (hU : U.heap = H) (hW : s.WarmedH U.vm) : xPc cl SL D B ad A as (as.map (xc ad)).toArray U :=
  ⟨rfl, by rw [hU]; exact hI.1.moved hW.alike, by rw [hU]; exact Nat.le_trans hI.2.2 hI.2.1.1, va_K.moved hW.alike X.2.2.2.2.2.1, hE.mv xAg.rf hI.2.1 hU hW, hZ.mv hI.2.1 hU hW⟩
/-- what the tables must say of a method that is called -/
def xMF (P : xPr) (TS : List Cond) (mid n : Nat) : Prop := plainName (P.2.1 mid).1.cls = true ∧ ((P.2.1 mid).1.cls ≠ "java/lang/invoke/MethodHandle" ∧ (P.2.1 mid).1.cls ≠ "java/lang/invoke/VarHandle") ∧ (parseMethodDescriptor (P.2.1 mid).1.desc).map (fun d => d.parameters.length) = some n ∧ (P.2.1 mid).2.2.1 ≤ 21 ∧ xcw (P.2.1 mid) ∈ TS ∧ Cond.initialized (P.2.1 mid).1.cls ∈ TS
/-- .. of a virtual call -/
def xsV (P : xPr) (TS : List Cond) (cl : List vw_C) (own : String) (idx n ci mid : Nat) : Prop := xMF P TS mid n ∧ (P.2.1 mid).2.2.2.2 = [] ∧ Cond.instanceMethod (P.2.1 mid).1 ∈ TS ∧ ∃ r : vw_C, cl[ci]? = some r ∧
  ((Cond.methodLink own idx (P.2.1 mid).1 ∈ TS ∧ Cond.selects r.1 (P.2.1 mid).1 (P.2.1 mid).1 ∈ TS) ∨ (∃ host, Cond.methodLinkNest own idx (P.2.1 mid).1 host ∈ TS ∧ Cond.selects r.1 (P.2.1 mid).1 (P.2.1 mid).1 ∈ TS) ∨
    ∃ (x : MethodName) (owner : String), Cond.methodLink own idx x ∈ TS ∧ Cond.sameMethod x.cls owner x.name x.desc ∈ TS ∧ Cond.selects r.1 x (P.2.1 mid).1 ∈ TS ∧ ((P.2.1 mid).1 = ⟨owner, x.name, x.desc⟩ ∨ Cond.declares ⟨owner, x.name, x.desc⟩ ∈ TS) ∧ (owner ≠ "java/lang/invoke/MethodHandle" ∧ owner ≠ "java/lang/invoke/VarHandle") ∧ (parseMethodDescriptor x.desc).map (fun d => d.parameters.length) = some n)
/-- .. of a constructor's call -/
def xsI (P : xPr) (TS : List Cond) (own : String) (idx n mid : Nat) : Prop := xMF P TS mid n ∧ (P.2.1 mid).2.2.2.2 = [] ∧ (P.2.1 mid).2.2.2.1 = none ∧ (P.2.1 mid).1.name = "<init>" ∧ Cond.instanceMethod (P.2.1 mid).1 ∈ TS ∧ (Cond.methodLink own idx (P.2.1 mid).1 ∈ TS ∨ ∃ host, Cond.methodLinkNest own idx (P.2.1 mid).1 host ∈ TS)
/-- .. of a static call -/
def xsS (P : xPr) (TS : List Cond) (own : String) (idx n mid : Nat) : Prop := xMF P TS mid n ∧ Cond.static (P.2.1 mid).1 ∈ TS ∧ (Cond.methodLink own idx (P.2.1 mid).1 ∈ TS ∨ (P.2.1 mid).2.2.2.2 = [] ∧ ∃ host, Cond.methodLinkNest own idx (P.2.1 mid).1 host ∈ TS)
def xTc (P : xPr) (TS : List Cond) (cl : List vw_C) (own : String) (i : Instr) (ops : List Nat) : Prop := match i with
  | .invokevirtual idx => match ops with
    | n :: tb => ∀ ci mid, xpick ci tb = some mid → xsV P TS cl own idx n ci mid
    | _ => True
  | .invokespecial idx => match ops with
    | [n, mid] => xsI P TS own idx n mid
    | [] => Cond.methodLink own idx Lib.objectInit ∈ TS ∧ Cond.instanceMethod Lib.objectInit ∈ TS ∧ Cond.code Lib.objectInit ⟨#[0xb1]⟩ 1 none ∈ TS
    | _ => True
  | .invokestatic idx => match ops with
    | [n, mid] => xsS P TS own idx n mid
    | [81] => Cond.methodLink own idx Lib.Math.max.name ∈ TS ∧ Cond.static Lib.Math.max.name ∈ TS ∧ Cond.initialized "java/lang/Math" ∈ TS ∧ Cond.code Lib.Math.max.name Lib.Math.max.code 2 (some .int) ∈ TS
    | [82] => Cond.methodLink own idx Lib.Math.min.name ∈ TS ∧ Cond.static Lib.Math.min.name ∈ TS ∧ Cond.initialized "java/lang/Math" ∈ TS ∧ Cond.code Lib.Math.min.name Lib.Math.min.code 2 (some .int) ∈ TS
    | _ => True
  | _ => True
theorem xkeep (hk : ∀ w ∈ TS, xkp w = true) (hts : ∀ w ∈ TS, w.before args s = true) {w0 : Cond} (h0 : w0 ∈ TS) : ∀ w ∈ w0 :: TS, ∀ (a2 : Array Value) (U : State), s.WarmedH U.vm → w.before a2 U = true := by
  intro w hw a2 U hW
  have hm : w ∈ TS := by
    rcases List.mem_cons.mp hw with rfl | h
    · exact h0
    · exact h
  exact xkp_ok (hk w hm) hW (hts w hm)
theorem xlenn {y : MethodName} {n : Nat} (h : (parseMethodDescriptor y.desc).map (fun d => d.parameters.length) = some n) : ∀ sig, parseMethodDescriptor y.desc = some sig → n = sig.parameters.length := by
  intro sig hs
  rw [hs] at h
  exact (Option.some.inj h).symm
end XSIM
end
section
set_option maxRecDepth 20000
section XCALL
variable {p : Program} {l0 : Launch} {e : Env} {R : Room} {s : State} {m : MethodId} {args : Array Value} {below : List Frame} {meth : Method} {c : Code} {H : Heap} {locs : List Loc} {cells slots : Nat} {Q : State → Prop}
variable {cc : ByteArray} {pc : Nat} {ls : Array Slot} {ad : xN} {D : va_G} {cl : List vw_C} {TS : List Cond} {own nm : String} {B : Nat} {SL : xSL} {P : xPr}
theorem xcw_nil {y : xM} (h : y.2.2.2.2 = []) : xcw y = .code y.1 y.2.1 y.2.2.1 y.2.2.2.1 := if_pos h
theorem xcw_with {y : xM} (h : ¬ y.2.2.2.2 = []) : xcw y = .codeWith y.1 y.2.1 y.2.2.1 y.2.2.2.1 y.2.2.2.2 := if_neg h
/-- a virtual call -/
theorem xrunV {A A2 : xA} {res : xR} {d2 mid idx n ci : Nat} {q : Nat × Nat} {fs as2 rest : List xV} (X : xCx p s m args meth c D cl TS own nm cc) (hml : c.maxLocals = ls.size) (hkp : ∀ w ∈ TS, xkp w = true) (hM : xMet l0 P cl TS SL d2 mid (.inr q :: as2) A res A2) (hs : xsV P TS cl own idx n ci mid) (hq : A.2.2.2 q = some (.inl (ci, fs))) (hn : as2.length = n) (hI : xI s D cl B ad A.2.2.2 H locs) (hE : xE s B ad A.2.2.2) (hZ : xZ s B SL) (hlv : ∀ v ∈ (.inr q :: as2), xlv A.2.2.2 v) (hR : d2 + 2 ≤ R.frames ∧ 40 * (d2 + 2) ≤ R.locals) (hW : ((rest.map (xc ad)).map fun v => v.category).sum ≤ 8) (hd : decode cc pc = .ok (.invokevirtual idx, 3)) (hf : cells + (A2.2.1 - A.2.1) ≤ R.cells ∧ slots + (A2.2.2.1 - A.2.2.1) ≤ R.slots) :
    vx_Run p l0 e R s m args below meth c H locs cells slots (A2.2.1 - A.2.1) (A2.2.2.1 - A.2.2.1) (F0 m pc ls ((as2.map (xc ad)).reverse ++ .ref (ad q) :: rest.map (xc ad))) (rest.map (xc ad)) (xQc cl D B ad A A2 res (Value.ref (ad q) :: as2.map (xc ad)).toArray) (xXc cl D B ad A A2 res) (fun q => B ≤ q) := by
  obtain ⟨hx, hb, hown, hts, hnm, hK, hcl⟩ := id X
  obtain ⟨⟨hpl, hmh, hlen, hmx, hcw, hini⟩, hhh, hin, w, hc, hlk⟩ := hs
  have hM2 := hM.2 D B ad hlv
  rw [xcw_nil hhh] at hM2 hcw
  have hkeep := xkeep hkp hts hcw
  obtain ⟨w2, h1, hlen2, cell, q1, q2, q3, q4⟩ := hI.1.1 q _ hq
  cases Option.some.inj (hc.symm.trans h1)
  have hrec : ∃ cellB : Cell, H[ad q]? = some cellB ∧ cellB.vm.isStatics = false ∧ s.vm.findClass w.1 = some cellB.cls := ⟨cell, q1, by rw [q3]; rfl, by rw [q2]; exact (hK.1 ci w hc).2.1⟩
  have hpre : PreV s H w.1 (ad q) (xPc cl SL D B ad A (.inr q :: as2)) (as2.map (xc ad)) := ⟨xPc.blind, hrec, fun U hU hWm => xpre X hI hE hZ hU hWm⟩
  have hl8 : 8 + ((P.2.1 mid).2.2.1 + 11) + (xRm d2 (A2.2.1 - A.2.1) (A2.2.2.1 - A.2.2.1)).locals ≤ R.locals := by
    show 8 + ((P.2.1 mid).2.2.1 + 11) + 40 * (d2 + 1) ≤ R.locals
    omega
  have hfr : (xRm d2 (A2.2.1 - A.2.1) (A2.2.2.1 - A.2.2.1)).frames + 1 ≤ R.frames := hR.1
  have hn2 : (as2.map (xc ad)).length = n := by rw [List.length_map]; exact hn
  have hroom : 2 * (F0 m pc ls ((as2.map (xc ad)).reverse ++ .ref (ad q) :: rest.map (xc ad))).monitorRoom + ((rest.map (xc ad)).map fun v => v.category).sum ≤ 8 := lv_room hW
  rcases hlk with ⟨hlk, hsel⟩ | ⟨host, hlk, hsel⟩ | ⟨x, owner, hlk, hsm, hsel, hdc, hmo, hlx⟩
  · exact vx_runV ⟨hx, hb, hml, hown, hts⟩ hM2 ⟨⟨rfl, rfl, hfr, hl8, hkeep, List.mem_cons_self, hts _ hcw, hts _ hini, hmh, xlenn hlen, hts _ hlk⟩, hts _ hin, hts _ hsel⟩ hpre rfl hn2 rfl rfl hroom hd hf
  · exact vx_runVN ⟨hx, hb, hml, hown, hts⟩ hM2 ⟨⟨⟨rfl, rfl, hfr, hl8, hkeep, List.mem_cons_self⟩, hts _ hcw, hts _ hini, hmh, xlenn hlen, hts _ hlk⟩, hts _ hin, hts _ hsel⟩ hpre rfl hn2 rfl rfl hroom hd hf
  · have hdecl : va_Decl s ⟨owner, x.name, x.desc⟩ := by
      rcases hdc with e | hdc
      · rw [← e]
        exact va_Decl.of (hts _ hin) (hts _ hcw)
      · exact va_Decl.abs (va_Nw.of rfl (hts _ hdc))
    exact vx_runU (x := x) (owner := owner) ⟨hx, hb, hml, hown, hts⟩ hM2 ⟨⟨rfl, rfl, hfr, hl8, hkeep, List.mem_cons_self⟩, hts _ hcw, hts _ hini, hmo, xlenn (y := x) hlx, hts _ hlk, hts _ hsm, hdecl, hts _ hsel, hts _ hin⟩ hpre rfl hn2 rfl rfl hroom hd hf
/-- a constructor's call -/
theorem xrunI {A A2 : xA} {res : xR} {d2 mid idx n : Nat} {q : Nat × Nat} {as2 rest : List xV} (X : xCx p s m args meth c D cl TS own nm cc) (hml : c.maxLocals = ls.size) (hkp : ∀ w ∈ TS, xkp w = true) (hM : xMet l0 P cl TS SL d2 mid (.inr q :: as2) A res A2) (hs : xsI P TS own idx n mid) (hn : as2.length = n) (hI : xI s D cl B ad A.2.2.2 H locs) (hE : xE s B ad A.2.2.2) (hZ : xZ s B SL) (hlv : ∀ v ∈ (.inr q :: as2), xlv A.2.2.2 v) (hR : d2 + 2 ≤ R.frames ∧ 40 * (d2 + 2) ≤ R.locals) (hW : ((rest.map (xc ad)).map fun v => v.category).sum ≤ 8) (hd : decode cc pc = .ok (.invokespecial idx, 3)) (hf : cells + (A2.2.1 - A.2.1) ≤ R.cells ∧ slots + (A2.2.2.1 - A.2.2.1) ≤ R.slots) :
    vx_Run p l0 e R s m args below meth c H locs cells slots (A2.2.1 - A.2.1) (A2.2.2.1 - A.2.2.1) (F0 m pc ls ((as2.map (xc ad)).reverse ++ .ref (ad q) :: rest.map (xc ad))) (rest.map (xc ad)) (xQc cl D B ad A A2 res (Value.ref (ad q) :: as2.map (xc ad)).toArray) (xXc cl D B ad A A2 res) (fun q => B ≤ q) := by
  obtain ⟨hx, hb, hown, hts, hnm, hK, hcl⟩ := id X
  obtain ⟨⟨hpl, hmh, hlen, hmx, hcw, hini⟩, hhh, hret, hname, hin, hlk⟩ := hs
  have hM2 := hM.2 D B ad hlv
  rw [xcw_nil hhh] at hM2 hcw
  rw [hret] at hM2 hcw
  have hkeep := xkeep hkp hts hcw
  have hpre : PreS s H (xPc cl SL D B ad A (.inr q :: as2)) (.ref (ad q) :: as2.map (xc ad)) := ⟨xPc.blind, fun U hU hWm => xpre X hI hE hZ hU hWm⟩
  have hl8 : 8 + ((P.2.1 mid).2.2.1 + 11) + (xRm d2 (A2.2.1 - A.2.1) (A2.2.2.1 - A.2.2.1)).locals ≤ R.locals := by
    show 8 + ((P.2.1 mid).2.2.1 + 11) + 40 * (d2 + 1) ≤ R.locals
    omega
  have hfr : (xRm d2 (A2.2.1 - A.2.1) (A2.2.2.1 - A.2.2.1)).frames + 1 ≤ R.frames := hR.1
  have hn2 : (as2.map (xc ad)).length = n := by rw [List.length_map]; exact hn
  have hroom : 2 * (F0 m pc ls ((as2.map (xc ad)).reverse ++ .ref (ad q) :: rest.map (xc ad))).monitorRoom + ((rest.map (xc ad)).map fun v => v.category).sum ≤ 8 := lv_room hW
  rcases hlk with hlk | ⟨host, hlk⟩
  · exact vx_runI ⟨hx, hb, hml, hown, hts⟩ hM2 ⟨⟨rfl, rfl, hfr, hl8, hkeep, List.mem_cons_self, hts _ hcw, hts _ hini, hmh, xlenn hlen, hts _ hlk⟩, hname, hts _ hin⟩ hpre rfl hn2 rfl rfl hroom hd hf
  · exact vx_runIN ⟨hx, hb, hml, hown, hts⟩ hM2 ⟨⟨⟨rfl, rfl, hfr, hl8, hkeep, List.mem_cons_self⟩, hts _ hcw, hts _ hini, hmh, xlenn hlen, hts _ hlk⟩, hname, hts _ hin⟩ hpre rfl hn2 rfl rfl hroom hd hf
/-- a static call -/
theorem xrunS {A A2 : xA} {res : xR} {d2 mid idx n : Nat} {as rest : List xV} (X : xCx p s m args meth c D cl TS own nm cc) (hml : c.maxLocals = ls.size) (hkp : ∀ w ∈ TS, xkp w = true) (hM : xMet l0 P cl TS SL d2 mid as A res A2) (hs : xsS P TS own idx n mid) (hn : as.length = n) (hI : xI s D cl B ad A.2.2.2 H locs) (hE : xE s B ad A.2.2.2) (hZ : xZ s B SL) (hlv : ∀ v ∈ as, xlv A.2.2.2 v) (hR : d2 + 2 ≤ R.frames ∧ 40 * (d2 + 2) ≤ R.locals) (hW : ((rest.map (xc ad)).map fun v => v.category).sum ≤ 8) (hd : decode cc pc = .ok (.invokestatic idx, 3)) (hf : cells + (A2.2.1 - A.2.1) ≤ R.cells ∧ slots + (A2.2.2.1 - A.2.2.1) ≤ R.slots) :
    vx_Run p l0 e R s m args below meth c H locs cells slots (A2.2.1 - A.2.1) (A2.2.2.1 - A.2.2.1) (F0 m pc ls ((as.map (xc ad)).reverse ++ rest.map (xc ad))) (rest.map (xc ad)) (xQc cl D B ad A A2 res (as.map (xc ad)).toArray) (xXc cl D B ad A A2 res) (fun q => B ≤ q) := by
  obtain ⟨hx, hb, hown, hts, hnm, hK, hcl⟩ := id X
  obtain ⟨⟨hpl, hmh, hlen, hmx, hcw, hini⟩, hstat, hlk⟩ := hs
  have hM2 := hM.2 D B ad hlv
  have hkeep := xkeep hkp hts hcw
  have hpre : PreS s H (xPc cl SL D B ad A as) (as.map (xc ad)) := ⟨xPc.blind, fun U hU hWm => xpre X hI hE hZ hU hWm⟩
  have hl8 : 8 + ((P.2.1 mid).2.2.1 + 11) + (xRm d2 (A2.2.1 - A.2.1) (A2.2.2.1 - A.2.2.1)).locals ≤ R.locals := by
    show 8 + ((P.2.1 mid).2.2.1 + 11) + 40 * (d2 + 1) ≤ R.locals
    omega
  have hfr : (xRm d2 (A2.2.1 - A.2.1) (A2.2.2.1 - A.2.2.1)).frames + 1 ≤ R.frames := hR.1
  have hn2 : (as.map (xc ad)).length = n := by rw [List.length_map]; exact hn
  have hroom : 2 * (F0 m pc ls ((as.map (xc ad)).reverse ++ rest.map (xc ad))).monitorRoom + ((rest.map (xc ad)).map fun v => v.category).sum ≤ 8 := lv_room hW
  by_cases hhh : (P.2.1 mid).2.2.2.2 = []
  · rw [xcw_nil hhh] at hM2 hcw hkeep
    rcases hlk with hlk | ⟨-, host, hlk⟩
    · exact vx_runS ⟨hx, hb, hml, hown, hts⟩ hM2 ⟨⟨rfl, rfl, hfr, hl8, hkeep, List.mem_cons_self, hts _ hcw, hts _ hini, hmh, xlenn hlen, hts _ hlk⟩, hts _ hstat⟩ hpre rfl hn2 rfl rfl hroom hd hf
    · exact vx_runSN ⟨hx, hb, hml, hown, hts⟩ hM2 ⟨⟨⟨rfl, rfl, hfr, hl8, hkeep, List.mem_cons_self⟩, hts _ hcw, hts _ hini, hmh, xlenn hlen, hts _ hlk⟩, hts _ hstat, trivial⟩ hpre rfl hn2 rfl rfl hroom hd hf
  · rw [xcw_with hhh] at hM2 hcw hkeep
    rcases hlk with hlk | ⟨h9, -⟩
    · exact vx_runSX ⟨hx, hb, hml, hown, hts⟩ hM2 ⟨⟨rfl, rfl, hfr, hl8, hkeep, List.mem_cons_self⟩, hts _ hcw, hts _ hini, hmh, xlenn hlen, hts _ hlk, hts _ hstat⟩ hpre rfl hn2 rfl rfl hroom hd hf
    · exact absurd h9 hhh
end XCALL
end
section
set_option maxRecDepth 20000
section XSTEP
def xln (i : Instr) : Nat := match i with
  | .invokevirtual _ => 3
  | .invokespecial _ => 3
  | .invokestatic _ => 3
  | i => match xlen i with
    | 0 => xlen2 i
    | k + 1 => k + 1
/-- the length that decoding an instruction must give -/
def xdok (i : Instr) (n : Nat) : Prop := match i with
  | .tableswitch _ _ _ _ => True
  | i => n = xln i
theorem xs1_len {nL pc n : Nat} {i : Instr} {l : xL} {st : List xV} {z : Nat × xL × List xV} (h : xs1 nL i pc l st = some z) (hn : xdok i n) : n = xlen i := by
  cases i
  case fconst f =>
    match f, h, hn with
    | 0, h, hn => exact hn
    | 1, h, hn => exact hn
    | 2, h, hn => exact hn
  case dconst f =>
    match f, h, hn with
    | 0, h, hn => exact hn
    | 1, h, hn => exact hn
  all_goals first | exact hn | (cases h; done)
set_option maxHeartbeats 4000000 in
theorem xs2_mono {i : Instr} {ops : List Nat} {pc : Nat} {l : xL} {st : List xV} {A : xA} {z : Nat × xL × List xV × xA} (h : xs2 i ops pc l st A = some z) : A.2.1 ≤ z.2.2.2.2.1 ∧ A.2.2.1 ≤ z.2.2.2.2.2.1 := by
  obtain ⟨pc2, l2, st2, A2⟩ := z
  show A.2.1 ≤ A2.2.1 ∧ A.2.2.1 ≤ A2.2.2.1
  have sto : ∀ {q : Nat × Nat} {kd n want : Nat} {j : Int32} {f : Nat → xV} {v : xV} {A1 : xA}, xsto A q kd j n f want v = some A1 → A.2.1 ≤ A1.2.1 ∧ A.2.2.1 ≤ A1.2.2.1 := by
    intro q kd n want j f v A1 h
    unfold xsto at h
    split at h
    · cases h; exact ⟨Nat.le_refl _, Nat.le_refl _⟩
    · cases h
  cases i <;> simp only [xs2] at h
  all_goals (repeat' split at h)
  all_goals first
    | (cases h; done)
    | (cases h; exact ⟨Nat.le_refl _, Nat.le_refl _⟩)
    | (cases h; exact ⟨Nat.le_succ _, Nat.le_add_right _ _⟩)
    | (cases h; exact sto (by assumption))
    | (obtain ⟨_, _, _, _, rfl, _⟩ := xbr_ok h; exact ⟨Nat.le_refl _, Nat.le_refl _⟩)
    | (obtain ⟨_, _, _, rfl⟩ := xjmp_ok h; exact ⟨Nat.le_refl _, Nat.le_refl _⟩)
theorem xs_mono {nL : Nat} {i : Instr} {ops : List Nat} {pc : Nat} {l : xL} {st : List xV} {A : xA} {z : Nat × xL × List xV × xA} (h : xs nL i ops pc l st A = some z) : A.2.1 ≤ z.2.2.2.2.1 ∧ A.2.2.1 ≤ z.2.2.2.2.2.1 := by
  unfold xs at h
  split at h
  next => cases h; exact ⟨Nat.le_refl _, Nat.le_refl _⟩
  next =>
    split at h
    next h2 => cases h; exact xs2_mono h2
    next =>
      split at h
      next =>
        split at h
        next => cases h; exact ⟨Nat.le_refl _, Nat.le_refl _⟩
        next => cases h
      next =>
        split at h
        next => cases h; exact ⟨Nat.le_refl _, Nat.le_refl _⟩
        next => cases h
      next =>
        split at h
        next => cases h; exact ⟨Nat.le_refl _, Nat.le_refl _⟩
        next => cases h
      next => cases h
variable {p : Program} {l0 : Launch} {e : Env} {R : Room} {s : State} {m : MethodId} {args : Array Value} {below : List Frame} {meth : Method} {c : Code} {H : Heap} {locs : List Loc} {cells slots : Nat} {Q : State → Prop}
variable {cc : ByteArray} {pc : Nat} {ls : Array Slot} {ad : xN} {D : va_G} {cl : List vw_C} {TS : List Cond} {own nm : String} {B : Nat} {SL : xSL} {P : xPr}
set_option maxHeartbeats 4000000 in
theorem xs2_ok {l l2 : xL} {st st2 : List xV} {A A2 : xA} {nL pc2 n : Nat} {ops : List Nat} {i : Instr} (X : xCx p s m args meth c D cl TS own nm cc) (hd : decode cc pc = .ok (i, n)) (hn : xdok i n) (hT : xT TS cl own nm i ops) (hl : lv_has ls nL (xlm ad l)) (hk : xok (xlv A.2.2.2) l st) (hI : xI s D cl B ad A.2.2.2 H locs) (hE : xE s B ad A.2.2.2) (h : xs2 i ops pc l st A = some (pc2, l2, st2, A2)) (hbud : cells + A2.2.1 ≤ R.cells + A.2.1 ∧ slots + A2.2.2.1 ≤ R.slots + A.2.2.1)
    (k : xCont p l0 e R s m args below meth c D cl B ad A A2 l2 st2 nL pc2 cells slots Q) : W p l0 e R s m args below meth c H locs cells slots Q (F0 m pc ls (st.map (xc ad))) := by
  cases i
  case tableswitch a b c d => exact xt_tableswitch X hd hT hl hk hI hE h hbud k
  case ifCond o off => cases hn; exact xt_ifCond X hd hT hl hk hI hE h hbud k
  case if_icmp o off => cases hn; exact xt_if_icmp X hd hT hl hk hI hE h hbud k
  case if_acmp o off =>
    cases hn
    cases o
    · exact xt_if_acmp_eq X hd hT hl hk hI hE h hbud k
    · exact xt_if_acmp_ne X hd hT hl hk hI hE h hbud k
  case getfield => cases hn; exact xt_getfield X hd hT hl hk hI hE h hbud k
  case putfield => cases hn; exact xt_putfield X hd hT hl hk hI hE h hbud k
  case iaload => cases hn; exact xt_iaload X hd hT hl hk hI hE h hbud k
  case laload => cases hn; exact xt_laload X hd hT hl hk hI hE h hbud k
  case caload => cases hn; exact xt_caload X hd hT hl hk hI hE h hbud k
  case daload => cases hn; exact xt_daload X hd hT hl hk hI hE h hbud k
  case aaload => cases hn; exact xt_aaload X hd hT hl hk hI hE h hbud k
  case iastore => cases hn; exact xt_iastore X hd hT hl hk hI hE h hbud k
  case lastore => cases hn; exact xt_lastore X hd hT hl hk hI hE h hbud k
  case castore => cases hn; exact xt_castore X hd hT hl hk hI hE h hbud k
  case dastore => cases hn; exact xt_dastore X hd hT hl hk hI hE h hbud k
  case aastore => cases hn; exact xt_aastore X hd hT hl hk hI hE h hbud k
  case arraylength => cases hn; exact xt_arraylength X hd hT hl hk hI hE h hbud k
  case newarray => cases hn; exact xt_newarray X hd hT hl hk hI hE h hbud k
  case anewarray => cases hn; exact xt_anewarray X hd hT hl hk hI hE h hbud k
  case new => cases hn; exact xt_new X hd hT hl hk hI hE h hbud k
  case checkcast => cases hn; exact xt_checkcast X hd hT hl hk hI hE h hbud k
  case ldc => cases hn; exact xt_ldc X hd hT hl hk hI hE h hbud k
  case ldc_w => cases hn; exact xt_ldc_w X hd hT hl hk hI hE h hbud k
  case ldc2_w => cases hn; exact xt_ldc2_w X hd hT hl hk hI hE h hbud k
  case getstatic => cases hn; exact xt_getstatic X hd hT hl hk hI hE h hbud k
  all_goals (cases h; done)
/-- one instruction that stays in its method is the machine's own -/
theorem xs_ok {l l2 : xL} {st st2 : List xV} {A A2 : xA} {nL pc2 n : Nat} {ops : List Nat} {i : Instr} (X : xCx p s m args meth c D cl TS own nm cc) (hml : c.maxLocals = nL) (hd : decode cc pc = .ok (i, n)) (hn : xdok i n) (hT : xT TS cl own nm i ops) (hT2 : xTc P TS cl own i ops) (hR : 1 ≤ R.frames ∧ 40 ≤ R.locals) (hl : lv_has ls nL (xlm ad l)) (hk : xok (xlv A.2.2.2) l st) (hI : xI s D cl B ad A.2.2.2 H locs) (hE : xE s B ad A.2.2.2) (h : xs nL i ops pc l st A = some (pc2, l2, st2, A2)) (hbud : cells + A2.2.1 ≤ R.cells + A.2.1 ∧ slots + A2.2.2.1 ≤ R.slots + A.2.2.1)
    (k : xCont p l0 e R s m args below meth c D cl B ad A A2 l2 st2 nL pc2 cells slots Q) : W p l0 e R s m args below meth c H locs cells slots Q (F0 m pc ls (st.map (xc ad))) := by
  obtain ⟨hx, hb, hown, hts, hnm, hK, hcl⟩ := id X
  unfold xs at h
  split at h
  next z hz =>
    cases h
    have hn1 := xs1_len hz hn
    subst hn1
    exact xs1_ok (Lv := xlv A.2.2.2) (fun _ => trivial) hx hb hd hl hk hz (fun ls2 hl2 hk2 => k.same hl2 hk2 hI)
  next =>
    split at h
    next z hz =>
      cases h
      exact xs2_ok X hd hn hT hl hk hI hE hz hbud k
    next =>
      split at h
      next q r =>
        split at h
        next hsum =>
          cases h
          cases hn
          obtain ⟨g1, g2, g3⟩ := hT2
          refine W.objInit hx hb hown (hts _ g1) (hts _ g2) (hts _ g3) rfl (by rw [hml]; exact hl.1) rfl hd hR.1 ?_ ?_
          · have h8 : ((st2.map (xc ad)).map fun v => v.category).sum ≤ 8 := by
              rw [List.map_map]
              rw [show ((fun v : Value => v.category) ∘ xc ad) = xcat from funext fun v => xc_cat ad v]
              exact hsum
            exact Nat.le_trans (Nat.add_le_add_right (lv_room h8) 12) (by omega)
          · exact k.same hl (xok_tl hk) hI
        next => cases h
      next y x r _ _ =>
        split at h
        next hsum =>
          cases h
          cases hn
          obtain ⟨g1, g2, g3, g4⟩ := hT2
          have h8 : ((r.map (xc ad)).map fun v => v.category).sum ≤ 8 := by
            rw [List.map_map]
            rw [show ((fun v : Value => v.category) ∘ xc ad) = xcat from funext fun v => xc_cat ad v]
            exact hsum
          exact va_mmax hx hb (hml.trans hl.1.symm) hown (hts _ g1) (hts _ g2) (hts _ g3) (hts _ g4) hR.1 (by omega) (by omega) (by omega) hd (k.same hl (xok_push (xok_tl (xok_tl hk)) trivial) hI)
        next => cases h
      next y x r _ _ =>
        split at h
        next hsum =>
          cases h
          cases hn
          obtain ⟨g1, g2, g3, g4⟩ := hT2
          have h8 : ((r.map (xc ad)).map fun v => v.category).sum ≤ 8 := by
            rw [List.map_map]
            rw [show ((fun v : Value => v.category) ∘ xc ad) = xcat from funext fun v => xc_cat ad v]
            exact hsum
          exact va_mmin hx hb (hml.trans hl.1.symm) hown (hts _ g1) (hts _ g2) (hts _ g3) (hts _ g4) hR.1 (by omega) (by omega) (by omega) hd (k.same hl (xok_push (xok_tl (xok_tl hk)) trivial) hI)
        next => cases h
      next => cases h
end XSTEP
end
section
set_option maxRecDepth 20000
section XMAIN
/-- .. of a place that throws a new exception with a text -/
def xthr (P : xPr) (TS : List Cond) (SL : xSL) (mid pc : Nat) (E : String) : Prop := ∃ (ik is ic ix k9 : Nat) (rx : ByteArray) (text : String) (names : List String),
  decode (P.2.1 mid).2.1 pc = .ok (.new ik, 3) ∧ decode (P.2.1 mid).2.1 (pc + 3) = .ok (.dup, 1) ∧ ((decode (P.2.1 mid).2.1 (pc + 4) = .ok (.ldc is, 2) ∧ decode (P.2.1 mid).2.1 (pc + 6) = .ok (.invokespecial ic, 3) ∧ k9 = 9) ∨ decode (P.2.1 mid).2.1 (pc + 4) = .ok (.ldc_w is, 3) ∧ decode (P.2.1 mid).2.1 (pc + 7) = .ok (.invokespecial ic, 3) ∧ k9 = 10) ∧ decode (P.2.1 mid).2.1 (pc + k9) = .ok (.athrow, 1) ∧
  (decode rx 0 = .ok (.aload_n 0, 1) ∧ decode rx 1 = .ok (.aload_n 1, 1) ∧ decode rx 2 = .ok (.invokespecial ix, 3) ∧ decode rx 5 = .ok (.return_, 1)) ∧
  Bundle.fit E = true ∧ (∀ n ∈ names, Bundle.fit n = true) ∧ Cond.classLink (P.2.1 mid).1.cls ik E ∈ TS ∧ Cond.initialized E ∈ TS ∧ ((P.2.1 mid).1.cls, is, text) ∈ SL.1 ∧ (∀ w ∈ xx_at (P.2.1 mid).1.cls ic E ix rx names, w ∈ TS) ∧
  (∀ w ∈ Cond.classLink (P.2.1 mid).1.cls ik E :: Cond.initialized E :: xx_at (P.2.1 mid).1.cls ic E ix rx names, vx_ot w = true) ∧ names.length ≤ 4 ∧ (P.2.1 mid).2.2.2.2 = []
/-- .. of a place at which an exception is caught: the handler begins by storing it -/
def xhdl (P : xPr) (TS : List Cond) (SL : xSL) (mid pc : Nat) (E : String) (hpc ln k : Nat) : Prop := ∃ (pre suf : List ExceptionTableEntry) (x : ExceptionTableEntry) (name : String), tableOf (P.2.1 mid).2.2.2.2 = pre ++ x :: suf ∧
  (∀ z ∈ pre, covers z pc = false ∨ (z.catchType ≠ 0 ∧ ∃ nm : String, Cond.classLink (P.2.1 mid).1.cls z.catchType nm ∈ TS ∧ (E, nm) ∈ SL.2)) ∧ covers x pc = true ∧ x.catchType ≠ 0 ∧ Cond.classLink (P.2.1 mid).1.cls x.catchType name ∈ TS ∧ Cond.castable E name ∈ TS ∧ x.handlerPc = hpc ∧
  k < (P.2.1 mid).2.2.1 ∧ ((∃ f : Fin 4, f.val = k ∧ ln = 1 ∧ decode (P.2.1 mid).2.1 hpc = .ok (.astore_n f, 1)) ∨ ln = 2 ∧ decode (P.2.1 mid).2.1 hpc = .ok (.astore k, 2))
/-- THE TABLES OF A PROGRAM -/
def xG (P : xPr) (cl : List vw_C) (TS : List Cond) (SL : xSL) : Prop :=
  (∀ w ∈ TS, xkp w = true) ∧ (∀ (ci : Nat) (r : vw_C), cl[ci]? = some r → xcls TS r) ∧
  (∀ mid pc i ops, P.1 mid pc = some (i, ops) → (∃ n, decode (P.2.1 mid).2.1 pc = .ok (i, n) ∧ xdok i n) ∧ xT TS cl (P.2.1 mid).1.cls (P.2.1 mid).1.name i ops ∧ xTc P TS cl (P.2.1 mid).1.cls i ops) ∧
  (∀ mid pc E, P.2.2.1 mid pc = some E → xthr P TS SL mid pc E) ∧ (∀ mid pc E hpc ln k, P.2.2.2 mid pc E = some (hpc, ln, k) → xhdl P TS SL mid pc E hpc ln k)
/-- how a frame's run may end -/
def xFin (p : Program) (l0 : Launch) (e : Env) (R : Room) (s : State) (m : MethodId) (args : Array Value) (below : List Frame) (meth : Method) (c : Code) (D : va_G) (cl : List vw_C) (B : Nat) (P : xPr) (d mid : Nat) (Q : State → Prop) (ad : xN) (A : xA) (res : xR) (A2 : xA) : Prop :=
  (∀ (pc2 : Nat) (i : Instr) (ops : List Nat) (v : Option xV) (ad2 : xN) (H2 : Heap) (locs2 : List Loc) (ls2 : Array Slot) (l2 : xL) (st2 : List xV) (cells2 slots2 : Nat), P.1 mid pc2 = some (i, ops) → xret (P.2.1 mid).2.2.2.1 i st2 = some v → res = .inl v → xAg ad ad2 A.2.2.2 A2.2.2.2 → xI s D cl B ad2 A2.2.2.2 H2 locs2 → lv_has ls2 (P.2.1 mid).2.2.1 (xlm ad2 l2) → xok (xlv A2.2.2.2) l2 st2 → cells2 ≤ R.cells ∧ slots2 ≤ R.slots → W p l0 e R s m args below meth c H2 locs2 cells2 slots2 Q (F0 m pc2 ls2 (st2.map (xc ad2)))) ∧
  (∀ (pc2 : Nat) (E : String) (ad2 : xN) (H2 : Heap) (locs2 : List Loc) (ls2 : Array Slot) (l2 : xL) (st2 : List xV) (cells2 slots2 : Nat), P.2.2.1 mid pc2 = some E → res = .inr E → xAg ad ad2 A.2.2.2 A2.2.2.2 → xI s D cl B ad2 A2.2.2.2 H2 locs2 → lv_has ls2 (P.2.1 mid).2.2.1 (xlm ad2 l2) → xok (xlv A2.2.2.2) l2 st2 → cells2 + 1 ≤ R.cells ∧ slots2 + 6 ≤ R.slots → 8 ≤ d → (st2.map xcat).sum ≤ 8 → W p l0 e R s m args below meth c H2 locs2 cells2 slots2 Q (F0 m pc2 ls2 (st2.map (xc ad2)))) ∧
  (∀ (pc2 : Nat) (E : String) (ce : Cell) (q9 : Addr) (ad2 : xN) (H2 : Heap) (locs2 : List Loc) (ls2 : Array Slot) (rest : List Value) (cells2 slots2 : Nat), res = .inr E → (P.2.1 mid).2.2.2.2 = [] → xAg ad ad2 A.2.2.2 A2.2.2.2 → xI s D cl B ad2 A2.2.2.2 H2 locs2 → H2[q9]? = some ce → ce.vm = .none → s.vm.findClass E = some ce.cls → cells2 ≤ R.cells ∧ slots2 ≤ R.slots → vx_W p l0 e R s m args below meth c H2 locs2 cells2 slots2 Q (F0 m pc2 ls2 rest) q9)
theorem xFin.go {p : Program} {l0 : Launch} {e : Env} {R : Room} {s : State} {m : MethodId} {args : Array Value} {below : List Frame} {meth : Method} {c : Code} {D : va_G} {cl : List vw_C} {B : Nat} {P : xPr} {d mid : Nat} {Q : State → Prop} {ad ad1 : xN} {A A1 : xA} {res : xR} {A2 : xA} (h : xFin p l0 e R s m args below meth c D cl B P d mid Q ad A res A2) (g : xAg ad ad1 A.2.2.2 A1.2.2.2) : xFin p l0 e R s m args below meth c D cl B P d mid Q ad1 A1 res A2 :=
  ⟨fun pc2 i ops v ad2 H2 locs2 ls2 l2 st2 cells2 slots2 a1 a2 a3 a4 => h.1 pc2 i ops v ad2 H2 locs2 ls2 l2 st2 cells2 slots2 a1 a2 a3 (g.tr a4),
   fun pc2 E ad2 H2 locs2 ls2 l2 st2 cells2 slots2 a1 a2 a3 => h.2.1 pc2 E ad2 H2 locs2 ls2 l2 st2 cells2 slots2 a1 a2 (g.tr a3),
   fun pc2 E ce q9 ad2 H2 locs2 ls2 rest cells2 slots2 a1 a2 a3 => h.2.2 pc2 E ce q9 ad2 H2 locs2 ls2 rest cells2 slots2 a1 a2 (g.tr a3)⟩
/-- a stretch of a frame's run: from any machine that holds it, the machine comes to the frame's end -/
def xSim (l0 : Launch) (P : xPr) (cl : List vw_C) (TS : List Cond) (SL : xSL) (d mid pc : Nat) (l : xL) (st : List xV) (A : xA) (res : xR) (A2 : xA) : Prop :=
  (A.2.1 ≤ A2.2.1 ∧ A.2.2.1 ≤ A2.2.2.1) ∧ ∀ (p : Program) (e : Env) (R : Room) (s : State) (m : MethodId) (args : Array Value) (below : List Frame) (meth : Method) (c : Code) (H : Heap) (locs : List Loc) (cells slots : Nat) (Q : State → Prop) (ls : Array Slot) (ad : xN) (D : va_G) (B : Nat),
    xCx p s m args meth c D cl TS (P.2.1 mid).1.cls (P.2.1 mid).1.name (P.2.1 mid).2.1 → c.maxLocals = (P.2.1 mid).2.2.1 → c.exceptionTable.toList = tableOf (P.2.1 mid).2.2.2.2 → lv_has ls (P.2.1 mid).2.2.1 (xlm ad l) → xok (xlv A.2.2.2) l st → xI s D cl B ad A.2.2.2 H locs → xE s B ad A.2.2.2 → xZ s B SL → (d + 1 ≤ R.frames ∧ 40 * (d + 1) ≤ R.locals) → (cells + A2.2.1 ≤ R.cells + A.2.1 ∧ slots + A2.2.2.1 ≤ R.slots + A.2.2.1) →
    xFin p l0 e R s m args below meth c D cl B P d mid Q ad A res A2 → W p l0 e R s m args below meth c H locs cells slots Q (F0 m pc ls (st.map (xc ad)))
theorem xar_lm (ad : xN) : ∀ (vs : List xV) (i : Nat), xlm ad (xar i vs) = lv_args i (vs.map (xc ad))
  | [], _ => rfl
  | v :: vs, i => by
    show (i, xc ad v) :: xlm ad (xar _ vs) = (i, xc ad v) :: lv_args _ (vs.map (xc ad))
    rw [xar_lm ad vs, xc_cat]
theorem xar_ok {Lv : xV → Prop} : ∀ (vs : List xV) (i : Nat), (∀ v ∈ vs, Lv v) → ∀ q ∈ xar i vs, Lv q.2
  | [], _, _ => fun _ h => by cases h
  | v :: vs, i, h => by
    intro q hq
    rcases List.mem_cons.mp hq with rfl | hq
    · exact h v List.mem_cons_self
    · exact xar_ok vs _ (fun u hu => h u (List.mem_cons_of_mem _ hu)) q hq
theorem xsl_len (ad : xN) : ∀ vs : List xV, (lg_sl (vs.map (xc ad))).length = (vs.map xcat).sum
  | [] => rfl
  | v :: vs => by
    have ih := xsl_len ad vs
    have h1 : lg_sl ((v :: vs).map (xc ad)) = (if (xc ad v).category = 2 then [Slot.val (xc ad v), .second] else [.val (xc ad v)]) ++ lg_sl (vs.map (xc ad)) := by
      simp [lg_sl]
    rw [h1, List.length_append, ih, List.map_cons, List.sum_cons, ← xc_cat ad v]
    rcases lv_cat (xc ad v) with h | h <;> simp [h]
theorem xsum_c (ad : xN) (vs : List xV) : ((vs.map (xc ad)).map fun v => v.category).sum = (vs.map xcat).sum := by
  rw [List.map_map, show ((fun v : Value => v.category) ∘ xc ad) = xcat from funext fun v => xc_cat ad v]
end XMAIN
end
section
set_option maxRecDepth 20000
section XMETOF
variable {p : Program} {l0 : Launch} {e : Env} {R : Room} {s : State} {m : MethodId} {args : Array Value} {below : List Frame} {meth : Method} {c : Code} {H : Heap} {locs : List Loc} {cells slots : Nat} {Q : State → Prop}
variable {cc : ByteArray} {pc : Nat} {ls : Array Slot} {ad : xN} {D : va_G} {cl : List vw_C} {TS : List Cond} {own nm : String} {B : Nat} {SL : xSL} {P : xPr}
theorem xRep.ext {h : xH} {H1 : Heap} (hR : xRep s D cl B ad h H) (hk : ∀ q, q < H.size → H1[q]? = H[q]?) : xRep s D cl B ad h H1 :=
  ⟨fun q o hq => (hR.1 q o hq).kept (hk _ (hR.1 q o hq).lt), hR.2⟩
/-- the end of a method by a return instruction -/
theorem xend {A A2 : xA} {res : xR} {i : Instr} {n : Nat} {rt : Option FieldType} {st2 : List xV} {v : Option xV} {ad2 : xN} (hx : p.tables.exec = Jvm.exec) (hb : c.code = cc) (hr : meth.sig.returnType = rt) (hlocks : meth.locks = false) (hd : decode cc pc = .ok (i, n)) (hn : xdok i n) (hv : xret rt i st2 = some v) (hres : res = .inl v) (hg : xAg ad ad2 A.2.2.2 A2.2.2.2) (hI : xI s D cl B ad2 A2.2.2.2 H locs) (hlv : ∀ u ∈ st2, xlv A2.2.2.2 u) :
    W p l0 e R s m args below meth c H locs cells slots (MQ below (xQc cl D B ad A A2 res) args s cells slots (fun q => B ≤ q)) (F0 m pc ls (st2.map (xc ad2))) := by
  have post : ∀ t : State, t.heap = H → s.WarmedH t.vm → (∀ x, v = some x → xlv A2.2.2.2 x) → xQc cl D B ad A A2 res args s (.returned (v.map (xc ad2))) t := fun t ht hW h3 =>
    ⟨⟨v, ad2, hres, rfl, hg, by rw [ht]; exact hI.1.moved hW.alike, h3⟩, hI.2.1.F ht⟩
  have hf : ∀ q ∈ locs, B ≤ q.base := hI.2.1.2.2
  unfold xret at hv
  split at hv
  next =>
    cases hn
    split at hv
    next x =>
      split at hv
      next =>
        cases hv
        exact W.iret hx hb hr (fun t ht hW => post t ht hW (fun y hy => by cases hy; trivial)) hf hd hlocks
      next =>
        split at hv
        next h01 =>
          cases hv
          refine W.zret hx hb hr (by rcases h01 with rfl | rfl <;> rfl) (fun t ht hW => post t ht hW (fun y hy => by cases hy; trivial)) hf hd hlocks
        next => cases hv
      next => cases hv
    next => cases hv
  next =>
    cases hn
    split at hv
    next x =>
      split at hv
      next hty =>
        cases hv
        exact W.lret hx hb (hr.trans hty) (fun t ht hW => post t ht hW (fun y hy => by cases hy; trivial)) hf hd hlocks
      next => cases hv
    next => cases hv
  next =>
    cases hn
    split at hv
    next x =>
      split at hv
      next hty =>
        cases hv
        exact W.fret hx hb (hr.trans hty) (fun t ht hW => post t ht hW (fun y hy => by cases hy; trivial)) hf hd hlocks
      next => cases hv
    next => cases hv
  next =>
    cases hn
    split at hv
    next x =>
      split at hv
      next hty =>
        cases hv
        exact W.dret hx hb (hr.trans hty) (fun t ht hW => post t ht hW (fun y hy => by cases hy; trivial)) hf hd hlocks
      next => cases hv
    next => cases hv
  next =>
    cases hn
    split at hv
    next C =>
      split at hv
      next =>
        cases hv
        exact W.aret hx hb hr (Or.inl ⟨_, rfl⟩) (Or.inl rfl) (fun t ht hW => post t ht hW (fun y hy => by cases hy; trivial)) hf hd hlocks
      next q =>
        cases hv
        exact W.aret hx hb hr (Or.inl ⟨_, rfl⟩) (Or.inr ⟨_, rfl⟩) (fun t ht hW => post t ht hW (fun y hy => by cases hy; exact hlv _ List.mem_cons_self)) hf hd hlocks
      next => cases hv
    next C =>
      split at hv
      next =>
        cases hv
        exact W.aret hx hb hr (Or.inr ⟨_, rfl⟩) (Or.inl rfl) (fun t ht hW => post t ht hW (fun y hy => by cases hy; trivial)) hf hd hlocks
      next q =>
        cases hv
        exact W.aret hx hb hr (Or.inr ⟨_, rfl⟩) (Or.inr ⟨_, rfl⟩) (fun t ht hW => post t ht hW (fun y hy => by cases hy; exact hlv _ List.mem_cons_self)) hf hd hlocks
      next => cases hv
    next => cases hv
  next =>
    cases hn
    split at hv
    next =>
      split at hv
      next =>
        cases hv
        exact W.vret hx hb hr (fun t ht hW => post t ht hW (fun y hy => by cases hy)) hf hd hlocks
      next => cases hv
    next => cases hv
  next => cases hv
set_option maxHeartbeats 4000000 in
/-- a run of a method from its entry is a contract of it -/
theorem xMet_of (G : xG P cl TS SL) (hflag : l0.stackTraces = false) {d mid n : Nat} {as : List xV} {A A2 : xA} {res : xR} (hmf : xMF P TS mid n) (hw : (as.map xcat).sum ≤ (P.2.1 mid).2.2.1) (h : xSim l0 P cl TS SL d mid 0 (xar 0 as) [] A res A2) : xMet l0 P cl TS SL d mid as A res A2 := by
  refine ⟨h.1, fun D B ad hlv => ?_⟩
  obtain ⟨hm1, hm2⟩ := h.1
  have body : ∀ (p : Program) (e : Env) (s : State) (m : MethodId) (args : Array Value) (below : List Frame) (meth : Method) (c : Code) (s₁ : State), BodyLoose p l0 (P.2.1 mid).1 (headSpec (xcw (P.2.1 mid) :: TS) (xRm d (A2.2.1 - A.2.1) (A2.2.2.1 - A.2.2.1))) (P.2.1 mid).2.1 (P.2.1 mid).2.2.1 (P.2.1 mid).2.2.2.1 e s m args below meth c s₁ → c.maxLocals = (P.2.1 mid).2.2.1 → c.exceptionTable.toList = tableOf (P.2.1 mid).2.2.2.2 → xPc cl SL D B ad A as args s →
      W p l0 e (xRm d (A2.2.1 - A.2.1) (A2.2.2.1 - A.2.2.1)) s m args below meth c s.heap [] 0 0 (vx_MQ below (xQc cl D B ad A A2 res) (xXc cl D B ad A A2 res) args s (A2.2.1 - A.2.1) (A2.2.2.1 - A.2.2.1) (fun q => B ≤ q)) (entryFrame m args (P.2.1 mid).2.2.1) := by
    intro p e s m args below meth c s₁ BB hml htab hv
    obtain ⟨rfl, hrep, hB, hK, hE, hZ⟩ := hv
    have hts := atoms_spec (ws := xcw (P.2.1 mid) :: TS) BB.pre
    have hlocks := BB.notSynchronized
    have X : xCx p s m (as.map (xc ad)).toArray meth c D cl TS (P.2.1 mid).1.cls (P.2.1 mid).1.name (P.2.1 mid).2.1 := ⟨BB.exec, BB.bytes, findClass_of_methodNamed BB.named, fun w hw => hts w (List.mem_cons_of_mem _ hw), (name_of_methodNamed BB.named BB.method).1, hK, G.2.1⟩
    obtain ⟨hx, hb, hown, hts2, -⟩ := id X
    have hl := lv_entry (as.map (xc ad)) (n := (P.2.1 mid).2.2.1) (by rw [xsl_len]; exact hw)
    rw [lg_entry_eq]
    generalize (lg_sl (as.map (xc ad)) ++ List.replicate ((P.2.1 mid).2.2.1 - (lg_sl (as.map (xc ad))).length) Slot.unset).toArray = ls at hl ⊢
    have hl : lv_has ls (P.2.1 mid).2.2.1 (xlm ad (xar 0 as)) := by rw [xar_lm]; exact hl
    refine h.2 p e _ s m _ below meth c s.heap [] 0 0 _ ls ad D B X hml htab hl ⟨xar_ok as 0 hlv, fun _ h => by cases h⟩ ⟨hrep, va_S.rf, hB⟩ hE hZ ⟨Nat.le_refl _, Nat.le_refl _⟩ ⟨?_, ?_⟩ ⟨?_, ?_, ?_⟩
    · show 0 + A2.2.1 ≤ (A2.2.1 - A.2.1) + A.2.1
      omega
    · show 0 + A2.2.2.1 ≤ (A2.2.2.1 - A.2.2.1) + A.2.2.1
      omega
    · intro pc2 i ops v ad2 H2 locs2 ls2 l2 st2 cells2 slots2 hP hv hres hg hI hl2 hk2 hbd
      obtain ⟨⟨n1, hd, hn⟩, -⟩ := G.2.2.1 mid pc2 i ops hP
      exact W.widen hbd.1 hbd.2 (vx_ret (xend hx hb BB.returns hlocks hd hn hv hres hg hI hk2.2))
    · intro pc2 E ad2 H2 locs2 ls2 l2 st2 cells2 slots2 hP hres hg hI hl2 hk2 hbd hd8 hsum
      obtain ⟨ik, is, ic, ix, k9, rx, text, names, d0, d3, dd, d9, ⟨x0, x1, x2, x5⟩, hfit, hfits, hcl1, hini, hstr, hat, hgood, hnl, hhh⟩ := G.2.2.2.1 mid pc2 E hP
      obtain ⟨sa, hsa⟩ := hZ.2.2.1 _ hstr
      have hfr : names.length + 3 < d + 1 := by omega
      have hlo : ((st2.map (xc ad2)).map fun v => v.category).sum + (13 * (names.length + 1) + 43) ≤ 40 * (d + 1) := by rw [xsum_c]; omega
      have hout : ∀ (k : Nat), ∀ x ∈ c.exceptionTable.toList, covers x k = false := by
        intro k x hx2
        rw [htab, hhh] at hx2
        cases hx2
      refine xx_makeS hx hb hflag x0 x1 x2 x5 hown hfit hfits (hts2 _ hcl1) (hts2 _ hini) hsa (fun w hw => hts2 _ (hat w hw)) hgood hZ.1 hZ.2.1 hI.2.1 (hl2.1.trans hml.symm) d0 d3 dd hfr hlo hbd.1 hbd.2 (fun q ce H1 hce hvm hcl2 hsz hk => ?_)
      refine vx_athrow hx hb d9 (vx_out (hout _) hlocks hce hvm hcl2 (fun t ht hal => ?_) hI.2.1.2.2 hbd.1 hbd.2)
      refine ⟨hres, ⟨ad2, hg, by rw [ht]; exact (hI.1.ext hk).moved hal⟩, by rw [ht]; exact Nat.le_trans hI.2.1.1 hsz, fun q h1 h2 => ?_⟩
      rw [ht, hk q (Nat.lt_of_lt_of_le h1 hI.2.1.1)]
      exact hI.2.1.2.1 q h1 h2
    · intro pc2 E ce q9 ad2 H2 locs2 ls2 rest cells2 slots2 hres hhh hg hI hcell hvm hcls hbd
      refine vx_out ?_ hlocks hcell hvm hcls ?_ hI.2.1.2.2 hbd.1 hbd.2
      · intro x hx2
        rw [htab, hhh] at hx2
        cases hx2
      · intro t ht hal
        exact ⟨hres, ⟨ad2, hg, by rw [ht]; exact hI.1.moved hal⟩, hI.2.1.F ht⟩
  by_cases hhh : (P.2.1 mid).2.2.2.2 = []
  · refine vx_ofW (cc := (P.2.1 mid).2.1) (maxL := (P.2.1 mid).2.2.1) (ret := (P.2.1 mid).2.2.2.1) hmf.1 (by rw [xcw_nil hhh]) ?_
    intro p e s m args below meth c s₁ BB hml htab hv
    refine body p e s m args below meth c s₁ BB hml ?_ hv
    rw [hhh]
    exact List.eq_nil_iff_forall_not_mem.mpr htab
  · refine vx_ofWH (cc := (P.2.1 mid).2.1) (maxL := (P.2.1 mid).2.2.1) (ret := (P.2.1 mid).2.2.2.1) (hh := (P.2.1 mid).2.2.2.2) hmf.1 (by rw [xcw_with hhh]) ?_
    intro p e s m args below meth c s₁ BB hml hv
    have hts := atoms_spec (ws := xcw (P.2.1 mid) :: TS) BB.pre
    exact body p e s m args below meth c s₁ BB hml (vx_table (x := (P.2.1 mid).1) BB (by rw [← xcw_with hhh]; exact hts _ List.mem_cons_self)) hv
end XMETOF
end
section
set_option maxRecDepth 20000
section XSOUND
variable {l0 : Launch} {cl : List vw_C} {TS : List Cond} {SL : xSL} {P : xPr}
theorem xdrop {st rest : List xV} {n : Nat} {v : xV} (h : st.drop n = v :: rest) : st = ((st.take n).reverse).reverse ++ v :: rest ∧ ((st.take n).reverse).length = n := by
  have h1 : n ≤ st.length := by
    rcases Nat.le_total n st.length with q | q
    · exact q
    · rw [List.drop_of_length_le q] at h
      cases h
  refine ⟨?_, ?_⟩
  · rw [List.reverse_reverse, ← h, List.take_append_drop]
  · rw [List.length_reverse, List.length_take]
    omega
/-- what a call finds -/
theorem xinv_ok {i : Instr} {ops : List Nat} {st : List xV} {h : xH} {mid2 : Nat} {as rest : List xV} (e : xinv i ops st h = some (mid2, as, rest)) :
    (∃ (idx n : Nat) (tb : List Nat) (q : Nat × Nat) (ci : Nat) (fs as2 : List xV), i = .invokevirtual idx ∧ ops = n :: tb ∧ as = .inr q :: as2 ∧ as2.length = n ∧ st = as2.reverse ++ .inr q :: rest ∧ h q = some (.inl (ci, fs)) ∧ xpick ci tb = some mid2) ∨
    (∃ (idx n : Nat) (q : Nat × Nat) (as2 : List xV), i = .invokespecial idx ∧ ops = [n, mid2] ∧ as = .inr q :: as2 ∧ as2.length = n ∧ st = as2.reverse ++ .inr q :: rest) ∨
    ∃ (idx n : Nat), i = .invokestatic idx ∧ ops = [n, mid2] ∧ as.length = n ∧ st = as.reverse ++ rest := by
  unfold xinv at e
  split at e
  next idx =>
    split at e
    next n tb =>
      split at e
      next q r2 hd =>
        split at e
        next ci fs hq =>
          split at e
          next mid3 hp =>
            cases e
            obtain ⟨h1, h2⟩ := xdrop hd
            exact Or.inl ⟨idx, n, tb, q, ci, fs, _, rfl, rfl, rfl, h2, h1, hq, hp⟩
          next => cases e
        next => cases e
      next => cases e
    next => cases e
  next idx =>
    split at e
    next n mid3 =>
      split at e
      next q r2 hd =>
        cases e
        obtain ⟨h1, h2⟩ := xdrop hd
        exact Or.inr (Or.inl ⟨idx, n, q, _, rfl, rfl, rfl, h2, h1⟩)
      next => cases e
    next => cases e
  next idx =>
    split at e
    next n mid3 =>
      split at e
      next hle =>
        cases e
        refine Or.inr (Or.inr ⟨idx, n, rfl, rfl, ?_, ?_⟩)
        · rw [List.length_reverse, List.length_take]
          omega
        · rw [List.reverse_reverse, List.take_append_drop]
      next => cases e
    next => cases e
  next => cases e
set_option maxHeartbeats 8000000 in
/-- THE SMALL MACHINE IS THE MACHINE'S OWN: what it comes to, the machine comes to -/
theorem xrun_ok (G : xG P cl TS SL) (hflag : l0.stackTraces = false) {ct : Nat → Nat → List xV → xA → Option (xR × xA)} (hct : ∀ (d mid : Nat) (as : List xV) (A : xA) (res : xR) (A2 : xA), ct d mid as A = some (res, A2) → xMet l0 P cl TS SL d mid as A res A2) :
    ∀ (n d mid pc : Nat) (l : xL) (st : List xV) (A : xA) (res : xR) (A2 : xA), xrun P ct n d mid pc l st A = some (res, A2) → xSim l0 P cl TS SL d mid pc l st A res A2 := by
  intro n
  induction n with
  | zero =>
    intro d mid pc l st A res A2 h
    cases h
  | succ n ih =>
    intro d mid pc l st A res A2 h
    unfold xrun at h
    split at h
    next => cases h
    next i ops hP =>
      obtain ⟨⟨n1, hd, hn⟩, hT, hTc⟩ := G.2.2.1 mid pc i ops hP
      split at h
      next v hv =>
        cases h
        refine ⟨⟨Nat.le_refl _, Nat.le_refl _⟩, ?_⟩
        intro p e R s m args below meth c H locs cells slots Q ls ad D B X hml htab hl hk hI hE hZ hR hbud hfin
        exact hfin.1 pc i ops v ad H locs ls l st cells slots hP hv rfl xAg.rf hI hl hk ⟨by omega, by omega⟩
      next hv =>
        split at h
        next E hE9 =>
          split at h
          next hg =>
            cases h
            refine ⟨⟨Nat.le_succ _, Nat.le_add_right _ _⟩, ?_⟩
            intro p e R s m args below meth c H locs cells slots Q ls ad D B X hml htab hl hk hI hE hZ hR hbud hfin
            refine hfin.2.1 pc E ad H locs ls l st cells slots hE9 rfl xAg.rf hI hl hk ⟨?_, ?_⟩ hg.1 hg.2
            · have := hbud.1
              dsimp only at this
              omega
            · have := hbud.2
              dsimp only at this
              omega
          next => cases h
        next =>
          split at h
          next z hz =>
            obtain ⟨pc3, l3, st3, A3⟩ := z
            have hs := ih _ _ _ _ _ _ _ _ h
            have hmo := xs_mono hz
            obtain ⟨hs1, hs2⟩ := hs
            dsimp only at hmo hs1 hs2 hz
            refine ⟨⟨Nat.le_trans hmo.1 hs1.1, Nat.le_trans hmo.2 hs1.2⟩, ?_⟩
            intro p e R s m args below meth c H locs cells slots Q ls ad D B X hml htab hl hk hI hE hZ hR hbud hfin
            refine xs_ok (P := P) X hml hd hn hT hTc ⟨by omega, by omega⟩ hl hk hI hE hz ⟨by omega, by omega⟩ ?_
            intro ad2 H2 locs2 ls2 cells2 slots2 hg1 hg2 hI2 hl2 hk2 hc2 hs22
            have hg : xAg ad ad2 A.2.2.2 A3.2.2.2 := ⟨hg1, hg2⟩
            exact hs2 p e R s m args below meth c H2 locs2 cells2 slots2 Q ls2 ad2 D B X hml htab hl2 hk2 hI2 (hE.ag hg) hZ hR ⟨by omega, by omega⟩ (hfin.go hg)
          next hz =>
            split at h
            next mid2 as rest d2 hinv =>
              split at h
              next hw =>
                -- the callee
                have callee : ∀ (n2 : Nat), xMF P TS mid2 n2 → ∀ (r3 : xR) (A3 : xA), (match ct d2 mid2 as A with
                    | some z => some z
                    | none => xrun P ct n d2 mid2 0 (xar 0 as) [] A) = some (r3, A3) → xMet l0 P cl TS SL d2 mid2 as A r3 A3 := by
                  intro n2 hmf r3 A3 hm
                  split at hm
                  next z hc =>
                    cases hm
                    exact hct _ _ _ _ _ _ hc
                  next => exact xMet_of G hflag hmf hw.1 (ih _ _ _ _ _ _ _ _ hm)
                have calls : ∀ (r3 : xR) (A3 : xA), (match ct d2 mid2 as A with
                    | some z => some z
                    | none => xrun P ct n d2 mid2 0 (xar 0 as) [] A) = some (r3, A3) → (A.2.1 ≤ A3.2.1 ∧ A.2.2.1 ≤ A3.2.2.1) ∧ ∀ (p : Program) (e : Env) (R : Room) (s : State) (m : MethodId) (args : Array Value) (below : List Frame) (meth : Method) (c : Code) (H : Heap) (locs : List Loc) (cells slots : Nat) (ls : Array Slot) (ad : xN) (D : va_G) (B : Nat),
                      xCx p s m args meth c D cl TS (P.2.1 mid).1.cls (P.2.1 mid).1.name (P.2.1 mid).2.1 → c.maxLocals = ls.size → xok (xlv A.2.2.2) l st → xI s D cl B ad A.2.2.2 H locs → xE s B ad A.2.2.2 → xZ s B SL → (d2 + 2 ≤ R.frames ∧ 40 * (d2 + 2) ≤ R.locals) → (cells + (A3.2.1 - A.2.1) ≤ R.cells ∧ slots + (A3.2.2.1 - A.2.2.1) ≤ R.slots) →
                      ∃ a, vx_Run p l0 e R s m args below meth c H locs cells slots (A3.2.1 - A.2.1) (A3.2.2.1 - A.2.2.1) (F0 m pc ls (st.map (xc ad))) (rest.map (xc ad)) (xQc cl D B ad A A3 r3 a) (xXc cl D B ad A A3 r3) (fun q => B ≤ q) := by
                  intro r3 A3 hm
                  rcases xinv_ok hinv with ⟨idx, n2, tb, q, ci, fs, as2, rfl, rfl, rfl, hlen, rfl, hq, hpk⟩ | ⟨idx, n2, q, as2, rfl, rfl, rfl, hlen, rfl⟩ | ⟨idx, n2, rfl, rfl, hlen, rfl⟩
                  · have hs : xsV P TS cl (P.2.1 mid).1.cls idx n2 ci mid2 := hTc ci mid2 hpk
                    have hM := callee n2 hs.1 r3 A3 hm
                    refine ⟨hM.1, ?_⟩
                    intro p e R s m args below meth c H locs cells slots ls ad D B X hml hk hI hE hZ hR hf
                    cases hn
                    have hlv : ∀ v ∈ (.inr q :: as2 : List xV), xlv A.2.2.2 v := by
                      intro v hv
                      refine hk.2 v ?_
                      rcases List.mem_cons.mp hv with rfl | hv
                      · exact List.mem_append_right _ List.mem_cons_self
                      · exact List.mem_append_left _ (List.mem_reverse.mpr hv)
                    refine ⟨((.inr q :: as2 : List xV).map (xc ad)).toArray, ?_⟩
                    rw [List.map_append, List.map_reverse, List.map_cons]
                    exact xrunV X hml G.1 hM hs hq hlen hI hE hZ hlv hR (by rw [xsum_c]; exact hw.2) hd hf
                  · have hs : xsI P TS (P.2.1 mid).1.cls idx n2 mid2 := hTc
                    have hM := callee n2 hs.1 r3 A3 hm
                    refine ⟨hM.1, ?_⟩
                    intro p e R s m args below meth c H locs cells slots ls ad D B X hml hk hI hE hZ hR hf
                    cases hn
                    have hlv : ∀ v ∈ (.inr q :: as2 : List xV), xlv A.2.2.2 v := by
                      intro v hv
                      refine hk.2 v ?_
                      rcases List.mem_cons.mp hv with rfl | hv
                      · exact List.mem_append_right _ List.mem_cons_self
                      · exact List.mem_append_left _ (List.mem_reverse.mpr hv)
                    refine ⟨((.inr q :: as2 : List xV).map (xc ad)).toArray, ?_⟩
                    rw [List.map_append, List.map_reverse, List.map_cons]
                    exact xrunI X hml G.1 hM hs hlen hI hE hZ hlv hR (by rw [xsum_c]; exact hw.2) hd hf
                  · have hs : xsS P TS (P.2.1 mid).1.cls idx n2 mid2 := hTc
                    have hM := callee n2 hs.1 r3 A3 hm
                    refine ⟨hM.1, ?_⟩
                    intro p e R s m args below meth c H locs cells slots ls ad D B X hml hk hI hE hZ hR hf
                    cases hn
                    have hlv : ∀ v ∈ as, xlv A.2.2.2 v := fun v hv => hk.2 v (List.mem_append_left _ (List.mem_reverse.mpr hv))
                    refine ⟨(as.map (xc ad)).toArray, ?_⟩
                    rw [List.map_append, List.map_reverse]
                    exact xrunS X hml G.1 hM hs hlen hI hE hZ hlv hR (by rw [xsum_c]; exact hw.2) hd hf
                have hrest : ∀ v ∈ rest, v ∈ st := by
                  intro v hmem
                  rcases xinv_ok hinv with ⟨idx, n2, tb, q, ci, fs, as2, rfl, rfl, rfl, hlen, rfl, hq, hpk⟩ | ⟨idx, n2, q, as2, rfl, rfl, rfl, hlen, rfl⟩ | ⟨idx, n2, rfl, rfl, hlen, rfl⟩
                  · exact List.mem_append_right _ (List.mem_cons_of_mem _ hmem)
                  · exact List.mem_append_right _ (List.mem_cons_of_mem _ hmem)
                  · exact List.mem_append_right _ hmem
                split at h
                next v A3 hm =>
                  obtain ⟨hm1, hcalls⟩ := calls _ _ hm
                  have hs := ih _ _ _ _ _ _ _ _ h
                  obtain ⟨hs1, hs2⟩ := hs
                  refine ⟨⟨Nat.le_trans hm1.1 hs1.1, Nat.le_trans hm1.2 hs1.2⟩, ?_⟩
                  intro p e R s m args below meth c H locs cells slots Q ls ad D B X hml htab hl hk hI hE hZ hR hbud hfin
                  obtain ⟨a, hr⟩ := hcalls p e R s m args below meth c H locs cells slots ls ad D B X (hml.trans hl.1.symm) hk hI hE hZ hR ⟨by omega, by omega⟩
                  refine xgo hr hI (fun v2 ad2 H1 locs1 hres hg hI1 hlv1 => ?_) (fun E ce q9 ad2 H1 locs1 hres => by cases hres)
                  cases hres
                  have hst : (v.map (xc ad2)).toList ++ rest.map (xc ad) = (v.toList ++ rest).map (xc ad2) := by
                    rw [List.map_append, hg.st (fun u hu => hk.2 u (hrest u hu))]
                    cases v <;> rfl
                  rw [hst]
                  refine hs2 p e R s m args below meth c H1 locs1 _ _ Q ls ad2 D B X hml htab (by rw [hg.lm hk.1]; exact hl) ?_ hI1 (hE.ag hg) hZ hR ⟨by omega, by omega⟩ (hfin.go hg)
                  refine ⟨fun z hz => (hg.1 _ (hk.1 z hz)).1, fun u hu => ?_⟩
                  rcases List.mem_append.mp hu with hu | hu
                  · cases v with
                    | none => cases hu
                    | some y => exact hlv1 u (by rw [List.mem_singleton.mp hu])
                  · exact (hg.1 u (hk.2 u (hrest u hu))).1
                next E A3 hm =>
                  obtain ⟨hm1, hcalls⟩ := calls _ _ hm
                  split at h
                  next hpc ln k hh =>
                    have hs := ih _ _ _ _ _ _ _ _ h
                    obtain ⟨hs1, hs2⟩ := hs
                    refine ⟨⟨Nat.le_trans hm1.1 hs1.1, Nat.le_trans hm1.2 hs1.2⟩, ?_⟩
                    intro p e R s m args below meth c H locs cells slots Q ls ad D B X hml htab hl hk hI hE hZ hR hbud hfin
                    obtain ⟨a, hr⟩ := hcalls p e R s m args below meth c H locs cells slots ls ad D B X (hml.trans hl.1.symm) hk hI hE hZ hR ⟨by omega, by omega⟩
                    refine xgo hr hI (fun v2 ad2 H1 locs1 hres => by cases hres) (fun E2 ce q9 ad2 H1 locs1 hres hg hI1 hcell hvm hcls => ?_)
                    cases hres
                    obtain ⟨hx, hb, hown, hts, hnm, hK, hcl9⟩ := id X
                    obtain ⟨pre, suf, x, name, hsplit, hpass, hcov, hct0, hlk, hca, hpc9, hkL, hdec⟩ := G.2.2.2.2 mid pc E hpc ln k hh
                    refine vx_catch hown pre x suf (htab.trans hsplit) (fun z hz => ?_) hcov hct0 (hts _ hlk) (hts _ hca) hcell hvm hcls ?_
                    · rcases hpass z hz with h1 | ⟨h1, nm2, h2, h3⟩
                      · exact Or.inl h1
                      · exact Or.inr ⟨h1, nm2, hts _ h2, hZ.2.2.2 _ h3⟩
                    · rw [hpc9]
                      have hl1 : lv_has ls (P.2.1 mid).2.2.1 (xlm ad2 l) := by rw [hg.lm hk.1]; exact hl
                      have go : ∀ (ls2 : Array Slot) (lv2 : List (Nat × Value)), (k, Value.ref q9) :: (xlm ad2 l).filter (fun q => !(q.1 == k) && !(q.1 + 1 == k && q.2.category == 2)) = lv2 → lv_has ls2 (P.2.1 mid).2.2.1 lv2 → W p l0 e R s m args below meth c H1 locs1 (cells + (A3.2.1 - A.2.1)) (slots + (A3.2.2.1 - A.2.2.1)) Q (F0 m (hpc + ln) ls2 []) := by
                        intro ls2 lv2 e2 hl2
                        have hl3 : lv_has ls2 (P.2.1 mid).2.2.1 (xlm ad2 (xrm l k)) := by
                          refine ⟨hl2.1, hl2.2.1, fun q hq => hl2.2.2 q ?_⟩
                          rw [← e2]
                          refine List.mem_cons_of_mem _ ?_
                          obtain ⟨z, hz, rfl⟩ := List.mem_map.mp hq
                          obtain ⟨hz1, hz2⟩ := List.mem_filter.mp hz
                          refine List.mem_filter.mpr ⟨List.mem_map.mpr ⟨z, hz1, rfl⟩, ?_⟩
                          dsimp only
                          rw [xc_cat]
                          exact hz2
                        refine hs2 p e R s m args below meth c H1 locs1 _ _ Q ls2 ad2 D B X hml htab hl3 ⟨fun z hz => (hg.1 _ (hk.1 z (List.mem_filter.mp hz).1)).1, fun u hu => by cases hu⟩ hI1 (hE.ag hg) hZ hR ⟨by omega, by omega⟩ (hfin.go hg)
                      rcases hdec with ⟨f, hf, rfl, hdd⟩ | ⟨rfl, hdd⟩
                      · exact lv_astore_n hx hb hdd hf hl1 hkL rfl (fun ls2 hl2 => go ls2 _ rfl hl2)
                      · exact lv_astore hx hb hdd hl1 hkL rfl (fun ls2 hl2 => go ls2 _ rfl hl2)
                  next hh =>
                    split at h
                    next hnil =>
                      cases h
                      refine ⟨hm1, ?_⟩
                      intro p e R s m args below meth c H locs cells slots Q ls ad D B X hml htab hl hk hI hE hZ hR hbud hfin
                      obtain ⟨a, hr⟩ := hcalls p e R s m args below meth c H locs cells slots ls ad D B X (hml.trans hl.1.symm) hk hI hE hZ hR ⟨by omega, by omega⟩
                      refine xgo hr hI (fun v2 ad2 H1 locs1 hres => by cases hres) (fun E2 ce q9 ad2 H1 locs1 hres hg hI1 hcell hvm hcls => ?_)
                      exact hfin.2.2 pc E2 ce q9 ad2 H1 locs1 ls _ _ _ hres hnil hg hI1 hcell hvm hcls ⟨by omega, by omega⟩
                    next => cases h
                next => cases h
              next => cases h
            next => cases h
end XSOUND
end
section
set_option maxRecDepth 20000
section XTABS
/-- an instruction of a table: place, length, itself, operands -/
abbrev xEn : Type := Nat × Nat × Instr × List Nat
/-- a method of a table: itself, its instructions in pieces of 32 places, where it throws, where it catches -/
abbrev xEl : Type := xM × List (List xEn) × List (Nat × String) × List (Nat × String × Nat × Nat × Nat)
def xgt : List (List xEl) → Nat → Option xEl := fun LL k => match LL[k / 16]? with
  | some L => L[k % 16]?
  | none => none
def xfe : List xEn → Nat → Option (Instr × List Nat)
  | [], _ => none
  | e :: r, pc => match Nat.beq e.1 pc with
    | true => some e.2.2
    | false => xfe r pc
def xft : List (Nat × String) → Nat → Option String
  | [], _ => none
  | e :: r, pc => match Nat.beq e.1 pc with
    | true => some e.2
    | false => xft r pc
def xfh : List (Nat × String × Nat × Nat × Nat) → Nat → String → Option (Nat × Nat × Nat)
  | [], _, _ => none
  | e :: r, pc, E => match Nat.beq e.1 pc with
    | true => if e.2.1 = E then some e.2.2 else xfh r pc E
    | false => xfh r pc E
def xcode (T : List (List xEl)) (mid pc : Nat) : Option (Instr × List Nat) := match xgt T mid with
  | some el => match el.2.1[pc / 32]? with
    | some L => xfe L pc
    | none => none
  | none => none
def xM0 : xM := (⟨"", "", ""⟩, ⟨#[]⟩, 0, none, [])
def xMk (T : List (List xEl)) : xPr := (xcode T, fun mid => match xgt T mid with
  | some el => el.1
  | none => xM0, fun mid pc => match xgt T mid with
  | some el => xft el.2.2.1 pc
  | none => none, fun mid pc E => match xgt T mid with
  | some el => xfh el.2.2.2 pc E
  | none => none)
theorem xfe_mem {L : List xEn} {pc : Nat} {i : Instr} {ops : List Nat} (h : xfe L pc = some (i, ops)) : ∃ n, (pc, n, i, ops) ∈ L := by
  induction L with
  | nil => cases h
  | cons e r ih =>
    unfold xfe at h
    split at h
    next hb =>
      obtain ⟨a, n, j, o⟩ := e
      have ha : a = pc := Nat.eq_of_beq_eq_true hb
      subst ha
      cases h
      exact ⟨n, List.mem_cons_self⟩
    next =>
      obtain ⟨n, hn⟩ := ih h
      exact ⟨n, List.mem_cons_of_mem _ hn⟩
theorem xft_mem {L : List (Nat × String)} {pc : Nat} {E : String} (h : xft L pc = some E) : (pc, E) ∈ L := by
  induction L with
  | nil => cases h
  | cons e r ih =>
    unfold xft at h
    split at h
    next hb =>
      obtain ⟨a, n⟩ := e
      have ha : a = pc := Nat.eq_of_beq_eq_true hb
      subst ha
      cases h
      exact List.mem_cons_self
    next => exact List.mem_cons_of_mem _ (ih h)
theorem xfh_mem {L : List (Nat × String × Nat × Nat × Nat)} {pc : Nat} {E : String} {z : Nat × Nat × Nat} (h : xfh L pc E = some z) : (pc, E, z) ∈ L := by
  induction L with
  | nil => cases h
  | cons e r ih =>
    unfold xfh at h
    split at h
    next hb =>
      obtain ⟨a, n, y⟩ := e
      have ha : a = pc := Nat.eq_of_beq_eq_true hb
      subst ha
      split at h
      next hE =>
        dsimp only at hE
        subst hE
        cases h
        exact List.mem_cons_self
      next => exact List.mem_cons_of_mem _ (ih h)
    next => exact List.mem_cons_of_mem _ (ih h)
theorem xgt_mem {T : List (List xEl)} {k : Nat} {el : xEl} (h : xgt T k = some el) : ∃ L ∈ T, el ∈ L := by
  unfold xgt at h
  split at h
  next L hL => exact ⟨L, List.mem_of_getElem? hL, List.mem_of_getElem? h⟩
  next => cases h
/-- a program of one method: to say of a method what the tables say of a place -/
def xOne (m : xM) : xPr := (fun _ _ => none, fun _ => m, fun _ _ => none, fun _ _ _ => none)
def xdkb (i : Instr) (n : Nat) : Bool := match i with
  | .tableswitch _ _ _ _ => true
  | i => Nat.beq n (xln i)
theorem xdkb_ok {i : Instr} {n : Nat} (h : xdkb i n = true) : xdok i n := by
  unfold xdkb at h
  unfold xdok
  split at h
  next => trivial
  next hne =>
    split
    next => trivial
    next => exact Nat.eq_of_beq_eq_true h
/-- an instruction's decoding -/
def xdk (cc : ByteArray) (e : xEn) : Bool := decide (decode cc e.1 = .ok (e.2.2.1, e.2.1)) && xdkb e.2.2.1 e.2.1
/-- what the words say of an instruction -/
def xFo (P : xPr) (TS : List Cond) (cl : List vw_C) (m : xM) (e : xEn) : Prop := xT TS cl m.1.cls m.1.name e.2.2.1 e.2.2.2 ∧ xTc P TS cl m.1.cls e.2.2.1 e.2.2.2
/-- what must be shown of a method -/
def xFm (P : xPr) (TS : List Cond) (cl : List vw_C) (SL : xSL) (el : xEl) : Prop :=
  (∀ L ∈ el.2.1, L.all (xdk el.1.2.1) = true ∧ ∀ e ∈ L, xFo P TS cl el.1 e) ∧ (∀ t ∈ el.2.2.1, xthr (xOne el.1) TS SL 0 t.1 t.2) ∧ ∀ t ∈ el.2.2.2, xhdl (xOne el.1) TS SL 0 t.1 t.2.1 t.2.2.1 t.2.2.2.1 t.2.2.2.2
theorem xG_of {T : List (List xEl)} {cl : List vw_C} {TS : List Cond} {SL : xSL} (h1 : ∀ w ∈ TS, xkp w = true) (h2 : ∀ r ∈ cl, xcls TS r) (h3 : ∀ L ∈ T, ∀ el ∈ L, xFm (xMk T) TS cl SL el) : xG (xMk T) cl TS SL := by
  refine ⟨h1, fun ci r hr => h2 r (List.mem_of_getElem? hr), fun mid pc i ops h => ?_, fun mid pc E h => ?_, fun mid pc E hpc ln k h => ?_⟩
  · show (∃ n, decode ((xMk T).2.1 mid).2.1 pc = .ok (i, n) ∧ xdok i n) ∧ _
    have h : xcode T mid pc = some (i, ops) := h
    unfold xcode at h
    split at h
    next el hel =>
      have hm : (xMk T).2.1 mid = el.1 := by
        show (match xgt T mid with | some el => el.1 | none => xM0) = el.1
        rw [hel]
      rw [hm]
      split at h
      next L hL =>
        obtain ⟨n, hn⟩ := xfe_mem h
        obtain ⟨LL, hLL, hel2⟩ := xgt_mem hel
        obtain ⟨hd, hf⟩ := (h3 LL hLL el hel2).1 L (List.mem_of_getElem? hL)
        have hd := List.all_eq_true.mp hd _ hn
        unfold xdk at hd
        rw [Bool.and_eq_true] at hd
        exact ⟨⟨n, of_decide_eq_true hd.1, xdkb_ok hd.2⟩, hf _ hn⟩
      next => cases h
    next => cases h
  · have h : (match xgt T mid with | some el => xft el.2.2.1 pc | none => none) = some E := h
    split at h
    next el hel =>
      have hm : (xMk T).2.1 mid = el.1 := by
        show (match xgt T mid with | some el => el.1 | none => xM0) = el.1
        rw [hel]
      obtain ⟨LL, hLL, hel2⟩ := xgt_mem hel
      have := (h3 LL hLL el hel2).2.1 _ (xft_mem h)
      unfold xthr at this ⊢
      rw [hm]
      exact this
    next => cases h
  · have h : (match xgt T mid with | some el => xfh el.2.2.2 pc E | none => none) = some (hpc, ln, k) := h
    split at h
    next el hel =>
      have hm : (xMk T).2.1 mid = el.1 := by
        show (match xgt T mid with | some el => el.1 | none => xM0) = el.1
        rw [hel]
      obtain ⟨LL, hLL, hel2⟩ := xgt_mem hel
      have := (h3 LL hLL el hel2).2.2 _ (xfh_mem h)
      unfold xhdl at this ⊢
      rw [hm]
      exact this
    next => cases h
theorem xlt_0 {p : Nat → Prop} : ∀ j, j < 0 → p j := fun j h => absurd h (Nat.not_lt_zero j)
theorem xlt_s {p : Nat → Prop} (n : Nat) (h : ∀ j, j < n → p j) (h1 : p n) : ∀ j, j < n + 1 → p j := fun j hj => by
  rcases Nat.lt_succ_iff_lt_or_eq.mp hj with h2 | rfl
  · exact h j h2
  · exact h1
theorem xpk_0 {p : Nat → Nat → Prop} : ∀ ci mid, xpick ci [] = some mid → p ci mid := fun _ _ h => by cases h
theorem xpk_s {p : Nat → Nat → Prop} {a b : Nat} {r : List Nat} (h : p a b) (hr : ∀ ci mid, xpick ci r = some mid → p ci mid) : ∀ ci mid, xpick ci (a :: b :: r) = some mid → p ci mid := fun ci mid hp => by
  unfold xpick at hp
  split at hp
  next e =>
    subst e
    cases hp
    exact h
  next => exact hr ci mid hp
theorem xuws {C : String} {T : u_T} {TS : List Cond} (N : Nat) (h : ∀ j, j < N → u_lay C T j ∈ TS) : ∀ w ∈ u_ws C T N, w ∈ TS := by
  intro w hw
  obtain ⟨j, hj, rfl⟩ := List.mem_map.mp hw
  exact h j (List.mem_range.mp hj)
/-- words by their places -/
theorem xplaces {big ws : List Cond} (ps : List Nat) (h : ws = ps.filterMap (fun i => big[i]?)) (hk : ws.all xkp = true) : ∀ w ∈ ws, w ∈ big.filter xkp := by
  intro w hw
  have h1 := List.all_eq_true.mp hk w hw
  rw [h] at hw
  obtain ⟨i, -, hi⟩ := List.mem_filterMap.mp hw
  exact List.mem_filter.mpr ⟨List.mem_of_getElem? hi, h1⟩
theorem xw {big : List Cond} {w : Cond} (i : Nat) (h : big[i]? = some w) (hk : xkp w = true) : w ∈ big.filter xkp := List.mem_filter.mpr ⟨List.mem_of_getElem? h, hk⟩
def xMFm (m : xM) (TS : List Cond) (n : Nat) : Prop := plainName m.1.cls = true ∧ (m.1.cls ≠ "java/lang/invoke/MethodHandle" ∧ m.1.cls ≠ "java/lang/invoke/VarHandle") ∧ (parseMethodDescriptor m.1.desc).map (fun d => d.parameters.length) = some n ∧ m.2.2.1 ≤ 21 ∧ xcw m ∈ TS ∧ Cond.initialized m.1.cls ∈ TS
theorem xMFm_ok {P : xPr} {TS : List Cond} {mid n : Nat} {m : xM} (e : P.2.1 mid = m) (h : xMFm m TS n) : xMF P TS mid n := by
  unfold xMF
  rw [e]
  exact h
theorem xMF_of {P : xPr} {TS : List Cond} {mid n : Nat} {m : xM} (e : P.2.1 mid = m) (h : xMF (xOne m) TS 0 n) : xMF P TS mid n := by
  unfold xMF at h ⊢
  rw [e]
  exact h
theorem xsV_of {P : xPr} {TS : List Cond} {cl : List vw_C} {own : String} {idx n ci mid : Nat} {m : xM} (e : P.2.1 mid = m) (h : xsV (xOne m) TS cl own idx n ci 0) : xsV P TS cl own idx n ci mid := by
  unfold xsV xMF at h ⊢
  rw [e]
  exact h
theorem xsI_of {P : xPr} {TS : List Cond} {own : String} {idx n mid : Nat} {m : xM} (e : P.2.1 mid = m) (h : xsI (xOne m) TS own idx n 0) : xsI P TS own idx n mid := by
  unfold xsI xMF at h ⊢
  rw [e]
  exact h
theorem xsS_of {P : xPr} {TS : List Cond} {own : String} {idx n mid : Nat} {m : xM} (e : P.2.1 mid = m) (h : xsS (xOne m) TS own idx n 0) : xsS P TS own idx n mid := by
  unfold xsS xMF at h ⊢
  rw [e]
  exact h
end XTABS
end
section
set_option maxRecDepth 20000
section YM
/-- how many names a symbolic run may give -/
def yMax : Nat := 256
/-- an object of the symbolic machine: class and fields; or kind, length, what an array holds at first, and what was stored since -/
abbrev yO : Type := (Nat × List xV) ⊕ (Nat × Nat × xV × List (Nat × xV))
/-- objects: those of the start; those that were made, sixteen a row -/
abbrev yH : Type := List yO × List (List (Option yO))
/-- names given, cells made, slots made (both at most), objects -/
abbrev yT : Type := Nat × Nat × Nat × yH
/-- what is known of the unknown numbers: each one's least value and the first above it (moved by 2^31); and of pairs, whether the first is at most the second -/
abbrev yE : Type := List (Nat × Nat × Nat) × List (Nat × Nat × Bool)
noncomputable def yg {α : Type} (l : List α) : Nat → Option α :=
  List.rec (motive := fun _ => Nat → Option α) (fun _ => none) (fun a _ ih n => Nat.rec (motive := fun _ => Option α) (some a) (fun m _ => ih m) n) l
noncomputable def yp {α : Type} (l : List α) : Nat → α → List α :=
  List.rec (motive := fun _ => Nat → α → List α) (fun _ _ => []) (fun a t ih n v => Nat.rec (motive := fun _ => List α) (v :: t) (fun m _ => a :: ih m v) n) l
theorem yg_eq {α : Type} (l : List α) (n : Nat) : yg l n = l[n]? := by
  induction l generalizing n with
  | nil => rfl
  | cons a t ih =>
    cases n with
    | zero => rfl
    | succ m =>
      show yg t m = _
      rw [ih, List.getElem?_cons_succ]
theorem yp_eq {α : Type} (l : List α) (n : Nat) (v : α) : yp l n v = l.set n v := by
  induction l generalizing n with
  | nil => rfl
  | cons a t ih =>
    cases n with
    | zero => rfl
    | succ m =>
      show a :: yp t m v = _
      rw [ih, List.set_cons_succ]
noncomputable def ylook (h : yH) (q : Nat × Nat) : Option yO := match q with
  | (0, k) => yg h.1 k
  | (1, k) => match yg h.2 (k / 16) with
    | some r => match yg r (k % 16) with
      | some (some o) => some o
      | _ => none
    | none => none
  | _ => none
noncomputable def yput (h : yH) (k : Nat) (o : yO) : yH := match yg h.2 (k / 16) with
  | some r => (h.1, yp h.2 (k / 16) (yp r (k % 16) (some o)))
  | none => h
def yau (d : xV) : List (Nat × xV) → Nat → xV
  | [], _ => d
  | e :: r, j => if j = e.1 then e.2 else yau d r j
theorem ylook1 (h : yH) (k : Nat) : ylook h (1, k) = (match h.2[k / 16]? with
    | some r => match r[k % 16]? with
      | some (some o) => some o
      | _ => none
    | none => none) := by
  show (match yg h.2 (k / 16) with
    | some r => match yg r (k % 16) with
      | some (some o) => some o
      | _ => none
    | none => none) = _
  rw [yg_eq]
  cases h.2[k / 16]? with
  | none => rfl
  | some r =>
    dsimp only
    rw [yg_eq]
theorem ylook_put {h : yH} {k : Nat} {o o1 : yO} {q : Nat × Nat} (e : ylook (yput h k o) q = some o1) : q = (1, k) ∧ o1 = o ∨ q ≠ (1, k) ∧ ylook h q = some o1 := by
  obtain ⟨a, j⟩ := q
  unfold yput at e
  split at e
  next r hr =>
    rw [yg_eq] at hr
    match a, e with
    | 0, e => exact Or.inr ⟨(fun z => Nat.noConfusion (congrArg Prod.fst z)), e⟩
    | 1, e =>
      rw [ylook1] at e
      by_cases hj : j = k
      · subst hj
        refine Or.inl ⟨rfl, ?_⟩
        dsimp only at e
        rw [yp_eq, yp_eq, List.getElem?_set_self', hr] at e
        simp only [Option.map_eq_map, Option.map_some, Function.const_apply] at e
        rw [List.getElem?_set_self'] at e
        cases hx : r[j % 16]? with
        | none => rw [hx] at e; simp at e
        | some x => rw [hx] at e; simp at e; exact e.symm
      · refine Or.inr ⟨fun z => hj (congrArg Prod.snd z), ?_⟩
        rw [ylook1]
        dsimp only at e
        rw [yp_eq, yp_eq] at e
        by_cases hd : j / 16 = k / 16
        · rw [hd, List.getElem?_set_self', hr] at e
          rw [hd, hr]
          simp only [Option.map_eq_map, Option.map_some, Function.const_apply] at e
          dsimp only
          rw [List.getElem?_set_ne (by omega)] at e
          exact e
        · rw [List.getElem?_set_ne (fun z => hd z.symm)] at e
          exact e
    | _ + 2, e => cases e
  next hr =>
    refine Or.inr ⟨fun z => ?_, e⟩
    cases z
    rw [yg_eq] at hr
    rw [ylook1, hr] at e
    cases e
/-- a number moved by 2^31 -/
def yn (x : Int32) : Nat := (x.toInt + 2147483648).toNat
def yi (n : Nat) : Int32 := Int32.ofInt ((n : Int) - 2147483648)
theorem yn_toInt (x : Int32) : (yn x : Int) = x.toInt + 2147483648 := by
  have h := Int32.minValue_le_toInt x
  have h2 : Int32.minValue.toInt = -2147483648 := by decide
  unfold yn
  rw [h2] at h
  omega
theorem yn_lt (x : Int32) : yn x < 4294967296 := by
  have h := Int32.toInt_le x
  have h1 := yn_toInt x
  have h2 : Int32.maxValue.toInt = 2147483647 := by decide
  omega
theorem yn_le_iff {x y : Int32} : x ≤ y ↔ yn x ≤ yn y := by
  rw [Int32.le_iff_toInt_le]
  have h1 := yn_toInt x
  have h2 := yn_toInt y
  omega
theorem yn_lt_iff {x y : Int32} : x < y ↔ yn x < yn y := by
  rw [Int32.lt_iff_toInt_lt]
  have h1 := yn_toInt x
  have h2 := yn_toInt y
  omega
theorem yn_inj {x y : Int32} : x = y ↔ yn x = yn y := by
  constructor
  · intro h; rw [h]
  · intro h
    apply Int32.toInt_inj.mp
    have h1 := yn_toInt x
    have h2 := yn_toInt y
    omega
theorem yi_yn (x : Int32) : yi (yn x) = x := by
  unfold yi
  rw [yn_toInt]
  have : x.toInt + 2147483648 - 2147483648 = x.toInt := by omega
  rw [this]
  exact Int32.ofInt_toInt x
/-- numbers for the unknown ones: those of the script, their chars, their lowest five bits -/
def ygood (g : Nat → Int32) : Prop := ∀ k, k < 10 → g (10 + k) = ((g k).toUInt32 % 65536).toInt32 ∧ g (20 + k) = g k &&& 31
def ysg (f : Nat → Int32) (k : Nat) : Int32 := if k < 10 then f k else if k < 20 then ((f (k - 10)).toUInt32 % 65536).toInt32 else f (k - 20) &&& 31
theorem ysg_good (f : Nat → Int32) : ygood (ysg f) := by
  intro k hk
  unfold ysg
  constructor
  · rw [if_neg (by omega), if_pos (by omega), if_pos hk]
    congr 4
    omega
  · rw [if_neg (by omega), if_neg (by omega), if_pos hk]
    congr 2
    omega
def ysu (g : Nat → Int32) : xV → xV
  | .inl (.ref k) => .inl (.int (g k))
  | v => v
theorem ysu_cat (g : Nat → Int32) (v : xV) : xcat (ysu g v) = xcat v := by
  match v with
  | .inl (.ref _) => rfl
  | .inl (.int _) => rfl
  | .inl (.long _) => rfl
  | .inl (.float _) => rfl
  | .inl (.double _) => rfl
  | .inl .null => rfl
  | .inl (.retAddr _) => rfl
  | .inr _ => rfl
abbrev yl (g : Nat → Int32) (l : xL) : xL := l.map (fun q => (q.1, ysu g q.2))
abbrev ys_ (g : Nat → Int32) (st : List xV) : List xV := st.map (ysu g)
def yOs (g : Nat → Int32) : yO → xO
  | .inl w => .inl (w.1, w.2.map (ysu g))
  | .inr w => .inr (w.1, w.2.1, fun j => ysu g (yau w.2.2.1 w.2.2.2 j))
/-- the small machine's objects are the symbolic ones, with numbers for the unknown ones -/
def yR (g : Nat → Int32) (T : yT) (A : xA) : Prop :=
  A.1 = (List.range' T.1 (yMax - T.1)).map (fun k => ((1 : Nat), k)) ∧ A.2.1 ≤ T.2.1 ∧ A.2.2.1 ≤ T.2.2.1 ∧ (∀ q o, ylook T.2.2.2 q = some o → A.2.2.2 q = some (yOs g o)) ∧ ∀ k, T.1 ≤ k → A.2.2.2 (1, k) = none
theorem yR.look {g : Nat → Int32} {T : yT} {A : xA} (h : yR g T A) {q : Nat × Nat} {o : yO} (e : ylook T.2.2.2 q = some o) : A.2.2.2 q = some (yOs g o) := h.2.2.2.1 q o e
theorem yR.put {g : Nat → Int32} {T : yT} {A : xA} (h : yR g T A) {k : Nat} {o o1 : yO} (e : ylook T.2.2.2 (1, k) = some o) : yR g (T.1, T.2.1, T.2.2.1, yput T.2.2.2 k o1) (A.1, A.2.1, A.2.2.1, xup A.2.2.2 (1, k) (yOs g o1)) := by
  refine ⟨h.1, h.2.1, h.2.2.1, fun q o2 e2 => ?_, fun j hj => ?_⟩
  · show xup A.2.2.2 (1, k) (yOs g o1) q = _
    unfold xup
    rcases ylook_put e2 with ⟨rfl, rfl⟩ | ⟨hne, e3⟩
    · rw [if_pos rfl]
    · rw [if_neg hne]
      exact h.look e3
  · show xup A.2.2.2 (1, k) (yOs g o1) (1, j) = none
    have hj : T.1 ≤ j := hj
    have h1 := h.look e
    have h2 := h.2.2.2.2 j hj
    unfold xup
    split
    next z =>
      cases z
      rw [h1] at h2
      cases h2
    next => exact h2
theorem yR.names {g : Nat → Int32} {T : yT} {A : xA} (h : yR g T A) (hT : T.1 < yMax) : A.1 = (1, T.1) :: (List.range' (T.1 + 1) (yMax - (T.1 + 1))).map (fun k => ((1 : Nat), k)) := by
  have e : yMax - T.1 = (yMax - (T.1 + 1)) + 1 := by omega
  rw [h.1, e, List.range'_succ]
  rfl
theorem yR.new {g : Nat → Int32} {T : yT} {A : xA} (h : yR g T A) (hT : T.1 < yMax) {o1 : yO} {n m : Nat} (hnm : n ≤ m) : yR g (T.1 + 1, T.2.1 + 1, T.2.2.1 + m, yput T.2.2.2 T.1 o1) ((List.range' (T.1 + 1) (yMax - (T.1 + 1))).map (fun k => ((1 : Nat), k)), A.2.1 + 1, A.2.2.1 + n, xup A.2.2.2 (1, T.1) (yOs g o1)) := by
  refine ⟨rfl, Nat.add_le_add_right h.2.1 1, Nat.add_le_add h.2.2.1 hnm, fun q o2 e2 => ?_, fun j hj => ?_⟩
  · show xup A.2.2.2 (1, T.1) (yOs g o1) q = _
    unfold xup
    rcases ylook_put e2 with ⟨rfl, rfl⟩ | ⟨hne, e3⟩
    · rw [if_pos rfl]
    · rw [if_neg hne]
      exact h.look e3
  · show xup A.2.2.2 (1, T.1) (yOs g o1) (1, j) = none
    have hj : T.1 + 1 ≤ j := hj
    unfold xup
    rw [if_neg (fun z => by cases z; omega)]
    exact h.2.2.2.2 j (by omega)
theorem yl_xl (g : Nat → Int32) (l : xL) (i : Nat) : xl (yl g l) i = (xl l i).map (ysu g) := by
  induction l with
  | nil => rfl
  | cons q r ih =>
    show xl ((q.1, ysu g q.2) :: yl g r) i = _
    unfold xl
    dsimp only
    split
    · rfl
    · exact ih
theorem yl_xst1 (g : Nat → Int32) (l : xL) (i : Nat) (v : xV) : xst1 (yl g l) i (ysu g v) = yl g (xst1 l i v) := by
  unfold xst1 yl
  rw [List.map_cons, List.filter_map]
  congr 2
  refine List.filter_congr fun q _ => ?_
  simp only [Function.comp, ysu_cat]
theorem yl_xst2 (g : Nat → Int32) (l : xL) (i : Nat) (v : xV) : xst2 (yl g l) i (ysu g v) = yl g (xst2 l i v) := by
  unfold xst2 yl
  rw [List.map_cons, List.filter_map]
  congr 2
  refine List.filter_congr fun q _ => ?_
  simp only [Function.comp, ysu_cat]
theorem yl_xrm (g : Nat → Int32) (l : xL) (i : Nat) : xrm (yl g l) i = yl g (xrm l i) := by
  unfold xrm yl
  rw [List.filter_map]
  congr 1
  refine List.filter_congr fun q _ => ?_
  simp only [Function.comp, ysu_cat]
theorem yl_xar (g : Nat → Int32) : ∀ (vs : List xV) (i : Nat), yl g (xar i vs) = xar i (vs.map (ysu g))
  | [], _ => rfl
  | v :: vs, i => by
    show (i, ysu g v) :: yl g (xar _ vs) = (i, ysu g v) :: xar _ (vs.map (ysu g))
    rw [yl_xar g vs, ysu_cat]
theorem ys_sum (g : Nat → Int32) (st : List xV) : ((st.map (ysu g)).map xcat).sum = (st.map xcat).sum := by
  rw [List.map_map, show (xcat ∘ ysu g) = xcat from funext fun v => ysu_cat g v]
theorem yau_set (g : Nat → Int32) (d : xV) (us : List (Nat × xV)) (i : Nat) (v : xV) : (fun j => ysu g (yau d ((i, v) :: us) j)) = xfu (fun j => ysu g (yau d us j)) i (ysu g v) := by
  funext j
  show ysu g (if j = i then v else yau d us j) = if j = i then ysu g v else ysu g (yau d us j)
  split <;> rfl
end YM
end
section
set_option maxRecDepth 20000
section YS
def yint : xV → Bool
  | .inl (.int _) => true
  | .inl (.ref _) => true
  | _ => false
def yref : xV → Bool
  | .inl .null => true
  | .inr _ => true
  | _ => false
/-- plain instructions that are taken as the small machine has them -/
def yw : Instr → Bool
  | .aconst_null => true
  | .iconst _ => true
  | .bipush _ => true
  | .sipush _ => true
  | .fconst _ => true
  | .dconst _ => true
  | .iadd => true
  | .isub => true
  | .imul => true
  | .idiv => true
  | .irem => true
  | .lcmp => true
  | .i2l => true
  | .dup => true
  | .pop => true
  | .dup_x1 => true
  | .dup2 => true
  | .fstore_n _ => true
  | .fstore _ => true
  | .dstore_n _ => true
  | .dstore _ => true
  | .astore_n _ => true
  | .astore _ => true
  | .iinc _ _ => true
  | .goto _ => true
  | _ => false
def yjb (b : Bool) (pc : Nat) (off : Int) (l : xL) (st : List xV) (T : yT) : Option (Nat × xL × List xV × yT) := if 0 ≤ (pc : Int) + off then (if b = true then some (((pc : Int) + off).toNat, l, st, T) else some (pc + 3, l, st, T)) else none
/-- is it a place of an array of this kind -/
def yin (kd : Nat) (i : Int32) (n : Nat) (want : Nat) : Bool := decide ((kd = want ∨ want = 0 ∧ kd = 9) ∧ ¬ (i < 0 ∨ n ≤ i.toNatClampNeg))
def yinS (kd : Nat) (i : Int32) (n : Nat) (want : Nat) : Bool := decide (kd = want ∧ ¬ (i < 0 ∨ n ≤ i.toNatClampNeg))
/-- may a field of this kind hold it -/
def yfit (t : Nat) (v : xV) : Bool := match v with
  | .inl (.ref k) => Nat.beq t 0 || (Nat.beq t 4 && (Nat.ble 10 k && Nat.blt k 20))
  | v => xfit t v
noncomputable def yal (want : Nat) (pc : Nat) (l : xL) (st : List xV) (T : yT) : Option (Nat × xL × List xV × yT) := match st with
  | .inl (.int j) :: .inr q :: r => match ylook T.2.2.2 q with
    | some (.inr (kd, n, d, us)) => if yin kd j n want = true then some (pc + 1, l, yau d us j.toNatClampNeg :: r, T) else none
    | _ => none
  | _ => none
/-- one instruction with unknown numbers in its frame and its objects, none of them looked into -/
noncomputable def ys (nL : Nat) (i : Instr) (ops : List Nat) (pc : Nat) (l : xL) (st : List xV) (T : yT) : Option (Nat × xL × List xV × yT) :=
  match i with
  | .iload_n n => match xl l n.val with
    | some v => if yint v = true then some (pc + 1, l, v :: st, T) else none
    | none => none
  | .iload n => match xl l n with
    | some v => if yint v = true then some (pc + 2, l, v :: st, T) else none
    | none => none
  | .aload_n n => match xl l n.val with
    | some v => if yref v = true then some (pc + 1, l, v :: st, T) else none
    | none => none
  | .aload n => match xl l n with
    | some v => if yref v = true then some (pc + 2, l, v :: st, T) else none
    | none => none
  | .istore_n n => match st with
    | v :: r => if yint v = true ∧ n.val < nL then some (pc + 1, xst1 l n.val v, r, T) else none
    | _ => none
  | .istore n => match st with
    | v :: r => if yint v = true ∧ n < nL then some (pc + 2, xst1 l n v, r, T) else none
    | _ => none
  | .i2c => match st with
    | .inl (.ref k) :: r => if k < 10 then some (pc + 1, l, .inl (.ref (10 + k)) :: r, T) else none
    | .inl (.int x) :: r => some (pc + 1, l, .inl (.int (x.toUInt32 % 65536).toInt32) :: r, T)
    | _ => none
  | .iand => match st with
    | .inl (.int y) :: .inl (.ref k) :: r => if y = 31 ∧ k < 10 then some (pc + 1, l, .inl (.ref (20 + k)) :: r, T) else none
    | .inl (.int y) :: .inl (.int x) :: r => some (pc + 1, l, .inl (.int (x &&& y)) :: r, T)
    | _ => none
  | .ifCond o off => match st with
    | .inl (.int x) :: r => yjb (xcd o x 0) pc off l r T
    | _ => none
  | .if_icmp o off => match st with
    | .inl (.int y) :: .inl (.int x) :: r => yjb (xcd o x y) pc off l r T
    | _ => none
  | .if_acmp .eq off => match st with
    | .inr q :: .inr z :: r => yjb (decide (z = q)) pc off l r T
    | _ => none
  | .if_acmp .ne off => match st with
    | .inr q :: .inr z :: r => yjb (decide (¬ z = q)) pc off l r T
    | _ => none
  | .tableswitch dflt lo hi offs => match st with
    | .inl (.int x) :: r => if x.toInt < lo ∨ hi < x.toInt then (if 0 ≤ (pc : Int) + dflt then some (((pc : Int) + dflt).toNat, l, r, T) else none) else (match offs[(x.toInt - lo).toNat]? with
      | some off => if 0 ≤ (pc : Int) + off then some (((pc : Int) + off).toNat, l, r, T) else none
      | none => none)
    | _ => none
  | .getfield _ => match st with
    | .inr q :: r => match ylook T.2.2.2 q with
      | some (.inl (ci, fs)) => match ops with
        | kx :: cis => if cis.elem ci = true then (match yg fs kx with
          | some v => some (pc + 3, l, v :: r, T)
          | none => none) else none
        | _ => none
      | _ => none
    | _ => none
  | .putfield _ => match st with
    | v :: .inr (1, k) :: r => match ylook T.2.2.2 (1, k) with
      | some (.inl (ci, fs)) => match ops with
        | kx :: t :: cis => if cis.elem ci = true ∧ yfit t v = true then some (pc + 3, l, r, (T.1, T.2.1, T.2.2.1, yput T.2.2.2 k (.inl (ci, yp fs kx v)))) else none
        | _ => none
      | _ => none
    | _ => none
  | .iaload => yal 0 pc l st T
  | .laload => yal 1 pc l st T
  | .caload => yal 2 pc l st T
  | .daload => yal 3 pc l st T
  | .aaload => match st with
    | .inl (.int j) :: .inr q :: r => match ylook T.2.2.2 q with
      | some (.inr (kd, n, d, us)) => if yin kd j n (if kd = 5 then 5 else 4) = true then some (pc + 1, l, yau d us j.toNatClampNeg :: r, T) else none
      | _ => none
    | _ => none
  | .iastore => match st with
    | v :: .inl (.int j) :: .inr (1, k) :: r => match ylook T.2.2.2 (1, k) with
      | some (.inr (kd, n, d, us)) => if yint v = true ∧ yinS kd j n 0 = true then some (pc + 1, l, r, (T.1, T.2.1, T.2.2.1, yput T.2.2.2 k (.inr (kd, n, d, (j.toNatClampNeg, v) :: us)))) else none
      | _ => none
    | _ => none
  | .lastore => match st with
    | .inl (.long x) :: .inl (.int j) :: .inr (1, k) :: r => match ylook T.2.2.2 (1, k) with
      | some (.inr (kd, n, d, us)) => if yinS kd j n 1 = true then some (pc + 1, l, r, (T.1, T.2.1, T.2.2.1, yput T.2.2.2 k (.inr (kd, n, d, (j.toNatClampNeg, .inl (.long x)) :: us)))) else none
      | _ => none
    | _ => none
  | .castore => match st with
    | v :: .inl (.int j) :: .inr (1, k) :: r => match ylook T.2.2.2 (1, k) with
      | some (.inr (kd, n, d, us)) => if yfit 4 v = true ∧ yinS kd j n 2 = true then some (pc + 1, l, r, (T.1, T.2.1, T.2.2.1, yput T.2.2.2 k (.inr (kd, n, d, (j.toNatClampNeg, v) :: us)))) else none
      | _ => none
    | _ => none
  | .aastore => match st with
    | .inr z :: .inl (.int j) :: .inr (1, k) :: r => match ylook T.2.2.2 (1, k), ylook T.2.2.2 z with
      | some (.inr (kd, n, d, us)), some (.inl (ci, _)) => if (ops.elem ci = true ∧ (kd = 4 ∨ kd = 5 ∧ ops[0]? = some ci)) ∧ yinS kd j n kd = true then some (pc + 1, l, r, (T.1, T.2.1, T.2.2.1, yput T.2.2.2 k (.inr (kd, n, d, (j.toNatClampNeg, .inr z) :: us)))) else none
      | _, _ => none
    | _ => none
  | .arraylength => match st with
    | .inr q :: r => match ylook T.2.2.2 q with
      | some (.inr (_, n, _)) => some (pc + 1, l, .inl (.int (Int32.ofNat n)) :: r, T)
      | _ => none
    | _ => none
  | .newarray _ => match st, ops with
    | .inl (.int n) :: r, [kd] => if (¬ n < 0 ∧ n.toNatClampNeg ≤ 67108864) ∧ T.1 < yMax then some (pc + 2, l, .inr (1, T.1) :: r, (T.1 + 1, T.2.1 + 1, T.2.2.1 + n.toNatClampNeg, yput T.2.2.2 T.1 (.inr (kd, n.toNatClampNeg, .inl (defaultValue (xak kd)), [])))) else none
    | _, _ => none
  | .anewarray _ => match st, ops with
    | .inl (.int n) :: r, [kd] => if (¬ n < 0 ∧ n.toNatClampNeg ≤ 67108864) ∧ T.1 < yMax then some (pc + 3, l, .inr (1, T.1) :: r, (T.1 + 1, T.2.1 + 1, T.2.2.1 + n.toNatClampNeg, yput T.2.2.2 T.1 (.inr (kd, n.toNatClampNeg, .inl .null, [])))) else none
    | _, _ => none
  | .new _ => match ops with
    | ci :: tc => if T.1 < yMax then some (pc + 3, l, .inr (1, T.1) :: st, (T.1 + 1, T.2.1 + 1, T.2.2.1 + tc.length, yput T.2.2.2 T.1 (.inl (ci, tc.map xd0)))) else none
    | _ => none
  | .checkcast _ => match st with
    | .inr q :: r => match ylook T.2.2.2 q with
      | some (.inl (ci, _)) => if ops.elem ci = true then some (pc + 3, l, .inr q :: r, T) else none
      | _ => none
    | _ => none
  | .getstatic _ => if ops = [77] then some (pc + 3, l, .inr (0, 1) :: st, T) else none
  | .invokespecial _ => match ops, st with
    | [], .inr _ :: r => if (r.map xcat).sum ≤ 8 then some (pc + 3, l, r, T) else none
    | _, _ => none
  | i => if yw i = true then (match xs1 nL i pc l st with
    | some z => some (z.1, z.2.1, z.2.2, T)
    | none => none) else none
/-- what an instruction returns -/
def yret (rt : Option FieldType) (i : Instr) (st : List xV) : Option (Option xV) :=
  match i with
  | .ireturn => match st with
    | [.inl (.ref k)] => match rt with
      | some .int => some (some (.inl (.ref k)))
      | _ => none
    | [.inl (.int x)] => match rt with
      | some .int => some (some (.inl (.int x)))
      | some .boolean => if x = 0 ∨ x = 1 then some (some (.inl (.int x))) else none
      | _ => none
    | _ => none
  | i => xret rt i st
/-- what is known of an unknown number -/
def yiv0 (k : Nat) : Nat × Nat := match Nat.blt k 10 with
  | true => (0, 4294967296)
  | false => match Nat.blt k 20 with
    | true => (2147483648, 2147549184)
    | false => match Nat.blt k 30 with
      | true => (2147483648, 2147483680)
      | false => (0, 4294967296)
def yiv : List (Nat × Nat × Nat) → Nat → Nat × Nat
  | [], k => yiv0 k
  | e :: r, k => match Nat.beq e.1 k with
    | true => e.2
    | false => yiv r k
def yfa : List (Nat × Nat × Bool) → Nat → Nat → Option Bool
  | [], _, _ => none
  | e :: r, a, b => match Nat.beq e.1 a, Nat.beq e.2.1 b with
    | true, true => some e.2.2
    | _, _ => yfa r a b
def yok (g : Nat → Int32) (E : yE) : Prop := (∀ k, (yiv E.1 k).1 ≤ yn (g k) ∧ yn (g k) < (yiv E.1 k).2) ∧ ∀ a b v, yfa E.2 a b = some v → decide (yn (g a) ≤ yn (g b)) = v
/-- a piece of what a number may be -/
def ypc (E : yE) (k lo hi : Nat) (b : Bool) : List (yE × Bool) := match Nat.blt lo hi with
  | true => [(((k, lo, hi) :: E.1, E.2), b)]
  | false => []
def yc1 (o : Jvm.ClassFile.Cond) (E : yE) (k c : Nat) : List (yE × Bool) := match yiv E.1 k with
  | (lo, hi) => match o with
    | .lt => ypc E k lo (Nat.min hi c) true ++ ypc E k (Nat.max lo c) hi false
    | .ge => ypc E k lo (Nat.min hi c) false ++ ypc E k (Nat.max lo c) hi true
    | .le => ypc E k lo (Nat.min hi (c + 1)) true ++ ypc E k (Nat.max lo (c + 1)) hi false
    | .gt => ypc E k lo (Nat.min hi (c + 1)) false ++ ypc E k (Nat.max lo (c + 1)) hi true
    | .eq => ypc E k lo (Nat.min hi c) false ++ (ypc E k (Nat.max lo c) (Nat.min hi (c + 1)) true ++ ypc E k (Nat.max lo (c + 1)) hi false)
    | .ne => ypc E k lo (Nat.min hi c) true ++ (ypc E k (Nat.max lo c) (Nat.min hi (c + 1)) false ++ ypc E k (Nat.max lo (c + 1)) hi true)
/-- the first is at most the second, or not; n: asked the other way round -/
def yc2 (E : yE) (a b : Nat) (n : Bool) : List (yE × Bool) := match yfa E.2 a b with
  | some v => [(E, v != n)]
  | none => match yiv E.1 a, yiv E.1 b with
    | (al, ah), (bl, bh) =>
      (if al < Nat.min ah bh ∧ Nat.max al bl < bh then [(((a, al, Nat.min ah bh) :: (b, Nat.max al bl, bh) :: E.1, (a, b, true) :: E.2), true != n)] else []) ++
      (if Nat.max al (bl + 1) < ah then [(((a, Nat.max al (bl + 1), ah) :: E.1, (a, b, false) :: E.2), false != n)] else [])
def yflip : Jvm.ClassFile.Cond → Jvm.ClassFile.Cond
  | .lt => .gt
  | .gt => .lt
  | .le => .ge
  | .ge => .le
  | .eq => .eq
  | .ne => .ne
/-- an unknown number is compared -/
def ycmp (o : Jvm.ClassFile.Cond) (E : yE) (x y : xV) : Option (List (yE × Bool)) := match x, y with
  | .inl (.ref a), .inl (.int c) => some (yc1 o E a (yn c))
  | .inl (.int c), .inl (.ref a) => some (yc1 (yflip o) E a (yn c))
  | .inl (.ref a), .inl (.ref b) => match o with
    | .le => some (yc2 E a b false)
    | .gt => some (yc2 E a b true)
    | .ge => some (yc2 E b a false)
    | .lt => some (yc2 E b a true)
    | _ => none
  | _, _ => none
/-- a branch on unknown numbers: where to, what is left, what is known then -/
def ybr (i : Instr) (E : yE) (pc : Nat) (st : List xV) : Option (List xV × Nat × List (yE × Bool)) := match i with
  | .ifCond o off => match st with
    | x :: r => if 0 ≤ (pc : Int) + off then (match ycmp o E x (.inl (.int 0)) with
      | some bs => some (r, ((pc : Int) + off).toNat, bs)
      | none => none) else none
    | _ => none
  | .if_icmp o off => match st with
    | y :: x :: r => if 0 ≤ (pc : Int) + off then (match ycmp o E x y with
      | some bs => some (r, ((pc : Int) + off).toNat, bs)
      | none => none) else none
    | _ => none
  | _ => none
def yfixl (E : yE) (k : Nat) (lo : Nat) : Nat → List (yE × Int32)
  | 0 => []
  | n + 1 => (((k, lo + n, lo + n + 1) :: E.1, E.2), yi (lo + n)) :: yfixl E k lo n
/-- the first unknown number of the stack is told apart -/
def yfix (E : yE) : List xV → Option (List (yE × List xV))
  | .inl (.ref k) :: r => match yiv E.1 k with
    | (lo, hi) => if hi ≤ lo + 1024 then some ((yfixl E k lo (hi - lo)).map (fun z => (z.1, .inl (.int z.2) :: r))) else none
  | v :: r => match yfix E r with
    | some zs => some (zs.map (fun z => (z.1, v :: z.2)))
    | none => none
  | [] => none
def ybind {α β : Type} (f : α → Option (List β)) : List α → Option (List β)
  | [] => some []
  | a :: r => match f a with
    | some x => match ybind f r with
      | some y => some (x ++ y)
      | none => none
    | none => none
/-- the objects as the small machine has them -/
noncomputable def yhx (T : yT) : xH := fun q => match ylook T.2.2.2 q with
  | some (.inl w) => some (.inl w)
  | _ => none
/-- THE SYMBOLIC MACHINE -/
noncomputable def yrun (P : xPr) : Nat → Nat → Nat → Nat → xL → List xV → yT → yE → Option (List (yE × xR × yT))
  | 0, _, _, _, _, _, _, _ => none
  | n + 1, d, mid, pc, l, st, T, E =>
    match P.1 mid pc with
    | none => none
    | some (i, ops) =>
      match yret (P.2.1 mid).2.2.2.1 i st with
      | some v => some [(E, .inl v, T)]
      | none =>
        match P.2.2.1 mid pc with
        | some X => match i with
          | .new _ => if 8 ≤ d ∧ (st.map xcat).sum ≤ 8 then some [(E, .inr X, (T.1, T.2.1 + 1, T.2.2.1 + 6, T.2.2.2))] else none
          | _ => none
        | none =>
          match ys (P.2.1 mid).2.2.1 i ops pc l st T with
          | some z => yrun P n d mid z.1 z.2.1 z.2.2.1 z.2.2.2 E
          | none =>
            match xinv i ops st (yhx T), d with
            | some (mid2, args, rest), d2 + 1 =>
              if (args.map xcat).sum ≤ (P.2.1 mid2).2.2.1 ∧ (rest.map xcat).sum ≤ 8 then
                match yrun P n d2 mid2 0 (xar 0 args) [] T E with
                | none => none
                | some outs => ybind (fun o => match o.2.1 with
                  | .inl v => yrun P n (d2 + 1) mid (pc + 3) l (v.toList ++ rest) o.2.2 o.1
                  | .inr X => match P.2.2.2 mid pc X with
                    | some (hpc, ln, k) => yrun P n (d2 + 1) mid (hpc + ln) (xrm l k) [] o.2.2 o.1
                    | none => if (P.2.1 mid).2.2.2.2 = [] then some [(o.1, .inr X, o.2.2)] else none) outs
              else none
            | _, _ =>
              match ybr i E pc st with
              | some z => ybind (fun b => yrun P n d mid (match b.2 with | true => z.2.1 | false => pc + 3) l z.1 T b.1) z.2.2
              | none => match yfix E st with
                | some fs => ybind (fun z => yrun P n d mid pc l z.2 T z.1) fs
                | none => none
end YS
end
section
set_option maxRecDepth 20000
section YSOK
variable {g : Nat → Int32}
theorem xs_of1 {nL : Nat} {i : Instr} {ops : List Nat} {pc : Nat} {l : xL} {st : List xV} {A : xA} {z : Nat × xL × List xV} (h : xs1 nL i pc l st = some z) : xs nL i ops pc l st A = some (z.1, z.2.1, z.2.2, A) := by
  unfold xs
  rw [h]
theorem xs_of2 {nL : Nat} {i : Instr} {ops : List Nat} {pc : Nat} {l : xL} {st : List xV} {A : xA} {z : Nat × xL × List xV × xA} (h1 : xs1 nL i pc l st = none) (h : xs2 i ops pc l st A = some z) : xs nL i ops pc l st A = some z := by
  unfold xs
  rw [h1, h]
theorem yjb_ok {b : Bool} {pc : Nat} {off : Int} {l : xL} {st : List xV} {T : yT} {pc2 : Nat} {l2 : xL} {st2 : List xV} {T2 : yT} (h : yjb b pc off l st T = some (pc2, l2, st2, T2)) : l2 = l ∧ st2 = st ∧ T2 = T ∧ ∀ (l' : xL) (st' : List xV) (A : xA), xbr b pc off l' st' A = some (pc2, l', st', A) := by
  unfold yjb at h
  split at h
  next hg =>
    split at h
    next hb =>
      cases h
      refine ⟨rfl, rfl, rfl, fun l' st' A => ?_⟩
      unfold xbr
      rw [if_pos hg, if_pos hb]
    next hb =>
      cases h
      refine ⟨rfl, rfl, rfl, fun l' st' A => ?_⟩
      unfold xbr
      rw [if_pos hg, if_neg hb]
  next => cases h
theorem ysu_int {v : xV} (h : yint v = true) : ∃ x, ysu g v = .inl (.int x) := by
  unfold yint at h
  split at h
  · exact ⟨_, rfl⟩
  · exact ⟨_, rfl⟩
  · cases h
theorem ysu_ref {v : xV} (h : yref v = true) : (v = .inl .null ∨ ∃ q, v = .inr q) ∧ ysu g v = v := by
  unfold yref at h
  split at h
  · exact ⟨Or.inl rfl, rfl⟩
  · exact ⟨Or.inr ⟨_, rfl⟩, rfl⟩
  · cases h
theorem ychar {x : Int32} : 0 ≤ (x.toUInt32 % 65536).toInt32 ∧ (x.toUInt32 % 65536).toInt32 ≤ 65535 := by
  have h1 : (x.toUInt32 % 65536).toNat < 65536 := by
    rw [UInt32.toNat_mod]
    exact Nat.mod_lt _ (by decide)
  generalize x.toUInt32 % 65536 = u at h1
  have h2 : u.toInt32.toInt = (u.toNat : Int) := by
    have h3 : u.toInt32 = Int32.ofNat u.toNat := by
      apply Int32.toBitVec_inj.mp
      simp
    rw [h3]
    exact Int32.toInt_ofNat_of_lt (by omega)
  rw [Int32.le_iff_toInt_le, Int32.le_iff_toInt_le, h2]
  have h4 : (0 : Int32).toInt = 0 := by decide
  have h5 : (65535 : Int32).toInt = 65535 := by decide
  rw [h4, h5]
  omega
theorem ychr (hg : ygood g) (k : Nat) (h2 : 10 ≤ k) (h3 : k < 20) : 0 ≤ g k ∧ g k ≤ 65535 := by
  obtain ⟨j, rfl⟩ := Nat.exists_eq_add_of_le h2
  rw [(hg j (by omega)).1]
  exact ychar
theorem yfit_ok (hg : ygood g) {t : Nat} {v : xV} (h : yfit t v = true) : xfit t (ysu g v) = true := by
  unfold yfit at h
  split at h
  next k =>
    show xfit t (.inl (.int (g k))) = true
    rcases Bool.or_eq_true _ _ ▸ h with h1 | h1
    · rw [Nat.eq_of_beq_eq_true h1]
      rfl
    · rw [Bool.and_eq_true, Bool.and_eq_true] at h1
      obtain ⟨h1, h2, h3⟩ := h1
      rw [Nat.eq_of_beq_eq_true h1]
      exact decide_eq_true (ychr hg k (Nat.le_of_ble_eq_true h2) (Nat.le_of_ble_eq_true h3))
  next hne =>
    have : ysu g v = v := by
      unfold ysu
      split
      next k => exact absurd rfl (hne k)
      next => rfl
    rw [this]
    exact h
set_option maxHeartbeats 2000000 in
theorem yw_ok {nL : Nat} {i : Instr} {pc : Nat} {l : xL} {st : List xV} {z : Nat × xL × List xV} (hw : yw i = true) (h : xs1 nL i pc l st = some z) : xs1 nL i pc (yl g l) (ys_ g st) = some (z.1, yl g z.2.1, ys_ g z.2.2) := by
  cases i
  case fconst f =>
    match f, h with
    | 0, h => cases h; rfl
    | 1, h => cases h; rfl
    | 2, h => cases h; rfl
  case dconst f =>
    match f, h with
    | 0, h => cases h; rfl
    | 1, h => cases h; rfl
  case iinc n c =>
    simp only [xs1] at h ⊢
    split at h
    next x hx =>
      by_cases hn : n < nL
      · rw [if_pos hn] at h
        cases h
        rw [yl_xl, hx]
        show (if n < nL then some (pc + 3, xst1 (yl g l) n (ysu g (.inl (.int (x + Int32.ofInt c)))), ys_ g st) else none) = _
        rw [if_pos hn, yl_xst1]
      · rw [if_neg hn] at h
        cases h
    next => cases h
  case goto off =>
    simp only [xs1] at h ⊢
    split at h
    next hc => cases h; rw [if_pos hc]
    next => cases h
  case dup =>
    simp only [xs1] at h
    split at h
    next v r =>
      by_cases hc : xcat v = 1
      · rw [if_pos hc] at h
        cases h
        show (if xcat (ysu g v) = 1 then some (pc + 1, yl g l, ysu g v :: ysu g v :: ys_ g r) else none) = _
        rw [ysu_cat, if_pos hc]
        rfl
      · rw [if_neg hc] at h
        cases h
    next => cases h
  case pop =>
    simp only [xs1] at h
    split at h
    next v r =>
      by_cases hc : xcat v = 1
      · rw [if_pos hc] at h
        cases h
        show (if xcat (ysu g v) = 1 then some (pc + 1, yl g l, ys_ g r) else none) = _
        rw [ysu_cat, if_pos hc]
      · rw [if_neg hc] at h
        cases h
    next => cases h
  case dup_x1 =>
    simp only [xs1] at h
    split at h
    next v w r =>
      by_cases hc : xcat v = 1 ∧ xcat w = 1
      · rw [if_pos hc] at h
        cases h
        show (if xcat (ysu g v) = 1 ∧ xcat (ysu g w) = 1 then some (pc + 1, yl g l, ysu g v :: ysu g w :: ysu g v :: ys_ g r) else none) = _
        rw [ysu_cat, ysu_cat, if_pos hc]
        rfl
      · rw [if_neg hc] at h
        cases h
    next => cases h
  case dup2 =>
    simp only [xs1] at h
    split at h
    next v w r =>
      by_cases hc : xcat v = 1 ∧ xcat w = 1
      · rw [if_pos hc] at h
        cases h
        show (if xcat (ysu g v) = 1 ∧ xcat (ysu g w) = 1 then some (pc + 1, yl g l, ysu g v :: ysu g w :: ysu g v :: ysu g w :: ys_ g r) else none) = _
        rw [ysu_cat, ysu_cat, if_pos hc]
        rfl
      · rw [if_neg hc] at h
        cases h
    next => cases h
  case idiv =>
    simp only [xs1] at h
    split at h
    next y x r =>
      by_cases hc : ¬ y = 0
      · rw [if_pos hc] at h
        cases h
        show (if ¬ y = 0 then some (pc + 1, yl g l, .inl (.int (x / y)) :: ys_ g r) else none) = _
        rw [if_pos hc]
        rfl
      · rw [if_neg hc] at h
        cases h
    next => cases h
  case irem =>
    simp only [xs1] at h
    split at h
    next y x r =>
      by_cases hc : ¬ y = 0
      · rw [if_pos hc] at h
        cases h
        show (if ¬ y = 0 then some (pc + 1, yl g l, .inl (.int (x - x / y * y)) :: ys_ g r) else none) = _
        rw [if_pos hc]
        rfl
      · rw [if_neg hc] at h
        cases h
    next => cases h
  case fstore_n n =>
    simp only [xs1] at h
    split at h
    next x r =>
      by_cases hc : n.val < nL
      · rw [if_pos hc] at h
        cases h
        show (if n.val < nL then some (pc + 1, xst1 (yl g l) n.val (ysu g (.inl (.float x))), ys_ g r) else none) = _
        rw [if_pos hc, yl_xst1]
      · rw [if_neg hc] at h
        cases h
    next => cases h
  case fstore n =>
    simp only [xs1] at h
    split at h
    next x r =>
      by_cases hc : n < nL
      · rw [if_pos hc] at h
        cases h
        show (if n < nL then some (pc + 2, xst1 (yl g l) n (ysu g (.inl (.float x))), ys_ g r) else none) = _
        rw [if_pos hc, yl_xst1]
      · rw [if_neg hc] at h
        cases h
    next => cases h
  case dstore_n n =>
    simp only [xs1] at h
    split at h
    next x r =>
      by_cases hc : n.val + 1 < nL
      · rw [if_pos hc] at h
        cases h
        show (if n.val + 1 < nL then some (pc + 1, xst2 (yl g l) n.val (ysu g (.inl (.double x))), ys_ g r) else none) = _
        rw [if_pos hc, yl_xst2]
      · rw [if_neg hc] at h
        cases h
    next => cases h
  case dstore n =>
    simp only [xs1] at h
    split at h
    next x r =>
      by_cases hc : n + 1 < nL
      · rw [if_pos hc] at h
        cases h
        show (if n + 1 < nL then some (pc + 2, xst2 (yl g l) n (ysu g (.inl (.double x))), ys_ g r) else none) = _
        rw [if_pos hc, yl_xst2]
      · rw [if_neg hc] at h
        cases h
    next => cases h
  case astore_n n =>
    simp only [xs1] at h
    split at h
    next r =>
      by_cases hc : n.val < nL
      · rw [if_pos hc] at h
        cases h
        show (if n.val < nL then some (pc + 1, xst1 (yl g l) n.val (ysu g (.inl .null)), ys_ g r) else none) = _
        rw [if_pos hc, yl_xst1]
      · rw [if_neg hc] at h
        cases h
    next q r =>
      by_cases hc : n.val < nL
      · rw [if_pos hc] at h
        cases h
        show (if n.val < nL then some (pc + 1, xst1 (yl g l) n.val (ysu g (.inr q)), ys_ g r) else none) = _
        rw [if_pos hc, yl_xst1]
      · rw [if_neg hc] at h
        cases h
    next => cases h
  case astore n =>
    simp only [xs1] at h
    split at h
    next r =>
      by_cases hc : n < nL
      · rw [if_pos hc] at h
        cases h
        show (if n < nL then some (pc + 2, xst1 (yl g l) n (ysu g (.inl .null)), ys_ g r) else none) = _
        rw [if_pos hc, yl_xst1]
      · rw [if_neg hc] at h
        cases h
    next q r =>
      by_cases hc : n < nL
      · rw [if_pos hc] at h
        cases h
        show (if n < nL then some (pc + 2, xst1 (yl g l) n (ysu g (.inr q)), ys_ g r) else none) = _
        rw [if_pos hc, yl_xst1]
      · rw [if_neg hc] at h
        cases h
    next => cases h
  all_goals first
    | (cases hw; done)
    | (cases h; rfl)
    | (simp only [xs1] at h
       split at h
       next => cases h; rfl
       next => cases h)
theorem yal_ok {want : Nat} {pc : Nat} {l : xL} {st : List xV} {T : yT} {A : xA} {pc2 : Nat} {l2 : xL} {st2 : List xV} {T2 : yT} (h : yal want pc l st T = some (pc2, l2, st2, T2)) (hR : yR g T A) : ∃ (j : Int32) (q : Nat × Nat) (r : List xV) (kd n : Nat) (f : Nat → xV), ys_ g st = .inl (.int j) :: .inr q :: ys_ g r ∧ A.2.2.2 q = some (.inr (kd, n, f)) ∧ xarr kd j n f want = some (f j.toNatClampNeg) ∧ pc2 = pc + 1 ∧ l2 = l ∧ ys_ g st2 = f j.toNatClampNeg :: ys_ g r ∧ T2 = T := by
  unfold yal at h
  split at h
  next j q r =>
    split at h
    next kd n d us hq =>
      split at h
      next hc =>
        cases h
        refine ⟨j, q, r, kd, n, fun j => ysu g (yau d us j), rfl, hR.look hq, ?_, rfl, rfl, rfl, rfl⟩
        unfold xarr
        exact if_pos (of_decide_eq_true hc)
      next => cases h
    next => cases h
  next => cases h
theorem yls_ok {g : Nat → Int32} {T : yT} {A : xA} (hR : yR g T A) {k kd n : Nat} {d : xV} {us : List (Nat × xV)} {j : Int32} {want : Nat} {v : xV} (hq : ylook T.2.2.2 (1, k) = some (.inr (kd, n, d, us))) (hc : yinS kd j n want = true) :
    ∃ A2, xsto A (1, k) kd j n (fun j => ysu g (yau d us j)) want (ysu g v) = some A2 ∧ yR g (T.1, T.2.1, T.2.2.1, yput T.2.2.2 k (.inr (kd, n, d, (j.toNatClampNeg, v) :: us))) A2 := by
  have hc := of_decide_eq_true hc
  refine ⟨_, if_pos ⟨hc.1, Nat.one_ne_zero, hc.2⟩, ?_⟩
  have := hR.put (o1 := .inr (kd, n, d, (j.toNatClampNeg, v) :: us)) hq
  have e : yOs g (.inr (kd, n, d, (j.toNatClampNeg, v) :: us)) = .inr (kd, n, xfu (fun j => ysu g (yau d us j)) j.toNatClampNeg (ysu g v)) := by rw [← yau_set]; rfl
  rw [e] at this
  exact this
theorem yd0 (g : Nat → Int32) (kd : Nat) : ysu g (.inl (defaultValue (xak kd))) = .inl (defaultValue (xak kd)) := by
  unfold xak
  split <;> rfl
theorem yx0 (g : Nat → Int32) (tc : List Nat) : (tc.map xd0).map (ysu g) = tc.map xd0 := by
  rw [List.map_map]
  refine List.map_congr_left fun t _ => ?_
  show ysu g (xd0 t) = xd0 t
  unfold xd0
  split <;> rfl
set_option maxHeartbeats 4000000 in
/-- one instruction of the symbolic machine is the small machine's, whatever the unknown numbers are -/
theorem ys_ok (hg : ygood g) {nL : Nat} {i : Instr} {ops : List Nat} {pc : Nat} {l : xL} {st : List xV} {T : yT} {A : xA} {pc2 : Nat} {l2 : xL} {st2 : List xV} {T2 : yT} (h : ys nL i ops pc l st T = some (pc2, l2, st2, T2)) (hR : yR g T A) : ∃ A2, xs nL i ops pc (yl g l) (ys_ g st) A = some (pc2, yl g l2, ys_ g st2, A2) ∧ yR g T2 A2 := by
  have gen : (if yw i = true then (match xs1 nL i pc l st with
    | some z => some (z.1, z.2.1, z.2.2, T)
    | none => none) else none) = some (pc2, l2, st2, T2) → ∃ A2, xs nL i ops pc (yl g l) (ys_ g st) A = some (pc2, yl g l2, ys_ g st2, A2) ∧ yR g T2 A2 := by
    intro h
    split at h
    next hw =>
      split at h
      next z hz =>
        cases h
        exact ⟨A, xs_of1 (yw_ok hw hz), hR⟩
      next => cases h
    next => cases h
  have ild : ∀ (n p : Nat) (v : xV), xl l n = some v → yint v = true → ∃ x, ysu g v = .inl (.int x) ∧ xl (yl g l) n = some (.inl (.int x)) := by
    intro n p v hv hi
    obtain ⟨x, hx⟩ := ysu_int (g := g) hi
    exact ⟨x, hx, by rw [yl_xl, hv, Option.map_some, hx]⟩
  cases i
  case iload_n n =>
    simp only [ys] at h
    split at h
    next v hv =>
      split at h
      next hi =>
        cases h
        obtain ⟨x, hx, hl⟩ := ild n.val 0 v hv hi
        refine ⟨A, xs_of1 (z := (pc + 1, yl g l, ys_ g (v :: st))) ?_, hR⟩
        simp only [xs1]
        rw [hl]
        show some (pc + 1, yl g l, _ :: ys_ g st) = some (pc + 1, yl g l, ysu g v :: ys_ g st)
        rw [hx]
      next => cases h
    next => cases h
  case iload n =>
    simp only [ys] at h
    split at h
    next v hv =>
      split at h
      next hi =>
        cases h
        obtain ⟨x, hx, hl⟩ := ild n 0 v hv hi
        refine ⟨A, xs_of1 (z := (pc + 2, yl g l, ys_ g (v :: st))) ?_, hR⟩
        simp only [xs1]
        rw [hl]
        show some (pc + 2, yl g l, _ :: ys_ g st) = some (pc + 2, yl g l, ysu g v :: ys_ g st)
        rw [hx]
      next => cases h
    next => cases h
  case aload_n n =>
    simp only [ys] at h
    split at h
    next v hv =>
      split at h
      next hi =>
        cases h
        obtain ⟨hc, hx⟩ := ysu_ref (g := g) hi
        refine ⟨A, xs_of1 (z := (pc + 1, yl g l, ys_ g (v :: st))) ?_, hR⟩
        simp only [xs1]
        rw [yl_xl, hv, Option.map_some]
        show _ = some (pc + 1, yl g l, ysu g v :: ys_ g st)
        rw [hx]
        rcases hc with rfl | ⟨q, rfl⟩ <;> rfl
      next => cases h
    next => cases h
  case aload n =>
    simp only [ys] at h
    split at h
    next v hv =>
      split at h
      next hi =>
        cases h
        obtain ⟨hc, hx⟩ := ysu_ref (g := g) hi
        refine ⟨A, xs_of1 (z := (pc + 2, yl g l, ys_ g (v :: st))) ?_, hR⟩
        simp only [xs1]
        rw [yl_xl, hv, Option.map_some]
        show _ = some (pc + 2, yl g l, ysu g v :: ys_ g st)
        rw [hx]
        rcases hc with rfl | ⟨q, rfl⟩ <;> rfl
      next => cases h
    next => cases h
  case istore_n n =>
    simp only [ys] at h
    split at h
    next v r =>
      split at h
      next hi =>
        cases h
        obtain ⟨x, hx⟩ := ysu_int (g := g) hi.1
        refine ⟨A, xs_of1 (z := (pc + 1, yl g (xst1 l n.val v), ys_ g st2)) ?_, hR⟩
        simp only [xs1]
        show (match ysu g v :: ys_ g st2 with | .inl (.int x) :: r => if n.val < nL then some (pc + 1, xst1 (yl g l) n.val (.inl (.int x)), r) else none | _ => none) = _
        rw [← yl_xst1, hx]
        exact if_pos hi.2
      next => cases h
    next => cases h
  case istore n =>
    simp only [ys] at h
    split at h
    next v r =>
      split at h
      next hi =>
        cases h
        obtain ⟨x, hx⟩ := ysu_int (g := g) hi.1
        refine ⟨A, xs_of1 (z := (pc + 2, yl g (xst1 l n v), ys_ g st2)) ?_, hR⟩
        simp only [xs1]
        show (match ysu g v :: ys_ g st2 with | .inl (.int x) :: r => if n < nL then some (pc + 2, xst1 (yl g l) n (.inl (.int x)), r) else none | _ => none) = _
        rw [← yl_xst1, hx]
        exact if_pos hi.2
      next => cases h
    next => cases h
  case i2c =>
    simp only [ys] at h
    split at h
    next k r =>
      split at h
      next hk =>
        cases h
        refine ⟨A, xs_of1 (z := (pc + 1, yl g l, ys_ g (.inl (.ref (10 + k)) :: r))) ?_, hR⟩
        simp only [xs1]
        show some (pc + 1, yl g l, .inl (.int ((g k).toUInt32 % 65536).toInt32) :: ys_ g r) = some (pc + 1, yl g l, .inl (.int (g (10 + k))) :: ys_ g r)
        rw [(hg k hk).1]
      next => cases h
    next x r =>
      cases h
      exact ⟨A, xs_of1 (z := (pc + 1, yl g l, ys_ g (.inl (.int (x.toUInt32 % 65536).toInt32) :: r))) rfl, hR⟩
    next => cases h
  case iand =>
    simp only [ys] at h
    split at h
    next y k r =>
      split at h
      next hk =>
        cases h
        obtain ⟨rfl, hk⟩ := hk
        refine ⟨A, xs_of1 (z := (pc + 1, yl g l, ys_ g (.inl (.ref (20 + k)) :: r))) ?_, hR⟩
        simp only [xs1]
        show some (pc + 1, yl g l, .inl (.int (g k &&& 31)) :: ys_ g r) = some (pc + 1, yl g l, .inl (.int (g (20 + k))) :: ys_ g r)
        rw [(hg k hk).2]
      next => cases h
    next y x r =>
      cases h
      exact ⟨A, xs_of1 (z := (pc + 1, yl g l, ys_ g (.inl (.int (x &&& y)) :: r))) rfl, hR⟩
    next => cases h
  case ifCond o off =>
    simp only [ys] at h
    split at h
    next x r =>
      obtain ⟨rfl, rfl, rfl, hb⟩ := yjb_ok h
      exact ⟨A, xs_of2 rfl (hb _ _ A), hR⟩
    next => cases h
  case if_icmp o off =>
    simp only [ys] at h
    split at h
    next y x r =>
      obtain ⟨rfl, rfl, rfl, hb⟩ := yjb_ok h
      exact ⟨A, xs_of2 rfl (hb _ _ A), hR⟩
    next => cases h
  case if_acmp o off =>
    cases o
    · simp only [ys] at h
      split at h
      next q z r =>
        obtain ⟨rfl, rfl, rfl, hb⟩ := yjb_ok h
        exact ⟨A, xs_of2 rfl (hb _ _ A), hR⟩
      next => cases h
    · simp only [ys] at h
      split at h
      next q z r =>
        obtain ⟨rfl, rfl, rfl, hb⟩ := yjb_ok h
        exact ⟨A, xs_of2 rfl (hb _ _ A), hR⟩
      next => cases h
  case tableswitch dflt lo hi offs =>
    simp only [ys] at h
    split at h
    next x r =>
      split at h
      next hx =>
        split at h
        next hp =>
          cases h
          refine ⟨A, xs_of2 rfl ?_, hR⟩
          show (if x.toInt < lo ∨ hi < x.toInt then xjmp pc dflt (yl g l) (ys_ g st2) A else _) = _
          rw [if_pos hx]
          exact if_pos hp
        next => cases h
      next hx =>
        split at h
        next off ho =>
          split at h
          next hp =>
            cases h
            refine ⟨A, xs_of2 rfl ?_, hR⟩
            show (if x.toInt < lo ∨ hi < x.toInt then _ else (match offs[(x.toInt - lo).toNat]? with
              | some off => xjmp pc off (yl g l) (ys_ g st2) A
              | none => none)) = _
            rw [if_neg hx, ho]
            exact if_pos hp
          next => cases h
        next => cases h
    next => cases h
  case getfield idx =>
    simp only [ys] at h
    split at h
    next q r =>
      split at h
      next ci fs hq =>
        split at h
        next kx cis =>
          split at h
          next hc =>
            split at h
            next v hv =>
              cases h
              refine ⟨A, xs_of2 rfl ?_, hR⟩
              have hA := hR.look hq
              show (match A.2.2.2 q with
                | some (.inl (ci, fs)) => if cis.elem ci = true then (match fs[kx]? with
                  | some v => some (pc + 3, yl g l, v :: ys_ g r, A)
                  | none => none) else none
                | _ => none) = _
              rw [hA]
              show (if cis.elem ci = true then (match (fs.map (ysu g))[kx]? with
                  | some v => some (pc + 3, yl g l, v :: ys_ g r, A)
                  | none => none) else none) = _
              rw [yg_eq] at hv
              rw [if_pos hc, List.getElem?_map, hv]
              rfl
            next => cases h
          next => cases h
        next => cases h
      next => cases h
    next => cases h
  case putfield idx =>
    simp only [ys] at h
    split at h
    next v k r =>
      split at h
      next ci fs hq =>
        split at h
        next kx t cis =>
          split at h
          next hc =>
            cases h
            have hA := hR.look hq
            have hP := hR.put (o1 := .inl (ci, yp fs kx v)) hq
            refine ⟨_, xs_of2 rfl ?_, hP⟩
            show (match A.2.2.2 (1, k) with
              | some (.inl (ci, fs)) => if cis.elem ci = true ∧ ((1 : Nat), k).1 ≠ 0 ∧ xfit t (ysu g v) = true then some (pc + 3, yl g l, ys_ g st2, (A.1, A.2.1, A.2.2.1, xup A.2.2.2 (1, k) (.inl (ci, fs.set kx (ysu g v))))) else none
              | _ => none) = _
            rw [hA]
            show (if cis.elem ci = true ∧ ((1 : Nat), k).1 ≠ 0 ∧ xfit t (ysu g v) = true then some (pc + 3, yl g l, ys_ g st2, (A.1, A.2.1, A.2.2.1, xup A.2.2.2 (1, k) (.inl (ci, (fs.map (ysu g)).set kx (ysu g v))))) else none) = _
            rw [if_pos ⟨hc.1, Nat.one_ne_zero, yfit_ok hg hc.2⟩]
            unfold yOs
            dsimp only
            rw [yp_eq, List.map_set]
          next => cases h
        next => cases h
      next => cases h
    next => cases h
  case iaload =>
    obtain ⟨j, q, r, kd, n, f, e1, e2, e3, rfl, rfl, e4, rfl⟩ := yal_ok h hR
    refine ⟨A, xs_of2 (by rw [e1]; rfl) ?_, hR⟩
    rw [e1, e4]
    simp only [xs2]
    rw [e2]
    dsimp only
    rw [e3]
  case laload =>
    obtain ⟨j, q, r, kd, n, f, e1, e2, e3, rfl, rfl, e4, rfl⟩ := yal_ok h hR
    refine ⟨A, xs_of2 (by rw [e1]; rfl) ?_, hR⟩
    rw [e1, e4]
    simp only [xs2]
    rw [e2]
    dsimp only
    rw [e3]
  case caload =>
    obtain ⟨j, q, r, kd, n, f, e1, e2, e3, rfl, rfl, e4, rfl⟩ := yal_ok h hR
    refine ⟨A, xs_of2 (by rw [e1]; rfl) ?_, hR⟩
    rw [e1, e4]
    simp only [xs2]
    rw [e2]
    dsimp only
    rw [e3]
  case daload =>
    obtain ⟨j, q, r, kd, n, f, e1, e2, e3, rfl, rfl, e4, rfl⟩ := yal_ok h hR
    refine ⟨A, xs_of2 (by rw [e1]; rfl) ?_, hR⟩
    rw [e1, e4]
    simp only [xs2]
    rw [e2]
    dsimp only
    rw [e3]
  case aaload =>
    simp only [ys] at h
    split at h
    next j q r =>
      split at h
      next kd n d us hq =>
        by_cases hc : yin kd j n (if kd = 5 then 5 else 4) = true
        · rw [if_pos hc] at h
          cases h
          refine ⟨A, xs_of2 rfl ?_, hR⟩
          have hA := hR.look hq
          show (match A.2.2.2 q with
            | some (.inr (kd, n, f)) => match xarr kd j n f (if kd = 5 then 5 else 4) with
              | some v => some (pc + 1, yl g l, v :: ys_ g r, A)
              | none => none
            | _ => none) = _
          rw [hA]
          show (match xarr kd j n (fun j => ysu g (yau d us j)) (if kd = 5 then 5 else 4) with
              | some v => some (pc + 1, yl g l, v :: ys_ g r, A)
              | none => none) = _
          have e3 : xarr kd j n (fun j => ysu g (yau d us j)) (if kd = 5 then 5 else 4) = some (ysu g (yau d us j.toNatClampNeg)) := by
            unfold xarr
            exact if_pos (of_decide_eq_true hc)
          rw [e3]
          rfl
        · rw [if_neg hc] at h
          cases h
      next => cases h
    next => cases h
  case iastore =>
    simp only [ys] at h
    split at h
    next v j k r =>
      split at h
      next kd n d us hq =>
        split at h
        next hc =>
          cases h
          obtain ⟨A2, e1, hR2⟩ := yls_ok (v := v) hR hq hc.2
          refine ⟨A2, xs_of2 rfl ?_, hR2⟩
          obtain ⟨x, hx⟩ := ysu_int (g := g) hc.1
          show xs2 .iastore ops pc (yl g l) (ysu g v :: .inl (.int j) :: .inr (1, k) :: ys_ g st2) A = _
          rw [hx] at e1 ⊢
          simp only [xs2]
          rw [hR.look hq]
          show (match xsto A (1, k) kd j n (fun j => ysu g (yau d us j)) 0 (.inl (.int x)) with
            | some A1 => some (pc + 1, yl g l, ys_ g st2, A1)
            | none => none) = _
          rw [e1]
        next => cases h
      next => cases h
    next => cases h
  case lastore =>
    simp only [ys] at h
    split at h
    next x j k r =>
      split at h
      next kd n d us hq =>
        split at h
        next hc =>
          cases h
          obtain ⟨A2, e1, hR2⟩ := yls_ok (v := .inl (.long x)) hR hq hc
          refine ⟨A2, xs_of2 rfl ?_, hR2⟩
          show xs2 .lastore ops pc (yl g l) (.inl (.long x) :: .inl (.int j) :: .inr (1, k) :: ys_ g st2) A = _
          simp only [xs2]
          rw [hR.look hq]
          show (match xsto A (1, k) kd j n (fun j => ysu g (yau d us j)) 1 (ysu g (.inl (.long x))) with
            | some A1 => some (pc + 1, yl g l, ys_ g st2, A1)
            | none => none) = _
          rw [e1]
        next => cases h
      next => cases h
    next => cases h
  case castore =>
    simp only [ys] at h
    split at h
    next v j k r =>
      split at h
      next kd n d us hq =>
        split at h
        next hc =>
          cases h
          obtain ⟨A2, e1, hR2⟩ := yls_ok (v := v) hR hq hc.2
          refine ⟨A2, xs_of2 rfl ?_, hR2⟩
          have hf := yfit_ok hg hc.1
          obtain ⟨x, hx, hb⟩ : ∃ x, ysu g v = .inl (.int x) ∧ 0 ≤ x ∧ x ≤ 65535 := by
            generalize ysu g v = u at hf
            unfold xfit at hf
            split at hf
            all_goals first
              | (cases hf; done)
              | (rename_i h0; cases h0; done)
              | (rename_i x h0; exact ⟨x, rfl, of_decide_eq_true hf⟩)
              | exact ⟨_, rfl, of_decide_eq_true hf⟩
          show xs2 .castore ops pc (yl g l) (ysu g v :: .inl (.int j) :: .inr (1, k) :: ys_ g st2) A = _
          rw [hx] at e1 ⊢
          simp only [xs2]
          rw [hR.look hq]
          show (if 0 ≤ x ∧ x ≤ 65535 then (match xsto A (1, k) kd j n (fun j => ysu g (yau d us j)) 2 (.inl (.int x)) with
            | some A1 => some (pc + 1, yl g l, ys_ g st2, A1)
            | none => none) else none) = _
          rw [if_pos hb, e1]
        next => cases h
      next => cases h
    next => cases h
  case aastore =>
    simp only [ys] at h
    split at h
    next z j k r =>
      split at h
      next kd n d us ci fs hq hz =>
        split at h
        next hc =>
          cases h
          obtain ⟨A2, e1, hR2⟩ := yls_ok (v := .inr z) hR hq hc.2
          refine ⟨A2, xs_of2 rfl ?_, hR2⟩
          show xs2 .aastore ops pc (yl g l) (.inr z :: .inl (.int j) :: .inr (1, k) :: ys_ g st2) A = _
          simp only [xs2]
          rw [hR.look hq, hR.look hz]
          show (if ops.elem ci = true ∧ (kd = 4 ∨ kd = 5 ∧ ops[0]? = some ci) then (match xsto A (1, k) kd j n (fun j => ysu g (yau d us j)) kd (ysu g (.inr z)) with
            | some A1 => some (pc + 1, yl g l, ys_ g st2, A1)
            | none => none) else none) = _
          rw [if_pos hc.1, e1]
        next => cases h
      next => cases h
    next => cases h
  case arraylength =>
    simp only [ys] at h
    split at h
    next q r =>
      split at h
      next kd n w hq =>
        cases h
        refine ⟨A, xs_of2 rfl ?_, hR⟩
        show xs2 .arraylength ops pc (yl g l) (.inr q :: ys_ g r) A = _
        simp only [xs2]
        rw [hR.look hq]
        rfl
      next => cases h
    next => cases h
  case newarray ty =>
    simp only [ys] at h
    split at h
    next n r kd =>
      split at h
      next hc =>
        cases h
        have hN := hR.new hc.2 (o1 := .inr (kd, n.toNatClampNeg, .inl (defaultValue (xak kd)), [])) (Nat.le_refl n.toNatClampNeg)
        refine ⟨_, xs_of2 rfl ?_, hN⟩
        show xs2 (.newarray ty) [kd] pc (yl g l) (.inl (.int n) :: ys_ g r) A = _
        simp only [xs2]
        rw [hR.names hc.2]
        dsimp only
        rw [if_pos ⟨hc.1.1, hc.1.2, by rw [hR.2.2.2.2 _ (Nat.le_refl _)]; rfl, Nat.one_ne_zero⟩]
        unfold yOs yau
        dsimp only
        rw [yd0]
        rfl
      next => cases h
    next => cases h
  case anewarray ty =>
    simp only [ys] at h
    split at h
    next n r kd =>
      split at h
      next hc =>
        cases h
        have hN := hR.new hc.2 (o1 := .inr (kd, n.toNatClampNeg, .inl .null, [])) (Nat.le_refl n.toNatClampNeg)
        refine ⟨_, xs_of2 rfl ?_, hN⟩
        show xs2 (.anewarray ty) [kd] pc (yl g l) (.inl (.int n) :: ys_ g r) A = _
        simp only [xs2]
        rw [hR.names hc.2]
        dsimp only
        rw [if_pos ⟨hc.1.1, hc.1.2, by rw [hR.2.2.2.2 _ (Nat.le_refl _)]; rfl, Nat.one_ne_zero⟩]
        rfl
      next => cases h
    next => cases h
  case new ty =>
    simp only [ys] at h
    split at h
    next ci tc =>
      split at h
      next hc =>
        cases h
        have hN := hR.new hc (o1 := .inl (ci, tc.map xd0)) (Nat.le_refl tc.length)
        refine ⟨_, xs_of2 rfl ?_, hN⟩
        show xs2 (.new ty) (ci :: tc) pc (yl g l) (ys_ g st) A = _
        simp only [xs2]
        rw [hR.names hc]
        dsimp only
        rw [if_pos ⟨by rw [hR.2.2.2.2 _ (Nat.le_refl _)]; rfl, Nat.one_ne_zero⟩]
        unfold yOs
        dsimp only
        rw [yx0]
        rfl
      next => cases h
    next => cases h
  case checkcast ty =>
    simp only [ys] at h
    split at h
    next q r =>
      split at h
      next ci fs hq =>
        split at h
        next hc =>
          cases h
          refine ⟨A, xs_of2 rfl ?_, hR⟩
          show xs2 (.checkcast ty) ops pc (yl g l) (.inr q :: ys_ g r) A = _
          simp only [xs2]
          rw [hR.look hq]
          exact if_pos hc
        next => cases h
      next => cases h
    next => cases h
  case getstatic ty =>
    simp only [ys] at h
    split at h
    next hc =>
      cases h
      exact ⟨A, xs_of2 rfl (if_pos hc), hR⟩
    next => cases h
  case invokespecial ty =>
    simp only [ys] at h
    split at h
    next q r =>
      split at h
      next hc =>
        cases h
        refine ⟨A, ?_, hR⟩
        show (if ((ys_ g st2).map xcat).sum ≤ 8 then some (pc + 3, yl g l, ys_ g st2, A) else none) = _
        exact if_pos (by rw [ys_sum]; exact hc)
      next => cases h
    next => cases h
  all_goals exact gen h
end YSOK
end
section
set_option maxRecDepth 20000
section YRUNOK
variable {g : Nat → Int32}
def yct : Nat → Nat → List xV → xA → Option (xR × xA) := fun _ _ _ _ => none
/-- more fuel does no harm -/
theorem xrun_more {P : xPr} : ∀ (n d mid pc : Nat) (l : xL) (st : List xV) (A : xA) (z : xR × xA), xrun P yct n d mid pc l st A = some z → xrun P yct (n + 1) d mid pc l st A = some z := by
  intro n
  induction n with
  | zero =>
    intro d mid pc l st A z h
    cases h
  | succ n ih =>
    intro d mid pc l st A z h
    unfold xrun at h ⊢
    split at h
    next => cases h
    next i ops hP =>
      try rw [hP]
      try dsimp only
      split at h
      next v hv =>
        first | exact h | (rw [hv]; exact h)
      next hv =>
        try rw [hv]
        try dsimp only
        split at h
        next E hE =>
          try rw [hE]
          exact h
        next hE =>
          try rw [hE]
          try dsimp only
          split at h
          next y hy =>
            try rw [hy]
            exact ih _ _ _ _ _ _ _ h
          next hy =>
            try rw [hy]
            try dsimp only
            split at h
            next mid2 as rest d2 hi =>
              try rw [hi]
              try dsimp only
              by_cases hw : (as.map xcat).sum ≤ (P.2.1 mid2).2.2.1 ∧ (rest.map xcat).sum ≤ 8
              · rw [if_pos hw] at h ⊢
                simp only [yct] at h ⊢
                split at h
                next v A2 hr =>
                  rw [ih _ _ _ _ _ _ _ hr]
                  exact ih _ _ _ _ _ _ _ h
                next E A2 hr =>
                  rw [ih _ _ _ _ _ _ _ hr]
                  try dsimp only
                  split at h
                  next hpc ln k hh =>
                    try rw [hh]
                    exact ih _ _ _ _ _ _ _ h
                  next hh =>
                    try rw [hh]
                    exact h
                next => cases h
              · rw [if_neg hw] at h
                cases h
            next hne =>
              cases h
theorem xrun_mono {P : xPr} {n k d mid pc : Nat} {l : xL} {st : List xV} {A : xA} {z : xR × xA} (h : xrun P yct n d mid pc l st A = some z) : xrun P yct (n + k) d mid pc l st A = some z := by
  induction k with
  | zero => exact h
  | succ k ih => exact xrun_more _ _ _ _ _ _ _ _ ih
theorem yret_ok {rt : Option FieldType} {i : Instr} {st : List xV} {v : Option xV} (h : yret rt i st = some v) : xret rt i (ys_ g st) = some (v.map (ysu g)) := by
  unfold yret at h
  split at h
  next =>
    split at h
    next k =>
      split at h
      next => cases h; rfl
      next => cases h
    next x =>
      split at h
      next => cases h; rfl
      next =>
        by_cases hx : x = 0 ∨ x = 1
        · rw [if_pos hx] at h
          cases h
          show (if x = 0 ∨ x = 1 then some (some (Sum.inl (Value.int x) : xV)) else none) = _
          rw [if_pos hx]
          rfl
        · rw [if_neg hx] at h
          cases h
      next => cases h
    next => cases h
  next hne =>
    unfold xret at h
    split at h
    next => exact absurd rfl hne
    next =>
      split at h
      next x =>
        by_cases hx : rt = some .long
        · rw [if_pos hx] at h
          cases h
          show (if rt = some FieldType.long then some (some (Sum.inl (Value.long x) : xV)) else none) = _
          rw [if_pos hx]
          rfl
        · rw [if_neg hx] at h
          cases h
      next => cases h
    next =>
      split at h
      next x =>
        by_cases hx : rt = some .float
        · rw [if_pos hx] at h
          cases h
          show (if rt = some FieldType.float then some (some (Sum.inl (Value.float x) : xV)) else none) = _
          rw [if_pos hx]
          rfl
        · rw [if_neg hx] at h
          cases h
      next => cases h
    next =>
      split at h
      next x =>
        by_cases hx : rt = some .double
        · rw [if_pos hx] at h
          cases h
          show (if rt = some FieldType.double then some (some (Sum.inl (Value.double x) : xV)) else none) = _
          rw [if_pos hx]
          rfl
        · rw [if_neg hx] at h
          cases h
      next => cases h
    next =>
      split at h
      next =>
        split at h
        next => cases h; rfl
        next => cases h; rfl
        next => cases h
      next =>
        split at h
        next => cases h; rfl
        next => cases h; rfl
        next => cases h
      next => cases h
    next =>
      split at h
      next =>
        split at h
        next => cases h; rfl
        next => cases h
      next => cases h
    next => cases h
/-- an instruction that goes on doesn't return -/
theorem ys_noret {nL : Nat} {i : Instr} {ops : List Nat} {pc : Nat} {l : xL} {st : List xV} {T : yT} {z : Nat × xL × List xV × yT} (h : ys nL i ops pc l st T = some z) (rt : Option FieldType) (st2 : List xV) : xret rt i st2 = none := by
  cases i
  all_goals first
    | rfl
    | (exact absurd h (by simp [ys, yw]))
theorem xinv_noret {i : Instr} {ops : List Nat} {st : List xV} {h : xH} {z : Nat × List xV × List xV} (e : xinv i ops st h = some z) (rt : Option FieldType) (st2 : List xV) : xret rt i st2 = none := by
  cases i
  all_goals first
    | rfl
    | (cases e; done)
theorem xinv_noxs {i : Instr} {ops : List Nat} {st : List xV} {h : xH} {z : Nat × List xV × List xV} (e : xinv i ops st h = some z) (nL pc : Nat) (l : xL) (st2 : List xV) (A : xA) : xs nL i ops pc l st2 A = none := by
  unfold xinv at e
  split at e
  next => rfl
  next =>
    split at e
    next => rfl
    next => cases e
  next =>
    split at e
    next => simp [xs, xs1, xs2]
    next => cases e
  next => cases e
theorem yinv_ok {i : Instr} {ops : List Nat} {st : List xV} {T : yT} {A : xA} {mid : Nat} {as rest : List xV} (hR : yR g T A) (e : xinv i ops st (yhx T) = some (mid, as, rest)) : xinv i ops (ys_ g st) A.2.2.2 = some (mid, ys_ g as, ys_ g rest) := by
  unfold xinv at e
  split at e
  next idx =>
    split at e
    next n tb =>
      split at e
      next q r2 hd =>
        split at e
        next ci fs hq =>
          split at e
          next mid3 hp =>
            cases e
            show (match (ys_ g st).drop n with
              | .inr q :: rest => match A.2.2.2 q with
                | some (.inl (ci, _)) => match xpick ci tb with
                  | some mid => some (mid, (Sum.inr q : xV) :: ((ys_ g st).take n).reverse, rest)
                  | none => none
                | _ => none
              | _ => none) = _
            have hh : ∃ fs2, A.2.2.2 q = some (.inl (ci, fs2)) := by
              unfold yhx at hq
              split at hq
              next w hw =>
                cases hq
                exact ⟨_, hR.look hw⟩
              next => cases hq
            obtain ⟨fs2, hh⟩ := hh
            rw [← List.map_drop, hd, List.map_cons]
            show (match A.2.2.2 q with
                | some (.inl (ci, _)) => match xpick ci tb with
                  | some mid => some (mid, (Sum.inr q : xV) :: ((ys_ g st).take n).reverse, ys_ g rest)
                  | none => none
                | _ => none) = _
            rw [hh]
            show (match xpick ci tb with
                  | some mid => some (mid, (Sum.inr q : xV) :: ((ys_ g st).take n).reverse, ys_ g rest)
                  | none => none) = _
            rw [hp]
            show some (mid, (Sum.inr q : xV) :: ((ys_ g st).take n).reverse, ys_ g rest) = some (mid, (Sum.inr q : xV) :: ys_ g (st.take n).reverse, ys_ g rest)
            rw [← List.map_take, ← List.map_reverse]
          next => cases e
        next => cases e
      next => cases e
    next => cases e
  next idx =>
    split at e
    next n mid3 =>
      split at e
      next q r2 hd =>
        cases e
        show (match (ys_ g st).drop n with
              | .inr q :: rest => some (mid, (Sum.inr q : xV) :: ((ys_ g st).take n).reverse, rest)
              | _ => none) = _
        rw [← List.map_drop, hd, List.map_cons]
        show some (mid, (Sum.inr q : xV) :: ((ys_ g st).take n).reverse, ys_ g rest) = some (mid, (Sum.inr q : xV) :: ys_ g (st.take n).reverse, ys_ g rest)
        rw [← List.map_take, ← List.map_reverse]
      next => cases e
    next => cases e
  next idx =>
    split at e
    next n mid3 =>
      split at e
      next hle =>
        cases e
        show (if n ≤ (ys_ g st).length then some (mid, ((ys_ g st).take n).reverse, (ys_ g st).drop n) else none) = _
        rw [List.length_map, if_pos hle, ← List.map_take, ← List.map_reverse, ← List.map_drop]
      next => cases e
    next => cases e
  next => cases e
/-- a narrower piece of what a number may be -/
theorem yok_in {E : yE} (h : yok g E) {k lo hi : Nat} (hb : lo ≤ yn (g k) ∧ yn (g k) < hi) : yok g ((k, lo, hi) :: E.1, E.2) := by
  refine ⟨fun j => ?_, h.2⟩
  show (match Nat.beq k j with | true => (lo, hi) | false => yiv E.1 j).1 ≤ _ ∧ _
  split
  next e =>
    have : k = j := Nat.eq_of_beq_eq_true e
    subst this
    show lo ≤ _ ∧ _ < (match Nat.beq k k with | true => (lo, hi) | false => yiv E.1 k).2
    rw [e]
    exact hb
  next e =>
    show (yiv E.1 j).1 ≤ _ ∧ _ < (match Nat.beq k j with | true => (lo, hi) | false => yiv E.1 j).2
    rw [e]
    exact h.1 j
theorem ypc_in {E : yE} (h : yok g E) {k lo hi : Nat} {b : Bool} (h1 : lo ≤ yn (g k)) (h2 : yn (g k) < hi) : ∃ z ∈ ypc E k lo hi b, yok g z.1 ∧ z.2 = b := by
  refine ⟨(((k, lo, hi) :: E.1, E.2), b), ?_, yok_in h ⟨h1, h2⟩, rfl⟩
  have : Nat.blt lo hi = true := Nat.ble_eq_true_of_le (Nat.lt_of_le_of_lt h1 h2)
  unfold ypc
  rw [this]
  exact List.mem_singleton.mpr rfl
theorem yc1_ok {E : yE} (h : yok g E) (o : Jvm.ClassFile.Cond) (k : Nat) (c : Int32) : ∃ z ∈ yc1 o E k (yn c), yok g z.1 ∧ xcd o (g k) c = z.2 := by
  have hb := h.1 k
  unfold yc1
  generalize yiv E.1 k = w at hb
  obtain ⟨lo, hi⟩ := w
  dsimp only at hb ⊢
  have lt : yn (g k) < yn c → Nat.min hi (yn c) > yn (g k) := fun z => Nat.lt_min.mpr ⟨hb.2, z⟩
  have ge : yn c ≤ yn (g k) → Nat.max lo (yn c) ≤ yn (g k) := fun z => Nat.max_le.mpr ⟨hb.1, z⟩
  have lt1 : yn (g k) < yn c + 1 → Nat.min hi (yn c + 1) > yn (g k) := fun z => Nat.lt_min.mpr ⟨hb.2, z⟩
  have ge1 : yn c + 1 ≤ yn (g k) → Nat.max lo (yn c + 1) ≤ yn (g k) := fun z => Nat.max_le.mpr ⟨hb.1, z⟩
  cases o
  case lt =>
    by_cases q : yn (g k) < yn c
    · obtain ⟨z, hz, h1, h2⟩ := ypc_in (b := true) h hb.1 (lt q)
      exact ⟨z, List.mem_append_left _ hz, h1, by rw [h2]; exact decide_eq_true (yn_lt_iff.mpr q)⟩
    · obtain ⟨z, hz, h1, h2⟩ := ypc_in (b := false) h (ge (Nat.le_of_not_lt q)) hb.2
      exact ⟨z, List.mem_append_right _ hz, h1, by rw [h2]; exact decide_eq_false (fun y => q (yn_lt_iff.mp y))⟩
  case ge =>
    by_cases q : yn (g k) < yn c
    · obtain ⟨z, hz, h1, h2⟩ := ypc_in (b := false) h hb.1 (lt q)
      exact ⟨z, List.mem_append_left _ hz, h1, by rw [h2]; exact decide_eq_false (fun y => absurd (yn_le_iff.mp y) (Nat.not_le_of_lt q))⟩
    · obtain ⟨z, hz, h1, h2⟩ := ypc_in (b := true) h (ge (Nat.le_of_not_lt q)) hb.2
      exact ⟨z, List.mem_append_right _ hz, h1, by rw [h2]; exact decide_eq_true (yn_le_iff.mpr (Nat.le_of_not_lt q))⟩
  case le =>
    by_cases q : yn (g k) < yn c + 1
    · obtain ⟨z, hz, h1, h2⟩ := ypc_in (b := true) h hb.1 (lt1 q)
      exact ⟨z, List.mem_append_left _ hz, h1, by rw [h2]; exact decide_eq_true (yn_le_iff.mpr (Nat.le_of_lt_succ q))⟩
    · obtain ⟨z, hz, h1, h2⟩ := ypc_in (b := false) h (ge1 (Nat.le_of_not_lt q)) hb.2
      exact ⟨z, List.mem_append_right _ hz, h1, by rw [h2]; exact decide_eq_false (fun y => q (Nat.lt_succ_of_le (yn_le_iff.mp y)))⟩
  case gt =>
    by_cases q : yn (g k) < yn c + 1
    · obtain ⟨z, hz, h1, h2⟩ := ypc_in (b := false) h hb.1 (lt1 q)
      exact ⟨z, List.mem_append_left _ hz, h1, by rw [h2]; exact decide_eq_false (fun y => absurd (yn_lt_iff.mp y) (Nat.not_lt_of_le (Nat.le_of_lt_succ q)))⟩
    · obtain ⟨z, hz, h1, h2⟩ := ypc_in (b := true) h (ge1 (Nat.le_of_not_lt q)) hb.2
      exact ⟨z, List.mem_append_right _ hz, h1, by rw [h2]; exact decide_eq_true (yn_lt_iff.mpr (Nat.le_of_not_lt q))⟩
  case eq =>
    by_cases q : yn (g k) < yn c
    · obtain ⟨z, hz, h1, h2⟩ := ypc_in (b := false) h hb.1 (lt q)
      exact ⟨z, List.mem_append_left _ hz, h1, by rw [h2]; exact decide_eq_false (fun y => absurd (yn_inj.mp y) (Nat.ne_of_lt q))⟩
    · by_cases q1 : yn (g k) < yn c + 1
      · obtain ⟨z, hz, h1, h2⟩ := ypc_in (b := true) h (ge (Nat.le_of_not_lt q)) (lt1 q1)
        exact ⟨z, List.mem_append_right _ (List.mem_append_left _ hz), h1, by rw [h2]; exact decide_eq_true (yn_inj.mpr (Nat.le_antisymm (Nat.le_of_lt_succ q1) (Nat.le_of_not_lt q)))⟩
      · obtain ⟨z, hz, h1, h2⟩ := ypc_in (b := false) h (ge1 (Nat.le_of_not_lt q1)) hb.2
        exact ⟨z, List.mem_append_right _ (List.mem_append_right _ hz), h1, by rw [h2]; exact decide_eq_false (fun y => q1 (by rw [yn_inj.mp y]; exact Nat.lt_succ_self _))⟩
  case ne =>
    by_cases q : yn (g k) < yn c
    · obtain ⟨z, hz, h1, h2⟩ := ypc_in (b := true) h hb.1 (lt q)
      exact ⟨z, List.mem_append_left _ hz, h1, by rw [h2]; exact decide_eq_true (fun y => absurd (yn_inj.mp y) (Nat.ne_of_lt q))⟩
    · by_cases q1 : yn (g k) < yn c + 1
      · obtain ⟨z, hz, h1, h2⟩ := ypc_in (b := false) h (ge (Nat.le_of_not_lt q)) (lt1 q1)
        exact ⟨z, List.mem_append_right _ (List.mem_append_left _ hz), h1, by rw [h2]; exact decide_eq_false (fun y => y (yn_inj.mpr (Nat.le_antisymm (Nat.le_of_lt_succ q1) (Nat.le_of_not_lt q))))⟩
      · obtain ⟨z, hz, h1, h2⟩ := ypc_in (b := true) h (ge1 (Nat.le_of_not_lt q1)) hb.2
        exact ⟨z, List.mem_append_right _ (List.mem_append_right _ hz), h1, by rw [h2]; exact decide_eq_true (fun y => q1 (by rw [yn_inj.mp y]; exact Nat.lt_succ_self _))⟩
theorem yfa_cons {E2 : List (Nat × Nat × Bool)} {a b x y : Nat} {v w : Bool} (h : yfa ((a, b, v) :: E2) x y = some w) : (a = x ∧ b = y ∧ v = w) ∨ yfa E2 x y = some w := by
  unfold yfa at h
  split at h
  next e1 e2 => exact Or.inl ⟨Nat.eq_of_beq_eq_true e1, Nat.eq_of_beq_eq_true e2, Option.some.inj h⟩
  next => exact Or.inr h
theorem yc2_ok {E : yE} (h : yok g E) (a b : Nat) (n : Bool) : ∃ z ∈ yc2 E a b n, yok g z.1 ∧ (decide (yn (g a) ≤ yn (g b)) != n) = z.2 := by
  unfold yc2
  split
  next v hv => exact ⟨_, List.mem_singleton.mpr rfl, h, by rw [h.2 a b v hv]⟩
  next =>
    have ha := h.1 a
    have hb := h.1 b
    generalize yiv E.1 a = u at ha
    generalize yiv E.1 b = w at hb
    obtain ⟨al, ah⟩ := u
    obtain ⟨bl, bh⟩ := w
    dsimp only at ha hb ⊢
    by_cases q : yn (g a) ≤ yn (g b)
    · have q1 : yn (g a) < Nat.min ah bh := Nat.lt_min.mpr ⟨ha.2, by omega⟩
      have q2 : Nat.max al bl ≤ yn (g b) := Nat.max_le.mpr ⟨by omega, hb.1⟩
      refine ⟨(((a, al, Nat.min ah bh) :: (b, Nat.max al bl, bh) :: E.1, (a, b, true) :: E.2), true != n), List.mem_append_left _ ?_, ?_, by rw [decide_eq_true q]⟩
      · rw [if_pos ⟨by omega, by omega⟩]
        exact List.mem_singleton.mpr rfl
      · have h1 : yok g ((b, Nat.max al bl, bh) :: E.1, E.2) := yok_in h ⟨q2, hb.2⟩
        have h2 := yok_in (k := a) (lo := al) (hi := Nat.min ah bh) h1 ⟨ha.1, q1⟩
        refine ⟨h2.1, fun x y v hv => ?_⟩
        rcases yfa_cons hv with ⟨rfl, rfl, rfl⟩ | hv
        · exact decide_eq_true q
        · exact h.2 x y v hv
    · have q1 : Nat.max al (bl + 1) ≤ yn (g a) := Nat.max_le.mpr ⟨ha.1, by omega⟩
      refine ⟨(((a, Nat.max al (bl + 1), ah) :: E.1, (a, b, false) :: E.2), false != n), List.mem_append_right _ ?_, ?_, by rw [decide_eq_false q]⟩
      · rw [if_pos (by omega)]
        exact List.mem_singleton.mpr rfl
      · have h2 := yok_in (k := a) (lo := Nat.max al (bl + 1)) (hi := ah) h ⟨q1, ha.2⟩
        refine ⟨h2.1, fun x y v hv => ?_⟩
        rcases yfa_cons hv with ⟨rfl, rfl, rfl⟩ | hv
        · exact decide_eq_false q
        · exact h.2 x y v hv
theorem xcd_flip (o : Jvm.ClassFile.Cond) (x y : Int32) : xcd (yflip o) y x = xcd o x y := by
  cases o
  · exact decide_eq_decide.mpr ⟨fun h => h.symm, fun h => h.symm⟩
  · exact decide_eq_decide.mpr ⟨fun h z => h z.symm, fun h z => h z.symm⟩
  all_goals rfl
theorem ycmp_ok {E : yE} (h : yok g E) {o : Jvm.ClassFile.Cond} {x y : xV} {bs : List (yE × Bool)} (e : ycmp o E x y = some bs) : ∃ (a b : Int32), ysu g x = .inl (.int a) ∧ ysu g y = .inl (.int b) ∧ ∃ z ∈ bs, yok g z.1 ∧ xcd o a b = z.2 := by
  unfold ycmp at e
  split at e
  next a c =>
    cases e
    exact ⟨g a, c, rfl, rfl, yc1_ok h o a c⟩
  next c a =>
    cases e
    obtain ⟨z, hz, h1, h2⟩ := yc1_ok h (yflip o) a c
    exact ⟨c, g a, rfl, rfl, z, hz, h1, by rw [← h2, xcd_flip]⟩
  next a b =>
    refine ⟨g a, g b, rfl, rfl, ?_⟩
    split at e
    next =>
      cases e
      obtain ⟨z, hz, h1, h2⟩ := yc2_ok h a b false
      refine ⟨z, hz, h1, ?_⟩
      rw [← h2, Bool.bne_false]
      exact decide_eq_decide.mpr yn_le_iff
    next =>
      cases e
      obtain ⟨z, hz, h1, h2⟩ := yc2_ok h a b true
      refine ⟨z, hz, h1, ?_⟩
      rw [← h2, Bool.bne_true, ← decide_not]
      exact decide_eq_decide.mpr (yn_lt_iff.trans Nat.not_le.symm)
    next =>
      cases e
      obtain ⟨z, hz, h1, h2⟩ := yc2_ok h b a false
      refine ⟨z, hz, h1, ?_⟩
      rw [← h2, Bool.bne_false]
      exact decide_eq_decide.mpr yn_le_iff
    next =>
      cases e
      obtain ⟨z, hz, h1, h2⟩ := yc2_ok h b a true
      refine ⟨z, hz, h1, ?_⟩
      rw [← h2, Bool.bne_true, ← decide_not]
      exact decide_eq_decide.mpr (yn_lt_iff.trans Nat.not_le.symm)
    next => cases e
  next => cases e
/-- a branch on unknown numbers is the small machine's, whatever they are -/
theorem ybr_ok {E : yE} (h : yok g E) {i : Instr} {pc : Nat} {st r : List xV} {tgt : Nat} {bs : List (yE × Bool)} (e : ybr i E pc st = some (r, tgt, bs)) : ∃ z ∈ bs, yok g z.1 ∧ (∀ (rt : Option FieldType) (st2 : List xV), xret rt i st2 = none) ∧ ∀ (nL : Nat) (ops : List Nat) (l : xL) (A : xA), xs nL i ops pc l (ys_ g st) A = some ((match z.2 with | true => tgt | false => pc + 3), l, ys_ g r, A) := by
  have br : ∀ {b : Bool} {off : Int} {l : xL} {A : xA} {r2 : List xV}, 0 ≤ (pc : Int) + off → xbr b pc off l r2 A = some ((match b with | true => ((pc : Int) + off).toNat | false => pc + 3), l, r2, A) := by
    intro b off l A r2 hp
    unfold xbr
    rw [if_pos hp]
    cases b <;> rfl
  unfold ybr at e
  split at e
  next o off =>
    split at e
    next x r2 =>
      split at e
      next hp =>
        split at e
        next bs2 hc =>
          cases e
          obtain ⟨a, b, h1, h2, z, hz, h3, h4⟩ := ycmp_ok h hc
          refine ⟨z, hz, h3, fun _ _ => rfl, fun nL ops l A => xs_of2 rfl ?_⟩
          cases h2
          show xs2 (.ifCond o off) ops pc l (ysu g x :: ys_ g r) A = _
          rw [h1]
          show xbr (xcd o a 0) pc off l (ys_ g r) A = _
          rw [h4]
          exact br hp
        next => cases e
      next => cases e
    next => cases e
  next o off =>
    split at e
    next y x r2 =>
      split at e
      next hp =>
        split at e
        next bs2 hc =>
          cases e
          obtain ⟨a, b, h1, h2, z, hz, h3, h4⟩ := ycmp_ok h hc
          refine ⟨z, hz, h3, fun _ _ => rfl, fun nL ops l A => xs_of2 rfl ?_⟩
          show xs2 (.if_icmp o off) ops pc l (ysu g y :: ysu g x :: ys_ g r) A = _
          rw [h1, h2]
          show xbr (xcd o a b) pc off l (ys_ g r) A = _
          rw [h4]
          exact br hp
        next => cases e
      next => cases e
    next => cases e
  next => cases e
theorem yfixl_in {E : yE} (h : yok g E) {k lo : Nat} : ∀ (n : Nat), lo ≤ yn (g k) → yn (g k) < lo + n → ∃ z ∈ yfixl E k lo n, yok g z.1 ∧ z.2 = g k
  | 0, h1, h2 => absurd h2 (by omega)
  | n + 1, h1, h2 => by
    by_cases q : yn (g k) = lo + n
    · refine ⟨(((k, lo + n, lo + n + 1) :: E.1, E.2), yi (lo + n)), List.mem_cons_self, yok_in h ⟨by omega, by omega⟩, ?_⟩
      show yi (lo + n) = g k
      rw [← q, yi_yn]
    · obtain ⟨z, hz, h3⟩ := yfixl_in h n h1 (by omega)
      exact ⟨z, List.mem_cons_of_mem _ hz, h3⟩
theorem yfix_ok {E : yE} (h : yok g E) : ∀ {st : List xV} {fs : List (yE × List xV)}, yfix E st = some fs → ∃ z ∈ fs, yok g z.1 ∧ ys_ g z.2 = ys_ g st
  | [], fs, e => by cases e
  | v :: r, fs, e => by
    unfold yfix at e
    split at e
    next k r2 heq =>
      cases heq
      have hb := h.1 k
      generalize yiv E.1 k = w at hb e
      obtain ⟨lo, hi⟩ := w
      dsimp only at hb e
      split at e
      next =>
        cases e
        obtain ⟨z, hz, h1, h2⟩ := yfixl_in h (hi - lo) hb.1 (by omega)
        refine ⟨_, List.mem_map.mpr ⟨z, hz, rfl⟩, h1, ?_⟩
        show .inl (.int z.2) :: ys_ g r = .inl (.int (g k)) :: ys_ g r
        rw [h2]
      next => cases e
    next v2 r2 _ heq =>
      cases heq
      split at e
      next zs hzs =>
        cases e
        obtain ⟨z, hz, h1, h2⟩ := yfix_ok h hzs
        refine ⟨_, List.mem_map.mpr ⟨z, hz, rfl⟩, h1, ?_⟩
        show ysu g v :: ys_ g z.2 = ysu g v :: ys_ g r
        rw [h2]
      next => cases e
    next heq => cases heq
theorem ybind_in {α β : Type} {f : α → Option (List β)} : ∀ {xs : List α} {ys : List β}, ybind f xs = some ys → ∀ a ∈ xs, ∃ zs, f a = some zs ∧ ∀ z ∈ zs, z ∈ ys
  | [], _, _, a, ha => by cases ha
  | x :: r, ys, h, a, ha => by
    unfold ybind at h
    split at h
    next u hu =>
      split at h
      next v hv =>
        cases h
        rcases List.mem_cons.mp ha with rfl | ha
        · exact ⟨u, hu, fun z hz => List.mem_append_left _ hz⟩
        · obtain ⟨zs, h1, h2⟩ := ybind_in hv a ha
          exact ⟨zs, h1, fun z hz => List.mem_append_right _ (h2 z hz)⟩
      next => cases h
    next => cases h
def yres (g : Nat → Int32) : xR → xR
  | .inl v => .inl (v.map (ysu g))
  | .inr E => .inr E
/-- what a symbolic run says of the small machine -/
def ysays (g : Nat → Int32) (P : xPr) (d mid pc : Nat) (l : xL) (st : List xV) (A : xA) (outs : List (yE × xR × yT)) : Prop :=
  ∃ o ∈ outs, yok g o.1 ∧ ∃ (m : Nat) (A2 : xA), xrun P yct m d mid pc (yl g l) (ys_ g st) A = some (yres g o.2.1, A2) ∧ yR g o.2.2 A2
set_option maxHeartbeats 8000000 in
/-- THE SYMBOLIC MACHINE IS THE SMALL MACHINE'S, whatever the unknown numbers are -/
theorem yrun_ok {P : xPr} (hg : ygood g) : ∀ (n d mid pc : Nat) (l : xL) (st : List xV) (T : yT) (E : yE) (outs : List (yE × xR × yT)), yrun P n d mid pc l st T E = some outs → yok g E → ∀ A : xA, yR g T A → ysays g P d mid pc l st A outs := by
  intro n
  induction n with
  | zero =>
    intro d mid pc l st T E outs h
    cases h
  | succ n ih =>
    intro d mid pc l st T E outs h hE A hR
    unfold yrun at h
    split at h
    next => cases h
    next i ops hP =>
      split at h
      next v hv =>
        cases h
        refine ⟨_, List.mem_singleton.mpr rfl, hE, 1, A, ?_, hR⟩
        unfold xrun
        rw [hP]
        dsimp only
        rw [yret_ok (g := g) hv]
        rfl
      next hv =>
        split at h
        next X hX =>
          split at h
          next idx =>
            split at h
            next hc =>
              cases h
              refine ⟨_, List.mem_singleton.mpr rfl, hE, 1, (A.1, A.2.1 + 1, A.2.2.1 + 6, A.2.2.2), ?_, ⟨hR.1, Nat.add_le_add_right hR.2.1 1, Nat.add_le_add_right hR.2.2.1 6, hR.2.2.2⟩⟩
              unfold xrun
              rw [hP]
              show (match P.2.2.1 mid pc with
                | some E => if 8 ≤ d ∧ ((ys_ g st).map xcat).sum ≤ 8 then some ((Sum.inr E : xR), ((A.1, A.2.1 + 1, A.2.2.1 + 6, A.2.2.2) : xA)) else none
                | none => _) = _
              rw [hX]
              show (if 8 ≤ d ∧ ((ys_ g st).map xcat).sum ≤ 8 then some ((Sum.inr X : xR), ((A.1, A.2.1 + 1, A.2.2.1 + 6, A.2.2.2) : xA)) else none) = _
              rw [ys_sum, if_pos hc]
              rfl
            next => cases h
          next => cases h
        next hX =>
          split at h
          next z hz =>
            obtain ⟨pc2, l2, st2, T2⟩ := z
            obtain ⟨A2, hs, hR2⟩ := ys_ok hg hz hR
            obtain ⟨o, ho, ho1, m, A3, hx, hR3⟩ := ih _ _ _ _ _ _ _ _ h hE A2 hR2
            refine ⟨o, ho, ho1, m + 1, A3, ?_, hR3⟩
            unfold xrun
            rw [hP]
            dsimp only
            rw [ys_noret hz, hX]
            dsimp only
            rw [hs]
            exact hx
          next hz =>
            split at h
            next mid2 as rest d2 hinv =>
              split at h
              next hw =>
                split at h
                next => cases h
                next outs1 hcall =>
                  obtain ⟨o1, ho1, hok1, m1, A1, hx1, hR1⟩ := ih _ _ _ _ _ _ _ _ hcall hE A hR
                  obtain ⟨zs, hzs, hsub⟩ := ybind_in h o1 ho1
                  have hinv2 := yinv_ok hR hinv
                  rw [yl_xar] at hx1
                  have hstep : ∀ (m : Nat), m1 ≤ m → xrun P yct (m + 1) (d2 + 1) mid pc (yl g l) (ys_ g st) A = (match (yres g o1.2.1, A1) with
                    | (.inl v, A2) => xrun P yct m (d2 + 1) mid (pc + 3) (yl g l) (v.toList ++ ys_ g rest) A2
                    | (.inr E, A2) => match P.2.2.2 mid pc E with
                      | some (hpc, ln, k) => xrun P yct m (d2 + 1) mid (hpc + ln) (xrm (yl g l) k) [] A2
                      | none => if (P.2.1 mid).2.2.2.2 = [] then some (.inr E, A2) else none) := by
                    intro m hm
                    obtain ⟨k, rfl⟩ := Nat.exists_eq_add_of_le hm
                    have hx2 : xrun P yct (m1 + k) d2 mid2 0 (xar 0 (ys_ g as)) [] A = some (yres g o1.2.1, A1) := xrun_mono (k := k) hx1
                    rw [xrun, hP]
                    dsimp only
                    rw [xinv_noret hinv, hX]
                    dsimp only
                    rw [xinv_noxs hinv, hinv2]
                    dsimp only
                    rw [if_pos ⟨by rw [ys_sum]; exact hw.1, by rw [ys_sum]; exact hw.2⟩]
                    simp only [yct]
                    rw [hx2]
                    generalize yres g o1.2.1 = w
                    cases w <;> rfl
                  generalize hres : o1.2.1 = res at hzs hstep
                  cases res with
                  | inl v =>
                    dsimp only at hzs
                    obtain ⟨o, ho, hok, m2, A3, hx3, hR3⟩ := ih _ _ _ _ _ _ _ _ hzs hok1 A1 hR1
                    refine ⟨o, hsub o ho, hok, (m1 + m2) + 1, A3, ?_, hR3⟩
                    rw [hstep _ (Nat.le_add_right _ _)]
                    show xrun P yct (m1 + m2) (d2 + 1) mid (pc + 3) (yl g l) ((v.map (ysu g)).toList ++ ys_ g rest) A1 = _
                    have e1 : (v.map (ysu g)).toList ++ ys_ g rest = ys_ g (v.toList ++ rest) := by
                      cases v <;> rfl
                    rw [e1, Nat.add_comm m1 m2]
                    exact xrun_mono hx3
                  | inr X =>
                    dsimp only at hzs
                    split at hzs
                    next hpc ln k hh =>
                      obtain ⟨o, ho, hok, m2, A3, hx3, hR3⟩ := ih _ _ _ _ _ _ _ _ hzs hok1 A1 hR1
                      refine ⟨o, hsub o ho, hok, (m1 + m2) + 1, A3, ?_, hR3⟩
                      rw [hstep _ (Nat.le_add_right _ _)]
                      show (match P.2.2.2 mid pc X with
                        | some (hpc, ln, k) => xrun P yct (m1 + m2) (d2 + 1) mid (hpc + ln) (xrm (yl g l) k) [] A1
                        | none => if (P.2.1 mid).2.2.2.2 = [] then some (.inr X, A1) else none) = _
                      rw [hh]
                      show xrun P yct (m1 + m2) (d2 + 1) mid (hpc + ln) (xrm (yl g l) k) [] A1 = _
                      rw [yl_xrm, Nat.add_comm m1 m2]
                      exact xrun_mono hx3
                    next hh =>
                      split at hzs
                      next hnil =>
                        cases hzs
                        refine ⟨_, hsub _ (List.mem_singleton.mpr rfl), hok1, m1 + 1, A1, ?_, hR1⟩
                        rw [hstep _ (Nat.le_refl _)]
                        show (match P.2.2.2 mid pc X with
                          | some (hpc, ln, k) => xrun P yct m1 (d2 + 1) mid (hpc + ln) (xrm (yl g l) k) [] A1
                          | none => if (P.2.1 mid).2.2.2.2 = [] then some (.inr X, A1) else none) = _
                        rw [hh]
                        exact if_pos hnil
                      next => cases hzs
              next => cases h
            next =>
              split at h
              next z hz2 =>
                obtain ⟨r, tgt, bs⟩ := z
                obtain ⟨b, hb, hok, hnr, hs⟩ := ybr_ok hE hz2
                obtain ⟨zs, hzs, hsub⟩ := ybind_in h b hb
                obtain ⟨o, ho, ho1, m, A3, hx, hR3⟩ := ih _ _ _ _ _ _ _ _ hzs hok A hR
                refine ⟨o, hsub o ho, ho1, m + 1, A3, ?_, hR3⟩
                unfold xrun
                rw [hP]
                dsimp only
                rw [hnr, hX]
                dsimp only
                rw [hs]
                exact hx
              next =>
                split at h
                next fs hfs =>
                  obtain ⟨z, hz3, hok, hst⟩ := yfix_ok hE hfs
                  obtain ⟨zs, hzs, hsub⟩ := ybind_in h z hz3
                  obtain ⟨o, ho, ho1, m, A3, hx, hR3⟩ := ih _ _ _ _ _ _ _ _ hzs hok A hR
                  exact ⟨o, hsub o ho, ho1, m, A3, by rw [← hst]; exact hx, hR3⟩
                next => cases h
end YRUNOK
end
