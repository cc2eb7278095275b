section
/-! ===== BEGIN words of one list among another's, by their places ===== -/
theorem goodIn_r {big : List Cond} (ws : List Cond) (ps : List Nat) (hp : ws = ps.filterMap (fun i => big[i]?)) (h : ws.all goodWord = true) : GoodIn big ws := by
  intro w hw
  have h1 := List.all_eq_true.mp h w hw
  rw [hp] at hw
  obtain ⟨i, -, hi⟩ := List.mem_filterMap.mp hw
  have hm : w ∈ big := by first | exact List.mem_of_getElem? hi | exact List.getElem?_mem hi
  exact ⟨hm, good_of_word h1⟩
theorem goodIn_app {big a b : List Cond} (ha : GoodIn big a) (hb : GoodIn big b) : GoodIn big (a ++ b) := fun w h => (List.mem_append.mp h).elim (ha w) (hb w)
theorem goodIn_ca {big a b : List Cond} {c : Cond} (ha : GoodIn big (c :: a)) (hb : GoodIn big b) : GoodIn big (c :: (a ++ b)) := fun w h => (List.mem_cons.mp h).elim (fun e => ha w (List.mem_cons.mpr (Or.inl e))) (fun h => (List.mem_append.mp h).elim (fun h => ha w (List.mem_cons.mpr (Or.inr h))) (hb w))
theorem goodIn_sub {big ws : List Cond} (hm : ∀ w ∈ ws, w ∈ big) (h : ws.all goodWord = true) : GoodIn big ws := fun w hw => ⟨hm w hw, good_of_word (List.all_eq_true.mp h w hw)⟩
/-! ===== END ===== -/
/-! ===== BEGIN exceptions that leave a method, and their catching by the caller (launches without stack traces) ===== -/
section VXA
/-! The laws vx_back, vx_callV, vx_callS, vx_callSW, vx_throw0, vx_throwS follow proofs of the library, with one case more: JvmDerived/Free/Laws.lean (Back.of_free), Shelf42/LK1.lean (callV, callS), Shelf/KitTraced.lean (throwNew0V, throwNewS). -/
/-- where a method has thrown q: the class by its name, the cell, what was written, the world -/
def vx_T (XC : String → State → State → Prop) (st : State) (q : Addr) (t : State) (mc ms : Nat) (free : Addr → Prop) : Prop :=
  ∃ (E : String) (ce : Cell) (L : List Loc), XC E st t ∧ t.heap[q]? = some ce ∧ ce.vm = .none ∧ st.vm.findClass E = some ce.cls ∧ st.WarmedH t.vm ∧ st.sameButNew ({ t with vm := st.vm } : State) L mc ms ∧ ∀ z ∈ L, free z.base
def vx_Q (Qc : Array Value → State → Outcome → State → Prop) (XC : String → State → State → Prop) (mc ms : Nat) (free : Addr → Prop) : Array Value → State → Outcome → State → Prop := fun a st o t =>
  (Qc a st o t ∧ ∃ L, FrameEnd st o t L mc ms ∧ ∀ q ∈ L, free q.base) ∨ ∃ q, o = .threw q ∧ vx_T XC st q t mc ms free
/-- a callee that returns or throws -/
def vx_Met (l : Launch) (y : MethodName) (ws : List Cond) (rm : Room) (Pc : Array Value → State → Prop) (Qc : Array Value → State → Outcome → State → Prop) (XC : String → State → State → Prop) (mc ms : Nat) (free : Addr → Prop) : Prop :=
  MetFree l y (headSpec ws rm) Pc (fun _ _ _ _ _ => True) (vx_Q Qc XC mc ms free)
def vx_Post (XC : String → State → State → Prop) (mc ms : Nat) (free : Addr → Prop) : Pt → Array Value → Addr → Pt → Prop := fun A a q B =>
  ∃ (g : JFrame) (mk : MethodId) (t : State) (L : List Loc) (E : String) (ce : Cell), B.U.heap = t.heap ∧ B.U.vm = t.vm ∧ XC E (A.U.calling g mk a) t ∧ t.heap[q]? = some ce ∧ ce.vm = .none ∧ A.U.vm.findClass E = some ce.cls ∧ B.locs = A.locs ++ L ∧ (∀ z ∈ L, free z.base) ∧ B.cells = A.cells + mc ∧ B.slots = A.slots + ms
def vx_Back (l : Launch) (R : Room) (p : Program) (e : Env) (below : List Frame) (s : State) (sargs : Array Value) (y : MethodName) (len W9 : Nat)
    (Pre : Pt → Array Value → Prop) (Post : Pt → Array Value → Option Value → Pt → Prop) (PostX : Pt → Array Value → Addr → Pt → Prop) : Prop :=
  ∀ (m : MethodId) (meth : Method) (c : Code) (A : Pt) (g : JFrame) (ig : Instr) (mk : MethodId) (a : Array Value),
    Stand p l e R s m sargs below meth c A.U A.locs A.cells A.slots → g.method = m → g.locals.size = c.maxLocals → decode c.code g.pc = .ok (ig, len) →
    2 * g.monitorRoom + (g.stack.map fun v => v.category).sum ≤ W9 → A.U.methodNamed? y = some mk → Pre A a →
    (∃ (v : Option Value) (B : Pt), Stand p l e R s m sargs below meth c B.U B.locs B.cells B.slots ∧ Post A a v B ∧
      Steps p.tables e below (doInvoke e (A.U.setTop g) [] mk a).1 (B.U.setTop { g with pc := g.pc + len, stack := v.toList ++ g.stack })) ∨
    (∃ (q : Addr) (B : Pt), Stand p l e R s m sargs below meth c B.U B.locs B.cells B.slots ∧ PostX A a q B ∧
      Steps p.tables e below (doInvoke e (A.U.setTop g) [] mk a).1 ((B.U.setTop g).pushFrame (.throwing q)))
section Payer
variable {l : Launch} {R : Room} {p : Program} {e : Env} {below : List Frame} {s : State} {sargs : Array Value} {y : MethodName} {len W9 : Nat}
theorem vx_back {ws : List Cond} {rm : Room} {Pc : Array Value → State → Prop} {Qc : Array Value → State → Outcome → State → Prop} {XC : String → State → State → Prop} {mc ms : Nat} {free : Addr → Prop} {bytes : ByteArray} {maxL : Nat} {ret : Option FieldType}
    (hM : vx_Met l y ws rm Pc Qc XC mc ms free) (hblind : FrameBlind Pc) (hrc : rm.cells = mc) (hrs : rm.slots = ms)
    (hframes : rm.frames + 1 ≤ R.frames) (hlocals : W9 + (maxL + 11) + rm.locals ≤ R.locals)
    (hws : ∀ w ∈ ws, ∀ a' U, s.WarmedH U.vm → w.before a' U = true) (hcode : Cond.code y bytes maxL ret ∈ ws) (hinit : ∀ a' U, s.WarmedH U.vm → (Cond.initialized y.cls).before a' U = true) :
    vx_Back l R p e below s sargs y len W9 (PreOf R mc ms Pc) (PostOf Qc mc ms free) (vx_Post XC mc ms free) := by
  intro m meth c A g ig mk a X hg hsize hdg hW hn hp
  have h1 : (headSpec ws rm).pre.before a A.U = true := atoms_intro fun w hw => hws w hw _ _ X.warmed
  have h2 : (Cond.code y bytes maxL ret).before a A.U = true := hws _ hcode _ _ X.warmed
  have h3 : (Cond.initialized y.cls).before a A.U = true := hinit _ _ X.warmed
  have h4 : A.cells + (headSpec ws rm).room.cells ≤ R.cells := by rw [show (headSpec ws rm).room.cells = mc from hrc]; exact hp.1
  have h5 : A.slots + (headSpec ws rm).room.slots ≤ R.slots := by rw [show (headSpec ws rm).room.slots = ms from hrs]; exact hp.2.1
  have hPc : Pc a (A.U.calling g mk a) := hblind _ _ _ _ hp.2.2
  obtain ⟨U, Ls, c0, s0⟩ := A
  dsimp only [Pt.U, Pt.locs, Pt.cells, Pt.slots] at h1 h2 h3 h4 h5 X hn hPc ⊢
  obtain ⟨methY, cY, hmY, hcY, -, hlY, -, -, -, -⟩ := Cond.code_spec hn h2
  obtain ⟨kY, hkY, -⟩ := className_of_methodNamed hn
  have hinitY : kY.init = .initialized := Cond.initialized_spec (findClass_of_methodNamed hn) hkY h3
  have h : At U g.method c below := by rw [hg]; exact X.here
  have hlocals9 : W9 + (maxL + 11) + (headSpec ws rm).room.locals ≤ R.locals := hlocals
  have happ : (headSpec ws rm).appliesLoose y e.platform (U.calling g mk a) = true :=
    Spec.appliesLoose_calling (g := g) h hdg hn hkY hinitY
      (X.room_calling (g := g) (R' := (headSpec ws rm).room) hsize hmY hcY hframes (by rw [hlY]; omega) h4 h5) h1
  obtain ⟨mid, hmid⟩ := h.above
  have hfr : (U.setTop g).frames = (.java g :: mid) ++ below := by rw [State.frames_setTop' g h.top, hmid]; rfl
  obtain ⟨o, s₂, hsteps, -, hend, hq⟩ := Steps.callFree hM p X.admits X.cas X.clock (acts := []) hfr happ hPc trivial
  have hq' : vx_Q Qc XC mc ms free a (U.calling g mk a) o s₂ := hq
  rw [State.frames_setTop' g h.top] at hend
  obtain ⟨g₀, hg0⟩ := Option.isSome_iff_exists.mp h.top
  obtain ⟨r, hr⟩ := State.topJava?_eq_some.mp hg0
  have hr' : (({ U with heap := s₂.heap, slotsUsed := s₂.slotsUsed } : State).setVm s₂.vm).frames = .java g₀ :: r := hr
  rcases hq' with ⟨hqc, L, hfe, hL⟩ | ⟨q, rfl, E, ce, L, hx, hce, hcv, hcl, hW₂, hsm, hL⟩
  · obtain ⟨⟨v, rfl⟩, hW₂, e2, q2, q3, q4, q5, q6⟩ := id hfe
    have e3 : s₂ = ({ (U.calling g mk a).setFrames s₂.frames with heap := s₂.heap, slotsUsed := s₂.slotsUsed } : State).setVm s₂.vm := by
      have : s₂ = ({ s₂ with vm := (U.calling g mk a).vm } : State).setVm s₂.vm := rfl
      rw [e2] at this
      exact this
    obtain ⟨c₂, i₂, len₂, hc₂, hd₂, hf₂⟩ := hend
    have hW' : U.WarmedH s₂.vm := hW₂
    have hcc : c₂ = c := by
      have h1 : s₂.code? g.method = U.code? g.method := by
        rw [State.code?_eq, State.code?_eq, hW'.alike.method?]
      exact Option.some.inj (hc₂.symm.trans (h1.trans h.code))
    subst hcc
    have hlen : len₂ = len := by rw [hdg] at hd₂; cases hd₂; rfl
    subst hlen
    have hs₂ : s₂ = (({ U with heap := s₂.heap, slotsUsed := s₂.slotsUsed } : State).setVm s₂.vm).setTop { g with pc := g.pc + len₂, stack := v.toList ++ g.stack } := by
      refine e3.trans ?_
      rw [hf₂, State.calling_eq h.top, State.setFrames_setFrames, State.setTop_of_frames _ hr', hr]
      rfl
    have hsame : U.sameButNew ({ U with heap := s₂.heap, slotsUsed := s₂.slotsUsed } : State) L mc ms := by
      refine ⟨?_, q2, q3, q4, q5, q6⟩
      obtain ⟨t, ht, -⟩ := State.frames_cons hr
      show ({ U with heap := s₂.heap, slotsUsed := s₂.slotsUsed } : State) = { U.setFrames U.frames with heap := s₂.heap, slotsUsed := s₂.slotsUsed }
      rw [State.setFrames_self ht]
    subst hg
    refine Or.inl ⟨v, ⟨(({ U with heap := s₂.heap, slotsUsed := s₂.slotsUsed } : State).setVm s₂.vm), Ls ++ L, c0 + mc, s0 + ms⟩,
      ⟨X.admits, X.cas, X.clock, X.frames, X.room, X.hears, X.method, X.code, (X.here.setHeapUsed s₂.heap s₂.slotsUsed).setVm hW'.alike, X.tail, State.WarmedH.trans X.warmed hW', X.limits, X.bytes, X.same.trans (hsame.setVm s.vm)⟩,
      ⟨g, mk, s₂, L, rfl, rfl, hqc, rfl, hL, rfl, rfl⟩, ?_⟩
    show Steps p.tables e below _ ((({ U with heap := s₂.heap, slotsUsed := s₂.slotsUsed } : State).setVm s₂.vm).setTop { g with pc := g.pc + len₂, stack := v.toList ++ g.stack })
    rw [← hs₂]
    exact hsteps
  · obtain ⟨e2, q2, q3, q4, q5, q6⟩ := id hsm
    have e3 : s₂ = ({ (U.calling g mk a).setFrames s₂.frames with heap := s₂.heap, slotsUsed := s₂.slotsUsed } : State).setVm s₂.vm := by
      have : s₂ = ({ s₂ with vm := (U.calling g mk a).vm } : State).setVm s₂.vm := rfl
      rw [e2] at this
      exact this
    have hf₂ : s₂.frames = .throwing q :: .java g :: U.frames.tail := hend
    have hW' : U.WarmedH s₂.vm := hW₂
    have hs₂ : s₂ = ((({ U with heap := s₂.heap, slotsUsed := s₂.slotsUsed } : State).setVm s₂.vm).setTop g).pushFrame (.throwing q) := by
      refine e3.trans ?_
      rw [hf₂, State.calling_eq h.top, State.setFrames_setFrames, State.pushFrame, State.frames_setTop _ hr', State.setTop_of_frames _ hr', State.setFrames_setFrames, hr]
      rfl
    have hsame : U.sameButNew ({ U with heap := s₂.heap, slotsUsed := s₂.slotsUsed } : State) L mc ms := by
      refine ⟨?_, q2, q3, q4, q5, q6⟩
      obtain ⟨t, ht, -⟩ := State.frames_cons hr
      show ({ U with heap := s₂.heap, slotsUsed := s₂.slotsUsed } : State) = { U.setFrames U.frames with heap := s₂.heap, slotsUsed := s₂.slotsUsed }
      rw [State.setFrames_self ht]
    subst hg
    refine Or.inr ⟨q, ⟨(({ U with heap := s₂.heap, slotsUsed := s₂.slotsUsed } : State).setVm s₂.vm), Ls ++ L, c0 + mc, s0 + ms⟩,
      ⟨X.admits, X.cas, X.clock, X.frames, X.room, X.hears, X.method, X.code, (X.here.setHeapUsed s₂.heap s₂.slotsUsed).setVm hW'.alike, X.tail, State.WarmedH.trans X.warmed hW', X.limits, X.bytes, X.same.trans (hsame.setVm s.vm)⟩,
      ⟨g, mk, s₂, L, E, ce, rfl, rfl, hx, hce, hcv, hcl, rfl, hL, rfl, rfl⟩, ?_⟩
    show Steps p.tables e below _ (((({ U with heap := s₂.heap, slotsUsed := s₂.slotsUsed } : State).setVm s₂.vm).setTop g).pushFrame (.throwing q))
    rw [← hs₂]
    exact hsteps
end Payer
section Calls
variable {p : Program} {l : Launch} {e : Env} {R : Room} {s : State} {m : MethodId} {args : Array Value} {below : List Frame} {meth : Method} {c : Code} {T : State} {locs : List Loc} {cells slots : Nat}
theorem vx_callV (X : Stand p l e R s m args below meth c T locs cells slots) (hexec : p.tables.exec = Jvm.exec) {own C : String} {index : Nat} {y : MethodName} {bytes : ByteArray} {maxL : Nat} {ret : Option FieldType}
    (hown : s.vm.findClass own = some m.cls) (hlink : (Cond.methodLink own index y).before args s = true) (hinst : (Cond.instanceMethod y).before args s = true) (hsel : (Cond.selects C y y).before args s = true)
    (hcode : (Cond.code y bytes maxL ret).before args s = true) (hy : y.cls ≠ "java/lang/invoke/MethodHandle" ∧ y.cls ≠ "java/lang/invoke/VarHandle")
    {W9 : Nat} {Pre : Pt → Array Value → Prop} {Post : Pt → Array Value → Option Value → Pt → Prop} {PostX : Pt → Array Value → Addr → Pt → Prop} (hK : vx_Back l R p e below s args y 3 W9 Pre Post PostX)
    {b : Addr} {cellB : Cell} (hcell : T.heap[b]? = some cellB) (hobj : cellB.vm.isStatics = false) (hcls : s.vm.findClass C = some cellB.cls)
    {g : JFrame} (hg : g.method = m) (hsize : g.locals.size = c.maxLocals) {argsL rest : List Value} (hlen : ∀ sig, parseMethodDescriptor y.desc = some sig → argsL.length = sig.parameters.length)
    (hstack : g.stack = argsL.reverse ++ .ref b :: rest) (hW : 2 * g.monitorRoom + (rest.map fun v => v.category).sum ≤ W9) (hdg : decode c.code g.pc = .ok (.invokevirtual index, 3))
    (hpre : ∀ vm₁, s.WarmedH vm₁ → Pre ⟨T.setVm vm₁, locs, cells, slots⟩ (Value.ref b :: argsL).toArray) :
    (∃ (v : Option Value) (vm₁ : Vm) (B : Pt), s.WarmedH vm₁ ∧ Stand p l e R s m args below meth c B.U B.locs B.cells B.slots ∧ Post ⟨T.setVm vm₁, locs, cells, slots⟩ (Value.ref b :: argsL).toArray v B ∧
      ∀ target, Steps p.tables e below (B.U.setTop { g with pc := g.pc + 3, stack := v.toList ++ rest }) target → Steps p.tables e below (T.setTop g) target) ∨
    (∃ (q : Addr) (vm₁ : Vm) (B : Pt), s.WarmedH vm₁ ∧ Stand p l e R s m args below meth c B.U B.locs B.cells B.slots ∧ PostX ⟨T.setVm vm₁, locs, cells, slots⟩ (Value.ref b :: argsL).toArray q B ∧
      Steps p.tables e below (T.setTop g) ((B.U.setTop { g with stack := rest }).pushFrame (.throwing q))) := by
  obtain ⟨mk, methM, hnamed, hmethM, hstM, habM⟩ := Cond.instanceMethod_spec hinst
  obtain ⟨methM', cM, hmethM', -, -, -, -, -, -, hsigM⟩ := Cond.code_spec hnamed hcode
  cases hmethM.symm.trans hmethM'
  obtain ⟨c2, r2, m2, q1, q2, q3, q4, kP, hkP, hkPi⟩ := Cond.selects_spec hsel
  cases hcls.symm.trans q1
  cases (State.methodFound?_of_named hnamed hy).symm.trans q2
  cases hnamed.symm.trans q3
  have hselP : selectMethod e.platform s.vm cellB.cls mk = .method mk := by rw [Launch.admits_selectMethod X.admits]; exact q4
  obtain ⟨vm₁, X₁, hstep₁⟩ := X.invokevirtual hexec hown hlink hnamed hmethM hstM hkP hkPi hy (a := b) (cell := cellB) hcell
    (fun z h => by rw [h] at hobj; cases hobj) hselP hmethM habM hkP hkPi (g := g) hg (argsL := argsL) (rest := rest) (hlen _ hsigM) hstack hdg
  rcases hK m meth c ⟨T.setVm vm₁, locs, cells, slots⟩ { g with stack := rest } (.invokevirtual index) mk (Value.ref b :: argsL).toArray X₁ hg hsize hdg hW (X₁.named hnamed) (hpre vm₁ X₁.warmed) with ⟨v, B, X', hpost, hsteps⟩ | ⟨q, B, X', hpost, hsteps⟩
  · exact Or.inl ⟨v, vm₁, B, X₁.warmed, X', hpost, fun target h => hstep₁ _ fun acts => by rw [doInvoke_state]; exact hsteps.trans h⟩
  · exact Or.inr ⟨q, vm₁, B, X₁.warmed, X', hpost, hstep₁ _ fun acts => by rw [doInvoke_state]; exact hsteps⟩
theorem vx_callS (X : Stand p l e R s m args below meth c T locs cells slots) (hexec : p.tables.exec = Jvm.exec) {own : String} {index : Nat} {y : MethodName} {bytes : ByteArray} {maxL : Nat} {ret : Option FieldType}
    (hown : s.vm.findClass own = some m.cls) (hlink : (Cond.methodLink own index y).before args s = true) (hstat : (Cond.static y).before args s = true) (hinit : (Cond.initialized y.cls).before args s = true)
    (hcode : (Cond.code y bytes maxL ret).before args s = true) (hy : y.cls ≠ "java/lang/invoke/MethodHandle" ∧ y.cls ≠ "java/lang/invoke/VarHandle")
    {W9 : Nat} {Pre : Pt → Array Value → Prop} {Post : Pt → Array Value → Option Value → Pt → Prop} {PostX : Pt → Array Value → Addr → Pt → Prop} (hK : vx_Back l R p e below s args y 3 W9 Pre Post PostX)
    {g : JFrame} (hg : g.method = m) (hsize : g.locals.size = c.maxLocals) {argsL rest : List Value} (hlen : ∀ sig, parseMethodDescriptor y.desc = some sig → argsL.length = sig.parameters.length)
    (hstack : g.stack = argsL.reverse ++ rest) (hW : 2 * g.monitorRoom + (rest.map fun v => v.category).sum ≤ W9) (hdg : decode c.code g.pc = .ok (.invokestatic index, 3))
    (hpre : ∀ vm₁, s.WarmedH vm₁ → Pre ⟨T.setVm vm₁, locs, cells, slots⟩ argsL.toArray) :
    (∃ (v : Option Value) (vm₁ : Vm) (B : Pt), s.WarmedH vm₁ ∧ Stand p l e R s m args below meth c B.U B.locs B.cells B.slots ∧ Post ⟨T.setVm vm₁, locs, cells, slots⟩ argsL.toArray v B ∧
      ∀ target, Steps p.tables e below (B.U.setTop { g with pc := g.pc + 3, stack := v.toList ++ rest }) target → Steps p.tables e below (T.setTop g) target) ∨
    (∃ (q : Addr) (vm₁ : Vm) (B : Pt), s.WarmedH vm₁ ∧ Stand p l e R s m args below meth c B.U B.locs B.cells B.slots ∧ PostX ⟨T.setVm vm₁, locs, cells, slots⟩ argsL.toArray q B ∧
      Steps p.tables e below (T.setTop g) ((B.U.setTop { g with stack := rest }).pushFrame (.throwing q))) := by
  obtain ⟨mk, hnamed⟩ := Cond.code_named hcode
  obtain ⟨methM, cM, hmethM, -, -, -, -, -, -, hsigM⟩ := Cond.code_spec hnamed hcode
  have hstatic : methM.isStatic = true := Cond.static_spec hnamed hmethM hstat
  obtain ⟨kP, hkP, -⟩ := className_of_methodNamed hnamed
  have hinitP : kP.init = .initialized := Cond.initialized_spec (findClass_of_methodNamed hnamed) hkP hinit
  obtain ⟨vm₁, X₁, hstep₁⟩ := X.invokestatic hexec hown hlink hnamed hmethM hstatic hkP hinitP hy (g := g) hg (argsL := argsL) (rest := rest) (hlen _ hsigM) hstack hdg
  rcases hK m meth c ⟨T.setVm vm₁, locs, cells, slots⟩ { g with stack := rest } (.invokestatic index) mk argsL.toArray X₁ hg hsize hdg hW (X₁.named hnamed) (hpre vm₁ X₁.warmed) with ⟨v, B, X', hpost, hsteps⟩ | ⟨q, B, X', hpost, hsteps⟩
  · exact Or.inl ⟨v, vm₁, B, X₁.warmed, X', hpost, fun target h => hstep₁ _ fun acts => by rw [doInvoke_state]; exact hsteps.trans h⟩
  · exact Or.inr ⟨q, vm₁, B, X₁.warmed, X', hpost, hstep₁ _ fun acts => by rw [doInvoke_state]; exact hsteps⟩
end Calls
theorem vx_cls {s : State} {T : State} {vm₁ : Vm} {E : String} {k : ClassId} (hW : s.WarmedH vm₁) (h : (T.setVm vm₁).vm.findClass E = some k) : s.vm.findClass E = some k := by
  have h1 : vm₁.findClass E = some k := h
  rw [hW.alike.findClass] at h1
  exact h1
/-- the method's frame g, with q thrown over it -/
def vx_W (p : Program) (l : Launch) (e : Env) (R : Room) (s : State) (m : MethodId) (args : Array Value) (below : List Frame) (meth : Method) (c : Code) (H : Heap) (locs : List Loc) (cells slots : Nat) (Q : State → Prop) (g : JFrame) (q : Addr) : Prop :=
  ∀ T : State, T.heap = H → Stand p l e R s m args below meth c T locs cells slots → ∃ t, Steps p.tables e below ((T.setTop g).pushFrame (.throwing q)) t ∧ Q t
def vx_Run (p : Program) (l : Launch) (e : Env) (R : Room) (s : State) (m : MethodId) (args : Array Value) (below : List Frame) (meth : Method) (c : Code) (H : Heap) (locs : List Loc) (cells slots mc ms : Nat) (g : JFrame) (rest : List Value) (Qa : State → Outcome → State → Prop) (XC : String → State → State → Prop) (free : Addr → Prop) : Prop :=
  ∀ T : State, T.heap = H → Stand p l e R s m args below meth c T locs cells slots →
    (∃ (v : Option Value) (st₀ t T' : State) (L : List Loc), st₀.heap = H ∧ Stand p l e R s m args below meth c T' (locs ++ L) (cells + mc) (slots + ms) ∧ (∀ q ∈ L, free q.base) ∧ T'.heap = t.heap ∧ T'.vm = t.vm ∧ Qa st₀ (.returned v) t ∧
      Goes p e below T g T' { g with pc := g.pc + 3, stack := v.toList ++ rest }) ∨
    (∃ (q : Addr) (st₀ t T' : State) (L : List Loc) (E : String) (ce : Cell), st₀.heap = H ∧ Stand p l e R s m args below meth c T' (locs ++ L) (cells + mc) (slots + ms) ∧ (∀ z ∈ L, free z.base) ∧ T'.heap = t.heap ∧ T'.vm = t.vm ∧ XC E st₀ t ∧ t.heap[q]? = some ce ∧ ce.vm = .none ∧ s.vm.findClass E = some ce.cls ∧
      Steps p.tables e below (T.setTop g) ((T'.setTop { g with stack := rest }).pushFrame (.throwing q)))
def vx_X {S : Type} (px : S → Prop) (B : String → S → State → Prop) (A : Nat → Prop) : String → State → State → Prop := fun E st t => ∃ u : S, px u ∧ B E u t ∧ va_F A st t
section Runs
variable {p : Program} {l : Launch} {e : Env} {R : Room} {s : State} {m : MethodId} {args : Array Value} {below : List Frame} {meth : Method} {c : Code} {H : Heap} {locs : List Loc} {cells slots : Nat}
variable {y : MethodName} {bytes cc : ByteArray} {maxL nL mc ms n index : Nat} {ret : Option FieldType} {ws : List Cond} {rm : Room} {Pc : Array Value → State → Prop} {Qc : Array Value → State → Outcome → State → Prop} {XC : String → State → State → Prop} {free : Addr → Prop} {Ts : List Cond} {own C : String} {b : Addr} {As rest : List Value} {g : JFrame}
theorem vx_callBack (cb : CallB R s args own index y bytes maxL ret ws rm mc ms n) (hM : vx_Met l y ws rm Pc Qc XC mc ms free) (hbl : FrameBlind Pc) : vx_Back l R p e below s args y 3 8 (PreOf R mc ms Pc) (PostOf Qc mc ms free) (vx_Post XC mc ms free) := by
  obtain ⟨hrc, hrs, hfr, hlo, hws, hcw, -, hini, -⟩ := cb
  exact vx_back (bytes := bytes) (maxL := maxL) (ret := ret) hM hbl hrc hrs hfr hlo hws hcw (fun a' U hW => word_at hW (Or.inl (by first | rfl | simp [Cond.onTables, Cond.keeps, Cond.steady])) hini)
theorem vx_runV (S : CallFix p m c cc nL s args Ts own) (hM : vx_Met l y ws rm Pc Qc XC mc ms free) (cw : CallW R s args own C index y bytes maxL ret ws rm mc ms n) (hp : PreV s H C b Pc As)
    (hg : g.method = m) (hn : As.length = n) (hsize : g.locals.size = nL) (hstack : g.stack = As.reverse ++ .ref b :: rest) (hW : 2 * g.monitorRoom + (rest.map fun v => v.category).sum ≤ 8) (hdg : decode cc g.pc = .ok (.invokevirtual index, 3)) (hf : cells + mc ≤ R.cells ∧ slots + ms ≤ R.slots) :
    vx_Run p l e R s m args below meth c H locs cells slots mc ms g rest (Qc (Value.ref b :: As).toArray) XC free := by
  have hK : vx_Back l R p e below s args y 3 8 (PreOf R mc ms Pc) (PostOf Qc mc ms free) (vx_Post XC mc ms free) := vx_callBack cw.1 hM hp.1
  obtain ⟨⟨-, -, -, -, -, -, hcode, -, hy, hlen, hl⟩, hin, hse⟩ := cw
  obtain ⟨hx, hb, hml, ho, -⟩ := S
  obtain ⟨-, ⟨cellB, hcB, hoB, hclB⟩, hPc⟩ := hp
  intro T hT X
  rcases vx_callV X hx (C := C) (bytes := bytes) (maxL := maxL) (ret := ret) ho hl hin hse hcode hy hK (by rw [hT]; exact hcB) hoB hclB hg (hsize.trans hml.symm) (argsL := As) (rest := rest) (fun sig h => hn.trans (hlen sig h)) hstack hW (by rw [hb]; exact hdg)
    (fun vm₁ hW₁ => ⟨hf.1, hf.2, hPc (T.setVm vm₁) hT hW₁⟩) with ⟨v, vm₁, ⟨U', l2, c2, s2⟩, hW₁, X', ⟨g', mk, t, L, e1, e2, hq, h1, hL, h2, h3⟩, st⟩ | ⟨q, vm₁, ⟨U', l2, c2, s2⟩, hW₁, X', ⟨g', mk, t, L, E, ce, e1, e2, hq, hce, hcv, hcl, h1, hL, h2, h3⟩, st⟩
  · dsimp only [Pt.U, Pt.locs, Pt.cells, Pt.slots] at X' e1 e2 h1 h2 h3 st
    subst h1; subst h2; subst h3
    exact Or.inl ⟨v, (T.setVm vm₁).calling g' mk (Value.ref b :: As).toArray, t, U', L, hT, X', hL, e1, e2, hq, st⟩
  · dsimp only [Pt.U, Pt.locs, Pt.cells, Pt.slots] at X' e1 e2 h1 h2 h3 st hcl
    subst h1; subst h2; subst h3
    exact Or.inr ⟨q, (T.setVm vm₁).calling g' mk (Value.ref b :: As).toArray, t, U', L, E, ce, hT, X', hL, e1, e2, hq, hce, hcv, vx_cls hW₁ hcl, st⟩
theorem vx_runS (S : CallFix p m c cc nL s args Ts own) (hM : vx_Met l y ws rm Pc Qc XC mc ms free) (cw : CallB R s args own index y bytes maxL ret ws rm mc ms n ∧ (Cond.static y).before args s = true) (hp : PreS s H Pc As)
    (hg : g.method = m) (hn : As.length = n) (hsize : g.locals.size = nL) (hstack : g.stack = As.reverse ++ rest) (hW : 2 * g.monitorRoom + (rest.map fun v => v.category).sum ≤ 8) (hdg : decode cc g.pc = .ok (.invokestatic index, 3)) (hf : cells + mc ≤ R.cells ∧ slots + ms ≤ R.slots) :
    vx_Run p l e R s m args below meth c H locs cells slots mc ms g rest (Qc As.toArray) XC free := by
  have hK : vx_Back l R p e below s args y 3 8 (PreOf R mc ms Pc) (PostOf Qc mc ms free) (vx_Post XC mc ms free) := vx_callBack cw.1 hM hp.1
  obtain ⟨⟨-, -, -, -, -, -, hcode, hini, hy, hlen, hl⟩, hstt⟩ := cw
  obtain ⟨hx, hb, hml, ho, -⟩ := S
  intro T hT X
  rcases vx_callS X hx (bytes := bytes) (maxL := maxL) (ret := ret) ho hl hstt hini hcode hy hK hg (hsize.trans hml.symm) (argsL := As) (rest := rest) (fun sig h => hn.trans (hlen sig h)) hstack hW (by rw [hb]; exact hdg)
    (fun vm₁ hW₁ => ⟨hf.1, hf.2, hp.2 (T.setVm vm₁) hT hW₁⟩) with ⟨v, vm₁, ⟨U', l2, c2, s2⟩, hW₁, X', ⟨g', mk, t, L, e1, e2, hq, h1, hL, h2, h3⟩, st⟩ | ⟨q, vm₁, ⟨U', l2, c2, s2⟩, hW₁, X', ⟨g', mk, t, L, E, ce, e1, e2, hq, hce, hcv, hcl, h1, hL, h2, h3⟩, st⟩
  · dsimp only [Pt.U, Pt.locs, Pt.cells, Pt.slots] at X' e1 e2 h1 h2 h3 st
    subst h1; subst h2; subst h3
    exact Or.inl ⟨v, (T.setVm vm₁).calling g' mk As.toArray, t, U', L, hT, X', hL, e1, e2, hq, st⟩
  · dsimp only [Pt.U, Pt.locs, Pt.cells, Pt.slots] at X' e1 e2 h1 h2 h3 st hcl
    subst h1; subst h2; subst h3
    exact Or.inr ⟨q, (T.setVm vm₁).calling g' mk As.toArray, t, U', L, E, ce, hT, X', hL, e1, e2, hq, hce, hcv, vx_cls hW₁ hcl, st⟩
end Runs
section Rows
variable {p : Program} {l : Launch} {e : Env} {R : Room} {s : State} {m : MethodId} {args : Array Value} {below : List Frame} {meth : Method} {c : Code} {H : Heap} {locs : List Loc} {cells slots : Nat} {Q : State → Prop}
variable {mc ms : Nat} {free : Addr → Prop} {A0 A1 : Nat → Prop} {H0 : Heap} {a : Array Value} {pc : Nat} {ls : Array Slot} {st0 rest : List Value}
theorem vx_keep {st₀ t T' : State} {L : List Loc} (h0 : st₀.heap = H) (e1 : T'.heap = t.heap) (hS : va_S A0 H0 H locs) (hA : ∀ q, q < H.size → A1 q → A0 q) (hf : ∀ q, free q → A0 q) (hL : ∀ q ∈ L, free q.base) (hF : va_F A1 st₀ t) :
    H.size ≤ T'.heap.size ∧ (∀ q : Nat, q < H.size → ¬ A1 q → T'.heap[q]? = H[q]?) ∧ va_S A0 H0 T'.heap (locs ++ L) := by
  obtain ⟨hz, hk⟩ := hF
  rw [h0] at hz hk
  exact ⟨by rw [e1]; exact hz, fun q h1 h2 => by rw [e1]; exact hk q h1 h2,
    ⟨Nat.le_trans hS.1 (by rw [e1]; exact hz), fun q h1 h2 => by rw [e1, hk q (Nat.lt_of_lt_of_le h1 hS.1) (fun z => h2 (hA q (Nat.lt_of_lt_of_le h1 hS.1) z))]; exact hS.2.1 q h1 h2, fun q hq => by
      rcases List.mem_append.mp hq with h | h
      · exact hS.2.2 q h
      · exact hf _ (hL q h)⟩⟩
theorem vx_calli {S SX : Type} {post : Int32 → S → Prop} {px : SX → Prop} {B : S → State → Prop} {BX : String → SX → State → Prop} {AX : Nat → Prop} (hr : vx_Run p l e R s m args below meth c H locs cells slots mc ms (F0 m pc ls st0) rest (va_Qi post B A1 a) (vx_X px BX AX) free) (hS : va_S A0 H0 H locs) (hA : ∀ q, q < H.size → A1 q → A0 q) (hf : ∀ q, free q → A0 q) (hAX : ∀ q, q < H.size → AX q → A0 q)
    (kx : ∀ (E : String) (ce : Cell) (q9 : Addr) (u : SX) (t : State) (H1 : Heap) (locs1 : List Loc), t.heap = H1 → s.vm.Alike t.vm → px u → BX E u t → H.size ≤ H1.size → (∀ q : Nat, q < H.size → ¬ AX q → H1[q]? = H[q]?) → va_S A0 H0 H1 locs1 → H1[q9]? = some ce → ce.vm = .none → s.vm.findClass E = some ce.cls → vx_W p l e R s m args below meth c H1 locs1 (cells + mc) (slots + ms) Q (F0 m pc ls rest) q9)
    (kk : ∀ (r : Int32) (u : S) (t : State) (H1 : Heap) (locs1 : List Loc), t.heap = H1 → s.vm.Alike t.vm → post r u → B u t → H.size ≤ H1.size → (∀ q : Nat, q < H.size → ¬ A1 q → H1[q]? = H[q]?) → va_S A0 H0 H1 locs1 → W p l e R s m args below meth c H1 locs1 (cells + mc) (slots + ms) Q (F0 m (pc + 3) ls (.int r :: rest))) : W p l e R s m args below meth c H locs cells slots Q (F0 m pc ls st0) := by
  intro T hT X
  rcases hr T hT X with ⟨v, st₀, t, T', L, h0, X', hL, e1, e2, ⟨⟨r, u, hv, hp, hb⟩, hF⟩, st⟩ | ⟨q, st₀, t, T', L, E, ce, h0, X', hL, e1, e2, ⟨u, hp, hb, hF⟩, hce, hcv, hcl, st⟩
  · cases hv
    obtain ⟨k1, k2, k3⟩ := vx_keep h0 e1 hS hA hf hL hF
    obtain ⟨t2, a1, b1⟩ := kk r u t T'.heap (locs ++ L) e1.symm (by rw [← e2]; exact X'.warmed.alike) hp hb k1 k2 k3 T' rfl X'
    exact ⟨t2, st t2 a1, b1⟩
  · obtain ⟨k1, k2, k3⟩ := vx_keep h0 e1 hS hAX hf hL hF
    obtain ⟨t2, a1, b1⟩ := kx E ce q u t T'.heap (locs ++ L) e1.symm (by rw [← e2]; exact X'.warmed.alike) hp hb k1 k2 k3 (by rw [e1]; exact hce) hcv hcl T' rfl X'
    exact ⟨t2, st.trans a1, b1⟩
theorem vx_calll {S SX : Type} {post : Int64 → S → Prop} {px : SX → Prop} {B : S → State → Prop} {BX : String → SX → State → Prop} {AX : Nat → Prop} (hr : vx_Run p l e R s m args below meth c H locs cells slots mc ms (F0 m pc ls st0) rest (va_Ql post B A1 a) (vx_X px BX AX) free) (hS : va_S A0 H0 H locs) (hA : ∀ q, q < H.size → A1 q → A0 q) (hf : ∀ q, free q → A0 q) (hAX : ∀ q, q < H.size → AX q → A0 q)
    (kx : ∀ (E : String) (ce : Cell) (q9 : Addr) (u : SX) (t : State) (H1 : Heap) (locs1 : List Loc), t.heap = H1 → s.vm.Alike t.vm → px u → BX E u t → H.size ≤ H1.size → (∀ q : Nat, q < H.size → ¬ AX q → H1[q]? = H[q]?) → va_S A0 H0 H1 locs1 → H1[q9]? = some ce → ce.vm = .none → s.vm.findClass E = some ce.cls → vx_W p l e R s m args below meth c H1 locs1 (cells + mc) (slots + ms) Q (F0 m pc ls rest) q9)
    (kk : ∀ (r : Int64) (u : S) (t : State) (H1 : Heap) (locs1 : List Loc), t.heap = H1 → s.vm.Alike t.vm → post r u → B u t → H.size ≤ H1.size → (∀ q : Nat, q < H.size → ¬ A1 q → H1[q]? = H[q]?) → va_S A0 H0 H1 locs1 → W p l e R s m args below meth c H1 locs1 (cells + mc) (slots + ms) Q (F0 m (pc + 3) ls (.long r :: rest))) : W p l e R s m args below meth c H locs cells slots Q (F0 m pc ls st0) := by
  intro T hT X
  rcases hr T hT X with ⟨v, st₀, t, T', L, h0, X', hL, e1, e2, ⟨⟨r, u, hv, hp, hb⟩, hF⟩, st⟩ | ⟨q, st₀, t, T', L, E, ce, h0, X', hL, e1, e2, ⟨u, hp, hb, hF⟩, hce, hcv, hcl, st⟩
  · cases hv
    obtain ⟨k1, k2, k3⟩ := vx_keep h0 e1 hS hA hf hL hF
    obtain ⟨t2, a1, b1⟩ := kk r u t T'.heap (locs ++ L) e1.symm (by rw [← e2]; exact X'.warmed.alike) hp hb k1 k2 k3 T' rfl X'
    exact ⟨t2, st t2 a1, b1⟩
  · obtain ⟨k1, k2, k3⟩ := vx_keep h0 e1 hS hAX hf hL hF
    obtain ⟨t2, a1, b1⟩ := kx E ce q u t T'.heap (locs ++ L) e1.symm (by rw [← e2]; exact X'.warmed.alike) hp hb k1 k2 k3 (by rw [e1]; exact hce) hcv hcl T' rfl X'
    exact ⟨t2, st.trans a1, b1⟩
theorem vx_callf {S SX : Type} {post : UInt32 → S → Prop} {px : SX → Prop} {B : S → State → Prop} {BX : String → SX → State → Prop} {AX : Nat → Prop} (hr : vx_Run p l e R s m args below meth c H locs cells slots mc ms (F0 m pc ls st0) rest (va_Qf post B A1 a) (vx_X px BX AX) free) (hS : va_S A0 H0 H locs) (hA : ∀ q, q < H.size → A1 q → A0 q) (hf : ∀ q, free q → A0 q) (hAX : ∀ q, q < H.size → AX q → A0 q)
    (kx : ∀ (E : String) (ce : Cell) (q9 : Addr) (u : SX) (t : State) (H1 : Heap) (locs1 : List Loc), t.heap = H1 → s.vm.Alike t.vm → px u → BX E u t → H.size ≤ H1.size → (∀ q : Nat, q < H.size → ¬ AX q → H1[q]? = H[q]?) → va_S A0 H0 H1 locs1 → H1[q9]? = some ce → ce.vm = .none → s.vm.findClass E = some ce.cls → vx_W p l e R s m args below meth c H1 locs1 (cells + mc) (slots + ms) Q (F0 m pc ls rest) q9)
    (kk : ∀ (r : UInt32) (u : S) (t : State) (H1 : Heap) (locs1 : List Loc), t.heap = H1 → s.vm.Alike t.vm → post r u → B u t → H.size ≤ H1.size → (∀ q : Nat, q < H.size → ¬ A1 q → H1[q]? = H[q]?) → va_S A0 H0 H1 locs1 → W p l e R s m args below meth c H1 locs1 (cells + mc) (slots + ms) Q (F0 m (pc + 3) ls (.float r :: rest))) : W p l e R s m args below meth c H locs cells slots Q (F0 m pc ls st0) := by
  intro T hT X
  rcases hr T hT X with ⟨v, st₀, t, T', L, h0, X', hL, e1, e2, ⟨⟨r, u, hv, hp, hb⟩, hF⟩, st⟩ | ⟨q, st₀, t, T', L, E, ce, h0, X', hL, e1, e2, ⟨u, hp, hb, hF⟩, hce, hcv, hcl, st⟩
  · cases hv
    obtain ⟨k1, k2, k3⟩ := vx_keep h0 e1 hS hA hf hL hF
    obtain ⟨t2, a1, b1⟩ := kk r u t T'.heap (locs ++ L) e1.symm (by rw [← e2]; exact X'.warmed.alike) hp hb k1 k2 k3 T' rfl X'
    exact ⟨t2, st t2 a1, b1⟩
  · obtain ⟨k1, k2, k3⟩ := vx_keep h0 e1 hS hAX hf hL hF
    obtain ⟨t2, a1, b1⟩ := kx E ce q u t T'.heap (locs ++ L) e1.symm (by rw [← e2]; exact X'.warmed.alike) hp hb k1 k2 k3 (by rw [e1]; exact hce) hcv hcl T' rfl X'
    exact ⟨t2, st.trans a1, b1⟩
theorem vx_calld {S SX : Type} {post : UInt64 → S → Prop} {px : SX → Prop} {B : S → State → Prop} {BX : String → SX → State → Prop} {AX : Nat → Prop} (hr : vx_Run p l e R s m args below meth c H locs cells slots mc ms (F0 m pc ls st0) rest (va_Qd post B A1 a) (vx_X px BX AX) free) (hS : va_S A0 H0 H locs) (hA : ∀ q, q < H.size → A1 q → A0 q) (hf : ∀ q, free q → A0 q) (hAX : ∀ q, q < H.size → AX q → A0 q)
    (kx : ∀ (E : String) (ce : Cell) (q9 : Addr) (u : SX) (t : State) (H1 : Heap) (locs1 : List Loc), t.heap = H1 → s.vm.Alike t.vm → px u → BX E u t → H.size ≤ H1.size → (∀ q : Nat, q < H.size → ¬ AX q → H1[q]? = H[q]?) → va_S A0 H0 H1 locs1 → H1[q9]? = some ce → ce.vm = .none → s.vm.findClass E = some ce.cls → vx_W p l e R s m args below meth c H1 locs1 (cells + mc) (slots + ms) Q (F0 m pc ls rest) q9)
    (kk : ∀ (r : UInt64) (u : S) (t : State) (H1 : Heap) (locs1 : List Loc), t.heap = H1 → s.vm.Alike t.vm → post r u → B u t → H.size ≤ H1.size → (∀ q : Nat, q < H.size → ¬ A1 q → H1[q]? = H[q]?) → va_S A0 H0 H1 locs1 → W p l e R s m args below meth c H1 locs1 (cells + mc) (slots + ms) Q (F0 m (pc + 3) ls (.double r :: rest))) : W p l e R s m args below meth c H locs cells slots Q (F0 m pc ls st0) := by
  intro T hT X
  rcases hr T hT X with ⟨v, st₀, t, T', L, h0, X', hL, e1, e2, ⟨⟨r, u, hv, hp, hb⟩, hF⟩, st⟩ | ⟨q, st₀, t, T', L, E, ce, h0, X', hL, e1, e2, ⟨u, hp, hb, hF⟩, hce, hcv, hcl, st⟩
  · cases hv
    obtain ⟨k1, k2, k3⟩ := vx_keep h0 e1 hS hA hf hL hF
    obtain ⟨t2, a1, b1⟩ := kk r u t T'.heap (locs ++ L) e1.symm (by rw [← e2]; exact X'.warmed.alike) hp hb k1 k2 k3 T' rfl X'
    exact ⟨t2, st t2 a1, b1⟩
  · obtain ⟨k1, k2, k3⟩ := vx_keep h0 e1 hS hAX hf hL hF
    obtain ⟨t2, a1, b1⟩ := kx E ce q u t T'.heap (locs ++ L) e1.symm (by rw [← e2]; exact X'.warmed.alike) hp hb k1 k2 k3 (by rw [e1]; exact hce) hcv hcl T' rfl X'
    exact ⟨t2, st.trans a1, b1⟩
theorem vx_callv {S SX : Type} {post : S → Prop} {px : SX → Prop} {B : S → State → Prop} {BX : String → SX → State → Prop} {AX : Nat → Prop} (hr : vx_Run p l e R s m args below meth c H locs cells slots mc ms (F0 m pc ls st0) rest (va_Qv post B A1 a) (vx_X px BX AX) free) (hS : va_S A0 H0 H locs) (hA : ∀ q, q < H.size → A1 q → A0 q) (hf : ∀ q, free q → A0 q) (hAX : ∀ q, q < H.size → AX q → A0 q)
    (kx : ∀ (E : String) (ce : Cell) (q9 : Addr) (u : SX) (t : State) (H1 : Heap) (locs1 : List Loc), t.heap = H1 → s.vm.Alike t.vm → px u → BX E u t → H.size ≤ H1.size → (∀ q : Nat, q < H.size → ¬ AX q → H1[q]? = H[q]?) → va_S A0 H0 H1 locs1 → H1[q9]? = some ce → ce.vm = .none → s.vm.findClass E = some ce.cls → vx_W p l e R s m args below meth c H1 locs1 (cells + mc) (slots + ms) Q (F0 m pc ls rest) q9)
    (kk : ∀ (u : S) (t : State) (H1 : Heap) (locs1 : List Loc), t.heap = H1 → s.vm.Alike t.vm → post u → B u t → H.size ≤ H1.size → (∀ q : Nat, q < H.size → ¬ A1 q → H1[q]? = H[q]?) → va_S A0 H0 H1 locs1 → W p l e R s m args below meth c H1 locs1 (cells + mc) (slots + ms) Q (F0 m (pc + 3) ls (rest))) : W p l e R s m args below meth c H locs cells slots Q (F0 m pc ls st0) := by
  intro T hT X
  rcases hr T hT X with ⟨v, st₀, t, T', L, h0, X', hL, e1, e2, ⟨⟨u, hv, hp, hb⟩, hF⟩, st⟩ | ⟨q, st₀, t, T', L, E, ce, h0, X', hL, e1, e2, ⟨u, hp, hb, hF⟩, hce, hcv, hcl, st⟩
  · cases hv
    obtain ⟨k1, k2, k3⟩ := vx_keep h0 e1 hS hA hf hL hF
    obtain ⟨t2, a1, b1⟩ := kk u t T'.heap (locs ++ L) e1.symm (by rw [← e2]; exact X'.warmed.alike) hp hb k1 k2 k3 T' rfl X'
    exact ⟨t2, st t2 a1, b1⟩
  · obtain ⟨k1, k2, k3⟩ := vx_keep h0 e1 hS hAX hf hL hF
    obtain ⟨t2, a1, b1⟩ := kx E ce q u t T'.heap (locs ++ L) e1.symm (by rw [← e2]; exact X'.warmed.alike) hp hb k1 k2 k3 (by rw [e1]; exact hce) hcv hcl T' rfl X'
    exact ⟨t2, st.trans a1, b1⟩
/-- caught by the row x of this method's table; the rows ahead don't take it -/
theorem vx_catch {own name : String} {E : String} {ce : Cell} {q : Addr} (hown : s.vm.findClass own = some m.cls) (pre : List ExceptionTableEntry) (x : ExceptionTableEntry) (suf : List ExceptionTableEntry) (hsplit : c.exceptionTable.toList = pre ++ x :: suf)
    (hpass : ∀ z ∈ pre, covers z pc = false ∨ (z.catchType ≠ 0 ∧ ∃ nm : String, (Cond.classLink own z.catchType nm).before args s = true ∧ va_Nc E nm s)) (hx : covers x pc = true) (h0 : x.catchType ≠ 0)
    (hlink : (Cond.classLink own x.catchType name).before args s = true) (hcast : (Cond.castable E name).before args s = true) (hcell : H[q]? = some ce) (hv : ce.vm = .none) (hcl : s.vm.findClass E = some ce.cls)
    (kk : W p l e R s m args below meth c H locs cells slots Q (F0 m x.handlerPc ls [.ref q])) : vx_W p l e R s m args below meth c H locs cells slots Q (F0 m pc ls rest) q := by
  intro T hT X
  have hpl : e.platform.magicAccessors = ({} : Platform).magicAccessors := by rw [X.admits.platform]
  obtain ⟨c3, c4, hc3, hc4, hasg⟩ := Cond.castable_spec hcast
  cases Option.some.inj (hc3.symm.trans hcl)
  obtain ⟨c5, hc5, hcl5⟩ := Cond.classLink_spec hown hlink e.platform hpl
  cases Option.some.inj (hc4.symm.trans hc5)
  obtain ⟨vm', X', st⟩ := X.thenCaughtThrough q (g := F0 m pc ls rest) rfl (Steps.refl _) (by rw [hT]; exact hcell) (by rw [hv]; rfl) (by obtain ⟨k9, h9, -⟩ := Vm.findClass_spec hcl; exact ⟨k9, h9⟩) pre x suf hsplit
    (fun z hz => by
      rcases hpass z hz with h | ⟨hz0, nm, hl1, hn1⟩
      · exact Or.inl h
      · obtain ⟨c6, hc6, hcl6⟩ := Cond.classLink_spec hown hl1 e.platform hpl
        obtain ⟨a8, b8, h1, h2, h3⟩ := hn1
        cases Option.some.inj (h1.symm.trans hcl)
        cases Option.some.inj (h2.symm.trans hc6)
        exact Or.inr ⟨hz0, _, hcl6, h3⟩) hx (Or.inr ⟨h0, c4, hcl5, hasg⟩)
  obtain ⟨t, a1, b1⟩ := kk (T.setVm vm') hT X'
  exact ⟨t, st.trans a1, b1⟩
end Rows
section Ends
variable {p : Program} {l : Launch} {e : Env} {R : Room} {s : State} {m : MethodId} {args : Array Value} {below : List Frame} {meth : Method} {c : Code} {H : Heap} {locs : List Loc} {cells slots : Nat} {Q : State → Prop}
variable {mc ms : Nat} {free : Addr → Prop} {A0 A1 : Nat → Prop} {H0 : Heap} {a : Array Value} {ls : Array Slot} {st0 rest : List Value}
variable {Qc : Array Value → State → Outcome → State → Prop} {XC : String → State → State → Prop}
/-- what a body that may throw owes at its end -/
def vx_MQ (below : List Frame) (Qc : Array Value → State → Outcome → State → Prop) (XC : String → State → State → Prop) (a : Array Value) (s : State) (mc ms : Nat) (free : Addr → Prop) : State → Prop := fun t =>
  ∃ o, t.status = .running ∧ Ended t below o ∧ vx_Q Qc XC mc ms free a s o t
theorem vx_ret {g : JFrame} {mc ms : Nat} (k : W p l e R s m args below meth c H locs cells slots (MQ below Qc args s mc ms free) g) : W p l e R s m args below meth c H locs cells slots (vx_MQ below Qc XC args s mc ms free) g := by
  intro T hT X
  obtain ⟨t, a1, o, b1, b2, b3, b4⟩ := k T hT X
  exact ⟨t, a1, o, b1, b2, Or.inl ⟨b3, b4⟩⟩
/-- not caught here: it goes on to the caller -/
theorem vx_widen {g : JFrame} {q : Addr} {k n : Nat} (h1 : cells ≤ k) (h2 : slots ≤ n) (kk : vx_W p l e R s m args below meth c H locs k n Q g q) : vx_W p l e R s m args below meth c H locs cells slots Q g q := fun T hT X => kk T hT (stand_widen X h1 h2)
theorem vx_out {pc : Nat} {E : String} {ce : Cell} {q : Addr} {mc ms : Nat} (hout : ∀ x ∈ c.exceptionTable.toList, covers x pc = false) (hlocks : meth.locks = false) (hcell : H[q]? = some ce) (hv : ce.vm = .none) (hcl : s.vm.findClass E = some ce.cls)
    (hx : ∀ t : State, t.heap = H → s.vm.Alike t.vm → XC E s t) (hf : ∀ z ∈ locs, free z.base) (hc : cells ≤ mc) (hs : slots ≤ ms) :
    vx_W p l e R s m args below meth c H locs cells slots (vx_MQ below Qc XC args s mc ms free) (F0 m pc ls rest) q := by
  intro T hT X
  obtain ⟨st1, hrun, hend, hW, hsm⟩ := X.leaveThrown q (g := F0 m pc ls rest) rfl rfl rfl hout hlocks
  have hcell9 : (T.setFrames (.throwing q :: below)).heap[q]? = some ce := by
    show T.heap[q]? = some ce
    rw [hT]; exact hcell
  exact ⟨_, st1, .threw q, hrun, hend, Or.inr ⟨q, rfl, E, ce, locs, hx _ hT hW.alike, hcell9, hv, hcl, hW, hsm.mono hc hs, hf⟩⟩
theorem vx_frame {U : State} {k n : Nat} (h : s.sameButNew ({ U with vm := s.vm } : State) locs k n) : s.heap.size ≤ U.heap.size ∧ ∀ q : Nat, q < s.heap.size → (∀ z ∈ locs, z.base ≠ q) → U.heap[q]? = s.heap[q]? := by
  obtain ⟨-, h2, -, -, -, h6⟩ := h
  refine ⟨h2, fun q hq hz => ?_⟩
  obtain ⟨c9, e1, e2, e3, e4⟩ := h6 q _ (Array.getElem?_eq_getElem hq)
  have hs : c9.slots = (s.heap[q]).slots := Array.ext_getElem? fun i => e4 i fun hm => hz _ hm rfl
  have h9 : c9 = s.heap[q] := by
    rw [hs] at e2
    exact e2
  have e5 : U.heap[q]? = some c9 := e1
  rw [e5, h9, Array.getElem?_eq_getElem hq]
/-- the words of a throw but the four that speak of the heap -/
def vx_no (w : Cond) : Bool := decide (w ≠ .isRef (.static Bundle.tN "UNASSIGNED_STACK" Bundle.steD)) && decide (w ≠ .isRef (.static Bundle.tN "SUPPRESSED_SENTINEL" Bundle.listD)) && decide (w ≠ .laysStatic Bundle.tN "UNASSIGNED_STACK" Bundle.steD) && decide (w ≠ .laysStatic Bundle.tN "SUPPRESSED_SENTINEL" Bundle.listD)
def vx_at0 (own : String) (ic : Nat) (X : String) (names : List String) : List Cond := (Bundle.ownAtoms0 own ic X names).filter vx_no
def vx_atS (own : String) (ic : Nat) (X : String) (names : List String) : List Cond := (Bundle.ownAtoms own ic X names).filter vx_no
/-- a word that the tables alone decide, or a good one -/
def vx_ot (w : Cond) : Bool := w.onTables || goodWord w
theorem vx_ot_at {args a' : Array Value} {s U : State} {w : Cond} (hW : s.WarmedH U.vm) (hvm : s.vm = U.vm) (hg : vx_ot w = true) (h : w.before args s = true) : w.before a' U = true := by
  simp only [vx_ot, Bool.or_eq_true] at hg
  rcases hg with hg | hg
  · exact va_tabs hg hvm h
  · exact word_at hW (good_of_word hg) h
/-- a list's words: the good ones out of the method's own list, the others by premises of their own -/
theorem vx_hat {args : Array Value} {s : State} {L B : List Cond} (h1 : ∀ w ∈ L.filter goodWord, w.before args s = true) (h2 : ∀ w ∈ L.filter (fun w => !goodWord w), w ∈ B) (h3 : ∀ w ∈ B, w.before args s = true) : ∀ w ∈ L, w.before args s = true := by
  intro w hw
  by_cases g : goodWord w = true
  · exact h1 w (List.mem_filter.mpr ⟨hw, g⟩)
  · refine h3 w (h2 w (List.mem_filter.mpr ⟨hw, ?_⟩))
    show (!goodWord w) = true
    cases hgw : goodWord w
    · rfl
    · exact absurd hgw g
theorem vx_c {args : Array Value} {s : State} {w : Cond} {B : List Cond} (h : w.before args s = true) (t : ∀ w ∈ B, w.before args s = true) : ∀ w' ∈ w :: B, w'.before args s = true := fun w' h' => (List.mem_cons.mp h').elim (fun e => by rw [e]; exact h) (t w')
theorem vx_n {args : Array Value} {s : State} : ∀ w ∈ ([] : List Cond), w.before args s = true := fun _ h => nomatch h
theorem vx_own {args : Array Value} {s : State} {L : List Cond} (h1 : ∀ w ∈ L.filter vx_no, w.before args s = true)
    (hU : (Cond.isRef (.static Bundle.tN "UNASSIGNED_STACK" Bundle.steD)).before args s = true) (hN : (Cond.isRef (.static Bundle.tN "SUPPRESSED_SENTINEL" Bundle.listD)).before args s = true)
    (lU : (Cond.laysStatic Bundle.tN "UNASSIGNED_STACK" Bundle.steD).before args s = true) (lN : (Cond.laysStatic Bundle.tN "SUPPRESSED_SENTINEL" Bundle.listD).before args s = true) : ∀ w ∈ L, w.before args s = true := by
  intro w hw
  by_cases e1 : w = .isRef (.static Bundle.tN "UNASSIGNED_STACK" Bundle.steD)
  · rw [e1]; exact hU
  · by_cases e2 : w = .isRef (.static Bundle.tN "SUPPRESSED_SENTINEL" Bundle.listD)
    · rw [e2]; exact hN
    · by_cases e3 : w = .laysStatic Bundle.tN "UNASSIGNED_STACK" Bundle.steD
      · rw [e3]; exact lU
      · by_cases e4 : w = .laysStatic Bundle.tN "SUPPRESSED_SENTINEL" Bundle.listD
        · rw [e4]; exact lN
        · exact h1 w (List.mem_filter.mpr ⟨hw, by unfold vx_no; rw [decide_eq_true e1, decide_eq_true e2, decide_eq_true e3, decide_eq_true e4]; rfl⟩)
/-- where a static field lies, its class's statics cell in H -/
def vx_L (C n d : String) (A : Nat → Prop) (U : State) (H : Heap) : Prop := ∃ (c : ClassId) (k : Class) (i : Nat) (f : Field) (a : Nat) (cell : Cell), U.vm.findClass C = some c ∧ U.fieldFound? C n d = some (c, k, i, f) ∧ f.isStatic = true ∧ k.statics = some a ∧ H[a]? = some cell ∧ cell.vm.isStatics = true ∧ cell.cls = c ∧ f.slot < cell.slots.size ∧ k.staticTypes[f.slot]? = some f.type ∧ ¬ A a
theorem vx_L.moved {C n d : String} {A : Nat → Prop} {u U : State} {H : Heap} (hvm : u.vm.Alike U.vm) (h : vx_L C n d A u H) : vx_L C n d A U H := by
  obtain ⟨c, k, i, f, a, cell, h1, h2, h3, h4, h5, h6, h7, h8, h9, h10⟩ := h
  obtain ⟨k', hi', he⟩ := State.fieldFound?_setVm hvm h2
  exact ⟨c, k', i, f, a, cell, by rw [hvm.findClass]; exact h1, hi', h3, by rw [he]; exact h4, h5, h6, h7, h8, by rw [he]; exact h9, h10⟩
theorem vx_L.kept {C n d : String} {A : Nat → Prop} {U : State} {H H1 : Heap} (h : vx_L C n d A U H) (hq : ∀ a : Nat, a < H.size → ¬ A a → H1[a]? = H[a]?) : vx_L C n d A U H1 := by
  obtain ⟨c, k, i, f, a, cell, h1, h2, h3, h4, h5, h6, h7, h8, h9, h10⟩ := h
  exact ⟨c, k, i, f, a, cell, h1, h2, h3, h4, by rw [hq a (Array.getElem?_eq_some_iff.mp h5).1 h10]; exact h5, h6, h7, h8, h9, h10⟩
theorem vx_L.narrow {C n d : String} {A B : Nat → Prop} {U : State} {H : Heap} (h : vx_L C n d A U H) (hAB : ∀ q, B q → A q) : vx_L C n d B U H := by
  obtain ⟨c, k, i, f, a, cell, h1, h2, h3, h4, h5, h6, h7, h8, h9, h10⟩ := h
  exact ⟨c, k, i, f, a, cell, h1, h2, h3, h4, h5, h6, h7, h8, h9, fun z => h10 (hAB _ z)⟩
theorem vx_L.word {C n d : String} {A : Nat → Prop} {s : State} {args : Array Value} (h : vx_L C n d A s s.heap) : (Cond.laysStatic C n d).before args s = true := by
  obtain ⟨c, k, i, f, a, cell, h1, h2, h3, h4, h5, h6, h7, h8, h9, -⟩ := h
  show (Cond.laysStatic C n d).holds args s none s [] = true
  exact Cond.laysStatic_of h1 h2 h3 h4 h5 h6 h7 h8 h9
/-- .. and what it holds: null or some reference -/
def vx_Zq (C n d : String) (A : Nat → Prop) (U : State) (H : Heap) : Prop := va_Zq C n d A U H ∧ vx_L C n d A U H
theorem vx_Zq.moved {C n d : String} {A : Nat → Prop} {u U : State} {H : Heap} (hvm : u.vm.Alike U.vm) (h : vx_Zq C n d A u H) : vx_Zq C n d A U H := ⟨va_Zq.moved hvm h.1, vx_L.moved hvm h.2⟩
theorem vx_Zq.kept {C n d : String} {A : Nat → Prop} {U : State} {H H1 : Heap} (h : vx_Zq C n d A U H) (hq : ∀ a : Nat, a < H.size → ¬ A a → H1[a]? = H[a]?) : vx_Zq C n d A U H1 := ⟨va_Zq.kept h.1 hq, vx_L.kept h.2 hq⟩
theorem vx_Zq.narrow {C n d : String} {A B : Nat → Prop} {U : State} {H : Heap} (h : vx_Zq C n d A U H) (hAB : ∀ q, B q → A q) : vx_Zq C n d B U H := ⟨va_Zq.narrow h.1 hAB, vx_L.narrow h.2 hAB⟩
theorem vx_Zqof {args : Array Value} {s : State} {C n d : String} {A : Nat → Prop} (hl : (Cond.laysStatic C n d).before args s = true) (hini : (Cond.initialized C).before args s = true) (h : (Cond.isRef (.static C n d)).before args s = true) (hA : ∀ a : Nat, a < s.heap.size → ¬ A a) : vx_Zq C n d A s s.heap := by
  refine ⟨va_Zqof hl hini h hA, ?_⟩
  obtain ⟨c, k, i, f, a, cell, h1, h2, h3, h4, h5, h6, h7, h8, h9⟩ := Cond.laysStatic_spec hl
  exact ⟨c, k, i, f, a, cell, h1, h2, h3, h4, h5, h6, h7, h8, h9, hA a (Array.getElem?_eq_some_iff.mp h5).1⟩
theorem vx_isRef {C n d : String} {v : Value} {A : Nat → Prop} {s : State} {args : Array Value} (h : va_Z C n d v A s s.heap) (hv : v.isRef = true) : (Cond.isRef (.static C n d)).before args s = true := by
  obtain ⟨cf, kf, fi, f, a, cell, h1, h2, h3, h4, h5, h6, h7, -⟩ := h
  have he : (Term.static C n d).eval args s none [] s = some v := by
    simp [Term.eval, State.fieldNamed?, h1, h2, h4, h5, h6, h7]
  simp only [Cond.before, Cond.holds, Cond.value, he]
  cases v <;> simp_all [Value.isRef]
theorem vx_isRefq {C n d : String} {A : Nat → Prop} {s : State} {args : Array Value} (h : va_Zq C n d A s s.heap) : (Cond.isRef (.static C n d)).before args s = true := by
  rcases h with h | ⟨t, h⟩
  · exact vx_isRef h rfl
  · exact vx_isRef h rfl
/-- the same frame, seen from here: as if the method were called anew in this heap -/
theorem vx_rebase {T : State} (X : Stand p l e R s m args below meth c T locs cells slots) {R' : Room} (hf : R'.frames ≤ R.frames) (hl : R'.locals ≤ R.locals) (hc : cells + R'.cells ≤ R.cells) (hs : slots + R'.slots ≤ R.slots) :
    Stand p l e R' ((T.setVm s.vm).setFrames (.invoking m args :: below)) m args below meth c T [] 0 0 := by
  have htop : (T.setVm s.vm).topJava?.isSome := X.here.top
  have hF : ((T.setVm s.vm).setFrames (.invoking m args :: below)).frames = .invoking m args :: below := State.frames_setFrames _ (State.cur_lt_of_top htop)
  obtain ⟨g₀, hg0⟩ := Option.isSome_iff_exists.mp htop
  obtain ⟨r, hr⟩ := State.topJava?_eq_some.mp hg0
  have hl9 : e.platform.stackLimits (T.setVm s.vm).me = e.platform.stackLimits s.me := X.limits
  have hb9 : (T.setVm s.vm).me.stackBytes = s.me.stackBytes := X.bytes
  refine ⟨X.admits, X.cas, X.clock, hF, ?_, X.hears, X.method, X.code, X.here, X.tail, X.warmed, ?_, ?_, ?_⟩
  · have h := X.room
    have hU : ((T.setVm s.vm).setFrames (.invoking m args :: below)).localsInUse = s.localsInUse := by
      rw [State.localsInUse_invoking hF (meth := meth) (c := c) X.method X.code, State.localsInUse_invoking X.frames X.method X.code]
    simp only [State.hasRoom, Bool.and_eq_true, decide_eq_true_eq] at h ⊢
    obtain ⟨⟨⟨⟨h1, h2, h3, h4, h5, h6⟩, h7⟩, h8⟩, h9⟩ := h
    rw [X.frames, List.length_cons] at h2 h3
    have q1 := X.heapSize
    have q2 := X.used
    simp only [hF, hU, List.length_cons, State.stackLimits_setFrames, State.stackBytes_setFrames, hl9, hb9]
    refine ⟨⟨⟨⟨by omega, by omega, by omega, by omega, by omega, h6⟩, ?_⟩, ?_⟩, X.book⟩
    · show T.heap.size + R'.cells ≤ e.platform.maxCells
      omega
    · show T.slotsUsed + R'.slots ≤ e.platform.maxSlots
      omega
  · rw [State.stackLimits_setFrames]; rfl
  · rw [State.stackBytes_setFrames]; rfl
  · refine ⟨?_, Nat.le_refl _, Nat.le_refl _, ?_, ?_, fun a c9 h9 => ⟨c9, h9, rfl, rfl, fun _ _ => rfl⟩⟩
    · obtain ⟨t, ht, -⟩ := State.frames_cons hr
      show T.setVm s.vm = { ((T.setVm s.vm).setFrames (.invoking m args :: below)).setFrames (T.setVm s.vm).frames with heap := T.heap, slotsUsed := T.slotsUsed }
      rw [State.setFrames_setFrames, State.setFrames_self ht]
      rfl
    · show T.slotsUsed = T.slotsUsed + ((T.heap.toList.drop T.heap.size).map (·.slots.size)).sum
      rw [List.drop_eq_nil_of_le (Nat.le_of_eq Array.length_toList)]
      rfl
    · show ((T.heap.toList.drop T.heap.size).map (·.slots.size)).sum ≤ 0
      rw [List.drop_eq_nil_of_le (Nat.le_of_eq Array.length_toList)]
      exact Nat.le_refl _
/-- 'throw new E()': new; dup; invokespecial; athrow -/
theorem vx_throw0 {cc : ByteArray} {pc : Nat} (hexec : p.tables.exec = Jvm.exec) (hb : c.code = cc) (hl : l.stackTraces = false) {own cls : String} {names : List String} {ik ic mc ms : Nat} {A : Nat → Prop}
    (hown : s.vm.findClass own = some m.cls) (hcls : Bundle.fit cls = true) (hnames : ∀ n ∈ names, Bundle.fit n = true)
    (hk : (Cond.classLink own ik cls).before args s = true) (hini : (Cond.initialized cls).before args s = true) (hat : ∀ w ∈ vx_at0 own ic cls names, w.before args s = true)
    (hgood : ∀ w ∈ Cond.classLink own ik cls :: Cond.initialized cls :: vx_at0 own ic cls names, vx_ot w = true)
    (hU : vx_Zq Bundle.tN "UNASSIGNED_STACK" Bundle.steD A s s.heap) (hN : vx_Zq Bundle.tN "SUPPRESSED_SENTINEL" Bundle.listD A s s.heap) (hS : va_S A s.heap H locs) (hsize : ls.size = c.maxLocals)
    (d0 : decode cc pc = .ok (.new ik, 3)) (d3 : decode cc (pc + 3) = .ok (.dup, 1)) (d4 : decode cc (pc + 4) = .ok (.invokespecial ic, 3)) (d7 : decode cc (pc + 7) = .ok (.athrow, 1))
    (hout : ∀ x ∈ c.exceptionTable.toList, covers x (pc + 7) = false)
    (hRframes : names.length + 3 < R.frames) (hRlocals : (rest.map fun v => v.category).sum + (13 * (names.length + 1) + 42) ≤ R.locals) (hRcells : cells + 1 ≤ R.cells) (hRslots : slots + 6 ≤ R.slots) (hlocks : meth.locks = false)
    (hx : ∀ t : State, s.vm.Alike t.vm → H.size ≤ t.heap.size → (∀ q : Nat, q < H.size → t.heap[q]? = H[q]?) → XC cls s t)
    (hf : ∀ z ∈ locs, free z.base) (hc : cells + 1 ≤ mc) (hs : slots + 6 ≤ ms) :
    W p l e R s m args below meth c H locs cells slots (vx_MQ below Qc XC args s mc ms free) (F0 m pc ls rest) := by
  intro T hT X
  have htr : e.platform.stackTraces = false := (show e.platform.stackTraces = l.stackTraces by rw [X.admits.platform]).trans hl
  have Y := vx_rebase X (R' := { frames := R.frames, locals := R.locals, cells := 1, slots := 6 }) (Nat.le_refl _) (Nat.le_refl _) hRcells hRslots
  obtain ⟨s', hA⟩ : ∃ z, z = (T.setVm s.vm).setFrames (.invoking m args :: below) := ⟨_, rfl⟩
  rw [← hA] at Y
  have hvm : s'.vm = s.vm := by rw [hA]; rfl
  have hhp : s'.heap = H := by rw [hA]; exact hT
  have hW0 : s.WarmedH s'.vm := by rw [hvm]; exact State.WarmedH.refl s
  have hat' : ∀ w ∈ vx_at0 own ic cls names, w.before args s' = true := fun w hw => vx_ot_at hW0 hvm.symm (hgood w (List.mem_cons_of_mem _ (List.mem_cons_of_mem _ hw))) (hat w hw)
  have hk' : (Cond.classLink own ik cls).before args s' = true := vx_ot_at hW0 hvm.symm (hgood _ List.mem_cons_self) hk
  have hini' : (Cond.initialized cls).before args s' = true := vx_ot_at hW0 hvm.symm (hgood _ (List.mem_cons_of_mem _ List.mem_cons_self)) hini
  have hU' : vx_Zq Bundle.tN "UNASSIGNED_STACK" Bundle.steD A s' s'.heap := by rw [hhp]; exact vx_Zq.moved hW0.alike (hU.kept hS.2.1)
  have hN' : vx_Zq Bundle.tN "SUPPRESSED_SENTINEL" Bundle.listD A s' s'.heap := by rw [hhp]; exact vx_Zq.moved hW0.alike (hN.kept hS.2.1)
  have h : ∀ w ∈ Bundle.ownAtoms0 own ic cls names, w.before args s' = true := vx_own hat' (vx_isRefq hU'.1) (vx_isRefq hN'.1) hU'.2.word hN'.2.word
  have hown' : s'.vm.findClass own = some m.cls := by rw [hvm]; exact hown
  have hins : (Cond.instantiable cls 6).before args s' = true := h _ (by simp [Bundle.ownAtoms0])
  obtain ⟨vm₁, cX, kX, hfX, hkX, -, -, X₁, st1⟩ := Y.newCold hexec (own := own) (C := cls) (index := ik) (n := 6) hown' hk' hins hini'
    (g := F0 m pc ls rest) rfl (by rw [hb]; exact d0) (Nat.le_refl _) (Nat.le_refl _)
  generalize hT1 : (T.setVm vm₁).pushCell { cls := cX, slots := kX.instanceTypes.map defaultValue, vm := .none } = T1 at X₁ st1
  have hcat : (Value.ref T.heap.size).category = 1 := rfl
  have hcellA : T1.heap[T.heap.size]? = some (freshCell cX kX) := by rw [← hT1]; exact State.heap_pushCell_size _ _
  have d3' : decode c.code (pc + 3) = .ok (.dup, 1) := by rw [hb]; exact d3
  obtain ⟨U, hsteps, hrun, hend, hW, hsame, ce, hce, hO⟩ := X₁.ctorThrow0 hexec htr (own := own) (cls := cls) (names := names) (ic := ic) hown' hcls hnames h (fun x hx => nomatch hx) hfX hkX hcellA (by rw [hhp, hT]; exact Nat.le_refl _)
    (g := { method := m, pc := pc + 4, locals := ls, stack := .ref T.heap.size :: .ref T.heap.size :: rest, locked := none }) rfl hsize rfl rfl (rest := rest) rfl
    (by rw [hb]; exact d4) (by rw [hb]; exact d7) hout hRframes (by simp only [List.map_cons, List.sum_cons, hcat]; omega) hlocks
  obtain ⟨f1, f2⟩ := vx_frame hsame
  rw [hhp] at f1 f2
  have hWs : s.WarmedH U.vm := State.WarmedH.trans hW0 hW
  have hcl : s.vm.findClass cls = some ce.cls := by
    have h9 := hO.cls
    rw [hvm] at h9
    exact h9
  have hall : s.sameButNew ({ U with vm := s.vm } : State) locs mc ms := by
    subst hA
    obtain ⟨e1, e2⟩ := hsame
    rw [State.setFrames_setFrames] at e1
    have h2 : (T.setVm s.vm).sameButNew ({ U with vm := s.vm } : State) [] (0 + 1) (0 + 6) := ⟨e1, e2⟩
    have h3 := X.same.trans h2
    rw [List.append_nil] at h3
    exact h3.mono hc hs
  refine ⟨U, ?_, .threw T.heap.size, hrun, hend, Or.inr ⟨T.heap.size, rfl, cls, ce, locs, hx U hWs.alike f1 (fun q hq => f2 q hq (fun z hz => nomatch hz)), hce, hO.vm, hcl, hWs, hall, hf⟩⟩
  refine st1 _ ?_
  show Steps p.tables e below (T1.setTop { method := m, pc := pc + 3, locals := ls, stack := .ref T.heap.size :: rest, locked := none }) _
  jvm_step X₁.here [X₁.here.top, hexec, d3', Value.category]
  exact hsteps
/-- 'throw new E("text")': new; dup; ldc; invokespecial; athrow -/
theorem vx_throwS {cc : ByteArray} {pc : Nat} (hexec : p.tables.exec = Jvm.exec) (hb : c.code = cc) (hl : l.stackTraces = false) {own cls text : String} {names : List String} {ik is ic mc ms sa : Nat} {A : Nat → Prop}
    (hown : s.vm.findClass own = some m.cls) (hcls : Bundle.fit cls = true) (hnames : ∀ n ∈ names, Bundle.fit n = true)
    (hk : (Cond.classLink own ik cls).before args s = true) (hini : (Cond.initialized cls).before args s = true) (hstr : vk_R own is text sa s) (hat : ∀ w ∈ vx_atS own ic cls names, w.before args s = true)
    (hgood : ∀ w ∈ Cond.classLink own ik cls :: Cond.initialized cls :: vx_atS own ic cls names, vx_ot w = true)
    (hU : vx_Zq Bundle.tN "UNASSIGNED_STACK" Bundle.steD A s s.heap) (hN : vx_Zq Bundle.tN "SUPPRESSED_SENTINEL" Bundle.listD A s s.heap) (hS : va_S A s.heap H locs) (hsize : ls.size = c.maxLocals)
    (d0 : decode cc pc = .ok (.new ik, 3)) (d3 : decode cc (pc + 3) = .ok (.dup, 1)) (d4 : decode cc (pc + 4) = .ok (.ldc is, 2)) (d6 : decode cc (pc + 6) = .ok (.invokespecial ic, 3)) (d9 : decode cc (pc + 9) = .ok (.athrow, 1))
    (hout : ∀ x ∈ c.exceptionTable.toList, covers x (pc + 9) = false)
    (hRframes : names.length + 3 < R.frames) (hRlocals : (rest.map fun v => v.category).sum + (13 * (names.length + 1) + 43) ≤ R.locals) (hRcells : cells + 1 ≤ R.cells) (hRslots : slots + 6 ≤ R.slots) (hlocks : meth.locks = false)
    (hx : ∀ t : State, s.vm.Alike t.vm → H.size ≤ t.heap.size → (∀ q : Nat, q < H.size → t.heap[q]? = H[q]?) → XC cls s t)
    (hf : ∀ z ∈ locs, free z.base) (hc : cells + 1 ≤ mc) (hs : slots + 6 ≤ ms) :
    W p l e R s m args below meth c H locs cells slots (vx_MQ below Qc XC args s mc ms free) (F0 m pc ls rest) := by
  intro T hT X
  have htr : e.platform.stackTraces = false := (show e.platform.stackTraces = l.stackTraces by rw [X.admits.platform]).trans hl
  have Y := vx_rebase X (R' := { frames := R.frames, locals := R.locals, cells := 1, slots := 6 }) (Nat.le_refl _) (Nat.le_refl _) hRcells hRslots
  obtain ⟨s', hA⟩ : ∃ z, z = (T.setVm s.vm).setFrames (.invoking m args :: below) := ⟨_, rfl⟩
  rw [← hA] at Y
  have hvm : s'.vm = s.vm := by rw [hA]; rfl
  have hhp : s'.heap = H := by rw [hA]; exact hT
  have hW0 : s.WarmedH s'.vm := by rw [hvm]; exact State.WarmedH.refl s
  have hat' : ∀ w ∈ vx_atS own ic cls names, w.before args s' = true := fun w hw => vx_ot_at hW0 hvm.symm (hgood w (List.mem_cons_of_mem _ (List.mem_cons_of_mem _ hw))) (hat w hw)
  have hk' : (Cond.classLink own ik cls).before args s' = true := vx_ot_at hW0 hvm.symm (hgood _ List.mem_cons_self) hk
  have hini' : (Cond.initialized cls).before args s' = true := vx_ot_at hW0 hvm.symm (hgood _ (List.mem_cons_of_mem _ List.mem_cons_self)) hini
  have hU' : vx_Zq Bundle.tN "UNASSIGNED_STACK" Bundle.steD A s' s'.heap := by rw [hhp]; exact vx_Zq.moved hW0.alike (hU.kept hS.2.1)
  have hN' : vx_Zq Bundle.tN "SUPPRESSED_SENTINEL" Bundle.listD A s' s'.heap := by rw [hhp]; exact vx_Zq.moved hW0.alike (hN.kept hS.2.1)
  have h : ∀ w ∈ Bundle.ownAtoms own ic cls names, w.before args s' = true := vx_own hat' (vx_isRefq hU'.1) (vx_isRefq hN'.1) hU'.2.word hN'.2.word
  have hown' : s'.vm.findClass own = some m.cls := by rw [hvm]; exact hown
  have hins : (Cond.instantiable cls 6).before args s' = true := h _ (by simp [Bundle.ownAtoms])
  obtain ⟨vm₁, cX, kX, hfX, hkX, -, -, X₁, st1⟩ := Y.newCold hexec (own := own) (C := cls) (index := ik) (n := 6) hown' hk' hins hini'
    (g := F0 m pc ls rest) rfl (by rw [hb]; exact d0) (Nat.le_refl _) (Nat.le_refl _)
  generalize hT1 : (T.setVm vm₁).pushCell { cls := cX, slots := kX.instanceTypes.map defaultValue, vm := .none } = T1 at X₁ st1
  have hcat : (Value.ref T.heap.size).category = 1 := rfl
  have hcellA : T1.heap[T.heap.size]? = some (freshCell cX kX) := by rw [← hT1]; exact State.heap_pushCell_size _ _
  have d3' : decode c.code (pc + 3) = .ok (.dup, 1) := by rw [hb]; exact d3
  have d4' : decode c.code (pc + 4) = .ok (.ldc is, 2) := by rw [hb]; exact d4
  have hstr' : vk_R own is text sa s' := vk_R.warm hW0 hstr
  obtain ⟨U, hsteps, hrun, hend, hW, hsame, ce, hce, hO⟩ := X₁.ctorThrowS hexec htr (own := own) (cls := cls) (names := names) (ic := ic) hown' hcls hnames h (fun x hx => nomatch hx) hfX hkX hcellA (by rw [hhp, hT]; exact Nat.le_refl _) (msg := .ref sa) rfl
    (g := { method := m, pc := pc + 6, locals := ls, stack := .ref sa :: .ref T.heap.size :: .ref T.heap.size :: rest, locked := none }) rfl hsize rfl rfl (rest := rest) rfl
    (by rw [hb]; exact d6) (by rw [hb]; exact d9) hout hRframes (by simp only [List.map_cons, List.sum_cons, hcat]; omega) hlocks
  obtain ⟨f1, f2⟩ := vx_frame hsame
  rw [hhp] at f1 f2
  have hWs : s.WarmedH U.vm := State.WarmedH.trans hW0 hW
  have hcl : s.vm.findClass cls = some ce.cls := by
    have h9 := hO.cls
    rw [hvm] at h9
    exact h9
  have hall : s.sameButNew ({ U with vm := s.vm } : State) locs mc ms := by
    subst hA
    obtain ⟨e1, e2⟩ := hsame
    rw [State.setFrames_setFrames] at e1
    have h2 : (T.setVm s.vm).sameButNew ({ U with vm := s.vm } : State) [] (0 + 1) (0 + 6) := ⟨e1, e2⟩
    have h3 := X.same.trans h2
    rw [List.append_nil] at h3
    exact h3.mono hc hs
  refine ⟨U, ?_, .threw T.heap.size, hrun, hend, Or.inr ⟨T.heap.size, rfl, cls, ce, locs, hx U hWs.alike f1 (fun q hq => f2 q hq (fun z hz => nomatch hz)), hce, hO.vm, hcl, hWs, hall, hf⟩⟩
  refine st1 _ ?_
  show Steps p.tables e below (T1.setTop { method := m, pc := pc + 3, locals := ls, stack := .ref T.heap.size :: rest, locked := none }) _
  jvm_step X₁.here [X₁.here.top, hexec, d3', Value.category]
  exact X₁.ldcString hexec (own := own) (text := text) (index := is) (a := sa) hown' hstr'.1 hstr'.2
    (g := { method := m, pc := pc + 4, locals := ls, stack := .ref T.heap.size :: .ref T.heap.size :: rest, locked := none }) rfl d4' _ hsteps
/-- 'throw new E("text")', the text by a wide index -/
theorem vx_throwSW {cc : ByteArray} {pc : Nat} (hexec : p.tables.exec = Jvm.exec) (hb : c.code = cc) (hl : l.stackTraces = false) {own cls text : String} {names : List String} {ik is ic mc ms sa : Nat} {A : Nat → Prop}
    (hown : s.vm.findClass own = some m.cls) (hcls : Bundle.fit cls = true) (hnames : ∀ n ∈ names, Bundle.fit n = true)
    (hk : (Cond.classLink own ik cls).before args s = true) (hini : (Cond.initialized cls).before args s = true) (hstr : vk_R own is text sa s) (hat : ∀ w ∈ vx_atS own ic cls names, w.before args s = true)
    (hgood : ∀ w ∈ Cond.classLink own ik cls :: Cond.initialized cls :: vx_atS own ic cls names, vx_ot w = true)
    (hU : vx_Zq Bundle.tN "UNASSIGNED_STACK" Bundle.steD A s s.heap) (hN : vx_Zq Bundle.tN "SUPPRESSED_SENTINEL" Bundle.listD A s s.heap) (hS : va_S A s.heap H locs) (hsize : ls.size = c.maxLocals)
    (d0 : decode cc pc = .ok (.new ik, 3)) (d3 : decode cc (pc + 3) = .ok (.dup, 1)) (d4 : decode cc (pc + 4) = .ok (.ldc_w is, 3)) (d7 : decode cc (pc + 7) = .ok (.invokespecial ic, 3)) (d10 : decode cc (pc + 10) = .ok (.athrow, 1))
    (hout : ∀ x ∈ c.exceptionTable.toList, covers x (pc + 10) = false)
    (hRframes : names.length + 3 < R.frames) (hRlocals : (rest.map fun v => v.category).sum + (13 * (names.length + 1) + 43) ≤ R.locals) (hRcells : cells + 1 ≤ R.cells) (hRslots : slots + 6 ≤ R.slots) (hlocks : meth.locks = false)
    (hx : ∀ t : State, s.vm.Alike t.vm → H.size ≤ t.heap.size → (∀ q : Nat, q < H.size → t.heap[q]? = H[q]?) → XC cls s t)
    (hf : ∀ z ∈ locs, free z.base) (hc : cells + 1 ≤ mc) (hs : slots + 6 ≤ ms) :
    W p l e R s m args below meth c H locs cells slots (vx_MQ below Qc XC args s mc ms free) (F0 m pc ls rest) := by
  intro T hT X
  have htr : e.platform.stackTraces = false := (show e.platform.stackTraces = l.stackTraces by rw [X.admits.platform]).trans hl
  have Y := vx_rebase X (R' := { frames := R.frames, locals := R.locals, cells := 1, slots := 6 }) (Nat.le_refl _) (Nat.le_refl _) hRcells hRslots
  obtain ⟨s', hA⟩ : ∃ z, z = (T.setVm s.vm).setFrames (.invoking m args :: below) := ⟨_, rfl⟩
  rw [← hA] at Y
  have hvm : s'.vm = s.vm := by rw [hA]; rfl
  have hhp : s'.heap = H := by rw [hA]; exact hT
  have hW0 : s.WarmedH s'.vm := by rw [hvm]; exact State.WarmedH.refl s
  have hat' : ∀ w ∈ vx_atS own ic cls names, w.before args s' = true := fun w hw => vx_ot_at hW0 hvm.symm (hgood w (List.mem_cons_of_mem _ (List.mem_cons_of_mem _ hw))) (hat w hw)
  have hk' : (Cond.classLink own ik cls).before args s' = true := vx_ot_at hW0 hvm.symm (hgood _ List.mem_cons_self) hk
  have hini' : (Cond.initialized cls).before args s' = true := vx_ot_at hW0 hvm.symm (hgood _ (List.mem_cons_of_mem _ List.mem_cons_self)) hini
  have hU' : vx_Zq Bundle.tN "UNASSIGNED_STACK" Bundle.steD A s' s'.heap := by rw [hhp]; exact vx_Zq.moved hW0.alike (hU.kept hS.2.1)
  have hN' : vx_Zq Bundle.tN "SUPPRESSED_SENTINEL" Bundle.listD A s' s'.heap := by rw [hhp]; exact vx_Zq.moved hW0.alike (hN.kept hS.2.1)
  have h : ∀ w ∈ Bundle.ownAtoms own ic cls names, w.before args s' = true := vx_own hat' (vx_isRefq hU'.1) (vx_isRefq hN'.1) hU'.2.word hN'.2.word
  have hown' : s'.vm.findClass own = some m.cls := by rw [hvm]; exact hown
  have hins : (Cond.instantiable cls 6).before args s' = true := h _ (by simp [Bundle.ownAtoms])
  obtain ⟨vm₁, cX, kX, hfX, hkX, -, -, X₁, st1⟩ := Y.newCold hexec (own := own) (C := cls) (index := ik) (n := 6) hown' hk' hins hini'
    (g := F0 m pc ls rest) rfl (by rw [hb]; exact d0) (Nat.le_refl _) (Nat.le_refl _)
  generalize hT1 : (T.setVm vm₁).pushCell { cls := cX, slots := kX.instanceTypes.map defaultValue, vm := .none } = T1 at X₁ st1
  have hcat : (Value.ref T.heap.size).category = 1 := rfl
  have hcellA : T1.heap[T.heap.size]? = some (freshCell cX kX) := by rw [← hT1]; exact State.heap_pushCell_size _ _
  have d3' : decode c.code (pc + 3) = .ok (.dup, 1) := by rw [hb]; exact d3
  have d4' : decode c.code (pc + 4) = .ok (.ldc_w is, 3) := by rw [hb]; exact d4
  have hstr' : vk_R own is text sa s' := vk_R.warm hW0 hstr
  obtain ⟨U, hsteps, hrun, hend, hW, hsame, ce, hce, hO⟩ := X₁.ctorThrowS hexec htr (own := own) (cls := cls) (names := names) (ic := ic) hown' hcls hnames h (fun x hx => nomatch hx) hfX hkX hcellA (by rw [hhp, hT]; exact Nat.le_refl _) (msg := .ref sa) rfl
    (g := { method := m, pc := pc + 7, locals := ls, stack := .ref sa :: .ref T.heap.size :: .ref T.heap.size :: rest, locked := none }) rfl hsize rfl rfl (rest := rest) rfl
    (by rw [hb]; exact d7) (by rw [hb]; exact d10) hout hRframes (by simp only [List.map_cons, List.sum_cons, hcat]; omega) hlocks
  obtain ⟨f1, f2⟩ := vx_frame hsame
  rw [hhp] at f1 f2
  have hWs : s.WarmedH U.vm := State.WarmedH.trans hW0 hW
  have hcl : s.vm.findClass cls = some ce.cls := by
    have h9 := hO.cls
    rw [hvm] at h9
    exact h9
  have hall : s.sameButNew ({ U with vm := s.vm } : State) locs mc ms := by
    subst hA
    obtain ⟨e1, e2⟩ := hsame
    rw [State.setFrames_setFrames] at e1
    have h2 : (T.setVm s.vm).sameButNew ({ U with vm := s.vm } : State) [] (0 + 1) (0 + 6) := ⟨e1, e2⟩
    have h3 := X.same.trans h2
    rw [List.append_nil] at h3
    exact h3.mono hc hs
  refine ⟨U, ?_, .threw T.heap.size, hrun, hend, Or.inr ⟨T.heap.size, rfl, cls, ce, locs, hx U hWs.alike f1 (fun q hq => f2 q hq (fun z hz => nomatch hz)), hce, hO.vm, hcl, hWs, hall, hf⟩⟩
  refine st1 _ ?_
  show Steps p.tables e below (T1.setTop { method := m, pc := pc + 3, locals := ls, stack := .ref T.heap.size :: rest, locked := none }) _
  jvm_step X₁.here [X₁.here.top, hexec, d3', Value.category]
  exact X₁.ldcStringW hexec (own := own) (text := text) (index := is) (a := sa) hown' hstr'.1 hstr'.2
    (g := { method := m, pc := pc + 4, locals := ls, stack := .ref T.heap.size :: .ref T.heap.size :: rest, locked := none }) rfl d4' _ hsteps
end Ends
section Bodies
variable {l : Launch}
theorem vx_ofW {y : MethodName} {ws ws' : List Cond} {rm : Room} {Pc : Array Value → State → Prop} {Qc : Array Value → State → Outcome → State → Prop} {XC : String → State → State → Prop} {mc ms : Nat} {free : Addr → Prop} {cc : ByteArray} {maxL : Nat} {ret : Option FieldType}
    (hy : plainName y.cls = true) (hw : ws = Cond.code y cc maxL ret :: ws')
    (body : ∀ p e s m args below meth c s₁, BodyLoose p l y (headSpec ws rm) cc maxL ret e s m args below meth c s₁ → c.maxLocals = maxL → (∀ x ∈ c.exceptionTable.toList, False) → Pc args s →
      W p l e (headSpec ws rm).room s m args below meth c s.heap [] 0 0 (vx_MQ below Qc XC args s mc ms free) (entryFrame m args maxL)) : vx_Met l y ws rm Pc Qc XC mc ms free := by
  refine MetFree.of_bodyS (code := cc) (maxLocals := maxL) (ret := ret) hy ?_ ?_
  · intro args s m h hn
    obtain ⟨meth, c, h1, h2, h3, h4, h5, h6, -, -⟩ := Cond.code_spec hn (atoms_spec (ws := ws) h _ (by rw [hw]; exact List.mem_cons_self))
    exact ⟨meth, c, h1, h2, h3, h4, h5, h6⟩
  · intro p e s m args below meth c s₁ B hml hP _
    have hh0 : s₁.heap = s.heap := by rw [B.state]; rfl
    have ht : ∀ x ∈ c.exceptionTable.toList, False := by
      obtain ⟨meth9, c9, h1, h2, -, -, -, -, h7, -⟩ := Cond.code_spec B.named (atoms_spec (ws := ws) B.pre _ (by rw [hw]; exact List.mem_cons_self))
      cases Option.some.inj (h1.symm.trans B.method)
      cases Option.some.inj (h2.symm.trans (Stand.of_body B).code)
      intro x hx
      rw [Array.isEmpty_iff.mp h7] at hx
      cases hx
    obtain ⟨t, a1, o, b1, b2, b3⟩ := body p e s m args below meth c s₁ B hml ht hP s₁ hh0 (Stand.of_body B)
    exact ⟨t, o, a1, b1, b2, b3⟩
/-- the table of a body with handlers -/
theorem vx_table {p : Program} {x y : MethodName} {S : Spec} {cc bytes : ByteArray} {maxL maxL' : Nat} {ret ret' : Option FieldType} {e : Env} {s s₁ : State} {m : MethodId} {args : Array Value} {below : List Frame} {meth : Method} {c : Code} {hh : List (Nat × Nat × Nat × Nat)}
    (B : BodyLoose p l y S cc maxL ret e s m args below meth c s₁) (h : (Cond.codeWith y bytes maxL' ret' hh).before args s = true) : c.exceptionTable.toList = tableOf hh := by
  obtain ⟨m9, meth9, c9, hn9, h1, h2, -, -, h6, -⟩ := Cond.codeWith_spec h
  cases Option.some.inj (hn9.symm.trans B.named)
  cases Option.some.inj (h1.symm.trans B.method)
  cases Option.some.inj (h2.symm.trans (Stand.of_body B).code)
  rw [← h6, table_eq]
end Bodies
end VXA
/-! ===== END ===== -/
/-! ===== BEGIN a static call of a method with an exception table ===== -/
section VXS
variable {p : Program} {l : Launch} {e : Env} {R : Room} {s : State} {m : MethodId} {args : Array Value} {below : List Frame} {meth : Method} {c : Code} {T : State} {H : Heap} {locs : List Loc} {cells slots : Nat}
abbrev vx_CSW (R : Room) (s : State) (args : Array Value) (own : String) (index : Nat) (y : MethodName) (bytes : ByteArray) (maxL : Nat) (ret : Option FieldType) (hh : List (Nat × Nat × Nat × Nat)) (ws : List Cond) (rm : Room) (mc ms n : Nat) : Prop :=
  (rm.cells = mc ∧ rm.slots = ms ∧ rm.frames + 1 ≤ R.frames ∧ 8 + (maxL + 11) + rm.locals ≤ R.locals ∧ (∀ w ∈ ws, ∀ (a' : Array Value) (U : State), s.WarmedH U.vm → w.before a' U = true) ∧ Cond.codeWith y bytes maxL ret hh ∈ ws) ∧
  (Cond.codeWith y bytes maxL ret hh).before args s = true ∧ (Cond.initialized y.cls).before args s = true ∧ (y.cls ≠ "java/lang/invoke/MethodHandle" ∧ y.cls ≠ "java/lang/invoke/VarHandle") ∧
  (∀ sig, parseMethodDescriptor y.desc = some sig → n = sig.parameters.length) ∧ (Cond.methodLink own index y).before args s = true ∧ (Cond.static y).before args s = true
theorem vx_cwSW {own : String} {index maxL mc ms : Nat} {y : MethodName} {bytes : ByteArray} {ret : Option FieldType} {hh : List (Nat × Nat × Nat × Nat)} {Ts ws ws' : List Cond} {rm : Room} (n : Nat) (ht : ∀ w ∈ Ts, w.before args s = true) (hT : GoodIn Ts (va_wsS own index y ws)) (hw : ws = Cond.codeWith y bytes maxL ret hh :: ws') (hrc : rm.cells = mc) (hrs : rm.slots = ms)
    (hd : y.cls ≠ "java/lang/invoke/MethodHandle" ∧ y.cls ≠ "java/lang/invoke/VarHandle" ∧ (parseMethodDescriptor y.desc).map (fun d => d.parameters.length) = some n) (hR : rm.frames + 1 ≤ R.frames ∧ 8 + (maxL + 11) + rm.locals ≤ R.locals) :
    vx_CSW R s args own index y bytes maxL ret hh ws rm mc ms n := by
  have ok : ∀ w ∈ va_wsS own index y ws, w.before args s = true := fun w h => ht w (hT w h).1
  have hG : GoodIn Ts ws := fun w h => hT w (by unfold va_wsS; exact List.mem_append_right _ h)
  have hc : Cond.codeWith y bytes maxL ret hh ∈ ws := by rw [hw]; exact List.mem_cons_self
  refine ⟨⟨hrc, hrs, hR.1, hR.2, pay_in ht hG, hc⟩, ht _ (hG _ hc).1, ok _ (by simp [va_wsS]), ⟨hd.1, hd.2.1⟩, fun sig h => ?_, ok _ (by simp [va_wsS]), ok _ (by simp [va_wsS])⟩
  have h2 := hd.2.2
  rw [h] at h2
  exact (Option.some.inj h2).symm
theorem vx_callSW (X : Stand p l e R s m args below meth c T locs cells slots) (hexec : p.tables.exec = Jvm.exec) {own : String} {index : Nat} {y : MethodName} {bytes : ByteArray} {maxL : Nat} {ret : Option FieldType} {hh : List (Nat × Nat × Nat × Nat)}
    (hown : s.vm.findClass own = some m.cls) (hlink : (Cond.methodLink own index y).before args s = true) (hstat : (Cond.static y).before args s = true) (hinit : (Cond.initialized y.cls).before args s = true)
    (hcode : (Cond.codeWith y bytes maxL ret hh).before args s = true) (hy : y.cls ≠ "java/lang/invoke/MethodHandle" ∧ y.cls ≠ "java/lang/invoke/VarHandle")
    {W9 : Nat} {Pre : Pt → Array Value → Prop} {Post : Pt → Array Value → Option Value → Pt → Prop} (hK : Back l R p e below s args y 3 W9 Pre Post)
    {g : JFrame} (hg : g.method = m) (hsize : g.locals.size = c.maxLocals) {argsL rest : List Value} (hlen : ∀ sig, parseMethodDescriptor y.desc = some sig → argsL.length = sig.parameters.length)
    (hstack : g.stack = argsL.reverse ++ rest) (hW : 2 * g.monitorRoom + (rest.map fun v => v.category).sum ≤ W9) (hdg : decode c.code g.pc = .ok (.invokestatic index, 3))
    (hpre : ∀ vm₁, s.WarmedH vm₁ → Pre ⟨T.setVm vm₁, locs, cells, slots⟩ argsL.toArray) :
    ∃ (v : Option Value) (vm₁ : Vm) (B : Pt), s.WarmedH vm₁ ∧ Stand p l e R s m args below meth c B.U B.locs B.cells B.slots ∧ Post ⟨T.setVm vm₁, locs, cells, slots⟩ argsL.toArray v B ∧
      ∀ target, Steps p.tables e below (B.U.setTop { g with pc := g.pc + 3, stack := v.toList ++ rest }) target → Steps p.tables e below (T.setTop g) target := by
  obtain ⟨mk, methM, cM, hnamed, hmethM, -, -, -, -, -, -, hsigM⟩ := Cond.codeWith_spec hcode
  have hstatic : methM.isStatic = true := Cond.static_spec hnamed hmethM hstat
  obtain ⟨kP, hkP, -⟩ := className_of_methodNamed hnamed
  have hinitP : kP.init = .initialized := Cond.initialized_spec (findClass_of_methodNamed hnamed) hkP hinit
  obtain ⟨vm₁, X₁, hstep₁⟩ := X.invokestatic hexec hown hlink hnamed hmethM hstatic hkP hinitP hy (g := g) hg (argsL := argsL) (rest := rest) (hlen _ hsigM) hstack hdg
  obtain ⟨v, B, X', hpost, hsteps⟩ := hK m meth c ⟨T.setVm vm₁, locs, cells, slots⟩ { g with stack := rest } (.invokestatic index) mk argsL.toArray X₁ hg hsize hdg hW (X₁.named hnamed) (hpre vm₁ X₁.warmed)
  exact ⟨v, vm₁, B, X₁.warmed, X', hpost, fun target h => hstep₁ _ fun acts => by rw [doInvoke_state]; exact hsteps.trans h⟩
theorem vx_runSW {y : MethodName} {bytes cc : ByteArray} {maxL nL mc ms n index : Nat} {ret : Option FieldType} {hh : List (Nat × Nat × Nat × Nat)} {ws : List Cond} {rm : Room} {Pc : Array Value → State → Prop} {Qc : Array Value → State → Outcome → State → Prop} {free : Addr → Prop} {Ts : List Cond} {own : String} {As rest : List Value} {g : JFrame}
    (S : CallFix p m c cc nL s args Ts own) (hM : Met l y ws rm Pc Qc mc ms free) (cw : vx_CSW R s args own index y bytes maxL ret hh ws rm mc ms n) (hp : PreS s H Pc As)
    (hg : g.method = m) (hn : As.length = n) (hsize : g.locals.size = nL) (hstack : g.stack = As.reverse ++ rest) (hW : 2 * g.monitorRoom + (rest.map fun v => v.category).sum ≤ 8) (hdg : decode cc g.pc = .ok (.invokestatic index, 3)) (hf : cells + mc ≤ R.cells ∧ slots + ms ≤ R.slots) :
    va_Run p l e R s m args below meth c H locs cells slots mc ms g rest (Qc As.toArray) (free) := by
  obtain ⟨⟨hrc, hrs, hfr, hlo, hws, hcw⟩, hcode, hini, hy, hlen, hl, hstt⟩ := cw
  have hK : Back l R p e below s args y 3 8 (PreOf R mc ms Pc) (PostOf Qc mc ms free) := va_backW (hh := hh) (bytes := bytes) (maxL := maxL) (ret := ret) hM hp.1 hrc hrs hfr hlo hws hcw (fun a' U hW => word_at hW (Or.inl (by first | rfl | simp [Cond.onTables, Cond.keeps, Cond.steady])) hini)
  obtain ⟨hx, hb, hml, ho, -⟩ := S
  intro T hT X
  obtain ⟨v, vm₁, ⟨U', l2, c2, s2⟩, hW₁, X', ⟨g', mk, t, L, e1, e2, hq, h1, hL, h2, h3⟩, st⟩ := vx_callSW X hx (hh := hh) (bytes := bytes) (maxL := maxL) (ret := ret) ho hl hstt hini hcode hy hK hg (hsize.trans hml.symm) (argsL := As) (rest := rest) (fun sig h => hn.trans (hlen sig h)) hstack hW (by rw [hb]; exact hdg)
    (fun vm₁ hW₁ => ⟨hf.1, hf.2, hp.2 (T.setVm vm₁) hT hW₁⟩)
  dsimp only [Pt.U, Pt.locs, Pt.cells, Pt.slots] at X' e1 e2 h1 h2 h3 st
  subst h1; subst h2; subst h3
  exact ⟨v, (T.setVm vm₁).calling g' mk As.toArray, t, U', L, hT, X', hL, e1, e2, hq, st⟩
/-- not caught here, past rows that name other classes: it goes on to the caller -/
theorem vx_outP {p : Program} {l : Launch} {e : Env} {R : Room} {s : State} {m : MethodId} {args : Array Value} {below : List Frame} {meth : Method} {c : Code} {H : Heap} {locs : List Loc} {cells slots : Nat} {free : Addr → Prop} {ls : Array Slot} {rest : List Value} {Qc : Array Value → State → Outcome → State → Prop} {XC : String → State → State → Prop}
    {pc : Nat} {own E : String} {ce : Cell} {q : Addr} {mc ms : Nat} (hown : s.vm.findClass own = some m.cls) (hlocks : meth.locks = false)
    (hpass : ∀ z ∈ c.exceptionTable.toList, covers z pc = false ∨ (z.catchType ≠ 0 ∧ ∃ nm : String, (Cond.classLink own z.catchType nm).before args s = true ∧ va_Nc E nm s)) (hcell : H[q]? = some ce) (hv : ce.vm = .none) (hcl : s.vm.findClass E = some ce.cls)
    (hx : ∀ t : State, t.heap = H → s.vm.Alike t.vm → XC E s t) (hf : ∀ z ∈ locs, free z.base) (hc : cells ≤ mc) (hs : slots ≤ ms) :
    vx_W p l e R s m args below meth c H locs cells slots (vx_MQ below Qc XC args s mc ms free) (F0 m pc ls rest) q := by
  intro T hT X
  have hpl : e.platform.magicAccessors = ({} : Platform).magicAccessors := by rw [X.admits.platform]
  obtain ⟨vm', hW', X', st⟩ := X.outThrough hlocks q (g := F0 m pc ls rest) rfl rfl rfl (cell := ce) (by rw [hT]; exact hcell) (by rw [hv]; rfl)
    (by obtain ⟨k9, h9, -⟩ := Vm.findClass_spec hcl; exact ⟨k9, h9⟩) (fun z hz => by
      rcases hpass z hz with h | ⟨hz0, nm, hl1, hn1⟩
      · exact Or.inl h
      · obtain ⟨c6, hc6, hcl6⟩ := Cond.classLink_spec hown hl1 e.platform hpl
        obtain ⟨a8, b8, h1, h2, h3⟩ := hn1
        cases Option.some.inj (h1.symm.trans hcl)
        cases Option.some.inj (h2.symm.trans hc6)
        exact Or.inr ⟨hz0, _, hcl6, h3⟩)
  obtain ⟨g₀, hfr⟩ := X'.frames_eq
  have hcell9 : ((T.setVm vm').setFrames (.throwing q :: below)).heap[q]? = some ce := by
    show T.heap[q]? = some ce
    rw [hT]; exact hcell
  have hend : Ended ((T.setVm vm').setFrames (.throwing q :: below)) below (.threw q) := State.frames_setFrames _ (State.cur_lt_of_frames hfr)
  refine ⟨(T.setVm vm').setFrames (.throwing q :: below), ?_, .threw q, X'.here.running, hend, Or.inr ⟨q, rfl, E, ce, locs, hx _ hT (X'.ends _).1.alike, hcell9, hv, hcl, (X'.ends _).1, (X'.ends _).2.mono hc hs, hf⟩⟩
  rw [X.pushThrowing_eq]
  exact st
/-- a thing of a world lies in the heap -/
theorem vx_lt {D : va_G} {cl : List vw_C} {ws : va_W} {H1 : Heap} (h : va_P D cl ws H1) {k : Nat} {q : Nat × va_E} (hk : ws[k]? = some q) : q.1 < H1.size := (h k q hk).lt
end VXS
/-! ===== END ===== -/
/-! ===== BEGIN methods with a table of their own: called by a name, returning or throwing ===== -/
section VXH
/-! vx_backW, vx_callVX, vx_callSX, vx_callVW, vx_runVW, vx_runVX, vx_runSX, vx_ofWH follow the same proofs as their sisters above (Free/Laws.lean, Shelf42/LK1.lean); vx_outP calls Shelf42/NT130.lean (outThrough). -/
section
variable {l : Launch} {R : Room} {p : Program} {e : Env} {below : List Frame} {s : State} {sargs : Array Value} {y : MethodName} {len W9 : Nat}
theorem vx_backW {ws : List Cond} {rm : Room} {Pc : Array Value → State → Prop} {Qc : Array Value → State → Outcome → State → Prop} {XC : String → State → State → Prop} {mc ms : Nat} {free : Addr → Prop} {bytes : ByteArray} {maxL : Nat} {ret : Option FieldType} {hh : List (Nat × Nat × Nat × Nat)}
    (hM : vx_Met l y ws rm Pc Qc XC mc ms free) (hblind : FrameBlind Pc) (hrc : rm.cells = mc) (hrs : rm.slots = ms)
    (hframes : rm.frames + 1 ≤ R.frames) (hlocals : W9 + (maxL + 11) + rm.locals ≤ R.locals)
    (hws : ∀ w ∈ ws, ∀ a' U, s.WarmedH U.vm → w.before a' U = true) (hcode : Cond.codeWith y bytes maxL ret hh ∈ ws) (hinit : ∀ a' U, s.WarmedH U.vm → (Cond.initialized y.cls).before a' U = true) :
    vx_Back l R p e below s sargs y len W9 (PreOf R mc ms Pc) (PostOf Qc mc ms free) (vx_Post XC mc ms free) := by
  intro m meth c A g ig mk a X hg hsize hdg hW hn hp
  have h1 : (headSpec ws rm).pre.before a A.U = true := atoms_intro fun w hw => hws w hw _ _ X.warmed
  have h2 : (Cond.codeWith y bytes maxL ret hh).before a A.U = true := hws _ hcode _ _ X.warmed
  have h3 : (Cond.initialized y.cls).before a A.U = true := hinit _ _ X.warmed
  have h4 : A.cells + (headSpec ws rm).room.cells ≤ R.cells := by rw [show (headSpec ws rm).room.cells = mc from hrc]; exact hp.1
  have h5 : A.slots + (headSpec ws rm).room.slots ≤ R.slots := by rw [show (headSpec ws rm).room.slots = ms from hrs]; exact hp.2.1
  have hPc : Pc a (A.U.calling g mk a) := hblind _ _ _ _ hp.2.2
  obtain ⟨U, Ls, c0, s0⟩ := A
  dsimp only [Pt.U, Pt.locs, Pt.cells, Pt.slots] at h1 h2 h3 h4 h5 X hn hPc ⊢
  obtain ⟨m9, methY, cY, hn9, hmY, hcY, -, hlY, -⟩ := Cond.codeWith_spec h2
  cases Option.some.inj (hn9.symm.trans hn)
  obtain ⟨kY, hkY, -⟩ := className_of_methodNamed hn
  have hinitY : kY.init = .initialized := Cond.initialized_spec (findClass_of_methodNamed hn) hkY h3
  have h : At U g.method c below := by rw [hg]; exact X.here
  have hlocals9 : W9 + (maxL + 11) + (headSpec ws rm).room.locals ≤ R.locals := hlocals
  have happ : (headSpec ws rm).appliesLoose y e.platform (U.calling g mk a) = true :=
    Spec.appliesLoose_calling (g := g) h hdg hn hkY hinitY
      (X.room_calling (g := g) (R' := (headSpec ws rm).room) hsize hmY hcY hframes (by rw [hlY]; omega) h4 h5) h1
  obtain ⟨mid, hmid⟩ := h.above
  have hfr : (U.setTop g).frames = (.java g :: mid) ++ below := by rw [State.frames_setTop' g h.top, hmid]; rfl
  obtain ⟨o, s₂, hsteps, -, hend, hq⟩ := Steps.callFree hM p X.admits X.cas X.clock (acts := []) hfr happ hPc trivial
  have hq' : vx_Q Qc XC mc ms free a (U.calling g mk a) o s₂ := hq
  rw [State.frames_setTop' g h.top] at hend
  obtain ⟨g₀, hg0⟩ := Option.isSome_iff_exists.mp h.top
  obtain ⟨r, hr⟩ := State.topJava?_eq_some.mp hg0
  have hr' : (({ U with heap := s₂.heap, slotsUsed := s₂.slotsUsed } : State).setVm s₂.vm).frames = .java g₀ :: r := hr
  rcases hq' with ⟨hqc, L, hfe, hL⟩ | ⟨q, rfl, E, ce, L, hx, hce, hcv, hcl, hW₂, hsm, hL⟩
  · obtain ⟨⟨v, rfl⟩, hW₂, e2, q2, q3, q4, q5, q6⟩ := id hfe
    have e3 : s₂ = ({ (U.calling g mk a).setFrames s₂.frames with heap := s₂.heap, slotsUsed := s₂.slotsUsed } : State).setVm s₂.vm := by
      have : s₂ = ({ s₂ with vm := (U.calling g mk a).vm } : State).setVm s₂.vm := rfl
      rw [e2] at this
      exact this
    obtain ⟨c₂, i₂, len₂, hc₂, hd₂, hf₂⟩ := hend
    have hW' : U.WarmedH s₂.vm := hW₂
    have hcc : c₂ = c := by
      have h1 : s₂.code? g.method = U.code? g.method := by
        rw [State.code?_eq, State.code?_eq, hW'.alike.method?]
      exact Option.some.inj (hc₂.symm.trans (h1.trans h.code))
    subst hcc
    have hlen : len₂ = len := by rw [hdg] at hd₂; cases hd₂; rfl
    subst hlen
    have hs₂ : s₂ = (({ U with heap := s₂.heap, slotsUsed := s₂.slotsUsed } : State).setVm s₂.vm).setTop { g with pc := g.pc + len₂, stack := v.toList ++ g.stack } := by
      refine e3.trans ?_
      rw [hf₂, State.calling_eq h.top, State.setFrames_setFrames, State.setTop_of_frames _ hr', hr]
      rfl
    have hsame : U.sameButNew ({ U with heap := s₂.heap, slotsUsed := s₂.slotsUsed } : State) L mc ms := by
      refine ⟨?_, q2, q3, q4, q5, q6⟩
      obtain ⟨t, ht, -⟩ := State.frames_cons hr
      show ({ U with heap := s₂.heap, slotsUsed := s₂.slotsUsed } : State) = { U.setFrames U.frames with heap := s₂.heap, slotsUsed := s₂.slotsUsed }
      rw [State.setFrames_self ht]
    subst hg
    refine Or.inl ⟨v, ⟨(({ U with heap := s₂.heap, slotsUsed := s₂.slotsUsed } : State).setVm s₂.vm), Ls ++ L, c0 + mc, s0 + ms⟩,
      ⟨X.admits, X.cas, X.clock, X.frames, X.room, X.hears, X.method, X.code, (X.here.setHeapUsed s₂.heap s₂.slotsUsed).setVm hW'.alike, X.tail, State.WarmedH.trans X.warmed hW', X.limits, X.bytes, X.same.trans (hsame.setVm s.vm)⟩,
      ⟨g, mk, s₂, L, rfl, rfl, hqc, rfl, hL, rfl, rfl⟩, ?_⟩
    show Steps p.tables e below _ ((({ U with heap := s₂.heap, slotsUsed := s₂.slotsUsed } : State).setVm s₂.vm).setTop { g with pc := g.pc + len₂, stack := v.toList ++ g.stack })
    rw [← hs₂]
    exact hsteps
  · obtain ⟨e2, q2, q3, q4, q5, q6⟩ := id hsm
    have e3 : s₂ = ({ (U.calling g mk a).setFrames s₂.frames with heap := s₂.heap, slotsUsed := s₂.slotsUsed } : State).setVm s₂.vm := by
      have : s₂ = ({ s₂ with vm := (U.calling g mk a).vm } : State).setVm s₂.vm := rfl
      rw [e2] at this
      exact this
    have hf₂ : s₂.frames = .throwing q :: .java g :: U.frames.tail := hend
    have hW' : U.WarmedH s₂.vm := hW₂
    have hs₂ : s₂ = ((({ U with heap := s₂.heap, slotsUsed := s₂.slotsUsed } : State).setVm s₂.vm).setTop g).pushFrame (.throwing q) := by
      refine e3.trans ?_
      rw [hf₂, State.calling_eq h.top, State.setFrames_setFrames, State.pushFrame, State.frames_setTop _ hr', State.setTop_of_frames _ hr', State.setFrames_setFrames, hr]
      rfl
    have hsame : U.sameButNew ({ U with heap := s₂.heap, slotsUsed := s₂.slotsUsed } : State) L mc ms := by
      refine ⟨?_, q2, q3, q4, q5, q6⟩
      obtain ⟨t, ht, -⟩ := State.frames_cons hr
      show ({ U with heap := s₂.heap, slotsUsed := s₂.slotsUsed } : State) = { U.setFrames U.frames with heap := s₂.heap, slotsUsed := s₂.slotsUsed }
      rw [State.setFrames_self ht]
    subst hg
    refine Or.inr ⟨q, ⟨(({ U with heap := s₂.heap, slotsUsed := s₂.slotsUsed } : State).setVm s₂.vm), Ls ++ L, c0 + mc, s0 + ms⟩,
      ⟨X.admits, X.cas, X.clock, X.frames, X.room, X.hears, X.method, X.code, (X.here.setHeapUsed s₂.heap s₂.slotsUsed).setVm hW'.alike, X.tail, State.WarmedH.trans X.warmed hW', X.limits, X.bytes, X.same.trans (hsame.setVm s.vm)⟩,
      ⟨g, mk, s₂, L, E, ce, rfl, rfl, hx, hce, hcv, hcl, rfl, hL, rfl, rfl⟩, ?_⟩
    show Steps p.tables e below _ (((({ U with heap := s₂.heap, slotsUsed := s₂.slotsUsed } : State).setVm s₂.vm).setTop g).pushFrame (.throwing q))
    rw [← hs₂]
    exact hsteps
end
variable {p : Program} {l : Launch} {e : Env} {R : Room} {s : State} {m : MethodId} {args : Array Value} {below : List Frame} {meth : Method} {c : Code} {T : State} {H : Heap} {locs : List Loc} {cells slots : Nat}
theorem vx_callVX (X : Stand p l e R s m args below meth c T locs cells slots) (hexec : p.tables.exec = Jvm.exec) {own C : String} {index : Nat} {y : MethodName} {bytes : ByteArray} {maxL : Nat} {ret : Option FieldType} {hh : List (Nat × Nat × Nat × Nat)}
    (hown : s.vm.findClass own = some m.cls) (hlink : (Cond.methodLink own index y).before args s = true) (hinst : (Cond.instanceMethod y).before args s = true) (hsel : (Cond.selects C y y).before args s = true)
    (hcode : (Cond.codeWith y bytes maxL ret hh).before args s = true) (hy : y.cls ≠ "java/lang/invoke/MethodHandle" ∧ y.cls ≠ "java/lang/invoke/VarHandle")
    {W9 : Nat} {Pre : Pt → Array Value → Prop} {Post : Pt → Array Value → Option Value → Pt → Prop} {PostX : Pt → Array Value → Addr → Pt → Prop} (hK : vx_Back l R p e below s args y 3 W9 Pre Post PostX)
    {b : Addr} {cellB : Cell} (hcell : T.heap[b]? = some cellB) (hobj : cellB.vm.isStatics = false) (hcls : s.vm.findClass C = some cellB.cls)
    {g : JFrame} (hg : g.method = m) (hsize : g.locals.size = c.maxLocals) {argsL rest : List Value} (hlen : ∀ sig, parseMethodDescriptor y.desc = some sig → argsL.length = sig.parameters.length)
    (hstack : g.stack = argsL.reverse ++ .ref b :: rest) (hW : 2 * g.monitorRoom + (rest.map fun v => v.category).sum ≤ W9) (hdg : decode c.code g.pc = .ok (.invokevirtual index, 3))
    (hpre : ∀ vm₁, s.WarmedH vm₁ → Pre ⟨T.setVm vm₁, locs, cells, slots⟩ (Value.ref b :: argsL).toArray) :
    (∃ (v : Option Value) (vm₁ : Vm) (B : Pt), s.WarmedH vm₁ ∧ Stand p l e R s m args below meth c B.U B.locs B.cells B.slots ∧ Post ⟨T.setVm vm₁, locs, cells, slots⟩ (Value.ref b :: argsL).toArray v B ∧
      ∀ target, Steps p.tables e below (B.U.setTop { g with pc := g.pc + 3, stack := v.toList ++ rest }) target → Steps p.tables e below (T.setTop g) target) ∨
    (∃ (q : Addr) (vm₁ : Vm) (B : Pt), s.WarmedH vm₁ ∧ Stand p l e R s m args below meth c B.U B.locs B.cells B.slots ∧ PostX ⟨T.setVm vm₁, locs, cells, slots⟩ (Value.ref b :: argsL).toArray q B ∧
      Steps p.tables e below (T.setTop g) ((B.U.setTop { g with stack := rest }).pushFrame (.throwing q))) := by
  obtain ⟨mk, methM, hnamed, hmethM, hstM, habM⟩ := Cond.instanceMethod_spec hinst
  obtain ⟨m8, methM', cM, hn8, hmethM', -, -, -, -, -, -, hsigM⟩ := Cond.codeWith_spec hcode
  cases Option.some.inj (hn8.symm.trans hnamed)
  cases hmethM.symm.trans hmethM'
  obtain ⟨c2, r2, m2, q1, q2, q3, q4, kP, hkP, hkPi⟩ := Cond.selects_spec hsel
  cases hcls.symm.trans q1
  cases (State.methodFound?_of_named hnamed hy).symm.trans q2
  cases hnamed.symm.trans q3
  have hselP : selectMethod e.platform s.vm cellB.cls mk = .method mk := by rw [Launch.admits_selectMethod X.admits]; exact q4
  obtain ⟨vm₁, X₁, hstep₁⟩ := X.invokevirtual hexec hown hlink hnamed hmethM hstM hkP hkPi hy (a := b) (cell := cellB) hcell
    (fun z h => by rw [h] at hobj; cases hobj) hselP hmethM habM hkP hkPi (g := g) hg (argsL := argsL) (rest := rest) (hlen _ hsigM) hstack hdg
  rcases hK m meth c ⟨T.setVm vm₁, locs, cells, slots⟩ { g with stack := rest } (.invokevirtual index) mk (Value.ref b :: argsL).toArray X₁ hg hsize hdg hW (X₁.named hnamed) (hpre vm₁ X₁.warmed) with ⟨v, B, X', hpost, hsteps⟩ | ⟨q, B, X', hpost, hsteps⟩
  · exact Or.inl ⟨v, vm₁, B, X₁.warmed, X', hpost, fun target h => hstep₁ _ fun acts => by rw [doInvoke_state]; exact hsteps.trans h⟩
  · exact Or.inr ⟨q, vm₁, B, X₁.warmed, X', hpost, hstep₁ _ fun acts => by rw [doInvoke_state]; exact hsteps⟩
theorem vx_callSX (X : Stand p l e R s m args below meth c T locs cells slots) (hexec : p.tables.exec = Jvm.exec) {own : String} {index : Nat} {y : MethodName} {bytes : ByteArray} {maxL : Nat} {ret : Option FieldType} {hh : List (Nat × Nat × Nat × Nat)}
    (hown : s.vm.findClass own = some m.cls) (hlink : (Cond.methodLink own index y).before args s = true) (hstat : (Cond.static y).before args s = true) (hinit : (Cond.initialized y.cls).before args s = true)
    (hcode : (Cond.codeWith y bytes maxL ret hh).before args s = true) (hy : y.cls ≠ "java/lang/invoke/MethodHandle" ∧ y.cls ≠ "java/lang/invoke/VarHandle")
    {W9 : Nat} {Pre : Pt → Array Value → Prop} {Post : Pt → Array Value → Option Value → Pt → Prop} {PostX : Pt → Array Value → Addr → Pt → Prop} (hK : vx_Back l R p e below s args y 3 W9 Pre Post PostX)
    {g : JFrame} (hg : g.method = m) (hsize : g.locals.size = c.maxLocals) {argsL rest : List Value} (hlen : ∀ sig, parseMethodDescriptor y.desc = some sig → argsL.length = sig.parameters.length)
    (hstack : g.stack = argsL.reverse ++ rest) (hW : 2 * g.monitorRoom + (rest.map fun v => v.category).sum ≤ W9) (hdg : decode c.code g.pc = .ok (.invokestatic index, 3))
    (hpre : ∀ vm₁, s.WarmedH vm₁ → Pre ⟨T.setVm vm₁, locs, cells, slots⟩ argsL.toArray) :
    (∃ (v : Option Value) (vm₁ : Vm) (B : Pt), s.WarmedH vm₁ ∧ Stand p l e R s m args below meth c B.U B.locs B.cells B.slots ∧ Post ⟨T.setVm vm₁, locs, cells, slots⟩ argsL.toArray v B ∧
      ∀ target, Steps p.tables e below (B.U.setTop { g with pc := g.pc + 3, stack := v.toList ++ rest }) target → Steps p.tables e below (T.setTop g) target) ∨
    (∃ (q : Addr) (vm₁ : Vm) (B : Pt), s.WarmedH vm₁ ∧ Stand p l e R s m args below meth c B.U B.locs B.cells B.slots ∧ PostX ⟨T.setVm vm₁, locs, cells, slots⟩ argsL.toArray q B ∧
      Steps p.tables e below (T.setTop g) ((B.U.setTop { g with stack := rest }).pushFrame (.throwing q))) := by
  obtain ⟨mk, methM, cM, hnamed, hmethM, -, -, -, -, -, -, hsigM⟩ := Cond.codeWith_spec hcode
  have hstatic : methM.isStatic = true := Cond.static_spec hnamed hmethM hstat
  obtain ⟨kP, hkP, -⟩ := className_of_methodNamed hnamed
  have hinitP : kP.init = .initialized := Cond.initialized_spec (findClass_of_methodNamed hnamed) hkP hinit
  obtain ⟨vm₁, X₁, hstep₁⟩ := X.invokestatic hexec hown hlink hnamed hmethM hstatic hkP hinitP hy (g := g) hg (argsL := argsL) (rest := rest) (hlen _ hsigM) hstack hdg
  rcases hK m meth c ⟨T.setVm vm₁, locs, cells, slots⟩ { g with stack := rest } (.invokestatic index) mk argsL.toArray X₁ hg hsize hdg hW (X₁.named hnamed) (hpre vm₁ X₁.warmed) with ⟨v, B, X', hpost, hsteps⟩ | ⟨q, B, X', hpost, hsteps⟩
  · exact Or.inl ⟨v, vm₁, B, X₁.warmed, X', hpost, fun target h => hstep₁ _ fun acts => by rw [doInvoke_state]; exact hsteps.trans h⟩
  · exact Or.inr ⟨q, vm₁, B, X₁.warmed, X', hpost, hstep₁ _ fun acts => by rw [doInvoke_state]; exact hsteps⟩
theorem vx_callVW (X : Stand p l e R s m args below meth c T locs cells slots) (hexec : p.tables.exec = Jvm.exec) {own C : String} {index : Nat} {y : MethodName} {bytes : ByteArray} {maxL : Nat} {ret : Option FieldType} {hh : List (Nat × Nat × Nat × Nat)}
    (hown : s.vm.findClass own = some m.cls) (hlink : (Cond.methodLink own index y).before args s = true) (hinst : (Cond.instanceMethod y).before args s = true) (hsel : (Cond.selects C y y).before args s = true)
    (hcode : (Cond.codeWith y bytes maxL ret hh).before args s = true) (hy : y.cls ≠ "java/lang/invoke/MethodHandle" ∧ y.cls ≠ "java/lang/invoke/VarHandle")
    {W9 : Nat} {Pre : Pt → Array Value → Prop} {Post : Pt → Array Value → Option Value → Pt → Prop} (hK : Back l R p e below s args y 3 W9 Pre Post)
    {b : Addr} {cellB : Cell} (hcell : T.heap[b]? = some cellB) (hobj : cellB.vm.isStatics = false) (hcls : s.vm.findClass C = some cellB.cls)
    {g : JFrame} (hg : g.method = m) (hsize : g.locals.size = c.maxLocals) {argsL rest : List Value} (hlen : ∀ sig, parseMethodDescriptor y.desc = some sig → argsL.length = sig.parameters.length)
    (hstack : g.stack = argsL.reverse ++ .ref b :: rest) (hW : 2 * g.monitorRoom + (rest.map fun v => v.category).sum ≤ W9) (hdg : decode c.code g.pc = .ok (.invokevirtual index, 3))
    (hpre : ∀ vm₁, s.WarmedH vm₁ → Pre ⟨T.setVm vm₁, locs, cells, slots⟩ (Value.ref b :: argsL).toArray) :
    ∃ (v : Option Value) (vm₁ : Vm) (B : Pt), s.WarmedH vm₁ ∧ Stand p l e R s m args below meth c B.U B.locs B.cells B.slots ∧ Post ⟨T.setVm vm₁, locs, cells, slots⟩ (Value.ref b :: argsL).toArray v B ∧
      ∀ target, Steps p.tables e below (B.U.setTop { g with pc := g.pc + 3, stack := v.toList ++ rest }) target → Steps p.tables e below (T.setTop g) target := by
  obtain ⟨mk, methM, hnamed, hmethM, hstM, habM⟩ := Cond.instanceMethod_spec hinst
  obtain ⟨m8, methM', cM, hn8, hmethM', -, -, -, -, -, -, hsigM⟩ := Cond.codeWith_spec hcode
  cases Option.some.inj (hn8.symm.trans hnamed)
  cases hmethM.symm.trans hmethM'
  obtain ⟨c2, r2, m2, q1, q2, q3, q4, kP, hkP, hkPi⟩ := Cond.selects_spec hsel
  cases hcls.symm.trans q1
  cases (State.methodFound?_of_named hnamed hy).symm.trans q2
  cases hnamed.symm.trans q3
  have hselP : selectMethod e.platform s.vm cellB.cls mk = .method mk := by rw [Launch.admits_selectMethod X.admits]; exact q4
  obtain ⟨vm₁, X₁, hstep₁⟩ := X.invokevirtual hexec hown hlink hnamed hmethM hstM hkP hkPi hy (a := b) (cell := cellB) hcell
    (fun z h => by rw [h] at hobj; cases hobj) hselP hmethM habM hkP hkPi (g := g) hg (argsL := argsL) (rest := rest) (hlen _ hsigM) hstack hdg
  obtain ⟨v, B, X', hpost, hsteps⟩ := hK m meth c ⟨T.setVm vm₁, locs, cells, slots⟩ { g with stack := rest } (.invokevirtual index) mk (Value.ref b :: argsL).toArray X₁ hg hsize hdg hW (X₁.named hnamed) (hpre vm₁ X₁.warmed)
  exact ⟨v, vm₁, B, X₁.warmed, X', hpost, fun target h => hstep₁ _ fun acts => by rw [doInvoke_state]; exact hsteps.trans h⟩
abbrev vx_CVW (R : Room) (s : State) (args : Array Value) (own C : String) (index : Nat) (y : MethodName) (bytes : ByteArray) (maxL : Nat) (ret : Option FieldType) (hh : List (Nat × Nat × Nat × Nat)) (ws : List Cond) (rm : Room) (mc ms n : Nat) : Prop :=
  (rm.cells = mc ∧ rm.slots = ms ∧ rm.frames + 1 ≤ R.frames ∧ 8 + (maxL + 11) + rm.locals ≤ R.locals ∧ (∀ w ∈ ws, ∀ (a' : Array Value) (U : State), s.WarmedH U.vm → w.before a' U = true) ∧ Cond.codeWith y bytes maxL ret hh ∈ ws) ∧
  (Cond.codeWith y bytes maxL ret hh).before args s = true ∧ (Cond.initialized y.cls).before args s = true ∧ (y.cls ≠ "java/lang/invoke/MethodHandle" ∧ y.cls ≠ "java/lang/invoke/VarHandle") ∧
  (∀ sig, parseMethodDescriptor y.desc = some sig → n = sig.parameters.length) ∧ (Cond.methodLink own index y).before args s = true ∧ (Cond.instanceMethod y).before args s = true ∧ (Cond.selects C y y).before args s = true
theorem vx_cwVW {own C : String} {index maxL mc ms : Nat} {y : MethodName} {bytes : ByteArray} {ret : Option FieldType} {hh : List (Nat × Nat × Nat × Nat)} {Ts ws ws' : List Cond} {rm : Room} (n : Nat) (ht : ∀ w ∈ Ts, w.before args s = true) (hT : GoodIn Ts (wsV own index C y ws)) (hw : ws = Cond.codeWith y bytes maxL ret hh :: ws') (hrc : rm.cells = mc) (hrs : rm.slots = ms)
    (hd : y.cls = C ∧ y.cls ≠ "java/lang/invoke/MethodHandle" ∧ y.cls ≠ "java/lang/invoke/VarHandle" ∧ (parseMethodDescriptor y.desc).map (fun d => d.parameters.length) = some n) (hR : rm.frames + 1 ≤ R.frames ∧ 8 + (maxL + 11) + rm.locals ≤ R.locals) :
    vx_CVW R s args own C index y bytes maxL ret hh ws rm mc ms n := by
  obtain ⟨hC, hd⟩ := hd
  subst hC
  have ok : ∀ w ∈ wsV own index y.cls y ws, w.before args s = true := fun w h => ht w (hT w h).1
  have hG : GoodIn Ts ws := fun w h => hT w (by unfold wsV; exact List.mem_append_right _ h)
  have hc : Cond.codeWith y bytes maxL ret hh ∈ ws := by rw [hw]; exact List.mem_cons_self
  refine ⟨⟨hrc, hrs, hR.1, hR.2, pay_in ht hG, hc⟩, ht _ (hG _ hc).1, ok _ (by simp [wsV]), ⟨hd.1, hd.2.1⟩, fun sig h => ?_, ok _ (by simp [wsV]), ok _ (by simp [wsV]), ok _ (by simp [wsV])⟩
  have h2 := hd.2.2
  rw [h] at h2
  exact (Option.some.inj h2).symm
theorem vx_runVW {y : MethodName} {bytes cc : ByteArray} {maxL nL mc ms n index : Nat} {ret : Option FieldType} {hh : List (Nat × Nat × Nat × Nat)} {ws : List Cond} {rm : Room} {Pc : Array Value → State → Prop} {Qc : Array Value → State → Outcome → State → Prop} {free : Addr → Prop} {Ts : List Cond} {own C : String} {b : Addr} {As rest : List Value} {g : JFrame}
    (S : CallFix p m c cc nL s args Ts own) (hM : Met l y ws rm Pc Qc mc ms free) (cw : vx_CVW R s args own C index y bytes maxL ret hh ws rm mc ms n) (hp : PreV s H C b Pc As)
    (hg : g.method = m) (hn : As.length = n) (hsize : g.locals.size = nL) (hstack : g.stack = As.reverse ++ .ref b :: rest) (hW : 2 * g.monitorRoom + (rest.map fun v => v.category).sum ≤ 8) (hdg : decode cc g.pc = .ok (.invokevirtual index, 3)) (hf : cells + mc ≤ R.cells ∧ slots + ms ≤ R.slots) :
    va_Run p l e R s m args below meth c H locs cells slots mc ms g rest (Qc (Value.ref b :: As).toArray) free := by
  obtain ⟨⟨hrc, hrs, hfr, hlo, hws, hcw⟩, hcode, hini, hy, hlen, hl, hin, hse⟩ := cw
  have hK : Back l R p e below s args y 3 8 (PreOf R mc ms Pc) (PostOf Qc mc ms free) := va_backW (hh := hh) (bytes := bytes) (maxL := maxL) (ret := ret) hM hp.1 hrc hrs hfr hlo hws hcw (fun a' U hW => word_at hW (Or.inl (by first | rfl | simp [Cond.onTables, Cond.keeps, Cond.steady])) hini)
  obtain ⟨hx, hb, hml, ho, -⟩ := S
  obtain ⟨-, ⟨cellB, hcB, hoB, hclB⟩, hPc⟩ := hp
  intro T hT X
  obtain ⟨v, vm₁, ⟨U', l2, c2, s2⟩, hW₁, X', ⟨g', mk, t, L, e1, e2, hq, h1, hL, h2, h3⟩, st⟩ := vx_callVW X hx (C := C) (hh := hh) (bytes := bytes) (maxL := maxL) (ret := ret) ho hl hin hse hcode hy hK (by rw [hT]; exact hcB) hoB hclB hg (hsize.trans hml.symm) (argsL := As) (rest := rest) (fun sig h => hn.trans (hlen sig h)) hstack hW (by rw [hb]; exact hdg)
    (fun vm₁ hW₁ => ⟨hf.1, hf.2, hPc (T.setVm vm₁) hT hW₁⟩)
  dsimp only [Pt.U, Pt.locs, Pt.cells, Pt.slots] at X' e1 e2 h1 h2 h3 st
  subst h1; subst h2; subst h3
  exact ⟨v, (T.setVm vm₁).calling g' mk (Value.ref b :: As).toArray, t, U', L, hT, X', hL, e1, e2, hq, st⟩
section
variable {y : MethodName} {bytes cc : ByteArray} {maxL nL mc ms n index : Nat} {ret : Option FieldType} {ws : List Cond} {rm : Room} {Pc : Array Value → State → Prop} {Qc : Array Value → State → Outcome → State → Prop} {XC : String → State → State → Prop} {free : Addr → Prop} {Ts : List Cond} {own C : String} {b : Addr} {As rest : List Value} {g : JFrame}
theorem vx_runVX {hh : List (Nat × Nat × Nat × Nat)} (S : CallFix p m c cc nL s args Ts own) (hM : vx_Met l y ws rm Pc Qc XC mc ms free) (cw : vx_CVW R s args own C index y bytes maxL ret hh ws rm mc ms n) (hp : PreV s H C b Pc As)
    (hg : g.method = m) (hn : As.length = n) (hsize : g.locals.size = nL) (hstack : g.stack = As.reverse ++ .ref b :: rest) (hW : 2 * g.monitorRoom + (rest.map fun v => v.category).sum ≤ 8) (hdg : decode cc g.pc = .ok (.invokevirtual index, 3)) (hf : cells + mc ≤ R.cells ∧ slots + ms ≤ R.slots) :
    vx_Run p l e R s m args below meth c H locs cells slots mc ms g rest (Qc (Value.ref b :: As).toArray) XC free := by
  obtain ⟨⟨hrc, hrs, hfr, hlo, hws, hcw⟩, hcode, hini, hy, hlen, hl, hin, hse⟩ := cw
  have hK : vx_Back l R p e below s args y 3 8 (PreOf R mc ms Pc) (PostOf Qc mc ms free) (vx_Post XC mc ms free) := vx_backW (hh := hh) (bytes := bytes) (maxL := maxL) (ret := ret) hM hp.1 hrc hrs hfr hlo hws hcw (fun a' U hW => word_at hW (Or.inl (by first | rfl | simp [Cond.onTables, Cond.keeps, Cond.steady])) hini)
  obtain ⟨hx, hb, hml, ho, -⟩ := S
  obtain ⟨-, ⟨cellB, hcB, hoB, hclB⟩, hPc⟩ := hp
  intro T hT X
  rcases vx_callVX X hx (C := C) (hh := hh) (bytes := bytes) (maxL := maxL) (ret := ret) ho hl hin hse hcode hy hK (by rw [hT]; exact hcB) hoB hclB hg (hsize.trans hml.symm) (argsL := As) (rest := rest) (fun sig h => hn.trans (hlen sig h)) hstack hW (by rw [hb]; exact hdg)
    (fun vm₁ hW₁ => ⟨hf.1, hf.2, hPc (T.setVm vm₁) hT hW₁⟩) with ⟨v, vm₁, ⟨U', l2, c2, s2⟩, hW₁, X', ⟨g', mk, t, L, e1, e2, hq, h1, hL, h2, h3⟩, st⟩ | ⟨q, vm₁, ⟨U', l2, c2, s2⟩, hW₁, X', ⟨g', mk, t, L, E, ce, e1, e2, hq, hce, hcv, hcl, h1, hL, h2, h3⟩, st⟩
  · dsimp only [Pt.U, Pt.locs, Pt.cells, Pt.slots] at X' e1 e2 h1 h2 h3 st
    subst h1; subst h2; subst h3
    exact Or.inl ⟨v, (T.setVm vm₁).calling g' mk (Value.ref b :: As).toArray, t, U', L, hT, X', hL, e1, e2, hq, st⟩
  · dsimp only [Pt.U, Pt.locs, Pt.cells, Pt.slots] at X' e1 e2 h1 h2 h3 st hcl
    subst h1; subst h2; subst h3
    exact Or.inr ⟨q, (T.setVm vm₁).calling g' mk (Value.ref b :: As).toArray, t, U', L, E, ce, hT, X', hL, e1, e2, hq, hce, hcv, vx_cls hW₁ hcl, st⟩
theorem vx_runSX {hh : List (Nat × Nat × Nat × Nat)} (S : CallFix p m c cc nL s args Ts own) (hM : vx_Met l y ws rm Pc Qc XC mc ms free) (cw : vx_CSW R s args own index y bytes maxL ret hh ws rm mc ms n) (hp : PreS s H Pc As)
    (hg : g.method = m) (hn : As.length = n) (hsize : g.locals.size = nL) (hstack : g.stack = As.reverse ++ rest) (hW : 2 * g.monitorRoom + (rest.map fun v => v.category).sum ≤ 8) (hdg : decode cc g.pc = .ok (.invokestatic index, 3)) (hf : cells + mc ≤ R.cells ∧ slots + ms ≤ R.slots) :
    vx_Run p l e R s m args below meth c H locs cells slots mc ms g rest (Qc As.toArray) XC free := by
  obtain ⟨⟨hrc, hrs, hfr, hlo, hws, hcw⟩, hcode, hini, hy, hlen, hl, hstt⟩ := cw
  have hK : vx_Back l R p e below s args y 3 8 (PreOf R mc ms Pc) (PostOf Qc mc ms free) (vx_Post XC mc ms free) := vx_backW (hh := hh) (bytes := bytes) (maxL := maxL) (ret := ret) hM hp.1 hrc hrs hfr hlo hws hcw (fun a' U hW => word_at hW (Or.inl (by first | rfl | simp [Cond.onTables, Cond.keeps, Cond.steady])) hini)
  obtain ⟨hx, hb, hml, ho, -⟩ := S
  intro T hT X
  rcases vx_callSX X hx (hh := hh) (bytes := bytes) (maxL := maxL) (ret := ret) ho hl hstt hini hcode hy hK hg (hsize.trans hml.symm) (argsL := As) (rest := rest) (fun sig h => hn.trans (hlen sig h)) hstack hW (by rw [hb]; exact hdg)
    (fun vm₁ hW₁ => ⟨hf.1, hf.2, hp.2 (T.setVm vm₁) hT hW₁⟩) with ⟨v, vm₁, ⟨U', l2, c2, s2⟩, hW₁, X', ⟨g', mk, t, L, e1, e2, hq, h1, hL, h2, h3⟩, st⟩ | ⟨q, vm₁, ⟨U', l2, c2, s2⟩, hW₁, X', ⟨g', mk, t, L, E, ce, e1, e2, hq, hce, hcv, hcl, h1, hL, h2, h3⟩, st⟩
  · dsimp only [Pt.U, Pt.locs, Pt.cells, Pt.slots] at X' e1 e2 h1 h2 h3 st
    subst h1; subst h2; subst h3
    exact Or.inl ⟨v, (T.setVm vm₁).calling g' mk As.toArray, t, U', L, hT, X', hL, e1, e2, hq, st⟩
  · dsimp only [Pt.U, Pt.locs, Pt.cells, Pt.slots] at X' e1 e2 h1 h2 h3 st hcl
    subst h1; subst h2; subst h3
    exact Or.inr ⟨q, (T.setVm vm₁).calling g' mk As.toArray, t, U', L, E, ce, hT, X', hL, e1, e2, hq, hce, hcv, vx_cls hW₁ hcl, st⟩
end
end VXH
theorem vx_ofWH {l : Launch} {y : MethodName} {ws ws' : List Cond} {rm : Room} {Pc : Array Value → State → Prop} {Qc : Array Value → State → Outcome → State → Prop} {XC : String → State → State → Prop} {mc ms : Nat} {free : Addr → Prop} {cc : ByteArray} {maxL : Nat} {ret : Option FieldType} {hh : List (Nat × Nat × Nat × Nat)}
    (hy : plainName y.cls = true) (hw : ws = Cond.codeWith y cc maxL ret hh :: ws')
    (body : ∀ p e s m args below meth c s₁, BodyLoose p l y (headSpec ws rm) cc maxL ret e s m args below meth c s₁ → c.maxLocals = maxL → Pc args s →
      W p l e (headSpec ws rm).room s m args below meth c s.heap [] 0 0 (vx_MQ below Qc XC args s mc ms free) (entryFrame m args maxL)) : vx_Met l y ws rm Pc Qc XC mc ms free := by
  refine MetFree.of_bodyS (code := cc) (maxLocals := maxL) (ret := ret) hy ?_ ?_
  · intro args s m h hn
    obtain ⟨m9, meth, c, hn9, h1, h2, h3, h4, -, h5, h6, -⟩ := Cond.codeWith_spec (atoms_spec (ws := ws) h _ (by rw [hw]; exact List.mem_cons_self))
    cases hn.symm.trans hn9
    exact ⟨meth, c, h1, h2, h3, h4, h5, h6⟩
  · intro p e s m args below meth c s₁ B hml hP _
    have hh0 : s₁.heap = s.heap := by rw [B.state]; rfl
    obtain ⟨t, a1, o, b1, b2, b3⟩ := body p e s m args below meth c s₁ B hml hP s₁ hh0 (Stand.of_body B)
    exact ⟨t, o, a1, b1, b2, b3⟩
/-! ===== END ===== -/
/-! ===== BEGIN what the machine throws by itself, no traces kept ===== -/
section VXM
set_option maxHeartbeats 1000000 in
/-- the machine throws cls with the message text, no traces kept: from its note over the frame g to 'throwing' over the same frame (follows the proofs of Stand.vmThrowsMessage, Shelf/KitTracedVmS.lean, and Stand.throwsMessageColdBareV, StandMessageColdV.lean, without the step out of the frame) -/
theorem vx_vmAt {p : Program} {l : Launch} {e : Env} {R : Room} {s : State} {m₀ : MethodId} {args : Array Value} {below : List Frame} {meth : Method} {c : Code} {W : State} {locs : List Loc} {cells slots : Nat}
    (X : Stand p l e R s m₀ args below meth c W locs cells slots) (hexec : p.tables.exec = Jvm.exec) (htr : e.platform.stackTraces = false) {cls : String} {names : List String} {text : String}
    (hcls : Bundle.fit cls = true) (hnames : ∀ n ∈ names, Bundle.fit n = true) (hsoe : (cls == "java/lang/StackOverflowError") = false) (hoom : (cls == "java/lang/OutOfMemoryError") = false)
    (h : ∀ a ∈ Bundle.messageArmAtoms cls names, a.before args s = true)
    (hlocs : ∀ x ∈ locs, ∀ cell, s.heap[x.base]? = some cell → cell.vm.isStatics = false)
    (htext : (text == notModelled) = false) (hlimit : ¬ (stringBytes (stringToUtf16 text)).size > e.platform.arrayLengthLimit) (hheap : ¬ (stringBytes (stringToUtf16 text)).size * componentBytes .byte > e.platform.maxHeapBytes)
    {g : JFrame} (hg : g.method = m₀) (hsize : g.locals.size = c.maxLocals)
    (hRframes : names.length + 4 < R.frames) (hRlocals : 2 * g.monitorRoom + (g.stack.map fun v => v.category).sum + 10240 ≤ R.locals) (hshort : 13 * names.length + 55 ≤ 10240)
    (hRcells : cells + 3 ≤ R.cells) (hRslots : slots + ((stringBytes (stringToUtf16 text)).size + 4 + 6) ≤ R.slots) (hlocks : meth.locks = false) :
    ∃ (S : State) (q : Addr) (ce : Cell), (∀ target, Steps p.tables e below ((S.setTop g).pushFrame (.throwing q)) target → Steps p.tables e below ((W.setTop g).pushFrame (.throwNew cls (some text) none)) target) ∧
      Stand p l e R s m₀ args below meth c S locs (cells + 3) (slots + ((stringBytes (stringToUtf16 text)).size + 4 + 6)) ∧ S.heap[q]? = some ce ∧ s.vm.findClass cls = some ce.cls ∧ ce.vm = .none := by
  have howns : e.platform.frameOwnsMonitors = true := by rw [X.admits.platform]
  have hfin : e.platform.finalization = false := by rw [X.admits.platform]
  have hpl : e.platform.magicAccessors = ({} : Platform).magicAccessors := by rw [X.admits.platform]
  have a : ∀ x, x ∈ Bundle.messageArmAtoms cls names → x.holds args s none s [] = true := fun x hx => h x hx
  obtain ⟨T, Z0, L, -, Y⟩ := ThrowableC.of_atoms (args := args) howns hfin hpl (fun x hx => h x (by simp [Bundle.messageArmAtoms, hx]))
  obtain ⟨Z, M, LZ, LM, hnZ⟩ := Init0T.ofS_atoms (args := args) hpl L Y (fun x hx => h x (by simp [Bundle.messageArmAtoms, hx]))
  obtain ⟨P1, Ps, hlen, L1, hL, hP1m, hlink1, hlink⟩ := Bundle.chainS (args := args) hpl hnZ names cls hcls hnames (fun x hx => h x (by simp [Bundle.messageArmAtoms, hx]))
  obtain ⟨Zs, LZs, hn4, hfitv, hfitc⟩ := StringT.of_atoms (args := args) (fun x hx => h x (by simp [Bundle.messageArmAtoms, hx]))
  have hfound : s.vm.findClass cls = some P1.m.cls := findClass_of_methodNamed hP1m
  obtain ⟨c1, kX, hc1, hk, hord, -, -, hn6⟩ := Cond.instantiable_spec (a (.instantiable cls 6) (by simp [Bundle.messageArmAtoms]))
  cases Option.some.inj (hc1.symm.trans hfound)
  have hinit := Cond.initialized_spec hfound hk (a (.initialized cls) (by simp [Bundle.messageArmAtoms]))
  have hctor : kX.findMethod "<init>" "(Ljava/lang/String;)V" = some P1.m.idx := findMethod_of_methodNamed hP1m hk
  have hsel0 : selectMethod e.platform s.vm P1.m.cls T.fill0 = .method T.fill0 := by
    obtain ⟨c2, r2, m2, q1, q2, q3, q4, -⟩ := Cond.selects_spec (a (.selects cls Bundle.tFill0 Bundle.tFill0) (by simp [Bundle.messageArmAtoms]))
    cases Option.some.inj (q1.symm.trans hfound)
    cases Option.some.inj (q2.symm.trans (State.methodFound?_of_named Y.fill0 (by decide)))
    cases Option.some.inj (q3.symm.trans Y.fill0)
    rw [Launch.admits_selectMethod X.admits]; exact q4
  have hselF : selectMethod e.platform s.vm P1.m.cls T.fill = .method T.fill := by
    obtain ⟨c2, r2, m2, q1, q2, q3, q4, -⟩ := Cond.selects_spec (a (.selects cls Bundle.tFill Bundle.tFill) (by simp [Bundle.messageArmAtoms]))
    cases Option.some.inj (q1.symm.trans hfound)
    cases Option.some.inj (q2.symm.trans (State.methodFound?_of_named Y.fill (by decide)))
    cases Option.some.inj (q3.symm.trans Y.fill)
    rw [Launch.admits_selectMethod X.admits]; exact q4
  obtain ⟨cellS0, hcS0, hiss⟩ := Y.statics
  obtain ⟨u0, hu0⟩ := Cond.staticRefV Y.unassigned L.unassignedStatic L.statics hcS0 hiss (a (.isRef (.static Bundle.tN "UNASSIGNED_STACK" Bundle.steD)) (by simp [Bundle.messageArmAtoms]))
  obtain ⟨sen, hsen⟩ := Cond.staticRefV Y.sentinel L.sentinelStatic L.statics hcS0 hiss (a (.isRef (.static Bundle.tN "SUPPRESSED_SENTINEL" Bundle.listD)) (by simp [Bundle.messageArmAtoms]))
  obtain ⟨ci198, i198, fB, hk198, hg198, ha198, hsB, -, hnB, htB, hffB⟩ := Cond.ownField (t := .object "java/lang/Object") Y.found L.cls (by decide +kernel) (a (.fieldLink Bundle.tN 198 Bundle.tN "backtrace" "Ljava/lang/Object;") (by simp [Bundle.messageArmAtoms])) (a (.lays Bundle.tN Bundle.tN "backtrace" "Ljava/lang/Object;") (by simp [Bundle.messageArmAtoms])) e.platform hpl
  obtain ⟨cellS, hcS', heS, -, hkeep⟩ := X.same.2.2.2.2.2 T.aS cellS0 hcS0
  have hcellS : W.heap[T.aS]? = some cellS := hcS'
  have hout' : ∀ i, (⟨T.aS, i⟩ : Loc) ∉ locs := fun i hmem => by
    have := hlocs _ hmem cellS0 hcS0
    rw [hiss] at this; cases this
  have hknownS : cellS.vm ≠ .unknown := by
    rw [heS]; intro hu
    rw [show cellS0.vm = .unknown from hu] at hiss
    cases hiss
  have hvU : cellS.slots[T.fUnassigned.slot]? = some u0.v := by rw [hkeep _ (hout' _)]; exact hu0
  have hvSen : cellS.slots[T.fSentinel.slot]? = some sen.v := by rw [hkeep _ (hout' _)]; exact hsen
  obtain ⟨iM, hffM⟩ := Y.msg
  obtain ⟨tyC, dC, hdC, hdnC⟩ := Cond.laysAt hfound hk Y.cause (a (.lays cls Bundle.tN "cause" "Ljava/lang/Throwable;") (by simp [Bundle.messageArmAtoms]))
  obtain ⟨tyS, dS, hdS, hdnS⟩ := Cond.laysAt hfound hk Y.stack (a (.lays cls Bundle.tN "stackTrace" Bundle.steD) (by simp [Bundle.messageArmAtoms]))
  obtain ⟨tyP, dP, hdP, hdnP⟩ := Cond.laysAt hfound hk Y.supp (a (.lays cls Bundle.tN "suppressedExceptions" Bundle.listD) (by simp [Bundle.messageArmAtoms]))
  obtain ⟨tyM, dM, hdM, hdnM⟩ := Cond.laysAt hfound hk hffM (a (.lays cls Bundle.tN "detailMessage" "Ljava/lang/String;") (by simp [Bundle.messageArmAtoms]))
  obtain ⟨tyB, dB, hdB, hdnB⟩ := Cond.laysAt hfound hk hffB (a (.lays cls Bundle.tN "backtrace" "Ljava/lang/Object;") (by simp [Bundle.messageArmAtoms]))
  have bC := Cond.laysApart hdB hdC hdnB hdnC (by rw [hnB, Y.causeName]; decide)
  have bS := Cond.laysApart hdB hdS hdnB hdnS (by rw [hnB, Y.stackName]; decide)
  have bP := Cond.laysApart hdB hdP hdnB hdnP (by rw [hnB, Y.suppName]; decide)
  have hbk : ((preparedCellV T.toThrowableT (freshCell P1.m.cls kX) (W.heap.size + 2) u0 sen).withEntry W.cur).slots[fB.slot]? = some .null := by
    have := fresh_default (c := P1.m.cls) tyB
    rw [htB] at this
    simpa [preparedCellV, Cell.setSlot, Cell.withEntry, Array.getElem?_setIfInBounds, bC, bS, bP, bC.symm, bS.symm, bP.symm, defaultValue] using this
  have tkC := Takes.of_laid (v := .ref (W.heap.size + 2)) hk hord tyC (by rw [Y.causeType]; rfl)
  have tkS := Takes.of_laid (v := u0.v) hk hord tyS (by rw [Y.stackType]; exact fits_refV_array _ u0)
  have tkP := Takes.of_laid (v := sen.v) hk hord tyP (by rw [Y.suppType]; exact fits_refV_object _ sen)
  have tkM := Takes.of_laid (v := .ref (W.heap.size + 1)) hk hord tyM (by rw [Y.msgType]; rfl)
  have hskip : SkipFacts T e.platform s (fun u => u) u0 ((preparedCellV T.toThrowableT (freshCell P1.m.cls kX) (W.heap.size + 2) u0 sen).withEntry W.cur) := ⟨{ ci198 := ci198, i198 := i198, fBack := fB }, ⟨hk198, hg198, ha198, hsB⟩, hbk, fun _ _ => rfl⟩
  have h0 : At W g.method c below := by rw [hg]; exact X.here
  obtain ⟨hbeyond, hfreeW⟩ := X.vmMayThrow hsize (.throwNew cls (some text) none) (fun f hf => by cases hf) rfl hRlocals
  have hfr' : W.frames.length + Ps.length + 4 < (e.platform.stackLimits W.me).1 := by have := X.framesAbove hRframes; omega
  have hwd' : (stackUse (.java g :: W.frames.tail)).2 + 13 * Ps.length + 55 ≤ (e.platform.stackLimits W.me).2 := by have := X.stackAbove hsize (K := 13 * Ps.length + 55) (by omega); omega
  have hslots : W.slotsUsed + (stringBytes (stringToUtf16 text)).size + Zs.kS.instanceTypes.size + kX.instanceTypes.size ≤ e.platform.maxSlots := by
    have := X.slotsAbove hRslots
    rw [hn4, hn6]
    omega
  obtain ⟨vm', hW', st⟩ := Steps.vmThrowsMessageColdByV p (s₀ := s) (S := W) (g := g) h0 hexec T L Z LZ M LM X.warmed (t := W.cur) rfl Zs LZs P1 L1 Ps hL hlink1 hlink hsoe hoom hfound hk hinit hord hctor
    (Launch.admits_hotImplicitExceptions X.admits) hbeyond hfreeW htext hlimit hheap (X.cellsAbove hRcells) hslots (hfitv _) (hfitc _)
    (Nn := fun u => u) heapOnly_id (fun _ _ => rfl) (fun _ => rfl) (fun u x y => setCell_twice _ _ _ _) (fun _ => Nat.le_refl _) (cN := ((preparedCellV T.toThrowableT (freshCell P1.m.cls kX) (W.heap.size + 2) u0 sen).withEntry W.cur))
    hsel0 hcellS hknownS hvU tkS (fun _ hu => hu) (fun _ hu => hu) rfl rfl rfl (by simp [preparedCellV, Cell.setSlot, Cell.withEntry]) hskip (fun _ _ hA hW _ hroom _ hrest => L.nativeOff p htr hA hW hroom hrest) hselF hvSen tkC tkP tkM Y.objLocals rfl hfr' hwd'
  rw [plainBareV_eq T.toThrowableT (W.heap.size + 2) u0 sen (.ref (W.heap.size + 1)) W.cur rfl rfl] at st
  obtain ⟨-, -, w3, w4, -, -, -⟩ := withThrown_facts e.platform W Zs text P1.m.cls kX
  have X3 := ((X.pushed (bytesOf Zs.cB (stringToUtf16 text))).pushed (stringAt Zs.cS Zs.kS Zs.fv Zs.fc (stringToUtf16 text) W.heap.size)).pushed (freshCell P1.m.cls kX)
  rw [← withString_eq] at X3
  have X4 := X3.noted hW'
  have ha : (W.heap.size + 2) < ((withThrown W Zs text P1.m.cls kX).setVm vm').heap.size := by show _ < (withThrown W Zs text P1.m.cls kX).heap.size; rw [w3]; omega
  have hcell : ((withThrown W Zs text P1.m.cls kX).setVm vm').heap[(W.heap.size + 2)]? = some (freshCell P1.m.cls kX) := w4
  have X5 := ((((X4.stored hcell T.fCause.slot (.ref (W.heap.size + 2))).storedAgain ha T.fStack.slot u0.v).storedAgain ha T.fSupp.slot sen.v).storedAgain ha T.fStack.slot u0.v).storedAgain ha T.fMsg.slot (.ref (W.heap.size + 1))
  obtain ⟨g₁, hfrM⟩ := X5.frames_eq
  have hU : ((((withThrown W Zs text P1.m.cls kX).setVm vm').setCell (W.heap.size + 2) (plainBareV T.toThrowableT (freshCell P1.m.cls kX) (W.heap.size + 2) u0 sen (.ref (W.heap.size + 1)))).setTop g).pushFrame (.throwing (W.heap.size + 2)) = (((withThrown W Zs text P1.m.cls kX).setVm vm').setCell (W.heap.size + 2) (plainBareV T.toThrowableT (freshCell P1.m.cls kX) (W.heap.size + 2) u0 sen (.ref (W.heap.size + 1)))).setFrames (.throwing (W.heap.size + 2) :: .java g :: below) := by
    rw [State.pushFrame, State.frames_setTop _ hfrM, State.setTop_of_frames _ hfrM, State.setFrames_setFrames]
  have b1 : (bytesOf Zs.cB (stringToUtf16 text)).slots.size = (stringBytes (stringToUtf16 text)).size := by
    rw [(Cell.writeAll_facts _ _).2.2]; simp [bytes0]
  have b2 : (stringAt Zs.cS Zs.kS Zs.fv Zs.fc (stringToUtf16 text) W.heap.size).slots.size = 4 := by simp [string0, Cell.setSlot, hn4]
  have b3 : (freshCell P1.m.cls kX).slots.size = 6 := by simp [hn6]
  rw [b1, b2, b3] at X5
  have e9 : slots + (stringBytes (stringToUtf16 text)).size + 4 + 6 = slots + ((stringBytes (stringToUtf16 text)).size + 4 + 6) := by omega
  rw [e9] at X5
  simp only [List.append_assoc, List.cons_append, List.nil_append] at X5
  refine ⟨((withThrown W Zs text P1.m.cls kX).setVm vm').setCell (W.heap.size + 2) (plainBareV T.toThrowableT (freshCell P1.m.cls kX) (W.heap.size + 2) u0 sen (.ref (W.heap.size + 1))), W.heap.size + 2, _, fun target ht => st _ (by rw [X.tail, ← hU]; exact ht),
    X5.forget (fun y hy => ?_), heapAt_setCell_self _ ha, hfound, rfl⟩
  simp only [List.mem_cons, List.not_mem_nil, or_false] at hy
  have hge : s.heap.size ≤ W.heap.size := X.same.2.1
  rcases hy with rfl | rfl | rfl | rfl | rfl <;> exact Nat.le_trans hge (Nat.le_add_right _ 2)
set_option maxHeartbeats 1000000 in
/-- the machine throws NullPointerException, no traces kept: from its note over the frame g to 'throwing' over the same frame (follows the proof of Stand.vmThrowsNpe, Shelf42/KT2.lean; throwsNpeColdBareVAt, Shelf42/NT91.lean, called) -/
theorem vx_npeAt {p : Program} {l : Launch} {e : Env} {R : Room} {s : State} {m₀ : MethodId} {args : Array Value} {below : List Frame} {meth : Method} {c : Code} {W : State} {locs : List Loc} {cells slots : Nat}
    (X : Stand p l e R s m₀ args below meth c W locs cells slots) (hexec : p.tables.exec = Jvm.exec) (htr : e.platform.stackTraces = false) {n : Nat}
    (h : ∀ a ∈ Bundle.npeArmAtoms n, a.before args s = true)
    (hlocs : ∀ x ∈ locs, ∀ cell, s.heap[x.base]? = some cell → cell.vm.isStatics = false)
    {g : JFrame} (hg : g.method = m₀) (hsize : g.locals.size = c.maxLocals)
    (hRframes : 7 < R.frames) (hRlocals : 2 * g.monitorRoom + (g.stack.map fun v => v.category).sum + 10240 ≤ R.locals)
    (hRcells : cells + 1 ≤ R.cells) (hRslots : slots + n ≤ R.slots) (hlocks : meth.locks = false) :
    ∃ (S : State) (q : Addr) (ce : Cell), (∀ target, Steps p.tables e below ((S.setTop g).pushFrame (.throwing q)) target → Steps p.tables e below ((W.setTop g).pushFrame (.throwNew "java/lang/NullPointerException" none none)) target) ∧
      Stand p l e R s m₀ args below meth c S locs (cells + 1) (slots + n) ∧ S.heap[q]? = some ce ∧ s.vm.findClass "java/lang/NullPointerException" = some ce.cls ∧ ce.vm = .none := by
  have howns : e.platform.frameOwnsMonitors = true := by rw [X.admits.platform]
  have hfin : e.platform.finalization = false := by rw [X.admits.platform]
  have hpl : e.platform.magicAccessors = ({} : Platform).magicAccessors := by rw [X.admits.platform]
  have hpl2 : e.platform.arrayCloneIsPublic = true := by rw [X.admits.platform]
  have a' : ∀ x, x ∈ Bundle.npeArmAtoms n → x.holds args s none s [] = true := fun x hx => h x hx
  obtain ⟨T, Z, L, LZ, Y⟩ := ThrowableC.of_atoms (args := args) howns hfin hpl (fun x hx => h x (by simp [Bundle.npeArmAtoms, hx]))
  obtain ⟨N, LN, hcN, hnNF, hordN, hffS⟩ := NpeC.of_atoms (args := args) hpl hpl2 L Y (fun x hx => h x (by simp [Bundle.npeArmAtoms, hx]))
  obtain ⟨P1, L1, hP1m, hP1s⟩ := PassC.of_atoms (args := args) (s := s) hpl (X := Bundle.nN) (Y := Bundle.rN) (by decide) (by decide) LibCode.NullPointerException.Init0.at_0 LibCode.NullPointerException.Init0.at_1 LibCode.NullPointerException.Init0.at_4 (fun x hx => h x (by simp [Bundle.npeArmAtoms, hx]))
  obtain ⟨PR, LR, hPRm, hPRs⟩ := PassC.of_atoms (args := args) (s := s) hpl (X := Bundle.rN) (Y := Bundle.eN) (by decide) (by decide) LibCode.RuntimeException.Init0.at_0 LibCode.RuntimeException.Init0.at_1 LibCode.RuntimeException.Init0.at_4 (fun x hx => h x (by simp [Bundle.npeArmAtoms, hx]))
  obtain ⟨PE, LEx, hPEm, hPEs⟩ := PassC.of_atoms (args := args) (s := s) hpl (X := Bundle.eN) (Y := Bundle.tN) (by decide) (by decide) LibCode.Exception.Init0.at_0 LibCode.Exception.Init0.at_1 LibCode.Exception.Init0.at_4 (fun x hx => h x (by simp [Bundle.npeArmAtoms, hx]))
  have hfound : s.vm.findClass Bundle.nN = some P1.m.cls := findClass_of_methodNamed hP1m
  have ecls : N.cN = P1.m.cls := Option.some.inj (hcN.symm.trans hfound)
  have hk : s.vm.classes[P1.m.cls]? = some N.kN := by rw [← ecls]; exact LN.cls
  have hinit := Cond.initialized_spec hfound hk (a' (.initialized Bundle.nN) (by simp [Bundle.npeArmAtoms]))
  have hctor : N.kN.findMethod "<init>" "()V" = some P1.m.idx := findMethod_of_methodNamed hP1m hk
  obtain ⟨c1, k1, hc1, hk1, -, -, -, hn⟩ := Cond.instantiable_spec (a' (.instantiable Bundle.nN n) (by simp [Bundle.npeArmAtoms]))
  cases Option.some.inj (hc1.symm.trans hfound)
  cases Option.some.inj (hk1.symm.trans hk)
  have hfsz : (freshCell P1.m.cls N.kN).slots.size = n := by simp [hn]
  have hlink1 : P1.sup = PR.m := Option.some.inj (hP1s.symm.trans hPRm)
  have hlinkR : PR.sup = PE.m := Option.some.inj (hPRs.symm.trans hPEm)
  have hlinkE : PE.sup = Z.m T.toThrowableT := Option.some.inj (hPEs.symm.trans Y.init0)
  have hLs : ∀ P, P ∈ [PR, PE] → P.Links0 e.platform s := fun P hP => by
    simp only [List.mem_cons, List.not_mem_nil, or_false] at hP
    rcases hP with rfl | rfl
    · exact LR
    · exact LEx
  have hsel0 : selectMethod e.platform s.vm P1.m.cls T.fill0 = .method T.fill0 := by
    obtain ⟨c2, r2, m2, q1, q2, q3, q4, -⟩ := Cond.selects_spec (a' (.selects Bundle.nN Bundle.tFill0 Bundle.tFill0) (by simp [Bundle.npeArmAtoms]))
    cases Option.some.inj (q1.symm.trans hfound)
    cases Option.some.inj (q2.symm.trans (State.methodFound?_of_named Y.fill0 (by decide)))
    cases Option.some.inj (q3.symm.trans Y.fill0)
    rw [Launch.admits_selectMethod X.admits]; exact q4
  have hselF : selectMethod e.platform s.vm P1.m.cls T.fill = .method N.fill := by
    obtain ⟨c2, r2, m2, q1, q2, q3, q4, -⟩ := Cond.selects_spec (a' (.selects Bundle.nN Bundle.tFill Bundle.nFill) (by simp [Bundle.npeArmAtoms]))
    cases Option.some.inj (q1.symm.trans hfound)
    cases Option.some.inj (q2.symm.trans (State.methodFound?_of_named Y.fill (by decide)))
    cases Option.some.inj (q3.symm.trans hnNF)
    rw [Launch.admits_selectMethod X.admits]; exact q4
  obtain ⟨cellS0, hcS0, hiss⟩ := Y.statics
  obtain ⟨u0, hu0⟩ := Cond.staticRefV Y.unassigned L.unassignedStatic L.statics hcS0 hiss (a' (.isRef (.static Bundle.tN "UNASSIGNED_STACK" Bundle.steD)) (by simp [Bundle.npeArmAtoms]))
  obtain ⟨sen, hsen⟩ := Cond.staticRefV Y.sentinel L.sentinelStatic L.statics hcS0 hiss (a' (.isRef (.static Bundle.tN "SUPPRESSED_SENTINEL" Bundle.listD)) (by simp [Bundle.npeArmAtoms]))
  obtain ⟨ci198, i198, fB, hk198, hg198, ha198, hsB, -, hnB, htB, hffB⟩ := Cond.ownField (t := .object "java/lang/Object") Y.found L.cls (by decide +kernel) (a' (.fieldLink Bundle.tN 198 Bundle.tN "backtrace" Bundle.objD) (by simp [Bundle.npeArmAtoms])) (a' (.lays Bundle.tN Bundle.tN "backtrace" Bundle.objD) (by simp [Bundle.npeArmAtoms])) e.platform hpl
  obtain ⟨cellS, hcS', heS, -, hkeep⟩ := X.same.2.2.2.2.2 T.aS cellS0 hcS0
  have hcellS : W.heap[T.aS]? = some cellS := hcS'
  have hout' : ∀ i, (⟨T.aS, i⟩ : Loc) ∉ locs := fun i hmem => by
    have := hlocs _ hmem cellS0 hcS0
    rw [hiss] at this; cases this
  have hknownS : cellS.vm ≠ .unknown := by
    rw [heS]; intro hu
    rw [show cellS0.vm = .unknown from hu] at hiss
    cases hiss
  have hvU : cellS.slots[T.fUnassigned.slot]? = some u0.v := by rw [hkeep _ (hout' _)]; exact hu0
  have hvSen : cellS.slots[T.fSentinel.slot]? = some sen.v := by rw [hkeep _ (hout' _)]; exact hsen
  obtain ⟨tyC, dC, hdC, hdnC⟩ := Cond.laysAt hfound hk Y.cause (a' (.lays Bundle.nN Bundle.tN "cause" "Ljava/lang/Throwable;") (by simp [Bundle.npeArmAtoms]))
  obtain ⟨tyS, dS, hdS, hdnS⟩ := Cond.laysAt hfound hk Y.stack (a' (.lays Bundle.nN Bundle.tN "stackTrace" Bundle.steD) (by simp [Bundle.npeArmAtoms]))
  obtain ⟨tyP, dP, hdP, hdnP⟩ := Cond.laysAt hfound hk Y.supp (a' (.lays Bundle.nN Bundle.tN "suppressedExceptions" Bundle.listD) (by simp [Bundle.npeArmAtoms]))
  obtain ⟨tyX, dX, hdX, hdnX⟩ := Cond.laysAt hfound hk hffS (a' (.lays Bundle.nN Bundle.nN "extendedMessageState" "I") (by simp [Bundle.npeArmAtoms, Bundle.npeAtoms]))
  obtain ⟨hnX, htX⟩ := State.fieldFound?_type hffS (t := .int) (by decide +kernel)
  have xC := Cond.laysApart hdC hdX hdnC hdnX (by rw [hnX, Y.causeName]; decide)
  have xS := Cond.laysApart hdS hdX hdnS hdnX (by rw [hnX, Y.stackName]; decide)
  have xP := Cond.laysApart hdP hdX hdnP hdnX (by rw [hnX, Y.suppName]; decide)
  have hv0 : (freshCell P1.m.cls N.kN).slots[N.fState.slot]? = some (.int 0) := by
    have := fresh_default (c := P1.m.cls) tyX
    rw [htX] at this; exact this
  obtain ⟨tyB, dB, hdB, hdnB⟩ := Cond.laysAt hfound hk hffB (a' (.lays Bundle.nN Bundle.tN "backtrace" Bundle.objD) (by simp [Bundle.npeArmAtoms]))
  have bC := Cond.laysApart hdB hdC hdnB hdnC (by rw [hnB, Y.causeName]; decide)
  have bS := Cond.laysApart hdB hdS hdnB hdnS (by rw [hnB, Y.stackName]; decide)
  have bP := Cond.laysApart hdB hdP hdnB hdnP (by rw [hnB, Y.suppName]; decide)
  have bX := Cond.laysApart hdB hdX hdnB hdnX (by rw [hnB, hnX]; decide)
  have hbk : ((npeCell N.toNpeT (preparedCellV T.toThrowableT (freshCell P1.m.cls N.kN) W.heap.size u0 sen) W.cur).withEntry W.cur).slots[fB.slot]? = some .null := by
    have := fresh_default (c := P1.m.cls) tyB
    rw [htB] at this
    simpa [npeCell, preparedCellV, Cell.setSlot, Cell.withEntry, Array.getElem?_setIfInBounds, bC, bS, bP, bX, bC.symm, bS.symm, bP.symm, bX.symm, defaultValue] using this
  have tkC := Takes.of_laid (v := .ref W.heap.size) hk hordN tyC (by rw [Y.causeType]; rfl)
  have tkS := Takes.of_laid (v := u0.v) hk hordN tyS (by rw [Y.stackType]; exact fits_refV_array _ u0)
  have tkP := Takes.of_laid (v := sen.v) hk hordN tyP (by rw [Y.suppType]; exact fits_refV_object _ sen)
  have tkX := Takes.of_laid (v := .int 1) hk hordN tyX (by rw [htX]; rfl)
  have hskip : SkipFacts T e.platform s (fun u => u) u0 ((npeCell N.toNpeT (preparedCellV T.toThrowableT (freshCell P1.m.cls N.kN) W.heap.size u0 sen) W.cur).withEntry W.cur) := ⟨{ ci198 := ci198, i198 := i198, fBack := fB }, ⟨hk198, hg198, ha198, hsB⟩, hbk, fun _ _ => rfl⟩
  obtain ⟨vm', X3, st, -⟩ := X.throwsNpeColdBareVAt hexec hg hsize T L Z LZ N LN P1 L1 [PR, PE] hLs hlink1 ⟨hlinkR, hlinkE, trivial⟩ hfound hk hinit hordN hctor hsel0 hselF hcellS hknownS hvU hvSen
    hv0 xC xS xP tkC tkS tkP tkX Y.objLocals hskip (fun _ _ hA hW _ hroom _ hrest => L.nativeOff p htr hA hW hroom hrest) (by simpa using hRframes) hRlocals (by simp) hRcells (by rw [hn]; exact hRslots)
  have hlt : W.heap.size < ((W.pushCell (freshCell P1.m.cls N.kN)).setVm vm').heap.size := by
    show W.heap.size < (W.pushCell (freshCell P1.m.cls N.kN)).heap.size
    rw [State.heap_size_pushCell]; omega
  rw [hfsz] at X3
  obtain ⟨g₁, hfrM⟩ := X3.frames_eq
  have hU : ((((W.pushCell (freshCell P1.m.cls N.kN)).setVm vm').setCell W.heap.size (npeBareV T.toThrowableT N.toNpeT (freshCell P1.m.cls N.kN) W.heap.size u0 sen)).setTop g).pushFrame (.throwing W.heap.size) = (((W.pushCell (freshCell P1.m.cls N.kN)).setVm vm').setCell W.heap.size (npeBareV T.toThrowableT N.toNpeT (freshCell P1.m.cls N.kN) W.heap.size u0 sen)).setFrames (.throwing W.heap.size :: .java g :: below) := by
    rw [State.pushFrame, State.frames_setTop _ hfrM, State.setTop_of_frames _ hfrM, State.setFrames_setFrames]
  refine ⟨_, W.heap.size, _, fun target ht => st.trans (by rw [← hU]; exact ht), X3.forget (fun y hy => ?_), heapAt_setCell_self _ hlt, hfound, rfl⟩
  simp only [List.mem_cons, List.not_mem_nil, or_false] at hy
  have hge : s.heap.size ≤ W.heap.size := X.same.2.1
  rcases hy with rfl | rfl | rfl | rfl | rfl <;> exact hge
/-- the words of a machine's NullPointerException, but the four that speak of the heap -/
def vx_atN (n : Nat) : List Cond := (Bundle.npeArmAtoms n).filter vx_no
/-- the words of a machine's throw with a message, but the four that speak of the heap -/
def vx_atM (X : String) (names : List String) : List Cond := (Bundle.messageArmAtoms X names).filter vx_no
section
variable {p : Program} {l : Launch} {e : Env} {R : Room} {s : State} {m : MethodId} {args : Array Value} {below : List Frame} {meth : Method} {c : Code} {H : Heap} {locs : List Loc} {cells slots : Nat}
/-- a frame seen from a rebased start, seen from the first start again -/
theorem vx_back9 {T S : State} {R' : Room} {k n : Nat} (X : Stand p l e R s m args below meth c T locs cells slots) (Y : Stand p l e R' ((T.setVm s.vm).setFrames (.invoking m args :: below)) m args below meth c T [] 0 0) (Z : Stand p l e R' ((T.setVm s.vm).setFrames (.invoking m args :: below)) m args below meth c S [] k n) :
    Stand p l e R s m args below meth c S locs (cells + k) (slots + n) := by
  have hW0 : s.WarmedH ((T.setVm s.vm).setFrames (.invoking m args :: below)).vm := State.WarmedH.refl s
  refine { admits := X.admits, cas := X.cas, clock := X.clock, frames := X.frames, room := X.room, hears := X.hears, method := X.method, code := X.code, here := Z.here, tail := Z.tail, warmed := State.WarmedH.trans hW0 Z.warmed, limits := Z.limits.trans (Y.limits.symm.trans X.limits), bytes := Z.bytes.trans (Y.bytes.symm.trans X.bytes), same := ?_ }
  obtain ⟨e1, e2⟩ := Z.same
  rw [State.setFrames_setFrames] at e1
  have h2 : (T.setVm s.vm).sameButNew (S.setVm s.vm) [] k n := ⟨e1, e2⟩
  have h3 := X.same.trans h2
  rw [List.append_nil] at h3
  exact h3
/-- from the machine's note that E is thrown here with this text -/
def vx_Note (p : Program) (l : Launch) (e : Env) (R : Room) (s : State) (m : MethodId) (args : Array Value) (below : List Frame) (meth : Method) (c : Code) (H : Heap) (locs : List Loc) (cells slots : Nat) (Q : State → Prop) (g : JFrame) (E text : String) : Prop :=
  ∀ T : State, T.heap = H → Stand p l e R s m args below meth c T locs cells slots → ∃ t, Steps p.tables e below ((T.setTop g).pushFrame (.throwNew E (some text) none)) t ∧ Q t
theorem vx_vm {pc : Nat} {ls : Array Slot} {rest : List Value} {Q : State → Prop} (hexec : p.tables.exec = Jvm.exec) (hl : l.stackTraces = false) {cls text : String} {names : List String} {nb : Nat} {A : Nat → Prop}
    (hcls : Bundle.fit cls = true) (hnames : ∀ n ∈ names, Bundle.fit n = true) (hsoe : (cls == "java/lang/StackOverflowError") = false) (hoom : (cls == "java/lang/OutOfMemoryError") = false)
    (hat : ∀ w ∈ vx_atM cls names, w.before args s = true) (hgood : ∀ w ∈ vx_atM cls names, vx_ot w = true)
    (hU : vx_Zq Bundle.tN "UNASSIGNED_STACK" Bundle.steD A s s.heap) (hN : vx_Zq Bundle.tN "SUPPRESSED_SENTINEL" Bundle.listD A s s.heap) (hS : va_S A s.heap H locs) (hsize : ls.size = c.maxLocals)
    (htext : (text == notModelled) = false) (hnb : (stringBytes (stringToUtf16 text)).size ≤ nb) (hnb1 : nb ≤ 1000)
    (hRframes : names.length + 4 < R.frames) (hRlocals : (rest.map fun v => v.category).sum + 10240 ≤ R.locals) (hshort : 13 * names.length + 55 ≤ 10240) (hRcells : cells + 3 ≤ R.cells) (hRslots : slots + (nb + 10) ≤ R.slots) (hlocks : meth.locks = false)
    (k : ∀ (H1 : Heap) (q9 : Addr) (ce : Cell), H.size ≤ H1.size → (∀ q : Nat, q < H.size → H1[q]? = H[q]?) → va_S A s.heap H1 locs → H1[q9]? = some ce → ce.vm = .none → s.vm.findClass cls = some ce.cls → vx_W p l e R s m args below meth c H1 locs (cells + 3) (slots + (nb + 10)) Q (F0 m pc ls rest) q9) :
    vx_Note p l e R s m args below meth c H locs cells slots Q (F0 m pc ls rest) cls text := by
  intro T hT X
  have htr : e.platform.stackTraces = false := (show e.platform.stackTraces = l.stackTraces by rw [X.admits.platform]).trans hl
  have Y := vx_rebase X (R' := { frames := R.frames, locals := R.locals, cells := 3, slots := nb + 10 }) (Nat.le_refl _) (Nat.le_refl _) hRcells hRslots
  have hhp : ((T.setVm s.vm).setFrames (.invoking m args :: below)).heap = H := hT
  have hW0 : s.WarmedH ((T.setVm s.vm).setFrames (.invoking m args :: below)).vm := State.WarmedH.refl s
  have hat' : ∀ w ∈ vx_atM cls names, w.before args ((T.setVm s.vm).setFrames (.invoking m args :: below)) = true := fun w hw => vx_ot_at hW0 rfl (hgood w hw) (hat w hw)
  have hU' : vx_Zq Bundle.tN "UNASSIGNED_STACK" Bundle.steD A ((T.setVm s.vm).setFrames (.invoking m args :: below)) ((T.setVm s.vm).setFrames (.invoking m args :: below)).heap := by rw [hhp]; exact vx_Zq.moved hW0.alike (hU.kept hS.2.1)
  have hN' : vx_Zq Bundle.tN "SUPPRESSED_SENTINEL" Bundle.listD A ((T.setVm s.vm).setFrames (.invoking m args :: below)) ((T.setVm s.vm).setFrames (.invoking m args :: below)).heap := by rw [hhp]; exact vx_Zq.moved hW0.alike (hN.kept hS.2.1)
  obtain ⟨S, q, ce, st, Z, hce, hcl', hv⟩ := vx_vmAt Y hexec htr (cls := cls) (names := names) (text := text) hcls hnames hsoe hoom (vx_own hat' (vx_isRefq hU'.1) (vx_isRefq hN'.1) hU'.2.word hN'.2.word) (fun x hx => nomatch hx) htext
    (by rw [Launch.admits_arrayLengthLimit X.admits]; omega) (by rw [Launch.admits_maxHeapBytes X.admits]; simp only [componentBytes]; omega)
    (g := F0 m pc ls rest) rfl hsize hRframes (by show 2 * 0 + (rest.map fun v => v.category).sum + 10240 ≤ R.locals; omega) hshort (by show 0 + 3 ≤ 3; omega) (by show 0 + (_ + 4 + 6) ≤ nb + 10; omega) hlocks
  obtain ⟨f1, f2⟩ := vx_frame Z.same
  have f1' : H.size ≤ S.heap.size := by rw [← hT]; exact f1
  have f2' : ∀ q : Nat, q < H.size → S.heap[q]? = H[q]? := fun q hq => by
    rw [← hT]
    exact f2 q (by rw [← hT] at hq; exact hq) (fun z hz => nomatch hz)
  have X5 := vx_back9 X Y Z
  have X6 : Stand p l e R s m args below meth c S locs (cells + 3) (slots + (nb + 10)) := { X5 with same := X5.same.mono (by omega) (by omega) }
  obtain ⟨t, a1, b1⟩ := k S.heap q ce f1' f2' ⟨Nat.le_trans hS.1 f1', fun q h1 h2 => (f2' q (Nat.lt_of_lt_of_le h1 hS.1)).trans (hS.2.1 q h1 h2), hS.2.2⟩ hce hv hcl' S rfl X6
  exact ⟨t, st t a1, b1⟩
/-- from the machine's note that NullPointerException is thrown here -/
def vx_NoteN (p : Program) (l : Launch) (e : Env) (R : Room) (s : State) (m : MethodId) (args : Array Value) (below : List Frame) (meth : Method) (c : Code) (H : Heap) (locs : List Loc) (cells slots : Nat) (Q : State → Prop) (g : JFrame) : Prop :=
  ∀ T : State, T.heap = H → Stand p l e R s m args below meth c T locs cells slots → ∃ t, Steps p.tables e below ((T.setTop g).pushFrame (.throwNew "java/lang/NullPointerException" none none)) t ∧ Q t
theorem vx_npe {pc : Nat} {ls : Array Slot} {rest : List Value} {Q : State → Prop} (hexec : p.tables.exec = Jvm.exec) (hl : l.stackTraces = false) {nb : Nat} {A : Nat → Prop}
    (hat : ∀ w ∈ vx_atN nb, w.before args s = true) (hgood : ∀ w ∈ vx_atN nb, vx_ot w = true)
    (hU : vx_Zq Bundle.tN "UNASSIGNED_STACK" Bundle.steD A s s.heap) (hN : vx_Zq Bundle.tN "SUPPRESSED_SENTINEL" Bundle.listD A s s.heap) (hS : va_S A s.heap H locs) (hsize : ls.size = c.maxLocals)
    (hRframes : 7 < R.frames) (hRlocals : (rest.map fun v => v.category).sum + 10240 ≤ R.locals) (hRcells : cells + 1 ≤ R.cells) (hRslots : slots + nb ≤ R.slots) (hlocks : meth.locks = false)
    (k : ∀ (H1 : Heap) (q9 : Addr) (ce : Cell), H.size ≤ H1.size → (∀ q : Nat, q < H.size → H1[q]? = H[q]?) → va_S A s.heap H1 locs → H1[q9]? = some ce → ce.vm = .none → s.vm.findClass "java/lang/NullPointerException" = some ce.cls → vx_W p l e R s m args below meth c H1 locs (cells + 1) (slots + nb) Q (F0 m pc ls rest) q9) :
    vx_NoteN p l e R s m args below meth c H locs cells slots Q (F0 m pc ls rest) := by
  intro T hT X
  have htr : e.platform.stackTraces = false := (show e.platform.stackTraces = l.stackTraces by rw [X.admits.platform]).trans hl
  have Y := vx_rebase X (R' := { frames := R.frames, locals := R.locals, cells := 1, slots := nb }) (Nat.le_refl _) (Nat.le_refl _) hRcells hRslots
  have hhp : ((T.setVm s.vm).setFrames (.invoking m args :: below)).heap = H := hT
  have hW0 : s.WarmedH ((T.setVm s.vm).setFrames (.invoking m args :: below)).vm := State.WarmedH.refl s
  have hat' : ∀ w ∈ vx_atN nb, w.before args ((T.setVm s.vm).setFrames (.invoking m args :: below)) = true := fun w hw => vx_ot_at hW0 rfl (hgood w hw) (hat w hw)
  have hU' : vx_Zq Bundle.tN "UNASSIGNED_STACK" Bundle.steD A ((T.setVm s.vm).setFrames (.invoking m args :: below)) ((T.setVm s.vm).setFrames (.invoking m args :: below)).heap := by rw [hhp]; exact vx_Zq.moved hW0.alike (hU.kept hS.2.1)
  have hN' : vx_Zq Bundle.tN "SUPPRESSED_SENTINEL" Bundle.listD A ((T.setVm s.vm).setFrames (.invoking m args :: below)) ((T.setVm s.vm).setFrames (.invoking m args :: below)).heap := by rw [hhp]; exact vx_Zq.moved hW0.alike (hN.kept hS.2.1)
  obtain ⟨S, q, ce, st, Z, hce, hcl', hv⟩ := vx_npeAt Y hexec htr (n := nb) (vx_own hat' (vx_isRefq hU'.1) (vx_isRefq hN'.1) hU'.2.word hN'.2.word) (fun x hx => nomatch hx)
    (g := F0 m pc ls rest) rfl hsize hRframes (by show 2 * 0 + (rest.map fun v => v.category).sum + 10240 ≤ R.locals; omega) (by show 0 + 1 ≤ 1; omega) (by show 0 + nb ≤ nb; omega) hlocks
  obtain ⟨f1, f2⟩ := vx_frame Z.same
  have f1' : H.size ≤ S.heap.size := by rw [← hT]; exact f1
  have f2' : ∀ q : Nat, q < H.size → S.heap[q]? = H[q]? := fun q hq => by
    rw [← hT]
    exact f2 q (by rw [← hT] at hq; exact hq) (fun z hz => nomatch hz)
  have X5 := vx_back9 X Y Z
  have X6 : Stand p l e R s m args below meth c S locs (cells + 1) (slots + nb) := { X5 with same := X5.same.mono (by omega) (by omega) }
  obtain ⟨t, a1, b1⟩ := k S.heap q ce f1' f2' ⟨Nat.le_trans hS.1 f1', fun q h1 h2 => (f2' q (Nat.lt_of_lt_of_le h1 hS.1)).trans (hS.2.1 q h1 h2), hS.2.2⟩ hce hv hcl' S rfl X6
  exact ⟨t, st t a1, b1⟩
variable {Q : State → Prop} {cc : ByteArray} {pc : Nat} {ls : Array Slot} {rest : List Value}
theorem vx_idivZ (hexec : p.tables.exec = Jvm.exec) (hb : c.code = cc) {a b : Int32} (h0 : b = 0) (d : decode cc pc = .ok (.idiv, 1)) (k : vx_Note p l e R s m args below meth c H locs cells slots Q (F0 m pc ls rest) "java/lang/ArithmeticException" "/ by zero") :
    W p l e R s m args below meth c H locs cells slots Q (F0 m pc ls (.int b :: .int a :: rest)) := by
  intro T hT X
  obtain ⟨t, st, q⟩ := k T hT X
  exact ⟨t, X.idivZero hexec (g := F0 m pc ls (.int b :: .int a :: rest)) rfl (a := a) (rest := rest) (by rw [h0]) (by rw [hb]; exact d) t st, q⟩
theorem vx_iremZ (hexec : p.tables.exec = Jvm.exec) (hb : c.code = cc) {a b : Int32} (h0 : b = 0) (d : decode cc pc = .ok (.irem, 1)) (k : vx_Note p l e R s m args below meth c H locs cells slots Q (F0 m pc ls rest) "java/lang/ArithmeticException" "/ by zero") :
    W p l e R s m args below meth c H locs cells slots Q (F0 m pc ls (.int b :: .int a :: rest)) := by
  intro T hT X
  obtain ⟨t, st, q⟩ := k T hT X
  exact ⟨t, X.iremZero hexec (g := F0 m pc ls (.int b :: .int a :: rest)) rfl (a := a) (rest := rest) (by rw [h0]) (by rw [hb]; exact d) t st, q⟩
theorem vx_ldivZ (hexec : p.tables.exec = Jvm.exec) (hb : c.code = cc) {a b : Int64} (h0 : b = 0) (d : decode cc pc = .ok (.ldiv, 1)) (k : vx_Note p l e R s m args below meth c H locs cells slots Q (F0 m pc ls rest) "java/lang/ArithmeticException" "/ by zero") :
    W p l e R s m args below meth c H locs cells slots Q (F0 m pc ls (.long b :: .long a :: rest)) := by
  intro T hT X
  obtain ⟨t, st, q⟩ := k T hT X
  exact ⟨t, X.ldivZero hexec (g := F0 m pc ls (.long b :: .long a :: rest)) rfl (a := a) (rest := rest) (by rw [h0]) (by rw [hb]; exact d) t st, q⟩
theorem vx_lremZ (hexec : p.tables.exec = Jvm.exec) (hb : c.code = cc) {a b : Int64} (h0 : b = 0) (d : decode cc pc = .ok (.lrem, 1)) (k : vx_Note p l e R s m args below meth c H locs cells slots Q (F0 m pc ls rest) "java/lang/ArithmeticException" "/ by zero") :
    W p l e R s m args below meth c H locs cells slots Q (F0 m pc ls (.long b :: .long a :: rest)) := by
  intro T hT X
  obtain ⟨t, st, q⟩ := k T hT X
  exact ⟨t, X.lremZero hexec (g := F0 m pc ls (.long b :: .long a :: rest)) rfl (a := a) (rest := rest) (by rw [h0]) (by rw [hb]; exact d) t st, q⟩
theorem vx_ialdZ {D : va_G} {cl : List vw_C} {ws : va_W} {tys : List (ClassId × FieldType)} {a : Nat} (hexec : p.tables.exec = Jvm.exec) (hb : c.code = cc) (hK : va_K D cl tys s) (hP : va_P D cl ws H) (q0 t0 : Nat) {cA : ClassId} {n : Nat} {f : Nat → Int32} (ha : ws[q0]? = some (a, .inl (cA, n, .inl f))) (ht : tys[t0]? = some (cA, .int)) {i : Int32} (hout : ¬ vp_in i n) (hdg : decode cc pc = .ok (.iaload, 1))
    (k : ∀ tx : String, tx = (toString "Index " ++ toString i ++ toString " out of bounds for length " ++ toString n : String) → vx_Note p l e R s m args below meth c H locs cells slots Q (F0 m pc ls rest) "java/lang/ArrayIndexOutOfBoundsException" tx) : W p l e R s m args below meth c H locs cells slots Q (F0 m pc ls (.int i :: .ref a :: rest)) := by
  intro T hT X
  obtain ⟨t, st, q⟩ := k _ rfl T hT X
  refine ⟨t, ?_, q⟩
  have h1 := X.ialoadOut hexec (by rw [hT]; exact hP q0 _ ha) ((hK.2 t0 _ ht).1 n (fun j => .int (f j))) (j := i) (by show (i < 0 ∨ (arrV _ _ _).slots.size ≤ _); rw [arrV_size]; exact Classical.byContradiction hout) (g := F0 m pc ls (.int i :: .ref a :: rest)) rfl (rest := rest) rfl (by rw [hb]; exact hdg) t
  simp only [arrV_size] at h1
  exact h1 st
theorem vx_iastZ {D : va_G} {cl : List vw_C} {ws : va_W} {tys : List (ClassId × FieldType)} {a : Nat} (hexec : p.tables.exec = Jvm.exec) (hb : c.code = cc) (hK : va_K D cl tys s) (hP : va_P D cl ws H) (q0 t0 : Nat) {cA : ClassId} {n : Nat} {f : Nat → Int32} (ha : ws[q0]? = some (a, .inl (cA, n, .inl f))) (ht : tys[t0]? = some (cA, .int)) {i : Int32} {x : Int32} (hout : ¬ vp_in i n) (hdg : decode cc pc = .ok (.iastore, 1))
    (k : ∀ tx : String, tx = (toString "Index " ++ toString i ++ toString " out of bounds for length " ++ toString n : String) → vx_Note p l e R s m args below meth c H locs cells slots Q (F0 m pc ls rest) "java/lang/ArrayIndexOutOfBoundsException" tx) : W p l e R s m args below meth c H locs cells slots Q (F0 m pc ls (.int x :: .int i :: .ref a :: rest)) := by
  intro T hT X
  obtain ⟨t, st, q⟩ := k _ rfl T hT X
  refine ⟨t, ?_, q⟩
  have h1 := X.iastoreOut hexec (by rw [hT]; exact hP q0 _ ha) ((hK.2 t0 _ ht).1 n (fun j => .int (f j))) (j := i) (by show (i < 0 ∨ (arrV _ _ _).slots.size ≤ _); rw [arrV_size]; exact Classical.byContradiction hout) (g := F0 m pc ls (.int x :: .int i :: .ref a :: rest)) rfl (rest := rest) rfl (by rw [hb]; exact hdg) t
  simp only [arrV_size] at h1
  exact h1 st
theorem vx_baldZ {D : va_G} {cl : List vw_C} {ws : va_W} {tys : List (ClassId × FieldType)} {a : Nat} (hexec : p.tables.exec = Jvm.exec) (hb : c.code = cc) (hK : va_K D cl tys s) (hP : va_P D cl ws H) (q0 t0 : Nat) {cA : ClassId} {n : Nat} {f : Nat → Int32} (ha : ws[q0]? = some (a, .inl (cA, n, .inl f))) (ht : tys[t0]? = some (cA, .byte)) {i : Int32} (hout : ¬ vp_in i n) (hdg : decode cc pc = .ok (.baload, 1))
    (k : ∀ tx : String, tx = (toString "Index " ++ toString i ++ toString " out of bounds for length " ++ toString n : String) → vx_Note p l e R s m args below meth c H locs cells slots Q (F0 m pc ls rest) "java/lang/ArrayIndexOutOfBoundsException" tx) : W p l e R s m args below meth c H locs cells slots Q (F0 m pc ls (.int i :: .ref a :: rest)) := by
  intro T hT X
  obtain ⟨t, st, q⟩ := k _ rfl T hT X
  refine ⟨t, ?_, q⟩
  have h1 := X.baloadOut hexec (by rw [hT]; exact hP q0 _ ha) ((hK.2 t0 _ ht).1 n (fun j => .int (f j))) (j := i) (by show (i < 0 ∨ (arrV _ _ _).slots.size ≤ _); rw [arrV_size]; exact Classical.byContradiction hout) (g := F0 m pc ls (.int i :: .ref a :: rest)) rfl (rest := rest) rfl (by rw [hb]; exact hdg) t
  simp only [arrV_size] at h1
  exact h1 st
theorem vx_bastZ {D : va_G} {cl : List vw_C} {ws : va_W} {tys : List (ClassId × FieldType)} {a : Nat} (hexec : p.tables.exec = Jvm.exec) (hb : c.code = cc) (hK : va_K D cl tys s) (hP : va_P D cl ws H) (q0 t0 : Nat) {cA : ClassId} {n : Nat} {f : Nat → Int32} (ha : ws[q0]? = some (a, .inl (cA, n, .inl f))) (ht : tys[t0]? = some (cA, .byte)) {i : Int32} {x : Int32} (hout : ¬ vp_in i n) (hdg : decode cc pc = .ok (.bastore, 1))
    (k : ∀ tx : String, tx = (toString "Index " ++ toString i ++ toString " out of bounds for length " ++ toString n : String) → vx_Note p l e R s m args below meth c H locs cells slots Q (F0 m pc ls rest) "java/lang/ArrayIndexOutOfBoundsException" tx) : W p l e R s m args below meth c H locs cells slots Q (F0 m pc ls (.int x :: .int i :: .ref a :: rest)) := by
  intro T hT X
  obtain ⟨t, st, q⟩ := k _ rfl T hT X
  refine ⟨t, ?_, q⟩
  have h1 := X.bastoreOut hexec (by rw [hT]; exact hP q0 _ ha) ((hK.2 t0 _ ht).1 n (fun j => .int (f j))) (j := i) (by show (i < 0 ∨ (arrV _ _ _).slots.size ≤ _); rw [arrV_size]; exact Classical.byContradiction hout) (g := F0 m pc ls (.int x :: .int i :: .ref a :: rest)) rfl (rest := rest) rfl (by rw [hb]; exact hdg) t
  simp only [arrV_size] at h1
  exact h1 st
theorem vx_zaldZ {D : va_G} {cl : List vw_C} {ws : va_W} {tys : List (ClassId × FieldType)} {a : Nat} (hexec : p.tables.exec = Jvm.exec) (hb : c.code = cc) (hK : va_K D cl tys s) (hP : va_P D cl ws H) (q0 t0 : Nat) {cA : ClassId} {n : Nat} {f : Nat → Int32} (ha : ws[q0]? = some (a, .inl (cA, n, .inl f))) (ht : tys[t0]? = some (cA, .boolean)) {i : Int32} (hout : ¬ vp_in i n) (hdg : decode cc pc = .ok (.baload, 1))
    (k : ∀ tx : String, tx = (toString "Index " ++ toString i ++ toString " out of bounds for length " ++ toString n : String) → vx_Note p l e R s m args below meth c H locs cells slots Q (F0 m pc ls rest) "java/lang/ArrayIndexOutOfBoundsException" tx) : W p l e R s m args below meth c H locs cells slots Q (F0 m pc ls (.int i :: .ref a :: rest)) := by
  intro T hT X
  obtain ⟨t, st, q⟩ := k _ rfl T hT X
  refine ⟨t, ?_, q⟩
  have h1 := X.baloadOut hexec (by rw [hT]; exact hP q0 _ ha) ((hK.2 t0 _ ht).1 n (fun j => .int (f j))) (j := i) (by show (i < 0 ∨ (arrV _ _ _).slots.size ≤ _); rw [arrV_size]; exact Classical.byContradiction hout) (g := F0 m pc ls (.int i :: .ref a :: rest)) rfl (rest := rest) rfl (by rw [hb]; exact hdg) t
  simp only [arrV_size] at h1
  exact h1 st
theorem vx_zastZ {D : va_G} {cl : List vw_C} {ws : va_W} {tys : List (ClassId × FieldType)} {a : Nat} (hexec : p.tables.exec = Jvm.exec) (hb : c.code = cc) (hK : va_K D cl tys s) (hP : va_P D cl ws H) (q0 t0 : Nat) {cA : ClassId} {n : Nat} {f : Nat → Int32} (ha : ws[q0]? = some (a, .inl (cA, n, .inl f))) (ht : tys[t0]? = some (cA, .boolean)) {i : Int32} {x : Int32} (hout : ¬ vp_in i n) (hdg : decode cc pc = .ok (.bastore, 1))
    (k : ∀ tx : String, tx = (toString "Index " ++ toString i ++ toString " out of bounds for length " ++ toString n : String) → vx_Note p l e R s m args below meth c H locs cells slots Q (F0 m pc ls rest) "java/lang/ArrayIndexOutOfBoundsException" tx) : W p l e R s m args below meth c H locs cells slots Q (F0 m pc ls (.int x :: .int i :: .ref a :: rest)) := by
  intro T hT X
  obtain ⟨t, st, q⟩ := k _ rfl T hT X
  refine ⟨t, ?_, q⟩
  have h1 := X.bastoreOut hexec (by rw [hT]; exact hP q0 _ ha) ((hK.2 t0 _ ht).1 n (fun j => .int (f j))) (j := i) (by show (i < 0 ∨ (arrV _ _ _).slots.size ≤ _); rw [arrV_size]; exact Classical.byContradiction hout) (g := F0 m pc ls (.int x :: .int i :: .ref a :: rest)) rfl (rest := rest) rfl (by rw [hb]; exact hdg) t
  simp only [arrV_size] at h1
  exact h1 st
theorem vx_caldZ {D : va_G} {cl : List vw_C} {ws : va_W} {tys : List (ClassId × FieldType)} {a : Nat} (hexec : p.tables.exec = Jvm.exec) (hb : c.code = cc) (hK : va_K D cl tys s) (hP : va_P D cl ws H) (q0 t0 : Nat) {cA : ClassId} {n : Nat} {f : Nat → Int32} (ha : ws[q0]? = some (a, .inl (cA, n, .inl f))) (ht : tys[t0]? = some (cA, .char)) {i : Int32} (hout : ¬ vp_in i n) (hdg : decode cc pc = .ok (.caload, 1))
    (k : ∀ tx : String, tx = (toString "Index " ++ toString i ++ toString " out of bounds for length " ++ toString n : String) → vx_Note p l e R s m args below meth c H locs cells slots Q (F0 m pc ls rest) "java/lang/ArrayIndexOutOfBoundsException" tx) : W p l e R s m args below meth c H locs cells slots Q (F0 m pc ls (.int i :: .ref a :: rest)) := by
  intro T hT X
  obtain ⟨t, st, q⟩ := k _ rfl T hT X
  refine ⟨t, ?_, q⟩
  have h1 := X.caloadOut hexec (by rw [hT]; exact hP q0 _ ha) ((hK.2 t0 _ ht).1 n (fun j => .int (f j))) (j := i) (by show (i < 0 ∨ (arrV _ _ _).slots.size ≤ _); rw [arrV_size]; exact Classical.byContradiction hout) (g := F0 m pc ls (.int i :: .ref a :: rest)) rfl (rest := rest) rfl (by rw [hb]; exact hdg) t
  simp only [arrV_size] at h1
  exact h1 st
theorem vx_castZ {D : va_G} {cl : List vw_C} {ws : va_W} {tys : List (ClassId × FieldType)} {a : Nat} (hexec : p.tables.exec = Jvm.exec) (hb : c.code = cc) (hK : va_K D cl tys s) (hP : va_P D cl ws H) (q0 t0 : Nat) {cA : ClassId} {n : Nat} {f : Nat → Int32} (ha : ws[q0]? = some (a, .inl (cA, n, .inl f))) (ht : tys[t0]? = some (cA, .char)) {i : Int32} {x : Int32} (hout : ¬ vp_in i n) (hdg : decode cc pc = .ok (.castore, 1))
    (k : ∀ tx : String, tx = (toString "Index " ++ toString i ++ toString " out of bounds for length " ++ toString n : String) → vx_Note p l e R s m args below meth c H locs cells slots Q (F0 m pc ls rest) "java/lang/ArrayIndexOutOfBoundsException" tx) : W p l e R s m args below meth c H locs cells slots Q (F0 m pc ls (.int x :: .int i :: .ref a :: rest)) := by
  intro T hT X
  obtain ⟨t, st, q⟩ := k _ rfl T hT X
  refine ⟨t, ?_, q⟩
  have h1 := X.castoreOut hexec (by rw [hT]; exact hP q0 _ ha) ((hK.2 t0 _ ht).1 n (fun j => .int (f j))) (j := i) (by show (i < 0 ∨ (arrV _ _ _).slots.size ≤ _); rw [arrV_size]; exact Classical.byContradiction hout) (g := F0 m pc ls (.int x :: .int i :: .ref a :: rest)) rfl (rest := rest) rfl (by rw [hb]; exact hdg) t
  simp only [arrV_size] at h1
  exact h1 st
theorem vx_saldZ {D : va_G} {cl : List vw_C} {ws : va_W} {tys : List (ClassId × FieldType)} {a : Nat} (hexec : p.tables.exec = Jvm.exec) (hb : c.code = cc) (hK : va_K D cl tys s) (hP : va_P D cl ws H) (q0 t0 : Nat) {cA : ClassId} {n : Nat} {f : Nat → Int32} (ha : ws[q0]? = some (a, .inl (cA, n, .inl f))) (ht : tys[t0]? = some (cA, .short)) {i : Int32} (hout : ¬ vp_in i n) (hdg : decode cc pc = .ok (.saload, 1))
    (k : ∀ tx : String, tx = (toString "Index " ++ toString i ++ toString " out of bounds for length " ++ toString n : String) → vx_Note p l e R s m args below meth c H locs cells slots Q (F0 m pc ls rest) "java/lang/ArrayIndexOutOfBoundsException" tx) : W p l e R s m args below meth c H locs cells slots Q (F0 m pc ls (.int i :: .ref a :: rest)) := by
  intro T hT X
  obtain ⟨t, st, q⟩ := k _ rfl T hT X
  refine ⟨t, ?_, q⟩
  have h1 := X.saloadOut hexec (by rw [hT]; exact hP q0 _ ha) ((hK.2 t0 _ ht).1 n (fun j => .int (f j))) (j := i) (by show (i < 0 ∨ (arrV _ _ _).slots.size ≤ _); rw [arrV_size]; exact Classical.byContradiction hout) (g := F0 m pc ls (.int i :: .ref a :: rest)) rfl (rest := rest) rfl (by rw [hb]; exact hdg) t
  simp only [arrV_size] at h1
  exact h1 st
theorem vx_sastZ {D : va_G} {cl : List vw_C} {ws : va_W} {tys : List (ClassId × FieldType)} {a : Nat} (hexec : p.tables.exec = Jvm.exec) (hb : c.code = cc) (hK : va_K D cl tys s) (hP : va_P D cl ws H) (q0 t0 : Nat) {cA : ClassId} {n : Nat} {f : Nat → Int32} (ha : ws[q0]? = some (a, .inl (cA, n, .inl f))) (ht : tys[t0]? = some (cA, .short)) {i : Int32} {x : Int32} (hout : ¬ vp_in i n) (hdg : decode cc pc = .ok (.sastore, 1))
    (k : ∀ tx : String, tx = (toString "Index " ++ toString i ++ toString " out of bounds for length " ++ toString n : String) → vx_Note p l e R s m args below meth c H locs cells slots Q (F0 m pc ls rest) "java/lang/ArrayIndexOutOfBoundsException" tx) : W p l e R s m args below meth c H locs cells slots Q (F0 m pc ls (.int x :: .int i :: .ref a :: rest)) := by
  intro T hT X
  obtain ⟨t, st, q⟩ := k _ rfl T hT X
  refine ⟨t, ?_, q⟩
  have h1 := X.sastoreOut hexec (by rw [hT]; exact hP q0 _ ha) ((hK.2 t0 _ ht).1 n (fun j => .int (f j))) (j := i) (by show (i < 0 ∨ (arrV _ _ _).slots.size ≤ _); rw [arrV_size]; exact Classical.byContradiction hout) (g := F0 m pc ls (.int x :: .int i :: .ref a :: rest)) rfl (rest := rest) rfl (by rw [hb]; exact hdg) t
  simp only [arrV_size] at h1
  exact h1 st
theorem vx_laldZ {D : va_G} {cl : List vw_C} {ws : va_W} {tys : List (ClassId × FieldType)} {a : Nat} (hexec : p.tables.exec = Jvm.exec) (hb : c.code = cc) (hK : va_K D cl tys s) (hP : va_P D cl ws H) (q0 t0 : Nat) {cA : ClassId} {n : Nat} {f : Nat → Int64} (ha : ws[q0]? = some (a, .inl (cA, n, .inr (.inl f)))) (ht : tys[t0]? = some (cA, .long)) {i : Int32} (hout : ¬ vp_in i n) (hdg : decode cc pc = .ok (.laload, 1))
    (k : ∀ tx : String, tx = (toString "Index " ++ toString i ++ toString " out of bounds for length " ++ toString n : String) → vx_Note p l e R s m args below meth c H locs cells slots Q (F0 m pc ls rest) "java/lang/ArrayIndexOutOfBoundsException" tx) : W p l e R s m args below meth c H locs cells slots Q (F0 m pc ls (.int i :: .ref a :: rest)) := by
  intro T hT X
  obtain ⟨t, st, q⟩ := k _ rfl T hT X
  refine ⟨t, ?_, q⟩
  have h1 := X.laloadOut hexec (by rw [hT]; exact hP q0 _ ha) ((hK.2 t0 _ ht).1 n (fun j => .long (f j))) (j := i) (by show (i < 0 ∨ (arrV _ _ _).slots.size ≤ _); rw [arrV_size]; exact Classical.byContradiction hout) (g := F0 m pc ls (.int i :: .ref a :: rest)) rfl (rest := rest) rfl (by rw [hb]; exact hdg) t
  simp only [arrV_size] at h1
  exact h1 st
theorem vx_lastZ {D : va_G} {cl : List vw_C} {ws : va_W} {tys : List (ClassId × FieldType)} {a : Nat} (hexec : p.tables.exec = Jvm.exec) (hb : c.code = cc) (hK : va_K D cl tys s) (hP : va_P D cl ws H) (q0 t0 : Nat) {cA : ClassId} {n : Nat} {f : Nat → Int64} (ha : ws[q0]? = some (a, .inl (cA, n, .inr (.inl f)))) (ht : tys[t0]? = some (cA, .long)) {i : Int32} {x : Int64} (hout : ¬ vp_in i n) (hdg : decode cc pc = .ok (.lastore, 1))
    (k : ∀ tx : String, tx = (toString "Index " ++ toString i ++ toString " out of bounds for length " ++ toString n : String) → vx_Note p l e R s m args below meth c H locs cells slots Q (F0 m pc ls rest) "java/lang/ArrayIndexOutOfBoundsException" tx) : W p l e R s m args below meth c H locs cells slots Q (F0 m pc ls (.long x :: .int i :: .ref a :: rest)) := by
  intro T hT X
  obtain ⟨t, st, q⟩ := k _ rfl T hT X
  refine ⟨t, ?_, q⟩
  have h1 := X.lastoreOut hexec (by rw [hT]; exact hP q0 _ ha) ((hK.2 t0 _ ht).1 n (fun j => .long (f j))) (j := i) (by show (i < 0 ∨ (arrV _ _ _).slots.size ≤ _); rw [arrV_size]; exact Classical.byContradiction hout) (g := F0 m pc ls (.long x :: .int i :: .ref a :: rest)) rfl (rest := rest) rfl (by rw [hb]; exact hdg) t
  simp only [arrV_size] at h1
  exact h1 st
theorem vx_faldZ {D : va_G} {cl : List vw_C} {ws : va_W} {tys : List (ClassId × FieldType)} {a : Nat} (hexec : p.tables.exec = Jvm.exec) (hb : c.code = cc) (hK : va_K D cl tys s) (hP : va_P D cl ws H) (q0 t0 : Nat) {cA : ClassId} {n : Nat} {f : Nat → UInt32} (ha : ws[q0]? = some (a, .inl (cA, n, .inr (.inr (.inl f))))) (ht : tys[t0]? = some (cA, .float)) {i : Int32} (hout : ¬ vp_in i n) (hdg : decode cc pc = .ok (.faload, 1))
    (k : ∀ tx : String, tx = (toString "Index " ++ toString i ++ toString " out of bounds for length " ++ toString n : String) → vx_Note p l e R s m args below meth c H locs cells slots Q (F0 m pc ls rest) "java/lang/ArrayIndexOutOfBoundsException" tx) : W p l e R s m args below meth c H locs cells slots Q (F0 m pc ls (.int i :: .ref a :: rest)) := by
  intro T hT X
  obtain ⟨t, st, q⟩ := k _ rfl T hT X
  refine ⟨t, ?_, q⟩
  have h1 := X.faloadOut hexec (by rw [hT]; exact hP q0 _ ha) ((hK.2 t0 _ ht).1 n (fun j => .float (f j))) (j := i) (by show (i < 0 ∨ (arrV _ _ _).slots.size ≤ _); rw [arrV_size]; exact Classical.byContradiction hout) (g := F0 m pc ls (.int i :: .ref a :: rest)) rfl (rest := rest) rfl (by rw [hb]; exact hdg) t
  simp only [arrV_size] at h1
  exact h1 st
theorem vx_fastZ {D : va_G} {cl : List vw_C} {ws : va_W} {tys : List (ClassId × FieldType)} {a : Nat} (hexec : p.tables.exec = Jvm.exec) (hb : c.code = cc) (hK : va_K D cl tys s) (hP : va_P D cl ws H) (q0 t0 : Nat) {cA : ClassId} {n : Nat} {f : Nat → UInt32} (ha : ws[q0]? = some (a, .inl (cA, n, .inr (.inr (.inl f))))) (ht : tys[t0]? = some (cA, .float)) {i : Int32} {x : UInt32} (hout : ¬ vp_in i n) (hdg : decode cc pc = .ok (.fastore, 1))
    (k : ∀ tx : String, tx = (toString "Index " ++ toString i ++ toString " out of bounds for length " ++ toString n : String) → vx_Note p l e R s m args below meth c H locs cells slots Q (F0 m pc ls rest) "java/lang/ArrayIndexOutOfBoundsException" tx) : W p l e R s m args below meth c H locs cells slots Q (F0 m pc ls (.float x :: .int i :: .ref a :: rest)) := by
  intro T hT X
  obtain ⟨t, st, q⟩ := k _ rfl T hT X
  refine ⟨t, ?_, q⟩
  have h1 := X.fastoreOut hexec (by rw [hT]; exact hP q0 _ ha) ((hK.2 t0 _ ht).1 n (fun j => .float (f j))) (j := i) (by show (i < 0 ∨ (arrV _ _ _).slots.size ≤ _); rw [arrV_size]; exact Classical.byContradiction hout) (g := F0 m pc ls (.float x :: .int i :: .ref a :: rest)) rfl (rest := rest) rfl (by rw [hb]; exact hdg) t
  simp only [arrV_size] at h1
  exact h1 st
theorem vx_daldZ {D : va_G} {cl : List vw_C} {ws : va_W} {tys : List (ClassId × FieldType)} {a : Nat} (hexec : p.tables.exec = Jvm.exec) (hb : c.code = cc) (hK : va_K D cl tys s) (hP : va_P D cl ws H) (q0 t0 : Nat) {cA : ClassId} {n : Nat} {f : Nat → UInt64} (ha : ws[q0]? = some (a, .inl (cA, n, .inr (.inr (.inr (.inl f)))))) (ht : tys[t0]? = some (cA, .double)) {i : Int32} (hout : ¬ vp_in i n) (hdg : decode cc pc = .ok (.daload, 1))
    (k : ∀ tx : String, tx = (toString "Index " ++ toString i ++ toString " out of bounds for length " ++ toString n : String) → vx_Note p l e R s m args below meth c H locs cells slots Q (F0 m pc ls rest) "java/lang/ArrayIndexOutOfBoundsException" tx) : W p l e R s m args below meth c H locs cells slots Q (F0 m pc ls (.int i :: .ref a :: rest)) := by
  intro T hT X
  obtain ⟨t, st, q⟩ := k _ rfl T hT X
  refine ⟨t, ?_, q⟩
  have h1 := X.daloadOut hexec (by rw [hT]; exact hP q0 _ ha) ((hK.2 t0 _ ht).1 n (fun j => .double (f j))) (j := i) (by show (i < 0 ∨ (arrV _ _ _).slots.size ≤ _); rw [arrV_size]; exact Classical.byContradiction hout) (g := F0 m pc ls (.int i :: .ref a :: rest)) rfl (rest := rest) rfl (by rw [hb]; exact hdg) t
  simp only [arrV_size] at h1
  exact h1 st
theorem vx_dastZ {D : va_G} {cl : List vw_C} {ws : va_W} {tys : List (ClassId × FieldType)} {a : Nat} (hexec : p.tables.exec = Jvm.exec) (hb : c.code = cc) (hK : va_K D cl tys s) (hP : va_P D cl ws H) (q0 t0 : Nat) {cA : ClassId} {n : Nat} {f : Nat → UInt64} (ha : ws[q0]? = some (a, .inl (cA, n, .inr (.inr (.inr (.inl f)))))) (ht : tys[t0]? = some (cA, .double)) {i : Int32} {x : UInt64} (hout : ¬ vp_in i n) (hdg : decode cc pc = .ok (.dastore, 1))
    (k : ∀ tx : String, tx = (toString "Index " ++ toString i ++ toString " out of bounds for length " ++ toString n : String) → vx_Note p l e R s m args below meth c H locs cells slots Q (F0 m pc ls rest) "java/lang/ArrayIndexOutOfBoundsException" tx) : W p l e R s m args below meth c H locs cells slots Q (F0 m pc ls (.double x :: .int i :: .ref a :: rest)) := by
  intro T hT X
  obtain ⟨t, st, q⟩ := k _ rfl T hT X
  refine ⟨t, ?_, q⟩
  have h1 := X.dastoreOut hexec (by rw [hT]; exact hP q0 _ ha) ((hK.2 t0 _ ht).1 n (fun j => .double (f j))) (j := i) (by show (i < 0 ∨ (arrV _ _ _).slots.size ≤ _); rw [arrV_size]; exact Classical.byContradiction hout) (g := F0 m pc ls (.double x :: .int i :: .ref a :: rest)) rfl (rest := rest) rfl (by rw [hb]; exact hdg) t
  simp only [arrV_size] at h1
  exact h1 st
theorem vx_arraylengthN (hexec : p.tables.exec = Jvm.exec) (hb : c.code = cc) (hdg : decode cc pc = .ok (.arraylength, 1)) (k : vx_NoteN p l e R s m args below meth c H locs cells slots Q (F0 m pc ls rest)) : W p l e R s m args below meth c H locs cells slots Q (F0 m pc ls (.null :: rest)) := by
  intro T hT X
  obtain ⟨t, st, q⟩ := k T hT X
  exact ⟨t, X.arraylengthNull hexec (g := F0 m pc ls (.null :: rest)) rfl (rest := rest) rfl (by rw [hb]; exact hdg) t st, q⟩
theorem vx_ialoadN (hexec : p.tables.exec = Jvm.exec) (hb : c.code = cc) {i : Int32} (hdg : decode cc pc = .ok (.iaload, 1)) (k : vx_NoteN p l e R s m args below meth c H locs cells slots Q (F0 m pc ls rest)) : W p l e R s m args below meth c H locs cells slots Q (F0 m pc ls (.int i :: .null :: rest)) := by
  intro T hT X
  obtain ⟨t, st, q⟩ := k T hT X
  exact ⟨t, X.ialoadNull hexec (g := F0 m pc ls (.int i :: .null :: rest)) rfl (rest := rest) rfl (by rw [hb]; exact hdg) t st, q⟩
theorem vx_laloadN (hexec : p.tables.exec = Jvm.exec) (hb : c.code = cc) {i : Int32} (hdg : decode cc pc = .ok (.laload, 1)) (k : vx_NoteN p l e R s m args below meth c H locs cells slots Q (F0 m pc ls rest)) : W p l e R s m args below meth c H locs cells slots Q (F0 m pc ls (.int i :: .null :: rest)) := by
  intro T hT X
  obtain ⟨t, st, q⟩ := k T hT X
  exact ⟨t, X.laloadNull hexec (g := F0 m pc ls (.int i :: .null :: rest)) rfl (rest := rest) rfl (by rw [hb]; exact hdg) t st, q⟩
theorem vx_faloadN (hexec : p.tables.exec = Jvm.exec) (hb : c.code = cc) {i : Int32} (hdg : decode cc pc = .ok (.faload, 1)) (k : vx_NoteN p l e R s m args below meth c H locs cells slots Q (F0 m pc ls rest)) : W p l e R s m args below meth c H locs cells slots Q (F0 m pc ls (.int i :: .null :: rest)) := by
  intro T hT X
  obtain ⟨t, st, q⟩ := k T hT X
  exact ⟨t, X.faloadNull hexec (g := F0 m pc ls (.int i :: .null :: rest)) rfl (rest := rest) rfl (by rw [hb]; exact hdg) t st, q⟩
theorem vx_daloadN (hexec : p.tables.exec = Jvm.exec) (hb : c.code = cc) {i : Int32} (hdg : decode cc pc = .ok (.daload, 1)) (k : vx_NoteN p l e R s m args below meth c H locs cells slots Q (F0 m pc ls rest)) : W p l e R s m args below meth c H locs cells slots Q (F0 m pc ls (.int i :: .null :: rest)) := by
  intro T hT X
  obtain ⟨t, st, q⟩ := k T hT X
  exact ⟨t, X.daloadNull hexec (g := F0 m pc ls (.int i :: .null :: rest)) rfl (rest := rest) rfl (by rw [hb]; exact hdg) t st, q⟩
theorem vx_aaloadN (hexec : p.tables.exec = Jvm.exec) (hb : c.code = cc) {i : Int32} (hdg : decode cc pc = .ok (.aaload, 1)) (k : vx_NoteN p l e R s m args below meth c H locs cells slots Q (F0 m pc ls rest)) : W p l e R s m args below meth c H locs cells slots Q (F0 m pc ls (.int i :: .null :: rest)) := by
  intro T hT X
  obtain ⟨t, st, q⟩ := k T hT X
  exact ⟨t, X.aaloadNull hexec (g := F0 m pc ls (.int i :: .null :: rest)) rfl (rest := rest) rfl (by rw [hb]; exact hdg) t st, q⟩
theorem vx_baloadN (hexec : p.tables.exec = Jvm.exec) (hb : c.code = cc) {i : Int32} (hdg : decode cc pc = .ok (.baload, 1)) (k : vx_NoteN p l e R s m args below meth c H locs cells slots Q (F0 m pc ls rest)) : W p l e R s m args below meth c H locs cells slots Q (F0 m pc ls (.int i :: .null :: rest)) := by
  intro T hT X
  obtain ⟨t, st, q⟩ := k T hT X
  exact ⟨t, X.baloadNull hexec (g := F0 m pc ls (.int i :: .null :: rest)) rfl (rest := rest) rfl (by rw [hb]; exact hdg) t st, q⟩
theorem vx_caloadN (hexec : p.tables.exec = Jvm.exec) (hb : c.code = cc) {i : Int32} (hdg : decode cc pc = .ok (.caload, 1)) (k : vx_NoteN p l e R s m args below meth c H locs cells slots Q (F0 m pc ls rest)) : W p l e R s m args below meth c H locs cells slots Q (F0 m pc ls (.int i :: .null :: rest)) := by
  intro T hT X
  obtain ⟨t, st, q⟩ := k T hT X
  exact ⟨t, X.caloadNull hexec (g := F0 m pc ls (.int i :: .null :: rest)) rfl (rest := rest) rfl (by rw [hb]; exact hdg) t st, q⟩
theorem vx_saloadN (hexec : p.tables.exec = Jvm.exec) (hb : c.code = cc) {i : Int32} (hdg : decode cc pc = .ok (.saload, 1)) (k : vx_NoteN p l e R s m args below meth c H locs cells slots Q (F0 m pc ls rest)) : W p l e R s m args below meth c H locs cells slots Q (F0 m pc ls (.int i :: .null :: rest)) := by
  intro T hT X
  obtain ⟨t, st, q⟩ := k T hT X
  exact ⟨t, X.saloadNull hexec (g := F0 m pc ls (.int i :: .null :: rest)) rfl (rest := rest) rfl (by rw [hb]; exact hdg) t st, q⟩
theorem vx_iastoreN (hexec : p.tables.exec = Jvm.exec) (hb : c.code = cc) {x : Int32} {i : Int32} (hdg : decode cc pc = .ok (.iastore, 1)) (k : vx_NoteN p l e R s m args below meth c H locs cells slots Q (F0 m pc ls rest)) : W p l e R s m args below meth c H locs cells slots Q (F0 m pc ls (.int x :: .int i :: .null :: rest)) := by
  intro T hT X
  obtain ⟨t, st, q⟩ := k T hT X
  exact ⟨t, X.iastoreNull hexec (g := F0 m pc ls (.int x :: .int i :: .null :: rest)) rfl (rest := rest) rfl (by rw [hb]; exact hdg) t st, q⟩
theorem vx_lastoreN (hexec : p.tables.exec = Jvm.exec) (hb : c.code = cc) {x : Int64} {i : Int32} (hdg : decode cc pc = .ok (.lastore, 1)) (k : vx_NoteN p l e R s m args below meth c H locs cells slots Q (F0 m pc ls rest)) : W p l e R s m args below meth c H locs cells slots Q (F0 m pc ls (.long x :: .int i :: .null :: rest)) := by
  intro T hT X
  obtain ⟨t, st, q⟩ := k T hT X
  exact ⟨t, X.lastoreNull hexec (g := F0 m pc ls (.long x :: .int i :: .null :: rest)) rfl (rest := rest) rfl (by rw [hb]; exact hdg) t st, q⟩
theorem vx_fastoreN (hexec : p.tables.exec = Jvm.exec) (hb : c.code = cc) {x : UInt32} {i : Int32} (hdg : decode cc pc = .ok (.fastore, 1)) (k : vx_NoteN p l e R s m args below meth c H locs cells slots Q (F0 m pc ls rest)) : W p l e R s m args below meth c H locs cells slots Q (F0 m pc ls (.float x :: .int i :: .null :: rest)) := by
  intro T hT X
  obtain ⟨t, st, q⟩ := k T hT X
  exact ⟨t, X.fastoreNull hexec (g := F0 m pc ls (.float x :: .int i :: .null :: rest)) rfl (rest := rest) rfl (by rw [hb]; exact hdg) t st, q⟩
theorem vx_dastoreN (hexec : p.tables.exec = Jvm.exec) (hb : c.code = cc) {x : UInt64} {i : Int32} (hdg : decode cc pc = .ok (.dastore, 1)) (k : vx_NoteN p l e R s m args below meth c H locs cells slots Q (F0 m pc ls rest)) : W p l e R s m args below meth c H locs cells slots Q (F0 m pc ls (.double x :: .int i :: .null :: rest)) := by
  intro T hT X
  obtain ⟨t, st, q⟩ := k T hT X
  exact ⟨t, X.dastoreNull hexec (g := F0 m pc ls (.double x :: .int i :: .null :: rest)) rfl (rest := rest) rfl (by rw [hb]; exact hdg) t st, q⟩
theorem vx_bastoreN (hexec : p.tables.exec = Jvm.exec) (hb : c.code = cc) {x : Int32} {i : Int32} (hdg : decode cc pc = .ok (.bastore, 1)) (k : vx_NoteN p l e R s m args below meth c H locs cells slots Q (F0 m pc ls rest)) : W p l e R s m args below meth c H locs cells slots Q (F0 m pc ls (.int x :: .int i :: .null :: rest)) := by
  intro T hT X
  obtain ⟨t, st, q⟩ := k T hT X
  exact ⟨t, X.bastoreNull hexec (g := F0 m pc ls (.int x :: .int i :: .null :: rest)) rfl (rest := rest) rfl (by rw [hb]; exact hdg) t st, q⟩
theorem vx_castoreN (hexec : p.tables.exec = Jvm.exec) (hb : c.code = cc) {x : Int32} {i : Int32} (hdg : decode cc pc = .ok (.castore, 1)) (k : vx_NoteN p l e R s m args below meth c H locs cells slots Q (F0 m pc ls rest)) : W p l e R s m args below meth c H locs cells slots Q (F0 m pc ls (.int x :: .int i :: .null :: rest)) := by
  intro T hT X
  obtain ⟨t, st, q⟩ := k T hT X
  exact ⟨t, X.castoreNull hexec (g := F0 m pc ls (.int x :: .int i :: .null :: rest)) rfl (rest := rest) rfl (by rw [hb]; exact hdg) t st, q⟩
theorem vx_sastoreN (hexec : p.tables.exec = Jvm.exec) (hb : c.code = cc) {x : Int32} {i : Int32} (hdg : decode cc pc = .ok (.sastore, 1)) (k : vx_NoteN p l e R s m args below meth c H locs cells slots Q (F0 m pc ls rest)) : W p l e R s m args below meth c H locs cells slots Q (F0 m pc ls (.int x :: .int i :: .null :: rest)) := by
  intro T hT X
  obtain ⟨t, st, q⟩ := k T hT X
  exact ⟨t, X.sastoreNull hexec (g := F0 m pc ls (.int x :: .int i :: .null :: rest)) rfl (rest := rest) rfl (by rw [hb]; exact hdg) t st, q⟩
theorem vx_invokeN {own C : String} {index maxL : Nat} {y : MethodName} {bytes : ByteArray} {ret : Option FieldType} (hexec : p.tables.exec = Jvm.exec) (hb : c.code = cc) (hown : s.vm.findClass own = some m.cls) (hlink : (Cond.methodLink own index y).before args s = true) (hinst : (Cond.instanceMethod y).before args s = true) (hcode : (Cond.code y bytes maxL ret).before args s = true) (hsel : (Cond.selects C y y).before args s = true)
    (hx : y.cls ≠ "java/lang/invoke/MethodHandle" ∧ y.cls ≠ "java/lang/invoke/VarHandle") {As : List Value} (hlen : (parseMethodDescriptor y.desc).map (fun d => d.parameters.length) = some As.length) (hdg : decode cc pc = .ok (.invokevirtual index, 3))
    (k : vx_NoteN p l e R s m args below meth c H locs cells slots Q (F0 m pc ls rest)) {st0 : List Value} (hst : st0 = As.reverse ++ .null :: rest) : W p l e R s m args below meth c H locs cells slots Q (F0 m pc ls st0) := by
  intro T hT X
  obtain ⟨r0, r, hn, hrm, hstR, hsigR⟩ := va_Decl.of hinst hcode
  obtain ⟨c2, r2, m2, q1, q2, q3, q4, kP, hkP, hkPi⟩ := Cond.selects_spec hsel
  cases hn.symm.trans q3
  have hl9 : As.length = r.sig.parameters.length := by
    rw [hsigR] at hlen
    exact (Option.some.inj hlen).symm
  obtain ⟨vm', X1, st1⟩ := X.invokevirtualNull hexec hown hlink hn hrm hstR hkP hkPi hx (g := F0 m pc ls st0) rfl (argsL := As) (rest := rest) hl9 hst (by rw [hb]; exact hdg)
  obtain ⟨t, st, q⟩ := k (T.setVm vm') hT X1
  exact ⟨t, st1 t st, q⟩
theorem vx_newarrayZ {atype : ArrayType} (hexec : p.tables.exec = Jvm.exec) (hb : c.code = cc) {n : Int32} (h0 : n < 0) (hdg : decode cc pc = .ok (.newarray atype, 2)) (k : ∀ tx : String, tx = toString n → vx_Note p l e R s m args below meth c H locs cells slots Q (F0 m pc ls rest) "java/lang/NegativeArraySizeException" tx) : W p l e R s m args below meth c H locs cells slots Q (F0 m pc ls (.int n :: rest)) := by
  intro T hT X
  obtain ⟨t, st, q⟩ := k _ rfl T hT X
  exact ⟨t, X.newarrayNegative hexec (g := F0 m pc ls (.int n :: rest)) rfl h0 (rest := rest) rfl (by rw [hb]; exact hdg) t st, q⟩
end
end VXM
/-! ===== END ===== -/
/-! ===== BEGIN an exception as an object: made, kept, thrown later (no traces kept) ===== -/
section VXK
variable {p : Program} {l : Launch} {e : Env} {R : Room} {s : State} {m₀ : MethodId} {args : Array Value} {below : List Frame} {meth : Method} {c : Code} {W : State} {locs : List Loc} {cells slots : Nat}
set_option maxHeartbeats 1000000 in
theorem vx_ctorMadeS (X : Stand p l e R s m₀ args below meth c W locs cells slots) (hexec : p.tables.exec = Jvm.exec) (htr : e.platform.stackTraces = false) {own cls : String} {names : List String} {ic : Nat}
    (hown : s.vm.findClass own = some m₀.cls) (hcls : Bundle.fit cls = true) (hnames : ∀ n ∈ names, Bundle.fit n = true)
    (h : ∀ a ∈ Bundle.ownAtoms own ic cls names, a.before args s = true)
    (hlocs : ∀ x ∈ locs, ∀ cell, s.heap[x.base]? = some cell → cell.vm.isStatics = false)
    {a : Addr} {cX : ClassId} {kX : Class} (hfoundX : s.vm.findClass cls = some cX) (hkX : s.vm.classes[cX]? = some kX) (hcell : W.heap[a]? = some (freshCell cX kX)) (hnew : s.heap.size ≤ a)
    {msg : Value} (hmsg : msg.isRef = true)
    {g : JFrame} (hg : g.method = m₀) (hsize : g.locals.size = c.maxLocals) {rest : List Value} (hstack : g.stack = msg :: .ref a :: .ref a :: rest)
    (hd6 : decode c.code g.pc = .ok (.invokespecial ic, 3))
    (hRframes : names.length + 3 < R.frames) (hRlocals : 2 * g.monitorRoom + ((Value.ref a :: rest).map fun v => v.category).sum + (13 * (names.length + 1) + 42) ≤ R.locals) :
    ∃ (V : State) (ce : Cell) (L : List Loc), Stand p l e R s m₀ args below meth c (V.setCell a ce) (locs ++ L) cells slots ∧ (∀ y ∈ L, y.base = a) ∧ a < V.heap.size ∧ ce.cls = cX ∧ ce.vm = .none ∧
      ∀ target, Steps p.tables e below ((V.setCell a ce).setTop { g with stack := .ref a :: rest, pc := g.pc + 3 }) target → Steps p.tables e below (W.setTop g) target := by
  have howns : e.platform.frameOwnsMonitors = true := by rw [X.admits.platform]
  have hfin : e.platform.finalization = false := by rw [X.admits.platform]
  have hpl : e.platform.magicAccessors = ({} : Platform).magicAccessors := by rw [X.admits.platform]
  have a' : ∀ x, x ∈ Bundle.ownAtoms own ic cls names → x.holds args s none s [] = true := fun x hx => h x hx
  obtain ⟨T, Z0, L, -, Y⟩ := ThrowableC.of_atoms (args := args) howns hfin hpl (fun x hx => h x (by simp [Bundle.ownAtoms, hx]))
  obtain ⟨Z, M, LZ, LM, hnZ⟩ := Init0T.ofS_atoms (args := args) hpl L Y (fun x hx => h x (by simp [Bundle.ownAtoms, hx]))
  obtain ⟨P1, Ps, hlen, L1, hL, hP1m, hlink1, hlink⟩ := Bundle.chainS (args := args) hpl hnZ names cls hcls hnames (fun x hx => h x (by simp [Bundle.ownAtoms, hx]))
  have hfound : s.vm.findClass cls = some P1.m.cls := findClass_of_methodNamed hP1m
  cases Option.some.inj (hfoundX.symm.trans hfound)
  obtain ⟨c1, kX', hc1, hk, hord, -, -, hn6⟩ := Cond.instantiable_spec (a' (.instantiable cls 6) (by simp [Bundle.ownAtoms]))
  cases Option.some.inj (hc1.symm.trans hfound)
  cases Option.some.inj (hkX.symm.trans hk)
  have hsel0 : selectMethod e.platform s.vm P1.m.cls T.fill0 = .method T.fill0 := by
    obtain ⟨c2, r2, m2, q1, q2, q3, q4, -⟩ := Cond.selects_spec (a' (.selects cls Bundle.tFill0 Bundle.tFill0) (by simp [Bundle.ownAtoms]))
    cases Option.some.inj (q1.symm.trans hfound)
    cases Option.some.inj (q2.symm.trans (State.methodFound?_of_named Y.fill0 (by decide)))
    cases Option.some.inj (q3.symm.trans Y.fill0)
    rw [Launch.admits_selectMethod X.admits]; exact q4
  have hselF : selectMethod e.platform s.vm P1.m.cls T.fill = .method T.fill := by
    obtain ⟨c2, r2, m2, q1, q2, q3, q4, -⟩ := Cond.selects_spec (a' (.selects cls Bundle.tFill Bundle.tFill) (by simp [Bundle.ownAtoms]))
    cases Option.some.inj (q1.symm.trans hfound)
    cases Option.some.inj (q2.symm.trans (State.methodFound?_of_named Y.fill (by decide)))
    cases Option.some.inj (q3.symm.trans Y.fill)
    rw [Launch.admits_selectMethod X.admits]; exact q4
  obtain ⟨cellS0, hcS0, hiss⟩ := Y.statics
  obtain ⟨u0, hu0⟩ := Cond.staticRefV Y.unassigned L.unassignedStatic L.statics hcS0 hiss (a' (.isRef (.static Bundle.tN "UNASSIGNED_STACK" Bundle.steD)) (by simp [Bundle.ownAtoms]))
  obtain ⟨sen, hsen⟩ := Cond.staticRefV Y.sentinel L.sentinelStatic L.statics hcS0 hiss (a' (.isRef (.static Bundle.tN "SUPPRESSED_SENTINEL" Bundle.listD)) (by simp [Bundle.ownAtoms]))
  obtain ⟨ci198, i198, fB, hk198, hg198, ha198, hsB, -, hnB, htB, hffB⟩ := Cond.ownField (t := .object "java/lang/Object") Y.found L.cls (by decide +kernel) (a' (.fieldLink Bundle.tN 198 Bundle.tN "backtrace" "Ljava/lang/Object;") (by simp [Bundle.ownAtoms])) (a' (.lays Bundle.tN Bundle.tN "backtrace" "Ljava/lang/Object;") (by simp [Bundle.ownAtoms])) e.platform hpl
  obtain ⟨cellS, hcS', heS, -, hkeep⟩ := X.same.2.2.2.2.2 T.aS cellS0 hcS0
  have hcellS : W.heap[T.aS]? = some cellS := hcS'
  have hout' : ∀ i, (⟨T.aS, i⟩ : Loc) ∉ locs := fun i hmem => by
    have := hlocs _ hmem cellS0 hcS0
    rw [hiss] at this; cases this
  have hknownS : cellS.vm ≠ .unknown := by
    rw [heS]; intro hu
    rw [show cellS0.vm = .unknown from hu] at hiss
    cases hiss
  have hneS : T.aS ≠ a := Nat.ne_of_lt (Nat.lt_of_lt_of_le (Array.getElem?_eq_some_iff.mp hcS0).1 hnew)
  obtain ⟨iM, hffM⟩ := Y.msg
  obtain ⟨tyC, dC, hdC, hdnC⟩ := Cond.laysAt hfound hk Y.cause (a' (.lays cls Bundle.tN "cause" "Ljava/lang/Throwable;") (by simp [Bundle.ownAtoms]))
  obtain ⟨tyS, dS, hdS, hdnS⟩ := Cond.laysAt hfound hk Y.stack (a' (.lays cls Bundle.tN "stackTrace" Bundle.steD) (by simp [Bundle.ownAtoms]))
  obtain ⟨tyP, dP, hdP, hdnP⟩ := Cond.laysAt hfound hk Y.supp (a' (.lays cls Bundle.tN "suppressedExceptions" Bundle.listD) (by simp [Bundle.ownAtoms]))
  obtain ⟨tyM, dM, hdM, hdnM⟩ := Cond.laysAt hfound hk hffM (a' (.lays cls Bundle.tN "detailMessage" "Ljava/lang/String;") (by simp [Bundle.ownAtoms]))
  obtain ⟨tyB, dB, hdB, hdnB⟩ := Cond.laysAt hfound hk hffB (a' (.lays cls Bundle.tN "backtrace" "Ljava/lang/Object;") (by simp [Bundle.ownAtoms]))
  have bC := Cond.laysApart hdB hdC hdnB hdnC (by rw [hnB, Y.causeName]; decide)
  have bS := Cond.laysApart hdB hdS hdnB hdnS (by rw [hnB, Y.stackName]; decide)
  have bP := Cond.laysApart hdB hdP hdnB hdnP (by rw [hnB, Y.suppName]; decide)
  have hskip : SkipFacts T e.platform s (fun u => u) u0 ((preparedCellV T.toThrowableT (freshCell P1.m.cls kX) a u0 sen).withEntry W.cur) :=
    ⟨{ ci198 := ci198, i198 := i198, fBack := fB }, ⟨hk198, hg198, ha198, hsB⟩, by
      have := fresh_default (c := P1.m.cls) tyB
      rw [htB] at this
      simpa [preparedCellV, Cell.setSlot, Cell.withEntry, Array.getElem?_setIfInBounds, bC, bS, bP, bC.symm, bS.symm, bP.symm, defaultValue] using this, fun _ _ => rfl⟩
  obtain ⟨tm, methC, cdC, kC, vm₁, hnC, -, -, -, -, -, -, -, hW₁, st1⟩ := Steps.initColdS (tb := p.tables) (e := e) (below := below) (s := s) (U := W) X.here hexec X.warmed hpl hown (t := Bundle.initS cls) rfl rfl (Bundle.fit_spec hcls).2
    (a' (.methodLink own ic (Bundle.initS cls)) (by simp [Bundle.ownAtoms])) (h (.instanceMethod (Bundle.initS cls)) (by cases names <;> simp [Bundle.ownAtoms, Bundle.chainSAtoms, Bundle.passSAtoms])) (bytes := Bundle.six) (maxL := 2) (h (.code (Bundle.initS cls) Bundle.six 2 none) (by cases names <;> simp [Bundle.ownAtoms, Bundle.chainSAtoms, Bundle.passSAtoms]))
    (f := g) hg (a := a) (msg := msg) (rest := .ref a :: rest) hstack hd6
  cases Option.some.inj (hnC.symm.trans hP1m)
  have X₁ := X.noted hW₁
  obtain ⟨vm₂, X₂, st2⟩ := X₁.ctorMessageOffV hexec (g := { g with stack := .ref a :: rest }) hg hsize T L Z LZ M LM (P1 :: Ps)
    (fun P hP => by rcases List.mem_cons.mp hP with rfl | hP; exact L1; exact hL P hP) ⟨hlink1, hlink⟩ (u0 := u0) (sen := sen) (self := a) hmsg (cell := freshCell P1.m.cls kX) (cellS := cellS)
    hcell (fun _ => by simp) (by simp) rfl rfl hsel0 hselF hcellS hneS hknownS (by rw [hkeep _ (hout' _)]; exact hu0) (by rw [hkeep _ (hout' _)]; exact hsen)
    (Takes.of_laid hk hord tyC (by rw [Y.causeType]; rfl)) (Takes.of_laid hk hord tyS (by rw [Y.stackType]; exact fits_refV_array _ u0)) (Takes.of_laid hk hord tyP (by rw [Y.suppType]; exact fits_refV_object _ sen))
    (Takes.of_laid hk hord tyM (by rw [Y.msgType]; exact fits_refV_object _ ⟨msg, hmsg⟩)) Y.objLocals hskip htr [] hd6
    (by simp only [List.length_cons, hlen]; omega) (by simp only [List.length_cons, hlen]; exact hRlocals)
  have hlt : a < ((W.setVm vm₁).setVm vm₂).heap.size := (Array.getElem?_eq_some_iff.mp hcell).1
  refine ⟨(W.setVm vm₁).setVm vm₂, _, _, X₂, fun y hy => ?_, hlt, rfl, rfl, fun target hwalk => st1 _ (fun acts => ?_)⟩
  · simp only [List.mem_cons, List.not_mem_nil, or_false] at hy
    rcases hy with rfl | rfl | rfl | rfl | rfl <;> rfl
  · rw [doInvoke_state]
    exact st2 _ hwalk
set_option maxHeartbeats 1000000 in
theorem vx_ctorMade0 (X : Stand p l e R s m₀ args below meth c W locs cells slots) (hexec : p.tables.exec = Jvm.exec) (htr : e.platform.stackTraces = false) {own cls : String} {names : List String} {ic : Nat}
    (hown : s.vm.findClass own = some m₀.cls) (hcls : Bundle.fit cls = true) (hnames : ∀ n ∈ names, Bundle.fit n = true)
    (h : ∀ a ∈ Bundle.ownAtoms0 own ic cls names, a.before args s = true)
    (hlocs : ∀ x ∈ locs, ∀ cell, s.heap[x.base]? = some cell → cell.vm.isStatics = false)
    {a : Addr} {cX : ClassId} {kX : Class} (hfoundX : s.vm.findClass cls = some cX) (hkX : s.vm.classes[cX]? = some kX) (hcell : W.heap[a]? = some (freshCell cX kX)) (hnew : s.heap.size ≤ a)
    {g : JFrame} (hg : g.method = m₀) (hsize : g.locals.size = c.maxLocals) {rest : List Value} (hstack : g.stack = .ref a :: .ref a :: rest)
    (hd6 : decode c.code g.pc = .ok (.invokespecial ic, 3))
    (hRframes : names.length + 3 < R.frames) (hRlocals : 2 * g.monitorRoom + ((Value.ref a :: rest).map fun v => v.category).sum + (13 * (names.length + 1) + 41) ≤ R.locals) :
    ∃ (V : State) (ce : Cell) (L : List Loc), Stand p l e R s m₀ args below meth c (V.setCell a ce) (locs ++ L) cells slots ∧ (∀ y ∈ L, y.base = a) ∧ a < V.heap.size ∧ ce.cls = cX ∧ ce.vm = .none ∧
      ∀ target, Steps p.tables e below ((V.setCell a ce).setTop { g with stack := .ref a :: rest, pc := g.pc + 3 }) target → Steps p.tables e below (W.setTop g) target := by
  have howns : e.platform.frameOwnsMonitors = true := by rw [X.admits.platform]
  have hfin : e.platform.finalization = false := by rw [X.admits.platform]
  have hpl : e.platform.magicAccessors = ({} : Platform).magicAccessors := by rw [X.admits.platform]
  have a' : ∀ x, x ∈ Bundle.ownAtoms0 own ic cls names → x.holds args s none s [] = true := fun x hx => h x hx
  obtain ⟨T, Z, L, LZ, Y⟩ := ThrowableC.of_atoms (args := args) howns hfin hpl (fun x hx => h x (by simp [Bundle.ownAtoms0, hx]))
  obtain ⟨P1, Ps, hlen, L1, hL, hP1m, hlink1, hlink⟩ := Bundle.chain0 (args := args) hpl Y.init0 names cls hcls hnames (fun x hx => h x (by simp [Bundle.ownAtoms0, hx]))
  have hfound : s.vm.findClass cls = some P1.m.cls := findClass_of_methodNamed hP1m
  cases Option.some.inj (hfoundX.symm.trans hfound)
  obtain ⟨c1, kX', hc1, hk, hord, -, -, hn6⟩ := Cond.instantiable_spec (a' (.instantiable cls 6) (by simp [Bundle.ownAtoms0]))
  cases Option.some.inj (hc1.symm.trans hfound)
  cases Option.some.inj (hkX.symm.trans hk)
  have hsel0 : selectMethod e.platform s.vm P1.m.cls T.fill0 = .method T.fill0 := by
    obtain ⟨c2, r2, m2, q1, q2, q3, q4, -⟩ := Cond.selects_spec (a' (.selects cls Bundle.tFill0 Bundle.tFill0) (by simp [Bundle.ownAtoms0]))
    cases Option.some.inj (q1.symm.trans hfound)
    cases Option.some.inj (q2.symm.trans (State.methodFound?_of_named Y.fill0 (by decide)))
    cases Option.some.inj (q3.symm.trans Y.fill0)
    rw [Launch.admits_selectMethod X.admits]; exact q4
  have hselF : selectMethod e.platform s.vm P1.m.cls T.fill = .method T.fill := by
    obtain ⟨c2, r2, m2, q1, q2, q3, q4, -⟩ := Cond.selects_spec (a' (.selects cls Bundle.tFill Bundle.tFill) (by simp [Bundle.ownAtoms0]))
    cases Option.some.inj (q1.symm.trans hfound)
    cases Option.some.inj (q2.symm.trans (State.methodFound?_of_named Y.fill (by decide)))
    cases Option.some.inj (q3.symm.trans Y.fill)
    rw [Launch.admits_selectMethod X.admits]; exact q4
  obtain ⟨cellS0, hcS0, hiss⟩ := Y.statics
  obtain ⟨u0, hu0⟩ := Cond.staticRefV Y.unassigned L.unassignedStatic L.statics hcS0 hiss (a' (.isRef (.static Bundle.tN "UNASSIGNED_STACK" Bundle.steD)) (by simp [Bundle.ownAtoms0]))
  obtain ⟨sen, hsen⟩ := Cond.staticRefV Y.sentinel L.sentinelStatic L.statics hcS0 hiss (a' (.isRef (.static Bundle.tN "SUPPRESSED_SENTINEL" Bundle.listD)) (by simp [Bundle.ownAtoms0]))
  obtain ⟨ci198, i198, fB, hk198, hg198, ha198, hsB, -, hnB, htB, hffB⟩ := Cond.ownField (t := .object "java/lang/Object") Y.found L.cls (by decide +kernel) (a' (.fieldLink Bundle.tN 198 Bundle.tN "backtrace" "Ljava/lang/Object;") (by simp [Bundle.ownAtoms0])) (a' (.lays Bundle.tN Bundle.tN "backtrace" "Ljava/lang/Object;") (by simp [Bundle.ownAtoms0])) e.platform hpl
  obtain ⟨cellS, hcS', heS, -, hkeep⟩ := X.same.2.2.2.2.2 T.aS cellS0 hcS0
  have hcellS : W.heap[T.aS]? = some cellS := hcS'
  have hout' : ∀ i, (⟨T.aS, i⟩ : Loc) ∉ locs := fun i hmem => by
    have := hlocs _ hmem cellS0 hcS0
    rw [hiss] at this; cases this
  have hknownS : cellS.vm ≠ .unknown := by
    rw [heS]; intro hu
    rw [show cellS0.vm = .unknown from hu] at hiss
    cases hiss
  have hneS : T.aS ≠ a := Nat.ne_of_lt (Nat.lt_of_lt_of_le (Array.getElem?_eq_some_iff.mp hcS0).1 hnew)
  obtain ⟨iM, hffM⟩ := Y.msg
  obtain ⟨tyC, dC, hdC, hdnC⟩ := Cond.laysAt hfound hk Y.cause (a' (.lays cls Bundle.tN "cause" "Ljava/lang/Throwable;") (by simp [Bundle.ownAtoms0]))
  obtain ⟨tyS, dS, hdS, hdnS⟩ := Cond.laysAt hfound hk Y.stack (a' (.lays cls Bundle.tN "stackTrace" Bundle.steD) (by simp [Bundle.ownAtoms0]))
  obtain ⟨tyP, dP, hdP, hdnP⟩ := Cond.laysAt hfound hk Y.supp (a' (.lays cls Bundle.tN "suppressedExceptions" Bundle.listD) (by simp [Bundle.ownAtoms0]))
  obtain ⟨tyM, dM, hdM, hdnM⟩ := Cond.laysAt hfound hk hffM (a' (.lays cls Bundle.tN "detailMessage" "Ljava/lang/String;") (by simp [Bundle.ownAtoms0]))
  obtain ⟨tyB, dB, hdB, hdnB⟩ := Cond.laysAt hfound hk hffB (a' (.lays cls Bundle.tN "backtrace" "Ljava/lang/Object;") (by simp [Bundle.ownAtoms0]))
  have bC := Cond.laysApart hdB hdC hdnB hdnC (by rw [hnB, Y.causeName]; decide)
  have bS := Cond.laysApart hdB hdS hdnB hdnS (by rw [hnB, Y.stackName]; decide)
  have bP := Cond.laysApart hdB hdP hdnB hdnP (by rw [hnB, Y.suppName]; decide)
  have hskip : SkipFacts T e.platform s (fun u => u) u0 ((preparedCellV T.toThrowableT (freshCell P1.m.cls kX) a u0 sen).withEntry W.cur) :=
    ⟨{ ci198 := ci198, i198 := i198, fBack := fB }, ⟨hk198, hg198, ha198, hsB⟩, by
      have := fresh_default (c := P1.m.cls) tyB
      rw [htB] at this
      simpa [preparedCellV, Cell.setSlot, Cell.withEntry, Array.getElem?_setIfInBounds, bC, bS, bP, bC.symm, bS.symm, bP.symm, defaultValue] using this, fun _ _ => rfl⟩
  obtain ⟨tm, methC, cdC, kC, vm₁, hnC, -, -, -, -, -, -, -, hW₁, st1⟩ := Steps.initCold (tb := p.tables) (e := e) (below := below) (s := s) (U := W) X.here hexec X.warmed hpl hown (t := Bundle.init0 cls) rfl rfl (Bundle.fit_spec hcls).2
    (a' (.methodLink own ic (Bundle.init0 cls)) (by simp [Bundle.ownAtoms0])) (h (.instanceMethod (Bundle.init0 cls)) (by cases names <;> simp [Bundle.ownAtoms0, Bundle.chain0Atoms, Bundle.passAtoms])) (bytes := Bundle.five) (maxL := 1) (h (.code (Bundle.init0 cls) Bundle.five 1 none) (by cases names <;> simp [Bundle.ownAtoms0, Bundle.chain0Atoms, Bundle.passAtoms]))
    (f := g) hg (a := a) (rest := .ref a :: rest) hstack hd6
  cases Option.some.inj (hnC.symm.trans hP1m)
  have X₁ := X.noted hW₁
  obtain ⟨vm₂, X₂, st2⟩ := X₁.ctorPlainOffV hexec (g := { g with stack := .ref a :: rest }) hg hsize T L Z LZ (P1 :: Ps)
    (fun P hP => by rcases List.mem_cons.mp hP with rfl | hP; exact L1; exact hL P hP) ⟨hlink1, hlink⟩ (u0 := u0) (sen := sen) (self := a) (cell := freshCell P1.m.cls kX) (cellS := cellS)
    hcell (fun _ => by simp) (by simp) rfl rfl hsel0 hselF hcellS hneS hknownS (by rw [hkeep _ (hout' _)]; exact hu0) (by rw [hkeep _ (hout' _)]; exact hsen)
    (Takes.of_laid hk hord tyC (by rw [Y.causeType]; rfl)) (Takes.of_laid hk hord tyS (by rw [Y.stackType]; exact fits_refV_array _ u0)) (Takes.of_laid hk hord tyP (by rw [Y.suppType]; exact fits_refV_object _ sen)) Y.objLocals hskip htr [] hd6
    (by simp only [List.length_cons, hlen]; omega) (by simp only [List.length_cons, hlen]; exact hRlocals)
  have hlt : a < ((W.setVm vm₁).setVm vm₂).heap.size := (Array.getElem?_eq_some_iff.mp hcell).1
  refine ⟨(W.setVm vm₁).setVm vm₂, _, _, X₂, fun y hy => ?_, hlt, rfl, rfl, fun target hwalk => st1 _ (fun acts => ?_)⟩
  · simp only [List.mem_cons, List.not_mem_nil, or_false] at hy
    rcases hy with rfl | rfl | rfl | rfl <;> rfl
  · rw [doInvoke_state]
    exact st2 _ hwalk
end VXK
section VXK2
variable {p : Program} {l : Launch} {e : Env} {R : Room} {s : State} {m : MethodId} {args : Array Value} {below : List Frame} {meth : Method} {c : Code} {H : Heap} {locs : List Loc} {cells slots : Nat} {Q : State → Prop}
variable {ls : Array Slot} {rest : List Value} {D : va_G} {cl : List vw_C} {tys : List (ClassId × FieldType)} {ws : va_W}
/-- 'new E("text")' that isn't thrown at once: the object goes on the stack -/
theorem vx_makeS {cc : ByteArray} {pc : Nat} (hexec : p.tables.exec = Jvm.exec) (hb : c.code = cc) (hl : l.stackTraces = false) {own cls text : String} {names : List String} {ik is ic sa ci : Nat} {A : Nat → Prop} {T0 : u_T}
    (hown : s.vm.findClass own = some m.cls) (hcls : Bundle.fit cls = true) (hnames : ∀ n ∈ names, Bundle.fit n = true)
    (hk : (Cond.classLink own ik cls).before args s = true) (hini : (Cond.initialized cls).before args s = true) (hstr : vk_R own is text sa s) (hat : ∀ w ∈ vx_atS own ic cls names, w.before args s = true)
    (hgood : ∀ w ∈ Cond.classLink own ik cls :: Cond.initialized cls :: vx_atS own ic cls names, vx_ot w = true)
    (hU : vx_Zq Bundle.tN "UNASSIGNED_STACK" Bundle.steD A s s.heap) (hN : vx_Zq Bundle.tN "SUPPRESSED_SENTINEL" Bundle.listD A s s.heap) (hS : va_S A s.heap H locs) (hsize : ls.size = c.maxLocals)
    (d0 : decode cc pc = .ok (.new ik, 3)) (d3 : decode cc (pc + 3) = .ok (.dup, 1)) (d4 : decode cc (pc + 4) = .ok (.ldc is, 2)) (d6 : decode cc (pc + 6) = .ok (.invokespecial ic, 3))
    (hK : va_K D cl tys s) (hP : va_P D cl ws H) (hD : va_D A ws) (hA : ∀ q, s.heap.size ≤ q → A q) (hc : cl[ci]? = some (cls, T0, 0))
    (hRframes : names.length + 3 < R.frames) (hRlocals : (rest.map fun v => v.category).sum + (13 * (names.length + 1) + 43) ≤ R.locals) (hRcells : cells + 1 ≤ R.cells) (hRslots : slots + 6 ≤ R.slots)
    (kk : ∀ (q : Nat) (H1 : Heap), va_P D cl (ws ++ [(q, .inr (ci, []))]) H1 → va_D A (ws ++ [(q, .inr (ci, []))]) → va_S A s.heap H1 locs → W p l e R s m args below meth c H1 locs (cells + 1) (slots + 6) Q (F0 m (pc + 9) ls (.ref q :: rest))) :
    W p l e R s m args below meth c H locs cells slots Q (F0 m pc ls rest) := by
  intro T hT X
  subst hT
  have htr : e.platform.stackTraces = false := (show e.platform.stackTraces = l.stackTraces by rw [X.admits.platform]).trans hl
  have Y := vx_rebase X (R' := { frames := R.frames, locals := R.locals, cells := 1, slots := 6 }) (Nat.le_refl _) (Nat.le_refl _) hRcells hRslots
  obtain ⟨s', hA'⟩ : ∃ z, z = (T.setVm s.vm).setFrames (.invoking m args :: below) := ⟨_, rfl⟩
  rw [← hA'] at Y
  have hvm : s'.vm = s.vm := by rw [hA']; rfl
  have hhp : s'.heap = T.heap := by rw [hA']; rfl
  have hW0 : s.WarmedH s'.vm := by rw [hvm]; exact State.WarmedH.refl s
  have hat' : ∀ w ∈ vx_atS own ic cls names, w.before args s' = true := fun w hw => vx_ot_at hW0 hvm.symm (hgood w (List.mem_cons_of_mem _ (List.mem_cons_of_mem _ hw))) (hat w hw)
  have hk' : (Cond.classLink own ik cls).before args s' = true := vx_ot_at hW0 hvm.symm (hgood _ List.mem_cons_self) hk
  have hini' : (Cond.initialized cls).before args s' = true := vx_ot_at hW0 hvm.symm (hgood _ (List.mem_cons_of_mem _ List.mem_cons_self)) hini
  have hU' : vx_Zq Bundle.tN "UNASSIGNED_STACK" Bundle.steD A s' s'.heap := by rw [hhp]; exact vx_Zq.moved hW0.alike (hU.kept hS.2.1)
  have hN' : vx_Zq Bundle.tN "SUPPRESSED_SENTINEL" Bundle.listD A s' s'.heap := by rw [hhp]; exact vx_Zq.moved hW0.alike (hN.kept hS.2.1)
  have h : ∀ w ∈ Bundle.ownAtoms own ic cls names, w.before args s' = true := vx_own hat' (vx_isRefq hU'.1) (vx_isRefq hN'.1) hU'.2.word hN'.2.word
  have hown' : s'.vm.findClass own = some m.cls := by rw [hvm]; exact hown
  have hins : (Cond.instantiable cls 6).before args s' = true := h _ (by simp [Bundle.ownAtoms])
  obtain ⟨vm₁, cX, kX, hfX, hkX, -, -, X₁, st1⟩ := Y.newCold hexec (own := own) (C := cls) (index := ik) (n := 6) hown' hk' hins hini'
    (g := F0 m pc ls rest) rfl (by rw [hb]; exact d0) (Nat.le_refl _) (Nat.le_refl _)
  generalize hT1 : (T.setVm vm₁).pushCell { cls := cX, slots := kX.instanceTypes.map defaultValue, vm := .none } = T1 at X₁ st1
  have hcat : (Value.ref T.heap.size).category = 1 := rfl
  have hcellA : T1.heap[T.heap.size]? = some (freshCell cX kX) := by rw [← hT1]; exact State.heap_pushCell_size _ _
  have d3' : decode c.code (pc + 3) = .ok (.dup, 1) := by rw [hb]; exact d3
  have d4' : decode c.code (pc + 4) = .ok (.ldc is, 2) := by rw [hb]; exact d4
  have hstr' : vk_R own is text sa s' := vk_R.warm hW0 hstr
  obtain ⟨V, ce, L, Z, hL, hlt, hcl9, hvm9, st⟩ := vx_ctorMadeS X₁ hexec htr (own := own) (cls := cls) (names := names) (ic := ic) hown' hcls hnames h (fun x hx => nomatch hx) hfX hkX hcellA (by rw [hhp]; exact Nat.le_refl _) (msg := .ref sa) rfl
    (g := { method := m, pc := pc + 6, locals := ls, stack := .ref sa :: .ref T.heap.size :: .ref T.heap.size :: rest, locked := none }) rfl hsize (rest := rest) rfl
    (by rw [hb]; exact d6) hRframes (by simp only [List.map_cons, List.sum_cons, hcat]; omega)
  have Z0 := Stand.forget (locs := []) Z (fun y hy => by rw [hL y hy, hhp]; exact Nat.le_refl _)
  obtain ⟨f1, f2⟩ := vx_frame Z0.same
  rw [hhp] at f1 f2
  have hcid : ce.cls = D.1 ci := by
    rw [hcl9]
    have h1 := (hK.1 ci _ hc).2.1
    rw [hvm] at hfX
    exact Option.some.inj (hfX.symm.trans h1)
  have hh : (V.setCell T.heap.size ce).heap[T.heap.size]? = some ce := heapAt_setCell_self (s := V) ce hlt
  subst hA'
  have X5 := vx_back9 X Y Z0
  have X6 : Stand p l e R s m args below meth c (V.setCell T.heap.size ce) locs (cells + 1) (slots + 6) := { X5 with same := X5.same.mono (by omega) (by omega) }
  have hk9 : ∀ (k : Nat) (x : Nat × va_E), ws[k]? = some x → (V.setCell T.heap.size ce).heap[x.1]? = T.heap[x.1]? := fun k x hx => f2 x.1 ((hP k x hx).lt) (fun z hz => nomatch hz)
  obtain ⟨t, a1, b1⟩ := kk T.heap.size (V.setCell T.heap.size ce).heap ((hP.kept hk9).app (fun k x hx => by
      have hz : k < 1 := (List.getElem?_eq_some_iff.mp hx).1
      rw [show k = 0 by omega] at hx
      cases hx
      exact ⟨_, hc, ce, hh, hcid, hvm9, fun k hk => absurd hk (Nat.not_lt_zero k)⟩)) (hD.push hP rfl (hA _ hS.1)) ⟨Nat.le_trans hS.1 f1, fun q h1 h2 => (f2 q (Nat.lt_of_lt_of_le h1 hS.1) (fun z hz => nomatch hz)).trans (hS.2.1 q h1 h2), hS.2.2⟩ _ rfl X6
  refine ⟨t, st1 _ ?_, b1⟩
  show Steps p.tables e below (T1.setTop { method := m, pc := pc + 3, locals := ls, stack := .ref T.heap.size :: rest, locked := none }) _
  jvm_step X₁.here [X₁.here.top, hexec, d3', Value.category]
  exact X₁.ldcString hexec (own := own) (text := text) (index := is) (a := sa) hown' hstr'.1 hstr'.2
    (g := { method := m, pc := pc + 4, locals := ls, stack := .ref T.heap.size :: .ref T.heap.size :: rest, locked := none }) rfl d4' _ (st _ a1)
/-- 'new E()' that isn't thrown at once: the object goes on the stack -/
theorem vx_make0 {cc : ByteArray} {pc : Nat} (hexec : p.tables.exec = Jvm.exec) (hb : c.code = cc) (hl : l.stackTraces = false) {own cls : String} {names : List String} {ik ic ci : Nat} {A : Nat → Prop} {T0 : u_T}
    (hown : s.vm.findClass own = some m.cls) (hcls : Bundle.fit cls = true) (hnames : ∀ n ∈ names, Bundle.fit n = true)
    (hk : (Cond.classLink own ik cls).before args s = true) (hini : (Cond.initialized cls).before args s = true) (hat : ∀ w ∈ vx_at0 own ic cls names, w.before args s = true)
    (hgood : ∀ w ∈ Cond.classLink own ik cls :: Cond.initialized cls :: vx_at0 own ic cls names, vx_ot w = true)
    (hU : vx_Zq Bundle.tN "UNASSIGNED_STACK" Bundle.steD A s s.heap) (hN : vx_Zq Bundle.tN "SUPPRESSED_SENTINEL" Bundle.listD A s s.heap) (hS : va_S A s.heap H locs) (hsize : ls.size = c.maxLocals)
    (d0 : decode cc pc = .ok (.new ik, 3)) (d3 : decode cc (pc + 3) = .ok (.dup, 1)) (d4 : decode cc (pc + 4) = .ok (.invokespecial ic, 3))
    (hK : va_K D cl tys s) (hP : va_P D cl ws H) (hD : va_D A ws) (hA : ∀ q, s.heap.size ≤ q → A q) (hc : cl[ci]? = some (cls, T0, 0))
    (hRframes : names.length + 3 < R.frames) (hRlocals : (rest.map fun v => v.category).sum + (13 * (names.length + 1) + 42) ≤ R.locals) (hRcells : cells + 1 ≤ R.cells) (hRslots : slots + 6 ≤ R.slots)
    (kk : ∀ (q : Nat) (H1 : Heap), va_P D cl (ws ++ [(q, .inr (ci, []))]) H1 → va_D A (ws ++ [(q, .inr (ci, []))]) → va_S A s.heap H1 locs → W p l e R s m args below meth c H1 locs (cells + 1) (slots + 6) Q (F0 m (pc + 7) ls (.ref q :: rest))) :
    W p l e R s m args below meth c H locs cells slots Q (F0 m pc ls rest) := by
  intro T hT X
  subst hT
  have htr : e.platform.stackTraces = false := (show e.platform.stackTraces = l.stackTraces by rw [X.admits.platform]).trans hl
  have Y := vx_rebase X (R' := { frames := R.frames, locals := R.locals, cells := 1, slots := 6 }) (Nat.le_refl _) (Nat.le_refl _) hRcells hRslots
  obtain ⟨s', hA'⟩ : ∃ z, z = (T.setVm s.vm).setFrames (.invoking m args :: below) := ⟨_, rfl⟩
  rw [← hA'] at Y
  have hvm : s'.vm = s.vm := by rw [hA']; rfl
  have hhp : s'.heap = T.heap := by rw [hA']; rfl
  have hW0 : s.WarmedH s'.vm := by rw [hvm]; exact State.WarmedH.refl s
  have hat' : ∀ w ∈ vx_at0 own ic cls names, w.before args s' = true := fun w hw => vx_ot_at hW0 hvm.symm (hgood w (List.mem_cons_of_mem _ (List.mem_cons_of_mem _ hw))) (hat w hw)
  have hk' : (Cond.classLink own ik cls).before args s' = true := vx_ot_at hW0 hvm.symm (hgood _ List.mem_cons_self) hk
  have hini' : (Cond.initialized cls).before args s' = true := vx_ot_at hW0 hvm.symm (hgood _ (List.mem_cons_of_mem _ List.mem_cons_self)) hini
  have hU' : vx_Zq Bundle.tN "UNASSIGNED_STACK" Bundle.steD A s' s'.heap := by rw [hhp]; exact vx_Zq.moved hW0.alike (hU.kept hS.2.1)
  have hN' : vx_Zq Bundle.tN "SUPPRESSED_SENTINEL" Bundle.listD A s' s'.heap := by rw [hhp]; exact vx_Zq.moved hW0.alike (hN.kept hS.2.1)
  have h : ∀ w ∈ Bundle.ownAtoms0 own ic cls names, w.before args s' = true := vx_own hat' (vx_isRefq hU'.1) (vx_isRefq hN'.1) hU'.2.word hN'.2.word
  have hown' : s'.vm.findClass own = some m.cls := by rw [hvm]; exact hown
  have hins : (Cond.instantiable cls 6).before args s' = true := h _ (by simp [Bundle.ownAtoms0])
  obtain ⟨vm₁, cX, kX, hfX, hkX, -, -, X₁, st1⟩ := Y.newCold hexec (own := own) (C := cls) (index := ik) (n := 6) hown' hk' hins hini'
    (g := F0 m pc ls rest) rfl (by rw [hb]; exact d0) (Nat.le_refl _) (Nat.le_refl _)
  generalize hT1 : (T.setVm vm₁).pushCell { cls := cX, slots := kX.instanceTypes.map defaultValue, vm := .none } = T1 at X₁ st1
  have hcat : (Value.ref T.heap.size).category = 1 := rfl
  have hcellA : T1.heap[T.heap.size]? = some (freshCell cX kX) := by rw [← hT1]; exact State.heap_pushCell_size _ _
  have d3' : decode c.code (pc + 3) = .ok (.dup, 1) := by rw [hb]; exact d3
  obtain ⟨V, ce, L, Z, hL, hlt, hcl9, hvm9, st⟩ := vx_ctorMade0 X₁ hexec htr (own := own) (cls := cls) (names := names) (ic := ic) hown' hcls hnames h (fun x hx => nomatch hx) hfX hkX hcellA (by rw [hhp]; exact Nat.le_refl _)
    (g := { method := m, pc := pc + 4, locals := ls, stack := .ref T.heap.size :: .ref T.heap.size :: rest, locked := none }) rfl hsize (rest := rest) rfl
    (by rw [hb]; exact d4) hRframes (by simp only [List.map_cons, List.sum_cons, hcat]; omega)
  have Z0 := Stand.forget (locs := []) Z (fun y hy => by rw [hL y hy, hhp]; exact Nat.le_refl _)
  obtain ⟨f1, f2⟩ := vx_frame Z0.same
  rw [hhp] at f1 f2
  have hcid : ce.cls = D.1 ci := by
    rw [hcl9]
    have h1 := (hK.1 ci _ hc).2.1
    rw [hvm] at hfX
    exact Option.some.inj (hfX.symm.trans h1)
  have hh : (V.setCell T.heap.size ce).heap[T.heap.size]? = some ce := heapAt_setCell_self (s := V) ce hlt
  subst hA'
  have X5 := vx_back9 X Y Z0
  have X6 : Stand p l e R s m args below meth c (V.setCell T.heap.size ce) locs (cells + 1) (slots + 6) := { X5 with same := X5.same.mono (by omega) (by omega) }
  have hk9 : ∀ (k : Nat) (x : Nat × va_E), ws[k]? = some x → (V.setCell T.heap.size ce).heap[x.1]? = T.heap[x.1]? := fun k x hx => f2 x.1 ((hP k x hx).lt) (fun z hz => nomatch hz)
  obtain ⟨t, a1, b1⟩ := kk T.heap.size (V.setCell T.heap.size ce).heap ((hP.kept hk9).app (fun k x hx => by
      have hz : k < 1 := (List.getElem?_eq_some_iff.mp hx).1
      rw [show k = 0 by omega] at hx
      cases hx
      exact ⟨_, hc, ce, hh, hcid, hvm9, fun k hk => absurd hk (Nat.not_lt_zero k)⟩)) (hD.push hP rfl (hA _ hS.1)) ⟨Nat.le_trans hS.1 f1, fun q h1 h2 => (f2 q (Nat.lt_of_lt_of_le h1 hS.1) (fun z hz => nomatch hz)).trans (hS.2.1 q h1 h2), hS.2.2⟩ _ rfl X6
  refine ⟨t, st1 _ ?_, b1⟩
  show Steps p.tables e below (T1.setTop { method := m, pc := pc + 3, locals := ls, stack := .ref T.heap.size :: rest, locked := none }) _
  jvm_step X₁.here [X₁.here.top, hexec, d3', Value.category]
  exact st _ a1
/-- 'throw x' of an object that was made before -/
theorem vx_athrow {cc : ByteArray} {pc : Nat} (hexec : p.tables.exec = Jvm.exec) (hb : c.code = cc) {q : Addr} (hdg : decode cc pc = .ok (.athrow, 1)) (k : vx_W p l e R s m args below meth c H locs cells slots Q (F0 m pc ls rest) q) : W p l e R s m args below meth c H locs cells slots Q (F0 m pc ls (.ref q :: rest)) := by
  intro T hT X
  obtain ⟨t, st, hq⟩ := k T hT X
  refine ⟨t, ?_, hq⟩
  have hdg' : decode c.code pc = .ok (.athrow, 1) := by rw [hb]; exact hdg
  jvm_step X.here [X.here.top, hexec, hdg', athrow.wp_sem]
  exact st
end VXK2
/-! ===== END ===== -/
/-! ===== BEGIN a constructor that throws (launches without stack traces) ===== -/
section VXIA
variable {p : Program} {l : Launch} {e : Env} {R : Room} {s : State} {m : MethodId} {args : Array Value} {below : List Frame} {meth : Method} {c : Code} {T : State} {locs : List Loc} {cells slots : Nat}
theorem vx_callI (X : Stand p l e R s m args below meth c T locs cells slots) (hexec : p.tables.exec = Jvm.exec) {own : String} {index : Nat} {y : MethodName} {bytes : ByteArray} {maxL : Nat}
    (hown : s.vm.findClass own = some m.cls) (hy1 : y.name = "<init>") (hlink : (Cond.methodLink own index y).before args s = true) (hinst : (Cond.instanceMethod y).before args s = true)
    (hcode : (Cond.code y bytes maxL none).before args s = true) (hy : y.cls ≠ "java/lang/invoke/MethodHandle" ∧ y.cls ≠ "java/lang/invoke/VarHandle")
    {W9 : Nat} {Pre : Pt → Array Value → Prop} {Post : Pt → Array Value → Option Value → Pt → Prop} {PostX : Pt → Array Value → Addr → Pt → Prop} (hK : vx_Back l R p e below s args y 3 W9 Pre Post PostX)
    {g : JFrame} (hg : g.method = m) (hsize : g.locals.size = c.maxLocals) {a : Addr} {argsL rest : List Value} (hlen : ∀ sig, parseMethodDescriptor y.desc = some sig → argsL.length = sig.parameters.length)
    (hstack : g.stack = argsL.reverse ++ .ref a :: rest) (hW : 2 * g.monitorRoom + (rest.map fun v => v.category).sum ≤ W9) (hdg : decode c.code g.pc = .ok (.invokespecial index, 3))
    (hpre : ∀ vm₁, s.WarmedH vm₁ → Pre ⟨T.setVm vm₁, locs, cells, slots⟩ (Value.ref a :: argsL).toArray) :
    (∃ (v : Option Value) (vm₁ : Vm) (B : Pt), s.WarmedH vm₁ ∧ Stand p l e R s m args below meth c B.U B.locs B.cells B.slots ∧ Post ⟨T.setVm vm₁, locs, cells, slots⟩ (Value.ref a :: argsL).toArray v B ∧
      ∀ target, Steps p.tables e below (B.U.setTop { g with pc := g.pc + 3, stack := v.toList ++ rest }) target → Steps p.tables e below (T.setTop g) target) ∨
    (∃ (q : Addr) (vm₁ : Vm) (B : Pt), s.WarmedH vm₁ ∧ Stand p l e R s m args below meth c B.U B.locs B.cells B.slots ∧ PostX ⟨T.setVm vm₁, locs, cells, slots⟩ (Value.ref a :: argsL).toArray q B ∧
      Steps p.tables e below (T.setTop g) ((B.U.setTop { g with stack := rest }).pushFrame (.throwing q))) := by
  subst hg
  have hpl : e.platform.magicAccessors = ({} : Platform).magicAccessors := by rw [X.admits.platform]
  obtain ⟨mk, methM, cM, kP, vm₁, hnamed, hmethM, hcodeM, -, hlocalsM, -, hkP, -, hW₁, hstep₁⟩ := Steps.initColdArgs (e := e) X.here hexec X.warmed hpl hown hy1 hy hlink hinst hcode (f := g) rfl hlen hstack hdg
  have X₁ := X.noted hW₁
  rcases hK g.method meth c ⟨T.setVm vm₁, locs, cells, slots⟩ { g with stack := rest } (.invokespecial index) mk (Value.ref a :: argsL).toArray X₁ rfl hsize hdg hW (X₁.named hnamed) (hpre vm₁ X₁.warmed) with ⟨v, B, X', hpost, hsteps⟩ | ⟨q, B, X', hpost, hsteps⟩
  · exact Or.inl ⟨v, vm₁, B, X₁.warmed, X', hpost, fun target h => hstep₁ _ fun acts => by rw [doInvoke_state]; exact hsteps.trans h⟩
  · exact Or.inr ⟨q, vm₁, B, X₁.warmed, X', hpost, hstep₁ _ fun acts => by rw [doInvoke_state]; exact hsteps⟩
end VXIA
section VXIB
variable {p : Program} {l : Launch} {e : Env} {R : Room} {s : State} {m : MethodId} {args : Array Value} {below : List Frame} {meth : Method} {c : Code} {H : Heap} {locs : List Loc} {cells slots : Nat}
variable {y : MethodName} {bytes cc : ByteArray} {maxL nL mc ms n index : Nat} {ret : Option FieldType} {ws : List Cond} {rm : Room} {Pc : Array Value → State → Prop} {Qc : Array Value → State → Outcome → State → Prop} {XC : String → State → State → Prop} {free : Addr → Prop} {Ts : List Cond} {own C : String} {b : Addr} {As rest : List Value} {g : JFrame}
theorem vx_runI (S : CallFix p m c cc nL s args Ts own) (hM : vx_Met l y ws rm Pc Qc XC mc ms free) (cw : CallB R s args own index y bytes maxL none ws rm mc ms n ∧ y.name = "<init>" ∧ (Cond.instanceMethod y).before args s = true) (hp : PreS s H Pc (.ref b :: As))
    (hg : g.method = m) (hn : As.length = n) (hsize : g.locals.size = nL) (hstack : g.stack = As.reverse ++ .ref b :: rest) (hW : 2 * g.monitorRoom + (rest.map fun v => v.category).sum ≤ 8) (hdg : decode cc g.pc = .ok (.invokespecial index, 3)) (hf : cells + mc ≤ R.cells ∧ slots + ms ≤ R.slots) :
    vx_Run p l e R s m args below meth c H locs cells slots mc ms g rest (Qc (Value.ref b :: As).toArray) XC free := by
  have hK : vx_Back l R p e below s args y 3 8 (PreOf R mc ms Pc) (PostOf Qc mc ms free) (vx_Post XC mc ms free) := vx_callBack cw.1 hM hp.1
  obtain ⟨⟨-, -, -, -, -, -, hcode, -, hy, hlen, hl⟩, hy1, hin⟩ := cw
  obtain ⟨hx, hb, hml, ho, -⟩ := S
  have hPc := hp.2
  intro T hT X
  rcases vx_callI X hx (bytes := bytes) (maxL := maxL) ho hy1 hl hin hcode hy hK hg (hsize.trans hml.symm) (a := b) (argsL := As) (rest := rest) (fun sig h => hn.trans (hlen sig h)) hstack hW (by rw [hb]; exact hdg)
    (fun vm₁ hW₁ => ⟨hf.1, hf.2, hPc (T.setVm vm₁) hT hW₁⟩) with ⟨v, vm₁, ⟨U', l2, c2, s2⟩, hW₁, X', ⟨g', mk, t, L, e1, e2, hq, h1, hL, h2, h3⟩, st⟩ | ⟨q, vm₁, ⟨U', l2, c2, s2⟩, hW₁, X', ⟨g', mk, t, L, E, ce, e1, e2, hq, hce, hcv, hcl, h1, hL, h2, h3⟩, st⟩
  · dsimp only [Pt.U, Pt.locs, Pt.cells, Pt.slots] at X' e1 e2 h1 h2 h3 st
    subst h1; subst h2; subst h3
    exact Or.inl ⟨v, (T.setVm vm₁).calling g' mk (Value.ref b :: As).toArray, t, U', L, hT, X', hL, e1, e2, hq, st⟩
  · dsimp only [Pt.U, Pt.locs, Pt.cells, Pt.slots] at X' e1 e2 h1 h2 h3 st hcl
    subst h1; subst h2; subst h3
    exact Or.inr ⟨q, (T.setVm vm₁).calling g' mk (Value.ref b :: As).toArray, t, U', L, E, ce, hT, X', hL, e1, e2, hq, hce, hcv, vx_cls hW₁ hcl, st⟩
end VXIB
/-! ===== END ===== -/
/-! ===== BEGIN a private constructor of a nest mate that throws ===== -/
section VXIC
variable {p : Program} {l : Launch} {e : Env} {R : Room} {s : State} {m : MethodId} {args : Array Value} {below : List Frame} {meth : Method} {c : Code} {T : State} {locs : List Loc} {cells slots : Nat}
theorem vx_callIN (X : Stand p l e R s m args below meth c T locs cells slots) (hexec : p.tables.exec = Jvm.exec) {own : String} {index : Nat} {host : String} {y : MethodName} {bytes : ByteArray} {maxL : Nat}
    (hown : s.vm.findClass own = some m.cls) (hy1 : y.name = "<init>") (hlink : (Cond.methodLinkNest own index y host).before args s = true) (hinst : (Cond.instanceMethod y).before args s = true)
    (hcode : (Cond.code y bytes maxL none).before args s = true) (hy : y.cls ≠ "java/lang/invoke/MethodHandle" ∧ y.cls ≠ "java/lang/invoke/VarHandle")
    {W9 : Nat} {Pre : Pt → Array Value → Prop} {Post : Pt → Array Value → Option Value → Pt → Prop} {PostX : Pt → Array Value → Addr → Pt → Prop} (hK : vx_Back l R p e below s args y 3 W9 Pre Post PostX)
    {g : JFrame} (hg : g.method = m) (hsize : g.locals.size = c.maxLocals) {a : Addr} {argsL rest : List Value} (hlen : ∀ sig, parseMethodDescriptor y.desc = some sig → argsL.length = sig.parameters.length)
    (hstack : g.stack = argsL.reverse ++ .ref a :: rest) (hW : 2 * g.monitorRoom + (rest.map fun v => v.category).sum ≤ W9) (hdg : decode c.code g.pc = .ok (.invokespecial index, 3))
    (hpre : ∀ vm₁, s.WarmedH vm₁ → Pre ⟨T.setVm vm₁, locs, cells, slots⟩ (Value.ref a :: argsL).toArray) :
    (∃ (v : Option Value) (vm₁ : Vm) (B : Pt), s.WarmedH vm₁ ∧ Stand p l e R s m args below meth c B.U B.locs B.cells B.slots ∧ Post ⟨T.setVm vm₁, locs, cells, slots⟩ (Value.ref a :: argsL).toArray v B ∧
      ∀ target, Steps p.tables e below (B.U.setTop { g with pc := g.pc + 3, stack := v.toList ++ rest }) target → Steps p.tables e below (T.setTop g) target) ∨
    (∃ (q : Addr) (vm₁ : Vm) (B : Pt), s.WarmedH vm₁ ∧ Stand p l e R s m args below meth c B.U B.locs B.cells B.slots ∧ PostX ⟨T.setVm vm₁, locs, cells, slots⟩ (Value.ref a :: argsL).toArray q B ∧
      Steps p.tables e below (T.setTop g) ((B.U.setTop { g with stack := rest }).pushFrame (.throwing q))) := by
  subst hg
  have hpl : e.platform.magicAccessors = ({} : Platform).magicAccessors := by rw [X.admits.platform]
  obtain ⟨mk, methM, cM, kP, vm₁, hnamed, hmethM, hcodeM, -, hlocalsM, -, hkP, -, hW₁, hstep₁⟩ := Steps.initColdArgsNest (e := e) X.here hexec X.warmed hpl hown hy1 hy hlink hinst hcode (f := g) rfl hlen hstack hdg
  have X₁ := X.noted hW₁
  rcases hK g.method meth c ⟨T.setVm vm₁, locs, cells, slots⟩ { g with stack := rest } (.invokespecial index) mk (Value.ref a :: argsL).toArray X₁ rfl hsize hdg hW (X₁.named hnamed) (hpre vm₁ X₁.warmed) with ⟨v, B, X', hpost, hsteps⟩ | ⟨q, B, X', hpost, hsteps⟩
  · exact Or.inl ⟨v, vm₁, B, X₁.warmed, X', hpost, fun target h => hstep₁ _ fun acts => by rw [doInvoke_state]; exact hsteps.trans h⟩
  · exact Or.inr ⟨q, vm₁, B, X₁.warmed, X', hpost, hstep₁ _ fun acts => by rw [doInvoke_state]; exact hsteps⟩
end VXIC
section VXID
variable {p : Program} {l : Launch} {e : Env} {R : Room} {s : State} {m : MethodId} {args : Array Value} {below : List Frame} {meth : Method} {c : Code} {H : Heap} {locs : List Loc} {cells slots : Nat}
theorem vx_runIN {y : MethodName} {bytes cc : ByteArray} {maxL nL mc ms n index : Nat} {ws : List Cond} {rm : Room} {Pc : Array Value → State → Prop} {Qc : Array Value → State → Outcome → State → Prop} {XC : String → State → State → Prop} {free : Addr → Prop} {Ts : List Cond} {own host : String} {b : Addr} {As rest : List Value} {g : JFrame}
    (S : CallFix p m c cc nL s args Ts own) (hM : vx_Met l y ws rm Pc Qc XC mc ms free) (cw : va_CN R s args own index y host bytes maxL none ws rm mc ms n ∧ y.name = "<init>" ∧ (Cond.instanceMethod y).before args s = true) (hp : PreS s H Pc (.ref b :: As))
    (hg : g.method = m) (hn : As.length = n) (hsize : g.locals.size = nL) (hstack : g.stack = As.reverse ++ .ref b :: rest) (hW : 2 * g.monitorRoom + (rest.map fun v => v.category).sum ≤ 8) (hdg : decode cc g.pc = .ok (.invokespecial index, 3)) (hf : cells + mc ≤ R.cells ∧ slots + ms ≤ R.slots) :
    vx_Run p l e R s m args below meth c H locs cells slots mc ms g rest (Qc (Value.ref b :: As).toArray) XC free := by
  obtain ⟨⟨⟨hrc, hrs, hfr, hlo, hws, hcw⟩, hcode, hini, hy, hlen, hl⟩, hx1, hx2⟩ := cw
  have hK : vx_Back l R p e below s args y 3 8 (PreOf R mc ms Pc) (PostOf Qc mc ms free) (vx_Post XC mc ms free) := vx_back (bytes := bytes) (maxL := maxL) (ret := none) hM hp.1 hrc hrs hfr hlo hws hcw (fun a' U hW => word_at hW (Or.inl (by first | rfl | simp [Cond.onTables, Cond.keeps, Cond.steady])) hini)
  obtain ⟨hx, hb, hml, ho, -⟩ := S
  have hPc := hp.2
  intro T hT X
  rcases vx_callIN X hx (bytes := bytes) (maxL := maxL) ho hx1 hl hx2 hcode hy hK hg (hsize.trans hml.symm) (a := b) (argsL := As) (rest := rest) (fun sig h => hn.trans (hlen sig h)) hstack hW (by rw [hb]; exact hdg)
    (fun vm₁ hW₁ => ⟨hf.1, hf.2, hPc (T.setVm vm₁) hT hW₁⟩) with ⟨v, vm₁, ⟨U', l2, c2, s2⟩, hW₁, X', ⟨g', mk, t, L, e1, e2, hq, h1, hL, h2, h3⟩, st⟩ | ⟨q, vm₁, ⟨U', l2, c2, s2⟩, hW₁, X', ⟨g', mk, t, L, E, ce, e1, e2, hq, hce, hcv, hcl, h1, hL, h2, h3⟩, st⟩
  · dsimp only [Pt.U, Pt.locs, Pt.cells, Pt.slots] at X' e1 e2 h1 h2 h3 st
    subst h1; subst h2; subst h3
    exact Or.inl ⟨v, (T.setVm vm₁).calling g' mk (Value.ref b :: As).toArray, t, U', L, hT, X', hL, e1, e2, hq, st⟩
  · dsimp only [Pt.U, Pt.locs, Pt.cells, Pt.slots] at X' e1 e2 h1 h2 h3 st hcl
    subst h1; subst h2; subst h3
    exact Or.inr ⟨q, (T.setVm vm₁).calling g' mk (Value.ref b :: As).toArray, t, U', L, E, ce, hT, X', hL, e1, e2, hq, hce, hcv, vx_cls hW₁ hcl, st⟩
end VXID
/-! ===== END ===== -/
/-! ===== BEGIN a method of a class above, found by the receiver, that may throw (follows va_callVU, va_runU of this kit) ===== -/
section
variable {p : Program} {l : Launch} {e : Env} {R : Room} {s : State} {m : MethodId} {args : Array Value} {below : List Frame} {meth : Method} {c : Code} {H : Heap} {locs : List Loc} {cells slots : Nat}
theorem vx_callVU {T : State} {locs : List Loc} {cells slots : Nat} (X : Stand p l e R s m args below meth c T locs cells slots) (hexec : p.tables.exec = Jvm.exec) {own C owner : String} {index : Nat} {x y : MethodName} {bytes : ByteArray} {maxL : Nat} {ret : Option FieldType}
    (hown : s.vm.findClass own = some m.cls) (hlink : (Cond.methodLink own index x).before args s = true) (hsame : (Cond.sameMethod x.cls owner x.name x.desc).before args s = true)
    (hd0 : va_Decl s ⟨owner, x.name, x.desc⟩) (howner : owner ≠ "java/lang/invoke/MethodHandle" ∧ owner ≠ "java/lang/invoke/VarHandle")
    (hsel : (Cond.selects C x y).before args s = true) (hinst : (Cond.instanceMethod y).before args s = true) (hcode : (Cond.code y bytes maxL ret).before args s = true)
    {W : Nat} {Pre : Pt → Array Value → Prop} {Post : Pt → Array Value → Option Value → Pt → Prop} {PostX : Pt → Array Value → Addr → Pt → Prop} (hK : vx_Back l R p e below s args y 3 W Pre Post PostX)
    {b : Addr} {cellB : Cell} (hcell : T.heap[b]? = some cellB) (hobj : cellB.vm.isStatics = false) (hcls : s.vm.findClass C = some cellB.cls)
    {g : JFrame} (hg : g.method = m) (hsize : g.locals.size = c.maxLocals) {argsL rest : List Value} (hlen : ∀ sig, parseMethodDescriptor x.desc = some sig → argsL.length = sig.parameters.length)
    (hstack : g.stack = argsL.reverse ++ .ref b :: rest) (hW : 2 * g.monitorRoom + (rest.map fun v => v.category).sum ≤ W) (hdg : decode c.code g.pc = .ok (.invokevirtual index, 3))
    (hpre : ∀ vm₁, s.WarmedH vm₁ → Pre ⟨T.setVm vm₁, locs, cells, slots⟩ (Value.ref b :: argsL).toArray) :
    (∃ (v : Option Value) (vm₁ : Vm) (B : Pt), s.WarmedH vm₁ ∧ Stand p l e R s m args below meth c B.U B.locs B.cells B.slots ∧ Post ⟨T.setVm vm₁, locs, cells, slots⟩ (Value.ref b :: argsL).toArray v B ∧
      ∀ target, Steps p.tables e below (B.U.setTop { g with pc := g.pc + 3, stack := v.toList ++ rest }) target → Steps p.tables e below (T.setTop g) target) ∨
    (∃ (q : Addr) (vm₁ : Vm) (B : Pt), s.WarmedH vm₁ ∧ Stand p l e R s m args below meth c B.U B.locs B.cells B.slots ∧ PostX ⟨T.setVm vm₁, locs, cells, slots⟩ (Value.ref b :: argsL).toArray q B ∧
      Steps p.tables e below (T.setTop g) ((B.U.setTop { g with stack := rest }).pushFrame (.throwing q))) := by
  obtain ⟨r0, r, hn, hrm, hstR, hsigR⟩ := hd0
  obtain ⟨cn, ck, r1, hcn, hck, hni, hf, hn1⟩ := Cond.sameMethod_found hsame
  cases hn.symm.trans hn1
  obtain ⟨mk, methM, hnamed, hmethM, -, habM⟩ := Cond.instanceMethod_spec hinst
  obtain ⟨c2, r2, m2, q1, q2, q3, q4, kP, hkP, hkPi⟩ := Cond.selects_spec hsel
  cases hcls.symm.trans q1
  cases hf.symm.trans q2
  cases hnamed.symm.trans q3
  have hselP : selectMethod e.platform s.vm cellB.cls r0 = .method mk := by rw [Launch.admits_selectMethod X.admits]; exact q4
  obtain ⟨vm₁, X₁, hstep₁⟩ := X.invokevirtualUp hexec hown hlink hsame howner hn hrm hstR (a := b) (cell := cellB) hcell
    (fun z h => by rw [h] at hobj; cases hobj) hselP hmethM habM hkP hkPi (g := g) hg (argsL := argsL) (rest := rest) (hlen _ hsigR) hstack hdg
  rcases hK m meth c ⟨T.setVm vm₁, locs, cells, slots⟩ { g with stack := rest } (.invokevirtual index) mk (Value.ref b :: argsL).toArray X₁ hg hsize hdg hW (X₁.named hnamed) (hpre vm₁ X₁.warmed) with ⟨v, B, X', hpost, hsteps⟩ | ⟨q, B, X', hpost, hsteps⟩
  · exact Or.inl ⟨v, vm₁, B, X₁.warmed, X', hpost, fun target h => hstep₁ _ fun acts => by rw [doInvoke_state]; exact hsteps.trans h⟩
  · exact Or.inr ⟨q, vm₁, B, X₁.warmed, X', hpost, hstep₁ _ fun acts => by rw [doInvoke_state]; exact hsteps⟩
theorem vx_runU {x y : MethodName} {bytes cc : ByteArray} {maxL nL mc ms n index : Nat} {ret : Option FieldType} {ws : List Cond} {rm : Room} {Pc : Array Value → State → Prop} {Qc : Array Value → State → Outcome → State → Prop} {XC : String → State → State → Prop} {free : Addr → Prop} {Ts : List Cond} {own C owner : String} {b : Addr} {As rest : List Value} {g : JFrame}
    (S : CallFix p m c cc nL s args Ts own) (hM : vx_Met l y ws rm Pc Qc XC mc ms free) (cw : va_CU R s args own C owner index x y bytes maxL ret ws rm mc ms n) (hp : PreV s H C b Pc As)
    (hg : g.method = m) (hn : As.length = n) (hsize : g.locals.size = nL) (hstack : g.stack = As.reverse ++ .ref b :: rest) (hW : 2 * g.monitorRoom + (rest.map fun v => v.category).sum ≤ 8) (hdg : decode cc g.pc = .ok (.invokevirtual index, 3)) (hf : cells + mc ≤ R.cells ∧ slots + ms ≤ R.slots) :
    vx_Run p l e R s m args below meth c H locs cells slots mc ms g rest (Qc (Value.ref b :: As).toArray) XC free := by
  obtain ⟨hrc, hrs, hfr, hlo, hws, hcw⟩ := cw.back
  have hini := cw.init
  have hK : vx_Back l R p e below s args y 3 8 (PreOf R mc ms Pc) (PostOf Qc mc ms free) (vx_Post XC mc ms free) := vx_back (bytes := bytes) (maxL := maxL) (ret := ret) hM hp.1 hrc hrs hfr hlo hws hcw (fun a' U hW => word_at hW (Or.inl (by first | rfl | simp [Cond.onTables, Cond.keeps, Cond.steady])) hini)
  obtain ⟨hx, hb, hml, ho, -⟩ := S
  obtain ⟨-, ⟨cellB, hcB, hoB, hclB⟩, hPc⟩ := hp
  intro T hT X
  rcases vx_callVU X hx (C := C) (owner := owner) (bytes := bytes) (maxL := maxL) (ret := ret) ho cw.link cw.same cw.decl cw.notMH cw.sel cw.inst cw.code hK (by rw [hT]; exact hcB) hoB hclB hg (hsize.trans hml.symm) (argsL := As) (rest := rest) (fun sig h => hn.trans (cw.len sig h)) hstack hW (by rw [hb]; exact hdg)
    (fun vm₁ hW₁ => ⟨hf.1, hf.2, hPc (T.setVm vm₁) hT hW₁⟩) with ⟨v, vm₁, ⟨U', l2, c2, s2⟩, hW₁, X', ⟨g', mk, t, L, e1, e2, hq, h1, hL, h2, h3⟩, st⟩ | ⟨q, vm₁, ⟨U', l2, c2, s2⟩, hW₁, X', ⟨g', mk, t, L, E, ce, e1, e2, hq, hce, hcv, hcl, h1, hL, h2, h3⟩, st⟩
  · dsimp only [Pt.U, Pt.locs, Pt.cells, Pt.slots] at X' e1 e2 h1 h2 h3 st
    subst h1; subst h2; subst h3
    exact Or.inl ⟨v, (T.setVm vm₁).calling g' mk (Value.ref b :: As).toArray, t, U', L, hT, X', hL, e1, e2, hq, st⟩
  · dsimp only [Pt.U, Pt.locs, Pt.cells, Pt.slots] at X' e1 e2 h1 h2 h3 st hcl
    subst h1; subst h2; subst h3
    exact Or.inr ⟨q, (T.setVm vm₁).calling g' mk (Value.ref b :: As).toArray, t, U', L, E, ce, hT, X', hL, e1, e2, hq, hce, hcv, vx_cls hW₁ hcl, st⟩
end
/-! ===== END ===== -/
/-! ===== BEGIN super.m(..) that may throw (follows va_callSU, va_runSU) ===== -/
section
variable {p : Program} {l : Launch} {e : Env} {R : Room} {s : State} {m : MethodId} {args : Array Value} {below : List Frame} {meth : Method} {c : Code} {H : Heap} {locs : List Loc} {cells slots : Nat}
theorem vx_callSU {T : State} {locs : List Loc} {cells slots : Nat} (X : Stand p l e R s m args below meth c T locs cells slots) (hexec : p.tables.exec = Jvm.exec) {own : String} {index : Nat} {y : MethodName} {bytes : ByteArray} {maxL : Nat} {ret : Option FieldType}
    (hown : s.vm.findClass own = some m.cls) (hlink : (Cond.methodLink own index y).before args s = true) (hsame : (Cond.sameMethod y.cls y.cls y.name y.desc).before args s = true) (hsup : (Cond.superclass own y.cls).before args s = true)
    (hinst : (Cond.instanceMethod y).before args s = true) (hcode : (Cond.code y bytes maxL ret).before args s = true) (hno : y.name ≠ "<init>")
    {W : Nat} {Pre : Pt → Array Value → Prop} {Post : Pt → Array Value → Option Value → Pt → Prop} {PostX : Pt → Array Value → Addr → Pt → Prop} (hK : vx_Back l R p e below s args y 3 W Pre Post PostX)
    {b : Addr} {cellB : Cell} {kB : Class} (hcell : T.heap[b]? = some cellB) (hobj : cellB.vm.isStatics = false) (hkB : s.vm.classes[cellB.cls]? = some kB)
    {g : JFrame} (hg : g.method = m) (hsize : g.locals.size = c.maxLocals) {argsL rest : List Value} (hlen : ∀ sig, parseMethodDescriptor y.desc = some sig → argsL.length = sig.parameters.length)
    (hstack : g.stack = argsL.reverse ++ .ref b :: rest) (hW : 2 * g.monitorRoom + (rest.map fun v => v.category).sum ≤ W) (hdg : decode c.code g.pc = .ok (.invokespecial index, 3))
    (hpre : ∀ vm₁, s.WarmedH vm₁ → Pre ⟨T.setVm vm₁, locs, cells, slots⟩ (Value.ref b :: argsL).toArray) :
    (∃ (v : Option Value) (vm₁ : Vm) (B : Pt), s.WarmedH vm₁ ∧ Stand p l e R s m args below meth c B.U B.locs B.cells B.slots ∧ Post ⟨T.setVm vm₁, locs, cells, slots⟩ (Value.ref b :: argsL).toArray v B ∧
      ∀ target, Steps p.tables e below (B.U.setTop { g with pc := g.pc + 3, stack := v.toList ++ rest }) target → Steps p.tables e below (T.setTop g) target) ∨
    (∃ (q : Addr) (vm₁ : Vm) (B : Pt), s.WarmedH vm₁ ∧ Stand p l e R s m args below meth c B.U B.locs B.cells B.slots ∧ PostX ⟨T.setVm vm₁, locs, cells, slots⟩ (Value.ref b :: argsL).toArray q B ∧
      Steps p.tables e below (T.setTop g) ((B.U.setTop { g with stack := rest }).pushFrame (.throwing q))) := by
  obtain ⟨mk, methM, hnamed, hmethM, hstM, habM⟩ := Cond.instanceMethod_spec hinst
  obtain ⟨methM', cM, hmethM', -, -, -, -, -, -, hsigM⟩ := Cond.code_spec hnamed hcode
  cases hmethM.symm.trans hmethM'
  obtain ⟨ps, dk, kp, hps, hdk, hkp, hsuper, -, -, hnid⟩ := Cond.superclass_spec hown hsup
  have hn : s.methodNamed? ⟨y.cls, y.name, y.desc⟩ = some mk := hnamed
  have hpm : ps = mk.cls := Option.some.inj (hps.symm.trans (findClass_of_methodNamed hnamed))
  have hsub : s.vm.isSubclass ps mk.cls = true := by rw [hpm]; simp [Vm.isSubclass, Vm.isSubclassAux]
  obtain ⟨vm₁, X₁, hstep₁⟩ := X.invokespecialUp hexec hown hlink hsame hn hmethM hstM habM hno hdk hnid hps hsuper hsub (a := b) (cell := cellB) hcell
    (fun z h => by rw [h] at hobj; cases hobj) hkB (g := g) hg (argsL := argsL) (rest := rest) (hlen _ hsigM) hstack hdg
  rcases hK m meth c ⟨T.setVm vm₁, locs, cells, slots⟩ { g with stack := rest } (.invokespecial index) mk (Value.ref b :: argsL).toArray X₁ hg hsize hdg hW (X₁.named hnamed) (hpre vm₁ X₁.warmed) with ⟨v, B, X', hpost, hsteps⟩ | ⟨q, B, X', hpost, hsteps⟩
  · exact Or.inl ⟨v, vm₁, B, X₁.warmed, X', hpost, fun target h => hstep₁ _ (by rw [doInvoke_state]; exact hsteps.trans h)⟩
  · exact Or.inr ⟨q, vm₁, B, X₁.warmed, X', hpost, hstep₁ _ (by rw [doInvoke_state]; exact hsteps)⟩
theorem vx_runSU {y : MethodName} {bytes cc : ByteArray} {maxL nL mc ms n index : Nat} {ret : Option FieldType} {ws : List Cond} {rm : Room} {Pc : Array Value → State → Prop} {Qc : Array Value → State → Outcome → State → Prop} {XC : String → State → State → Prop} {free : Addr → Prop} {Ts : List Cond} {own C : String} {cC : ClassId} {b : Addr} {As rest : List Value} {g : JFrame}
    (hat : ClassAt s C cC) (S : CallFix p m c cc nL s args Ts own) (hM : vx_Met l y ws rm Pc Qc XC mc ms free) (cw : va_CS R s args own index y bytes maxL ret ws rm mc ms n) (hp : PreV s H C b Pc As)
    (hg : g.method = m) (hn : As.length = n) (hsize : g.locals.size = nL) (hstack : g.stack = As.reverse ++ .ref b :: rest) (hW : 2 * g.monitorRoom + (rest.map fun v => v.category).sum ≤ 8) (hdg : decode cc g.pc = .ok (.invokespecial index, 3)) (hf : cells + mc ≤ R.cells ∧ slots + ms ≤ R.slots) :
    vx_Run p l e R s m args below meth c H locs cells slots mc ms g rest (Qc (Value.ref b :: As).toArray) XC free := by
  obtain ⟨⟨hrc, hrs, hfr, hlo, hws, hcw⟩, hl1, hl2, hl3, hl4, hini, hcode, hno, hlen⟩ := cw
  have hK : vx_Back l R p e below s args y 3 8 (PreOf R mc ms Pc) (PostOf Qc mc ms free) (vx_Post XC mc ms free) := vx_back (bytes := bytes) (maxL := maxL) (ret := ret) hM hp.1 hrc hrs hfr hlo hws hcw (fun a' U hW => word_at hW (Or.inl (by first | rfl | simp [Cond.onTables, Cond.keeps, Cond.steady])) hini)
  obtain ⟨hx, hb, hml, ho, -⟩ := S
  obtain ⟨-, ⟨cellB, hcB, hoB, hclB⟩, hPc⟩ := hp
  obtain ⟨hfc, kB, hkB, -⟩ := hat
  cases hfc.symm.trans hclB
  intro T hT X
  rcases vx_callSU X hx (bytes := bytes) (maxL := maxL) (ret := ret) ho hl1 hl2 hl3 hl4 hcode hno hK (by rw [hT]; exact hcB) hoB hkB hg (hsize.trans hml.symm) (argsL := As) (rest := rest) (fun sig h => hn.trans (hlen sig h)) hstack hW (by rw [hb]; exact hdg)
    (fun vm₁ hW₁ => ⟨hf.1, hf.2, hPc (T.setVm vm₁) hT hW₁⟩) with ⟨v, vm₁, ⟨U', l2, c2, s2⟩, hW₁, X', ⟨g', mk, t, L, e1, e2, hq, h1, hL, h2, h3⟩, st⟩ | ⟨q, vm₁, ⟨U', l2, c2, s2⟩, hW₁, X', ⟨g', mk, t, L, E, ce, e1, e2, hq, hce, hcv, hcl, h1, hL, h2, h3⟩, st⟩
  · dsimp only [Pt.U, Pt.locs, Pt.cells, Pt.slots] at X' e1 e2 h1 h2 h3 st
    subst h1; subst h2; subst h3
    exact Or.inl ⟨v, (T.setVm vm₁).calling g' mk (Value.ref b :: As).toArray, t, U', L, hT, X', hL, e1, e2, hq, st⟩
  · dsimp only [Pt.U, Pt.locs, Pt.cells, Pt.slots] at X' e1 e2 h1 h2 h3 st hcl
    subst h1; subst h2; subst h3
    exact Or.inr ⟨q, (T.setVm vm₁).calling g' mk (Value.ref b :: As).toArray, t, U', L, E, ce, hT, X', hL, e1, e2, hq, hce, hcv, vx_cls hW₁ hcl, st⟩
end
/-! ===== END ===== -/
/-! ===== BEGIN a private method of a nest mate that may throw (follows va_callVN, va_callSN, va_runVN, va_runSN) ===== -/
section
variable {p : Program} {l : Launch} {e : Env} {R : Room} {s : State} {m : MethodId} {args : Array Value} {below : List Frame} {meth : Method} {c : Code} {H : Heap} {locs : List Loc} {cells slots : Nat}
variable {T : State}
theorem vx_callVN (X : Stand p l e R s m args below meth c T locs cells slots) (hexec : p.tables.exec = Jvm.exec) {own C : String} {index : Nat} {host : String} {y : MethodName} {bytes : ByteArray} {maxL : Nat} {ret : Option FieldType}
    (hown : s.vm.findClass own = some m.cls) (hlink : (Cond.methodLinkNest own index y host).before args s = true) (hinst : (Cond.instanceMethod y).before args s = true) (hsel : (Cond.selects C y y).before args s = true)
    (hcode : (Cond.code y bytes maxL ret).before args s = true) (hy : y.cls ≠ "java/lang/invoke/MethodHandle" ∧ y.cls ≠ "java/lang/invoke/VarHandle")
    {W : Nat} {Pre : Pt → Array Value → Prop} {Post : Pt → Array Value → Option Value → Pt → Prop} {PostX : Pt → Array Value → Addr → Pt → Prop} (hK : vx_Back l R p e below s args y 3 W Pre Post PostX)
    {b : Addr} {cellB : Cell} (hcell : T.heap[b]? = some cellB) (hobj : cellB.vm.isStatics = false) (hcls : s.vm.findClass C = some cellB.cls)
    {g : JFrame} (hg : g.method = m) (hsize : g.locals.size = c.maxLocals) {argsL rest : List Value} (hlen : ∀ sig, parseMethodDescriptor y.desc = some sig → argsL.length = sig.parameters.length)
    (hstack : g.stack = argsL.reverse ++ .ref b :: rest) (hW : 2 * g.monitorRoom + (rest.map fun v => v.category).sum ≤ W) (hdg : decode c.code g.pc = .ok (.invokevirtual index, 3))
    (hpre : ∀ vm₁, s.WarmedH vm₁ → Pre ⟨T.setVm vm₁, locs, cells, slots⟩ (Value.ref b :: argsL).toArray) :
    (∃ (v : Option Value) (vm₁ : Vm) (B : Pt), s.WarmedH vm₁ ∧ Stand p l e R s m args below meth c B.U B.locs B.cells B.slots ∧ Post ⟨T.setVm vm₁, locs, cells, slots⟩ (Value.ref b :: argsL).toArray v B ∧
      ∀ target, Steps p.tables e below (B.U.setTop { g with pc := g.pc + 3, stack := v.toList ++ rest }) target → Steps p.tables e below (T.setTop g) target) ∨
    (∃ (q : Addr) (vm₁ : Vm) (B : Pt), s.WarmedH vm₁ ∧ Stand p l e R s m args below meth c B.U B.locs B.cells B.slots ∧ PostX ⟨T.setVm vm₁, locs, cells, slots⟩ (Value.ref b :: argsL).toArray q B ∧
      Steps p.tables e below (T.setTop g) ((B.U.setTop { g with stack := rest }).pushFrame (.throwing q))) := by
  obtain ⟨mk, methM, hnamed, hmethM, hstM, habM⟩ := Cond.instanceMethod_spec hinst
  obtain ⟨methM', cM, hmethM', -, -, -, -, -, -, hsigM⟩ := Cond.code_spec hnamed hcode
  cases hmethM.symm.trans hmethM'
  obtain ⟨c2, r2, m2, q1, q2, q3, q4, kP, hkP, hkPi⟩ := Cond.selects_spec hsel
  cases hcls.symm.trans q1
  cases (State.methodFound?_of_named hnamed hy).symm.trans q2
  cases hnamed.symm.trans q3
  have hselP : selectMethod e.platform s.vm cellB.cls mk = .method mk := by rw [Launch.admits_selectMethod X.admits]; exact q4
  obtain ⟨vm₁, X₁, hstep₁⟩ := X.invokevirtualNest hexec hown hlink hnamed hmethM hstM hkP hkPi hy (a := b) (cell := cellB) hcell
    (fun z h => by rw [h] at hobj; cases hobj) hselP hmethM habM hkP hkPi (g := g) hg (argsL := argsL) (rest := rest) (hlen _ hsigM) hstack hdg
  rcases hK m meth c ⟨T.setVm vm₁, locs, cells, slots⟩ { g with stack := rest } (.invokevirtual index) mk (Value.ref b :: argsL).toArray X₁ hg hsize hdg hW (X₁.named hnamed) (hpre vm₁ X₁.warmed) with ⟨v, B, X', hpost, hsteps⟩ | ⟨q, B, X', hpost, hsteps⟩
  · exact Or.inl ⟨v, vm₁, B, X₁.warmed, X', hpost, fun target h => hstep₁ _ fun acts => by rw [doInvoke_state]; exact hsteps.trans h⟩
  · exact Or.inr ⟨q, vm₁, B, X₁.warmed, X', hpost, hstep₁ _ fun acts => by rw [doInvoke_state]; exact hsteps⟩
theorem vx_callSN (X : Stand p l e R s m args below meth c T locs cells slots) (hexec : p.tables.exec = Jvm.exec) {own : String} {index : Nat} {host : String} {y : MethodName} {bytes : ByteArray} {maxL : Nat} {ret : Option FieldType}
    (hown : s.vm.findClass own = some m.cls) (hlink : (Cond.methodLinkNest own index y host).before args s = true) (hstat : (Cond.static y).before args s = true) (hinit : (Cond.initialized y.cls).before args s = true)
    (hcode : (Cond.code y bytes maxL ret).before args s = true) (hy : y.cls ≠ "java/lang/invoke/MethodHandle" ∧ y.cls ≠ "java/lang/invoke/VarHandle")
    {W : Nat} {Pre : Pt → Array Value → Prop} {Post : Pt → Array Value → Option Value → Pt → Prop} {PostX : Pt → Array Value → Addr → Pt → Prop} (hK : vx_Back l R p e below s args y 3 W Pre Post PostX)
    {g : JFrame} (hg : g.method = m) (hsize : g.locals.size = c.maxLocals) {argsL rest : List Value} (hlen : ∀ sig, parseMethodDescriptor y.desc = some sig → argsL.length = sig.parameters.length)
    (hstack : g.stack = argsL.reverse ++ rest) (hW : 2 * g.monitorRoom + (rest.map fun v => v.category).sum ≤ W) (hdg : decode c.code g.pc = .ok (.invokestatic index, 3))
    (hpre : ∀ vm₁, s.WarmedH vm₁ → Pre ⟨T.setVm vm₁, locs, cells, slots⟩ argsL.toArray) :
    (∃ (v : Option Value) (vm₁ : Vm) (B : Pt), s.WarmedH vm₁ ∧ Stand p l e R s m args below meth c B.U B.locs B.cells B.slots ∧ Post ⟨T.setVm vm₁, locs, cells, slots⟩ argsL.toArray v B ∧
      ∀ target, Steps p.tables e below (B.U.setTop { g with pc := g.pc + 3, stack := v.toList ++ rest }) target → Steps p.tables e below (T.setTop g) target) ∨
    (∃ (q : Addr) (vm₁ : Vm) (B : Pt), s.WarmedH vm₁ ∧ Stand p l e R s m args below meth c B.U B.locs B.cells B.slots ∧ PostX ⟨T.setVm vm₁, locs, cells, slots⟩ argsL.toArray q B ∧
      Steps p.tables e below (T.setTop g) ((B.U.setTop { g with stack := rest }).pushFrame (.throwing q))) := by
  obtain ⟨mk, hnamed⟩ := Cond.code_named hcode
  obtain ⟨methM, cM, hmethM, -, -, -, -, -, -, hsigM⟩ := Cond.code_spec hnamed hcode
  have hstatic : methM.isStatic = true := Cond.static_spec hnamed hmethM hstat
  obtain ⟨kP, hkP, -⟩ := className_of_methodNamed hnamed
  have hinitP : kP.init = .initialized := Cond.initialized_spec (findClass_of_methodNamed hnamed) hkP hinit
  obtain ⟨vm₁, X₁, hstep₁⟩ := X.invokestaticNest hexec hown hlink hnamed hmethM hstatic hkP hinitP hy (g := g) hg (argsL := argsL) (rest := rest) (hlen _ hsigM) hstack hdg
  rcases hK m meth c ⟨T.setVm vm₁, locs, cells, slots⟩ { g with stack := rest } (.invokestatic index) mk argsL.toArray X₁ hg hsize hdg hW (X₁.named hnamed) (hpre vm₁ X₁.warmed) with ⟨v, B, X', hpost, hsteps⟩ | ⟨q, B, X', hpost, hsteps⟩
  · exact Or.inl ⟨v, vm₁, B, X₁.warmed, X', hpost, fun target h => hstep₁ _ fun acts => by rw [doInvoke_state]; exact hsteps.trans h⟩
  · exact Or.inr ⟨q, vm₁, B, X₁.warmed, X', hpost, hstep₁ _ fun acts => by rw [doInvoke_state]; exact hsteps⟩
theorem vx_runVN {y : MethodName} {bytes cc : ByteArray} {maxL nL mc ms n index : Nat} {ret : Option FieldType} {ws : List Cond} {rm : Room} {Pc : Array Value → State → Prop} {Qc : Array Value → State → Outcome → State → Prop} {XC : String → State → State → Prop} {free : Addr → Prop} {Ts : List Cond} {own C host : String} {b : Addr} {As rest : List Value} {g : JFrame}
    (S : CallFix p m c cc nL s args Ts own) (hM : vx_Met l y ws rm Pc Qc XC mc ms free) (cw : va_CN R s args own index y host bytes maxL ret ws rm mc ms n ∧ (Cond.instanceMethod y).before args s = true ∧ (Cond.selects C y y).before args s = true) (hp : PreV s H C b Pc As)
    (hg : g.method = m) (hn : As.length = n) (hsize : g.locals.size = nL) (hstack : g.stack = As.reverse ++ .ref b :: rest) (hW : 2 * g.monitorRoom + (rest.map fun v => v.category).sum ≤ 8) (hdg : decode cc g.pc = .ok (.invokevirtual index, 3)) (hf : cells + mc ≤ R.cells ∧ slots + ms ≤ R.slots) :
    vx_Run p l e R s m args below meth c H locs cells slots mc ms g rest (Qc (Value.ref b :: As).toArray) XC free := by
  obtain ⟨⟨⟨hrc, hrs, hfr, hlo, hws, hcw⟩, hcode, hini, hy, hlen, hl⟩, hx1, hx2⟩ := cw
  have hK : vx_Back l R p e below s args y 3 8 (PreOf R mc ms Pc) (PostOf Qc mc ms free) (vx_Post XC mc ms free) := vx_back (bytes := bytes) (maxL := maxL) (ret := ret) hM hp.1 hrc hrs hfr hlo hws hcw (fun a' U hW => word_at hW (Or.inl (by first | rfl | simp [Cond.onTables, Cond.keeps, Cond.steady])) hini)
  obtain ⟨hx, hb, hml, ho, -⟩ := S
  obtain ⟨-, ⟨cellB, hcB, hoB, hclB⟩, hPc⟩ := hp
  intro T hT X
  rcases vx_callVN X hx (C := C) (bytes := bytes) (maxL := maxL) (ret := ret) ho hl hx1 hx2 hcode hy hK (by rw [hT]; exact hcB) hoB hclB hg (hsize.trans hml.symm) (argsL := As) (rest := rest) (fun sig h => hn.trans (hlen sig h)) hstack hW (by rw [hb]; exact hdg)
    (fun vm₁ hW₁ => ⟨hf.1, hf.2, hPc (T.setVm vm₁) hT hW₁⟩) with ⟨v, vm₁, ⟨U', l2, c2, s2⟩, hW₁, X', ⟨g', mk, t, L, e1, e2, hq, h1, hL, h2, h3⟩, st⟩ | ⟨q, vm₁, ⟨U', l2, c2, s2⟩, hW₁, X', ⟨g', mk, t, L, E, ce, e1, e2, hq, hce, hcv, hcl, h1, hL, h2, h3⟩, st⟩
  · dsimp only [Pt.U, Pt.locs, Pt.cells, Pt.slots] at X' e1 e2 h1 h2 h3 st
    subst h1; subst h2; subst h3
    exact Or.inl ⟨v, (T.setVm vm₁).calling g' mk (Value.ref b :: As).toArray, t, U', L, hT, X', hL, e1, e2, hq, st⟩
  · dsimp only [Pt.U, Pt.locs, Pt.cells, Pt.slots] at X' e1 e2 h1 h2 h3 st hcl
    subst h1; subst h2; subst h3
    exact Or.inr ⟨q, (T.setVm vm₁).calling g' mk (Value.ref b :: As).toArray, t, U', L, E, ce, hT, X', hL, e1, e2, hq, hce, hcv, vx_cls hW₁ hcl, st⟩
theorem vx_runSN {y : MethodName} {bytes cc : ByteArray} {maxL nL mc ms n index : Nat} {ret : Option FieldType} {ws : List Cond} {rm : Room} {Pc : Array Value → State → Prop} {Qc : Array Value → State → Outcome → State → Prop} {XC : String → State → State → Prop} {free : Addr → Prop} {Ts : List Cond} {own host : String} {As rest : List Value} {g : JFrame}
    (S : CallFix p m c cc nL s args Ts own) (hM : vx_Met l y ws rm Pc Qc XC mc ms free) (cw : va_CN R s args own index y host bytes maxL ret ws rm mc ms n ∧ (Cond.static y).before args s = true ∧ True) (hp : PreS s H Pc As)
    (hg : g.method = m) (hn : As.length = n) (hsize : g.locals.size = nL) (hstack : g.stack = As.reverse ++ rest) (hW : 2 * g.monitorRoom + (rest.map fun v => v.category).sum ≤ 8) (hdg : decode cc g.pc = .ok (.invokestatic index, 3)) (hf : cells + mc ≤ R.cells ∧ slots + ms ≤ R.slots) :
    vx_Run p l e R s m args below meth c H locs cells slots mc ms g rest (Qc As.toArray) XC free := by
  obtain ⟨⟨⟨hrc, hrs, hfr, hlo, hws, hcw⟩, hcode, hini, hy, hlen, hl⟩, hx1, hx2⟩ := cw
  have hK : vx_Back l R p e below s args y 3 8 (PreOf R mc ms Pc) (PostOf Qc mc ms free) (vx_Post XC mc ms free) := vx_back (bytes := bytes) (maxL := maxL) (ret := ret) hM hp.1 hrc hrs hfr hlo hws hcw (fun a' U hW => word_at hW (Or.inl (by first | rfl | simp [Cond.onTables, Cond.keeps, Cond.steady])) hini)
  obtain ⟨hx, hb, hml, ho, -⟩ := S
  have hPc := hp.2
  intro T hT X
  rcases vx_callSN X hx (bytes := bytes) (maxL := maxL) (ret := ret) ho hl hx1 hini hcode hy hK hg (hsize.trans hml.symm) (argsL := As) (rest := rest) (fun sig h => hn.trans (hlen sig h)) hstack hW (by rw [hb]; exact hdg)
    (fun vm₁ hW₁ => ⟨hf.1, hf.2, hPc (T.setVm vm₁) hT hW₁⟩) with ⟨v, vm₁, ⟨U', l2, c2, s2⟩, hW₁, X', ⟨g', mk, t, L, e1, e2, hq, h1, hL, h2, h3⟩, st⟩ | ⟨q, vm₁, ⟨U', l2, c2, s2⟩, hW₁, X', ⟨g', mk, t, L, E, ce, e1, e2, hq, hce, hcv, hcl, h1, hL, h2, h3⟩, st⟩
  · dsimp only [Pt.U, Pt.locs, Pt.cells, Pt.slots] at X' e1 e2 h1 h2 h3 st
    subst h1; subst h2; subst h3
    exact Or.inl ⟨v, (T.setVm vm₁).calling g' mk As.toArray, t, U', L, hT, X', hL, e1, e2, hq, st⟩
  · dsimp only [Pt.U, Pt.locs, Pt.cells, Pt.slots] at X' e1 e2 h1 h2 h3 st hcl
    subst h1; subst h2; subst h3
    exact Or.inr ⟨q, (T.setVm vm₁).calling g' mk As.toArray, t, U', L, E, ce, hT, X', hL, e1, e2, hq, hce, hcv, vx_cls hW₁ hcl, st⟩
end
/-! ===== END ===== -/
/-! ===== BEGIN calls by an interface of methods that may throw (vx_callIF, vx_runF follow va_callIF, va_runF of this kit) ===== -/
section
variable {p : Program} {l : Launch} {e : Env} {R : Room} {s : State} {m : MethodId} {args : Array Value} {below : List Frame} {meth : Method} {c : Code} {H : Heap} {locs : List Loc} {cells slots : Nat} {Q : State → Prop}
variable {mc ms : Nat} {free : Addr → Prop} {A0 A1 : Nat → Prop} {H0 : Heap} {a : Array Value} {pc : Nat} {ls : Array Slot} {st0 rest : List Value}
def vx_Run5 (p : Program) (l : Launch) (e : Env) (R : Room) (s : State) (m : MethodId) (args : Array Value) (below : List Frame) (meth : Method) (c : Code) (H : Heap) (locs : List Loc) (cells slots mc ms : Nat) (g : JFrame) (rest : List Value) (Qa : State → Outcome → State → Prop) (XC : String → State → State → Prop) (free : Addr → Prop) : Prop :=
  ∀ T : State, T.heap = H → Stand p l e R s m args below meth c T locs cells slots →
    (∃ (v : Option Value) (st₀ t T' : State) (L : List Loc), st₀.heap = H ∧ Stand p l e R s m args below meth c T' (locs ++ L) (cells + mc) (slots + ms) ∧ (∀ q ∈ L, free q.base) ∧ T'.heap = t.heap ∧ T'.vm = t.vm ∧ Qa st₀ (.returned v) t ∧
      Goes p e below T g T' { g with pc := g.pc + 5, stack := v.toList ++ rest }) ∨
    (∃ (q : Addr) (st₀ t T' : State) (L : List Loc) (E : String) (ce : Cell), st₀.heap = H ∧ Stand p l e R s m args below meth c T' (locs ++ L) (cells + mc) (slots + ms) ∧ (∀ z ∈ L, free z.base) ∧ T'.heap = t.heap ∧ T'.vm = t.vm ∧ XC E st₀ t ∧ t.heap[q]? = some ce ∧ ce.vm = .none ∧ s.vm.findClass E = some ce.cls ∧
      Steps p.tables e below (T.setTop g) ((T'.setTop { g with stack := rest }).pushFrame (.throwing q)))
theorem vx_callIF {T : State} (X : Stand p l e R s m args below meth c T locs cells slots) (hexec : p.tables.exec = Jvm.exec) {own C : String} {index count : Nat} {x y : MethodName} {bytes : ByteArray} {maxL : Nat} {ret : Option FieldType}
    (hown : s.vm.findClass own = some m.cls) (hlink : (Cond.methodLink own index x).before args s = true) (hdecl : (Cond.declares x).before args s = true) (hface : (Cond.interfaceMethod x.cls x.cls x.name x.desc).before args s = true)
    (hsel : (Cond.selects C x y).before args s = true) (hinst : (Cond.instanceMethod y).before args s = true) (hpub : (Cond.publicMethod y).before args s = true) (hunh : (Cond.unhidden C x.name x.desc).before args s = true)
    (hcast : (Cond.castable C x.cls).before args s = true) (hcode : (Cond.code y bytes maxL ret).before args s = true) (hx : x.cls ≠ "java/lang/invoke/MethodHandle" ∧ x.cls ≠ "java/lang/invoke/VarHandle")
    {W9 : Nat} {Pre : Pt → Array Value → Prop} {Post : Pt → Array Value → Option Value → Pt → Prop} {PostX : Pt → Array Value → Addr → Pt → Prop} (hK : vx_Back l R p e below s args y 5 W9 Pre Post PostX)
    {b : Addr} {cellB : Cell} {kB : Class} (hcell : T.heap[b]? = some cellB) (hobj : cellB.vm.isStatics = false) (hcls : s.vm.findClass C = some cellB.cls) (hkB : s.vm.classes[cellB.cls]? = some kB)
    {g : JFrame} (hg : g.method = m) (hsize : g.locals.size = c.maxLocals) {argsL rest : List Value} (hlen : ∀ sig, parseMethodDescriptor x.desc = some sig → argsL.length = sig.parameters.length)
    (hstack : g.stack = argsL.reverse ++ .ref b :: rest) (hW : 2 * g.monitorRoom + (rest.map fun v => v.category).sum ≤ W9) (hdg : decode c.code g.pc = .ok (.invokeinterface index count, 5))
    (hpre : ∀ vm₁, s.WarmedH vm₁ → Pre ⟨T.setVm vm₁, locs, cells, slots⟩ (Value.ref b :: argsL).toArray) :
    (∃ (v : Option Value) (vm₁ : Vm) (B : Pt), s.WarmedH vm₁ ∧ Stand p l e R s m args below meth c B.U B.locs B.cells B.slots ∧ Post ⟨T.setVm vm₁, locs, cells, slots⟩ (Value.ref b :: argsL).toArray v B ∧
      ∀ target, Steps p.tables e below (B.U.setTop { g with pc := g.pc + 5, stack := v.toList ++ rest }) target → Steps p.tables e below (T.setTop g) target) ∨
    (∃ (q : Addr) (vm₁ : Vm) (B : Pt), s.WarmedH vm₁ ∧ Stand p l e R s m args below meth c B.U B.locs B.cells B.slots ∧ PostX ⟨T.setVm vm₁, locs, cells, slots⟩ (Value.ref b :: argsL).toArray q B ∧
      Steps p.tables e below (T.setTop g) ((B.U.setTop { g with stack := rest }).pushFrame (.throwing q))) := by
  obtain ⟨r0, r, hn, hrm, hstR, hsigR⟩ := Cond.declares_spec hdecl
  obtain ⟨cL, kL, r1, hcL, hkL, hiL, hfoundL, hn1⟩ := Cond.interfaceMethod_spec hface
  cases hn.symm.trans hn1
  have hr0cls : r0.cls = cL := Option.some.inj ((findClass_of_methodNamed hn).symm.trans hcL)
  obtain ⟨hnameR, hdescR⟩ := name_of_methodNamed hn hrm
  obtain ⟨mk, methM, hnamed, hmethM, -, habM⟩ := Cond.instanceMethod_spec hinst
  obtain ⟨c2, r2, m2, q1, q2, q3, q4, -⟩ := Cond.selects_spec hsel
  cases hcls.symm.trans q1
  cases hfoundL.symm.trans q2
  cases hnamed.symm.trans q3
  have hselP : selectMethod e.platform s.vm cellB.cls r0 = .method mk := by rw [Launch.admits_selectMethod X.admits]; exact q4
  have hpubM : hasFlag methM.accessFlags Acc.public_ = true := Cond.publicMethod_spec hnamed hmethM hpub
  have hway : ((cellB.cls :: s.vm.superclasses cellB.cls).any fun k => (declaredIn s.vm r.name r.desc k).any fun (_, z) => z.isPrivate || z.isStatic) = false := by
    rw [hnameR, hdescR]; exact Cond.unhidden_spec hcls hunh
  obtain ⟨c3, t3, w1, w2, w3⟩ := Cond.castable_spec hcast
  cases hcls.symm.trans w1
  cases hcL.symm.trans w2
  obtain ⟨vm₁, X₁, hstep₁⟩ := X.invokeinterface hexec hown hlink hn hrm hstR (by rw [hr0cls]; exact hkL) hiL hx (a := b) (cell := cellB) (kcell := kB) hcell
    (fun z h => by rw [h] at hobj; cases hobj) hkB (by rw [hr0cls]; exact w3) hselP hmethM hway hpubM habM (g := g) hg (argsL := argsL) (rest := rest) (hlen _ hsigR) hstack hdg
  rcases hK m meth c ⟨T.setVm vm₁, locs, cells, slots⟩ { g with stack := rest } (.invokeinterface index count) mk (Value.ref b :: argsL).toArray X₁ hg hsize hdg hW (X₁.named hnamed) (hpre vm₁ X₁.warmed) with ⟨v, B, X', hpost, hsteps⟩ | ⟨q, B, X', hpost, hsteps⟩
  · exact Or.inl ⟨v, vm₁, B, X₁.warmed, X', hpost, fun target h => hstep₁ _ fun acts => by rw [doInvoke_state]; exact hsteps.trans h⟩
  · exact Or.inr ⟨q, vm₁, B, X₁.warmed, X', hpost, hstep₁ _ fun acts => by rw [doInvoke_state]; exact hsteps⟩
theorem vx_runF {x y : MethodName} {bytes cc : ByteArray} {maxL nL mc ms n index count : Nat} {ret : Option FieldType} {ws : List Cond} {rm : Room} {Pc : Array Value → State → Prop} {Qc : Array Value → State → Outcome → State → Prop} {XC : String → State → State → Prop} {free : Addr → Prop} {Ts : List Cond} {own C : String} {cC : ClassId} {b : Addr} {As rest : List Value} {g : JFrame}
    (hat : ClassAt s C cC) (S : CallFix p m c cc nL s args Ts own) (hM : vx_Met l y ws rm Pc Qc XC mc ms free) (cw : va_CI R s args own C index x y bytes maxL ret ws rm mc ms n) (hp : PreV s H C b Pc As)
    (hg : g.method = m) (hn : As.length = n) (hsize : g.locals.size = nL) (hstack : g.stack = As.reverse ++ .ref b :: rest) (hW : 2 * g.monitorRoom + (rest.map fun v => v.category).sum ≤ 8) (hdg : decode cc g.pc = .ok (.invokeinterface index count, 5)) (hf : cells + mc ≤ R.cells ∧ slots + ms ≤ R.slots) :
    vx_Run5 p l e R s m args below meth c H locs cells slots mc ms g rest (Qc (Value.ref b :: As).toArray) XC free := by
  obtain ⟨hrc, hrs, hfr, hlo, hws, hcw⟩ := cw.back
  have hini := cw.init
  have hK : vx_Back l R p e below s args y 5 8 (PreOf R mc ms Pc) (PostOf Qc mc ms free) (vx_Post XC mc ms free) := vx_back (bytes := bytes) (maxL := maxL) (ret := ret) hM hp.1 hrc hrs hfr hlo hws hcw (fun a' U hW => word_at hW (Or.inl (by first | rfl | simp [Cond.onTables, Cond.keeps, Cond.steady])) hini)
  obtain ⟨hx, hb, hml, ho, -⟩ := S
  obtain ⟨-, ⟨cellB, hcB, hoB, hclB⟩, hPc⟩ := hp
  obtain ⟨hfc, kB, hkB, -⟩ := hat
  cases hfc.symm.trans hclB
  intro T hT X
  rcases vx_callIF X hx (C := C) (bytes := bytes) (maxL := maxL) (ret := ret) ho cw.link cw.decl cw.face cw.sel cw.inst cw.pub cw.unh cw.cast cw.code cw.notMH hK (by rw [hT]; exact hcB) hoB hclB hkB hg (hsize.trans hml.symm) (argsL := As) (rest := rest) (fun sig h => hn.trans (cw.len sig h)) hstack hW (by rw [hb]; exact hdg)
    (fun vm₁ hW₁ => ⟨hf.1, hf.2, hPc (T.setVm vm₁) hT hW₁⟩) with ⟨v, vm₁, ⟨U', l2, c2, s2⟩, hW₁, X', ⟨g', mk, t, L, e1, e2, hq, h1, hL, h2, h3⟩, st⟩ | ⟨q, vm₁, ⟨U', l2, c2, s2⟩, hW₁, X', ⟨g', mk, t, L, E, ce, e1, e2, hq, hce, hcv, hcl, h1, hL, h2, h3⟩, st⟩
  · dsimp only [Pt.U, Pt.locs, Pt.cells, Pt.slots] at X' e1 e2 h1 h2 h3 st
    subst h1; subst h2; subst h3
    exact Or.inl ⟨v, (T.setVm vm₁).calling g' mk (Value.ref b :: As).toArray, t, U', L, hT, X', hL, e1, e2, hq, st⟩
  · dsimp only [Pt.U, Pt.locs, Pt.cells, Pt.slots] at X' e1 e2 h1 h2 h3 st hcl
    subst h1; subst h2; subst h3
    exact Or.inr ⟨q, (T.setVm vm₁).calling g' mk (Value.ref b :: As).toArray, t, U', L, E, ce, hT, X', hL, e1, e2, hq, hce, hcv, vx_cls hW₁ hcl, st⟩
theorem vx_callFv {S SX : Type} {post : S → Prop} {px : SX → Prop} {B : S → State → Prop} {BX : String → SX → State → Prop} {AX : Nat → Prop} (hr : vx_Run5 p l e R s m args below meth c H locs cells slots mc ms (F0 m pc ls st0) rest (va_Qv post B A1 a) (vx_X px BX AX) free) (hS : va_S A0 H0 H locs) (hA : ∀ q, q < H.size → A1 q → A0 q) (hf : ∀ q, free q → A0 q) (hAX : ∀ q, q < H.size → AX q → A0 q)
    (kx : ∀ (E : String) (ce : Cell) (q9 : Addr) (u : SX) (t : State) (H1 : Heap) (locs1 : List Loc), t.heap = H1 → s.vm.Alike t.vm → px u → BX E u t → H.size ≤ H1.size → (∀ q : Nat, q < H.size → ¬ AX q → H1[q]? = H[q]?) → va_S A0 H0 H1 locs1 → H1[q9]? = some ce → ce.vm = .none → s.vm.findClass E = some ce.cls → vx_W p l e R s m args below meth c H1 locs1 (cells + mc) (slots + ms) Q (F0 m pc ls rest) q9)
    (kk : ∀ (u : S) (t : State) (H1 : Heap) (locs1 : List Loc), t.heap = H1 → s.vm.Alike t.vm → post u → B u t → H.size ≤ H1.size → (∀ q : Nat, q < H.size → ¬ A1 q → H1[q]? = H[q]?) → va_S A0 H0 H1 locs1 → W p l e R s m args below meth c H1 locs1 (cells + mc) (slots + ms) Q (F0 m (pc + 5) ls (rest))) : W p l e R s m args below meth c H locs cells slots Q (F0 m pc ls st0) := by
  intro T hT X
  rcases hr T hT X with ⟨v, st₀, t, T', L, h0, X', hL, e1, e2, ⟨⟨u, hv, hp, hb⟩, hF⟩, st⟩ | ⟨q, st₀, t, T', L, E, ce, h0, X', hL, e1, e2, ⟨u, hp, hb, hF⟩, hce, hcv, hcl, st⟩
  · cases hv
    obtain ⟨k1, k2, k3⟩ := vx_keep h0 e1 hS hA hf hL hF
    obtain ⟨t2, a1, b1⟩ := kk u t T'.heap (locs ++ L) e1.symm (by rw [← e2]; exact X'.warmed.alike) hp hb k1 k2 k3 T' rfl X'
    exact ⟨t2, st t2 a1, b1⟩
  · obtain ⟨k1, k2, k3⟩ := vx_keep h0 e1 hS hAX hf hL hF
    obtain ⟨t2, a1, b1⟩ := kx E ce q u t T'.heap (locs ++ L) e1.symm (by rw [← e2]; exact X'.warmed.alike) hp hb k1 k2 k3 (by rw [e1]; exact hce) hcv hcl T' rfl X'
    exact ⟨t2, st.trans a1, b1⟩
theorem vx_callFi {S SX : Type} {post : Int32 → S → Prop} {px : SX → Prop} {B : S → State → Prop} {BX : String → SX → State → Prop} {AX : Nat → Prop} (hr : vx_Run5 p l e R s m args below meth c H locs cells slots mc ms (F0 m pc ls st0) rest (va_Qi post B A1 a) (vx_X px BX AX) free) (hS : va_S A0 H0 H locs) (hA : ∀ q, q < H.size → A1 q → A0 q) (hf : ∀ q, free q → A0 q) (hAX : ∀ q, q < H.size → AX q → A0 q)
    (kx : ∀ (E : String) (ce : Cell) (q9 : Addr) (u : SX) (t : State) (H1 : Heap) (locs1 : List Loc), t.heap = H1 → s.vm.Alike t.vm → px u → BX E u t → H.size ≤ H1.size → (∀ q : Nat, q < H.size → ¬ AX q → H1[q]? = H[q]?) → va_S A0 H0 H1 locs1 → H1[q9]? = some ce → ce.vm = .none → s.vm.findClass E = some ce.cls → vx_W p l e R s m args below meth c H1 locs1 (cells + mc) (slots + ms) Q (F0 m pc ls rest) q9)
    (kk : ∀ (r : Int32) (u : S) (t : State) (H1 : Heap) (locs1 : List Loc), t.heap = H1 → s.vm.Alike t.vm → post r u → B u t → H.size ≤ H1.size → (∀ q : Nat, q < H.size → ¬ A1 q → H1[q]? = H[q]?) → va_S A0 H0 H1 locs1 → W p l e R s m args below meth c H1 locs1 (cells + mc) (slots + ms) Q (F0 m (pc + 5) ls (.int r :: rest))) : W p l e R s m args below meth c H locs cells slots Q (F0 m pc ls st0) := by
  intro T hT X
  rcases hr T hT X with ⟨v, st₀, t, T', L, h0, X', hL, e1, e2, ⟨⟨r, u, hv, hp, hb⟩, hF⟩, st⟩ | ⟨q, st₀, t, T', L, E, ce, h0, X', hL, e1, e2, ⟨u, hp, hb, hF⟩, hce, hcv, hcl, st⟩
  · cases hv
    obtain ⟨k1, k2, k3⟩ := vx_keep h0 e1 hS hA hf hL hF
    obtain ⟨t2, a1, b1⟩ := kk r u t T'.heap (locs ++ L) e1.symm (by rw [← e2]; exact X'.warmed.alike) hp hb k1 k2 k3 T' rfl X'
    exact ⟨t2, st t2 a1, b1⟩
  · obtain ⟨k1, k2, k3⟩ := vx_keep h0 e1 hS hAX hf hL hF
    obtain ⟨t2, a1, b1⟩ := kx E ce q u t T'.heap (locs ++ L) e1.symm (by rw [← e2]; exact X'.warmed.alike) hp hb k1 k2 k3 (by rw [e1]; exact hce) hcv hcl T' rfl X'
    exact ⟨t2, st.trans a1, b1⟩
theorem vx_callFl {S SX : Type} {post : Int64 → S → Prop} {px : SX → Prop} {B : S → State → Prop} {BX : String → SX → State → Prop} {AX : Nat → Prop} (hr : vx_Run5 p l e R s m args below meth c H locs cells slots mc ms (F0 m pc ls st0) rest (va_Ql post B A1 a) (vx_X px BX AX) free) (hS : va_S A0 H0 H locs) (hA : ∀ q, q < H.size → A1 q → A0 q) (hf : ∀ q, free q → A0 q) (hAX : ∀ q, q < H.size → AX q → A0 q)
    (kx : ∀ (E : String) (ce : Cell) (q9 : Addr) (u : SX) (t : State) (H1 : Heap) (locs1 : List Loc), t.heap = H1 → s.vm.Alike t.vm → px u → BX E u t → H.size ≤ H1.size → (∀ q : Nat, q < H.size → ¬ AX q → H1[q]? = H[q]?) → va_S A0 H0 H1 locs1 → H1[q9]? = some ce → ce.vm = .none → s.vm.findClass E = some ce.cls → vx_W p l e R s m args below meth c H1 locs1 (cells + mc) (slots + ms) Q (F0 m pc ls rest) q9)
    (kk : ∀ (r : Int64) (u : S) (t : State) (H1 : Heap) (locs1 : List Loc), t.heap = H1 → s.vm.Alike t.vm → post r u → B u t → H.size ≤ H1.size → (∀ q : Nat, q < H.size → ¬ A1 q → H1[q]? = H[q]?) → va_S A0 H0 H1 locs1 → W p l e R s m args below meth c H1 locs1 (cells + mc) (slots + ms) Q (F0 m (pc + 5) ls (.long r :: rest))) : W p l e R s m args below meth c H locs cells slots Q (F0 m pc ls st0) := by
  intro T hT X
  rcases hr T hT X with ⟨v, st₀, t, T', L, h0, X', hL, e1, e2, ⟨⟨r, u, hv, hp, hb⟩, hF⟩, st⟩ | ⟨q, st₀, t, T', L, E, ce, h0, X', hL, e1, e2, ⟨u, hp, hb, hF⟩, hce, hcv, hcl, st⟩
  · cases hv
    obtain ⟨k1, k2, k3⟩ := vx_keep h0 e1 hS hA hf hL hF
    obtain ⟨t2, a1, b1⟩ := kk r u t T'.heap (locs ++ L) e1.symm (by rw [← e2]; exact X'.warmed.alike) hp hb k1 k2 k3 T' rfl X'
    exact ⟨t2, st t2 a1, b1⟩
  · obtain ⟨k1, k2, k3⟩ := vx_keep h0 e1 hS hAX hf hL hF
    obtain ⟨t2, a1, b1⟩ := kx E ce q u t T'.heap (locs ++ L) e1.symm (by rw [← e2]; exact X'.warmed.alike) hp hb k1 k2 k3 (by rw [e1]; exact hce) hcv hcl T' rfl X'
    exact ⟨t2, st.trans a1, b1⟩
theorem vx_callFf {S SX : Type} {post : UInt32 → S → Prop} {px : SX → Prop} {B : S → State → Prop} {BX : String → SX → State → Prop} {AX : Nat → Prop} (hr : vx_Run5 p l e R s m args below meth c H locs cells slots mc ms (F0 m pc ls st0) rest (va_Qf post B A1 a) (vx_X px BX AX) free) (hS : va_S A0 H0 H locs) (hA : ∀ q, q < H.size → A1 q → A0 q) (hf : ∀ q, free q → A0 q) (hAX : ∀ q, q < H.size → AX q → A0 q)
    (kx : ∀ (E : String) (ce : Cell) (q9 : Addr) (u : SX) (t : State) (H1 : Heap) (locs1 : List Loc), t.heap = H1 → s.vm.Alike t.vm → px u → BX E u t → H.size ≤ H1.size → (∀ q : Nat, q < H.size → ¬ AX q → H1[q]? = H[q]?) → va_S A0 H0 H1 locs1 → H1[q9]? = some ce → ce.vm = .none → s.vm.findClass E = some ce.cls → vx_W p l e R s m args below meth c H1 locs1 (cells + mc) (slots + ms) Q (F0 m pc ls rest) q9)
    (kk : ∀ (r : UInt32) (u : S) (t : State) (H1 : Heap) (locs1 : List Loc), t.heap = H1 → s.vm.Alike t.vm → post r u → B u t → H.size ≤ H1.size → (∀ q : Nat, q < H.size → ¬ A1 q → H1[q]? = H[q]?) → va_S A0 H0 H1 locs1 → W p l e R s m args below meth c H1 locs1 (cells + mc) (slots + ms) Q (F0 m (pc + 5) ls (.float r :: rest))) : W p l e R s m args below meth c H locs cells slots Q (F0 m pc ls st0) := by
  intro T hT X
  rcases hr T hT X with ⟨v, st₀, t, T', L, h0, X', hL, e1, e2, ⟨⟨r, u, hv, hp, hb⟩, hF⟩, st⟩ | ⟨q, st₀, t, T', L, E, ce, h0, X', hL, e1, e2, ⟨u, hp, hb, hF⟩, hce, hcv, hcl, st⟩
  · cases hv
    obtain ⟨k1, k2, k3⟩ := vx_keep h0 e1 hS hA hf hL hF
    obtain ⟨t2, a1, b1⟩ := kk r u t T'.heap (locs ++ L) e1.symm (by rw [← e2]; exact X'.warmed.alike) hp hb k1 k2 k3 T' rfl X'
    exact ⟨t2, st t2 a1, b1⟩
  · obtain ⟨k1, k2, k3⟩ := vx_keep h0 e1 hS hAX hf hL hF
    obtain ⟨t2, a1, b1⟩ := kx E ce q u t T'.heap (locs ++ L) e1.symm (by rw [← e2]; exact X'.warmed.alike) hp hb k1 k2 k3 (by rw [e1]; exact hce) hcv hcl T' rfl X'
    exact ⟨t2, st.trans a1, b1⟩
theorem vx_callFd {S SX : Type} {post : UInt64 → S → Prop} {px : SX → Prop} {B : S → State → Prop} {BX : String → SX → State → Prop} {AX : Nat → Prop} (hr : vx_Run5 p l e R s m args below meth c H locs cells slots mc ms (F0 m pc ls st0) rest (va_Qd post B A1 a) (vx_X px BX AX) free) (hS : va_S A0 H0 H locs) (hA : ∀ q, q < H.size → A1 q → A0 q) (hf : ∀ q, free q → A0 q) (hAX : ∀ q, q < H.size → AX q → A0 q)
    (kx : ∀ (E : String) (ce : Cell) (q9 : Addr) (u : SX) (t : State) (H1 : Heap) (locs1 : List Loc), t.heap = H1 → s.vm.Alike t.vm → px u → BX E u t → H.size ≤ H1.size → (∀ q : Nat, q < H.size → ¬ AX q → H1[q]? = H[q]?) → va_S A0 H0 H1 locs1 → H1[q9]? = some ce → ce.vm = .none → s.vm.findClass E = some ce.cls → vx_W p l e R s m args below meth c H1 locs1 (cells + mc) (slots + ms) Q (F0 m pc ls rest) q9)
    (kk : ∀ (r : UInt64) (u : S) (t : State) (H1 : Heap) (locs1 : List Loc), t.heap = H1 → s.vm.Alike t.vm → post r u → B u t → H.size ≤ H1.size → (∀ q : Nat, q < H.size → ¬ A1 q → H1[q]? = H[q]?) → va_S A0 H0 H1 locs1 → W p l e R s m args below meth c H1 locs1 (cells + mc) (slots + ms) Q (F0 m (pc + 5) ls (.double r :: rest))) : W p l e R s m args below meth c H locs cells slots Q (F0 m pc ls st0) := by
  intro T hT X
  rcases hr T hT X with ⟨v, st₀, t, T', L, h0, X', hL, e1, e2, ⟨⟨r, u, hv, hp, hb⟩, hF⟩, st⟩ | ⟨q, st₀, t, T', L, E, ce, h0, X', hL, e1, e2, ⟨u, hp, hb, hF⟩, hce, hcv, hcl, st⟩
  · cases hv
    obtain ⟨k1, k2, k3⟩ := vx_keep h0 e1 hS hA hf hL hF
    obtain ⟨t2, a1, b1⟩ := kk r u t T'.heap (locs ++ L) e1.symm (by rw [← e2]; exact X'.warmed.alike) hp hb k1 k2 k3 T' rfl X'
    exact ⟨t2, st t2 a1, b1⟩
  · obtain ⟨k1, k2, k3⟩ := vx_keep h0 e1 hS hAX hf hL hF
    obtain ⟨t2, a1, b1⟩ := kx E ce q u t T'.heap (locs ++ L) e1.symm (by rw [← e2]; exact X'.warmed.alike) hp hb k1 k2 k3 (by rw [e1]; exact hce) hcv hcl T' rfl X'
    exact ⟨t2, st.trans a1, b1⟩
end
/-! ===== END ===== -/
/-! ===== BEGIN by an interface, a method with a table of its own that may throw (follows va_callIFW, va_runFW) ===== -/
section
variable {p : Program} {l : Launch} {e : Env} {R : Room} {s : State} {m : MethodId} {args : Array Value} {below : List Frame} {meth : Method} {c : Code} {H : Heap} {locs : List Loc} {cells slots : Nat}
theorem vx_callIFW {T : State} (X : Stand p l e R s m args below meth c T locs cells slots) (hexec : p.tables.exec = Jvm.exec) {own C : String} {index count : Nat} {x y : MethodName} {bytes : ByteArray} {maxL : Nat} {ret : Option FieldType} {hh : List (Nat × Nat × Nat × Nat)}
    (hown : s.vm.findClass own = some m.cls) (hlink : (Cond.methodLink own index x).before args s = true) (hdecl : (Cond.declares x).before args s = true) (hface : (Cond.interfaceMethod x.cls x.cls x.name x.desc).before args s = true)
    (hsel : (Cond.selects C x y).before args s = true) (hinst : (Cond.instanceMethod y).before args s = true) (hpub : (Cond.publicMethod y).before args s = true) (hunh : (Cond.unhidden C x.name x.desc).before args s = true)
    (hcast : (Cond.castable C x.cls).before args s = true) (hcode : (Cond.codeWith y bytes maxL ret hh).before args s = true) (hx : x.cls ≠ "java/lang/invoke/MethodHandle" ∧ x.cls ≠ "java/lang/invoke/VarHandle")
    {W : Nat} {Pre : Pt → Array Value → Prop} {Post : Pt → Array Value → Option Value → Pt → Prop} {PostX : Pt → Array Value → Addr → Pt → Prop} (hK : vx_Back l R p e below s args y 5 W Pre Post PostX)
    {b : Addr} {cellB : Cell} {kB : Class} (hcell : T.heap[b]? = some cellB) (hobj : cellB.vm.isStatics = false) (hcls : s.vm.findClass C = some cellB.cls) (hkB : s.vm.classes[cellB.cls]? = some kB)
    {g : JFrame} (hg : g.method = m) (hsize : g.locals.size = c.maxLocals) {argsL rest : List Value} (hlen : ∀ sig, parseMethodDescriptor x.desc = some sig → argsL.length = sig.parameters.length)
    (hstack : g.stack = argsL.reverse ++ .ref b :: rest) (hW : 2 * g.monitorRoom + (rest.map fun v => v.category).sum ≤ W) (hdg : decode c.code g.pc = .ok (.invokeinterface index count, 5))
    (hpre : ∀ vm₁, s.WarmedH vm₁ → Pre ⟨T.setVm vm₁, locs, cells, slots⟩ (Value.ref b :: argsL).toArray) :
    (∃ (v : Option Value) (vm₁ : Vm) (B : Pt), s.WarmedH vm₁ ∧ Stand p l e R s m args below meth c B.U B.locs B.cells B.slots ∧ Post ⟨T.setVm vm₁, locs, cells, slots⟩ (Value.ref b :: argsL).toArray v B ∧
      ∀ target, Steps p.tables e below (B.U.setTop { g with pc := g.pc + 5, stack := v.toList ++ rest }) target → Steps p.tables e below (T.setTop g) target) ∨
    (∃ (q : Addr) (vm₁ : Vm) (B : Pt), s.WarmedH vm₁ ∧ Stand p l e R s m args below meth c B.U B.locs B.cells B.slots ∧ PostX ⟨T.setVm vm₁, locs, cells, slots⟩ (Value.ref b :: argsL).toArray q B ∧
      Steps p.tables e below (T.setTop g) ((B.U.setTop { g with stack := rest }).pushFrame (.throwing q))) := by
  obtain ⟨r0, r, hn, hrm, hstR, hsigR⟩ := Cond.declares_spec hdecl
  obtain ⟨cL, kL, r1, hcL, hkL, hiL, hfoundL, hn1⟩ := Cond.interfaceMethod_spec hface
  cases hn.symm.trans hn1
  have hr0cls : r0.cls = cL := Option.some.inj ((findClass_of_methodNamed hn).symm.trans hcL)
  obtain ⟨hnameR, hdescR⟩ := name_of_methodNamed hn hrm
  obtain ⟨mk, methM, hnamed, hmethM, -, habM⟩ := Cond.instanceMethod_spec hinst
  obtain ⟨c2, r2, m2, q1, q2, q3, q4, -⟩ := Cond.selects_spec hsel
  cases hcls.symm.trans q1
  cases hfoundL.symm.trans q2
  cases hnamed.symm.trans q3
  have hselP : selectMethod e.platform s.vm cellB.cls r0 = .method mk := by rw [Launch.admits_selectMethod X.admits]; exact q4
  have hpubM : hasFlag methM.accessFlags Acc.public_ = true := Cond.publicMethod_spec hnamed hmethM hpub
  have hway : ((cellB.cls :: s.vm.superclasses cellB.cls).any fun k => (declaredIn s.vm r.name r.desc k).any fun (_, z) => z.isPrivate || z.isStatic) = false := by
    rw [hnameR, hdescR]; exact Cond.unhidden_spec hcls hunh
  obtain ⟨c3, t3, w1, w2, w3⟩ := Cond.castable_spec hcast
  cases hcls.symm.trans w1
  cases hcL.symm.trans w2
  obtain ⟨vm₁, X₁, hstep₁⟩ := X.invokeinterface hexec hown hlink hn hrm hstR (by rw [hr0cls]; exact hkL) hiL hx (a := b) (cell := cellB) (kcell := kB) hcell
    (fun z h => by rw [h] at hobj; cases hobj) hkB (by rw [hr0cls]; exact w3) hselP hmethM hway hpubM habM (g := g) hg (argsL := argsL) (rest := rest) (hlen _ hsigR) hstack hdg
  rcases hK m meth c ⟨T.setVm vm₁, locs, cells, slots⟩ { g with stack := rest } (.invokeinterface index count) mk (Value.ref b :: argsL).toArray X₁ hg hsize hdg hW (X₁.named hnamed) (hpre vm₁ X₁.warmed) with ⟨v, B, X', hpost, hsteps⟩ | ⟨q, B, X', hpost, hsteps⟩
  · exact Or.inl ⟨v, vm₁, B, X₁.warmed, X', hpost, fun target h => hstep₁ _ fun acts => by rw [doInvoke_state]; exact hsteps.trans h⟩
  · exact Or.inr ⟨q, vm₁, B, X₁.warmed, X', hpost, hstep₁ _ fun acts => by rw [doInvoke_state]; exact hsteps⟩
theorem vx_runFW {x y : MethodName} {bytes cc : ByteArray} {maxL nL mc ms n index count : Nat} {ret : Option FieldType} {hh : List (Nat × Nat × Nat × Nat)} {ws : List Cond} {rm : Room} {Pc : Array Value → State → Prop} {Qc : Array Value → State → Outcome → State → Prop} {XC : String → State → State → Prop} {free : Addr → Prop} {Ts : List Cond} {own C : String} {cC : ClassId} {b : Addr} {As rest : List Value} {g : JFrame}
    (hat : ClassAt s C cC) (S : CallFix p m c cc nL s args Ts own) (hM : vx_Met l y ws rm Pc Qc XC mc ms free) (cw : va_CIW R s args own C index x y bytes maxL ret hh ws rm mc ms n) (hp : PreV s H C b Pc As)
    (hg : g.method = m) (hn : As.length = n) (hsize : g.locals.size = nL) (hstack : g.stack = As.reverse ++ .ref b :: rest) (hW : 2 * g.monitorRoom + (rest.map fun v => v.category).sum ≤ 8) (hdg : decode cc g.pc = .ok (.invokeinterface index count, 5)) (hf : cells + mc ≤ R.cells ∧ slots + ms ≤ R.slots) :
    vx_Run5 p l e R s m args below meth c H locs cells slots mc ms g rest (Qc (Value.ref b :: As).toArray) XC free := by
  obtain ⟨hrc, hrs, hfr, hlo, hws, hcw⟩ := cw.back
  have hini := cw.init
  have hK : vx_Back l R p e below s args y 5 8 (PreOf R mc ms Pc) (PostOf Qc mc ms free) (vx_Post XC mc ms free) := vx_backW (hh := hh) (bytes := bytes) (maxL := maxL) (ret := ret) hM hp.1 hrc hrs hfr hlo hws hcw (fun a' U hW => word_at hW (Or.inl (by first | rfl | simp [Cond.onTables, Cond.keeps, Cond.steady])) hini)
  obtain ⟨hx, hb, hml, ho, -⟩ := S
  obtain ⟨-, ⟨cellB, hcB, hoB, hclB⟩, hPc⟩ := hp
  obtain ⟨hfc, kB, hkB, -⟩ := hat
  cases hfc.symm.trans hclB
  intro T hT X
  rcases vx_callIFW X hx (C := C) (hh := hh) (bytes := bytes) (maxL := maxL) (ret := ret) ho cw.link cw.decl cw.face cw.sel cw.inst cw.pub cw.unh cw.cast cw.code cw.notMH hK (by rw [hT]; exact hcB) hoB hclB hkB hg (hsize.trans hml.symm) (argsL := As) (rest := rest) (fun sig h => hn.trans (cw.len sig h)) hstack hW (by rw [hb]; exact hdg)
    (fun vm₁ hW₁ => ⟨hf.1, hf.2, hPc (T.setVm vm₁) hT hW₁⟩) with ⟨v, vm₁, ⟨U', l2, c2, s2⟩, hW₁, X', ⟨g', mk, t, L, e1, e2, hq, h1, hL, h2, h3⟩, st⟩ | ⟨q, vm₁, ⟨U', l2, c2, s2⟩, hW₁, X', ⟨g', mk, t, L, E, ce, e1, e2, hq, hce, hcv, hcl, h1, hL, h2, h3⟩, st⟩
  · dsimp only [Pt.U, Pt.locs, Pt.cells, Pt.slots] at X' e1 e2 h1 h2 h3 st
    subst h1; subst h2; subst h3
    exact Or.inl ⟨v, (T.setVm vm₁).calling g' mk (Value.ref b :: As).toArray, t, U', L, hT, X', hL, e1, e2, hq, st⟩
  · dsimp only [Pt.U, Pt.locs, Pt.cells, Pt.slots] at X' e1 e2 h1 h2 h3 st hcl
    subst h1; subst h2; subst h3
    exact Or.inr ⟨q, (T.setVm vm₁).calling g' mk (Value.ref b :: As).toArray, t, U', L, E, ce, hT, X', hL, e1, e2, hq, hce, hcv, vx_cls hW₁ hcl, st⟩
end
/-! ===== END ===== -/
/-! ===== BEGIN .. of methods that hand back an object of the pool ===== -/
section
variable {p : Program} {l : Launch} {e : Env} {R : Room} {s : State} {m : MethodId} {args : Array Value} {below : List Frame} {meth : Method} {c : Code} {H : Heap} {locs : List Loc} {cells slots : Nat} {Q : State → Prop}
variable {mc ms : Nat} {free : Addr → Prop} {A0 A1 : Nat → Prop} {H0 : Heap} {a : Array Value} {pc : Nat} {ls : Array Slot} {st0 rest : List Value}
theorem vx_callq {S SX : Type} {post : Option Nat → S → Prop} {px : SX → Prop} {B : S → State → Prop} {BX : String → SX → State → Prop} {AX : Nat → Prop} (hr : vx_Run p l e R s m args below meth c H locs cells slots mc ms (F0 m pc ls st0) rest (va_Qq post B A1 a) (vx_X px BX AX) free) (hS : va_S A0 H0 H locs) (hA : ∀ q, q < H.size → A1 q → A0 q) (hf : ∀ q, free q → A0 q) (hAX : ∀ q, q < H.size → AX q → A0 q)
    (kx : ∀ (E : String) (ce : Cell) (q9 : Addr) (u : SX) (t : State) (H1 : Heap) (locs1 : List Loc), t.heap = H1 → s.vm.Alike t.vm → px u → BX E u t → H.size ≤ H1.size → (∀ q : Nat, q < H.size → ¬ AX q → H1[q]? = H[q]?) → va_S A0 H0 H1 locs1 → H1[q9]? = some ce → ce.vm = .none → s.vm.findClass E = some ce.cls → vx_W p l e R s m args below meth c H1 locs1 (cells + mc) (slots + ms) Q (F0 m pc ls rest) q9)
    (kk : ∀ (r : Option Nat) (u : S) (t : State) (H1 : Heap) (locs1 : List Loc), t.heap = H1 → s.vm.Alike t.vm → post r u → B u t → H.size ≤ H1.size → (∀ q : Nat, q < H.size → ¬ A1 q → H1[q]? = H[q]?) → va_S A0 H0 H1 locs1 → W p l e R s m args below meth c H1 locs1 (cells + mc) (slots + ms) Q (F0 m (pc + 3) ls (va_rf r :: rest))) : W p l e R s m args below meth c H locs cells slots Q (F0 m pc ls st0) := by
  intro T hT X
  rcases hr T hT X with ⟨v, st₀, t, T', L, h0, X', hL, e1, e2, ⟨⟨r, u, hv, hp, hb⟩, hF⟩, st⟩ | ⟨q, st₀, t, T', L, E, ce, h0, X', hL, e1, e2, ⟨u, hp, hb, hF⟩, hce, hcv, hcl, st⟩
  · cases hv
    obtain ⟨k1, k2, k3⟩ := vx_keep h0 e1 hS hA hf hL hF
    obtain ⟨t2, a1, b1⟩ := kk r u t T'.heap (locs ++ L) e1.symm (by rw [← e2]; exact X'.warmed.alike) hp hb k1 k2 k3 T' rfl X'
    exact ⟨t2, st t2 a1, b1⟩
  · obtain ⟨k1, k2, k3⟩ := vx_keep h0 e1 hS hAX hf hL hF
    obtain ⟨t2, a1, b1⟩ := kx E ce q u t T'.heap (locs ++ L) e1.symm (by rw [← e2]; exact X'.warmed.alike) hp hb k1 k2 k3 (by rw [e1]; exact hce) hcv hcl T' rfl X'
    exact ⟨t2, st.trans a1, b1⟩
end
/-! ===== END ===== -/
/-! ===== BEGIN .. a constant ===== -/
section
variable {p : Program} {l : Launch} {e : Env} {R : Room} {s : State} {m : MethodId} {args : Array Value} {below : List Frame} {meth : Method} {c : Code} {H : Heap} {locs : List Loc} {cells slots : Nat} {Q : State → Prop}
variable {mc ms : Nat} {free : Addr → Prop} {A0 A1 : Nat → Prop} {H0 : Heap} {a : Array Value} {pc : Nat} {ls : Array Slot} {st0 rest : List Value}
theorem vx_calle {ad : Nat → Nat} {S SX : Type} {post : Option Nat → S → Prop} {px : SX → Prop} {B : S → State → Prop} {BX : String → SX → State → Prop} {AX : Nat → Prop} (hr : vx_Run p l e R s m args below meth c H locs cells slots mc ms (F0 m pc ls st0) rest (va_Qe ad post B A1 a) (vx_X px BX AX) free) (hS : va_S A0 H0 H locs) (hA : ∀ q, q < H.size → A1 q → A0 q) (hf : ∀ q, free q → A0 q) (hAX : ∀ q, q < H.size → AX q → A0 q)
    (kx : ∀ (E : String) (ce : Cell) (q9 : Addr) (u : SX) (t : State) (H1 : Heap) (locs1 : List Loc), t.heap = H1 → s.vm.Alike t.vm → px u → BX E u t → H.size ≤ H1.size → (∀ q : Nat, q < H.size → ¬ AX q → H1[q]? = H[q]?) → va_S A0 H0 H1 locs1 → H1[q9]? = some ce → ce.vm = .none → s.vm.findClass E = some ce.cls → vx_W p l e R s m args below meth c H1 locs1 (cells + mc) (slots + ms) Q (F0 m pc ls rest) q9)
    (kk : ∀ (r : Option Nat) (u : S) (t : State) (H1 : Heap) (locs1 : List Loc), t.heap = H1 → s.vm.Alike t.vm → post r u → B u t → H.size ≤ H1.size → (∀ q : Nat, q < H.size → ¬ A1 q → H1[q]? = H[q]?) → va_S A0 H0 H1 locs1 → W p l e R s m args below meth c H1 locs1 (cells + mc) (slots + ms) Q (F0 m (pc + 3) ls (va_re ad r :: rest))) : W p l e R s m args below meth c H locs cells slots Q (F0 m pc ls st0) := by
  intro T hT X
  rcases hr T hT X with ⟨v, st₀, t, T', L, h0, X', hL, e1, e2, ⟨⟨r, u, hv, hp, hb⟩, hF⟩, st⟩ | ⟨q, st₀, t, T', L, E, ce, h0, X', hL, e1, e2, ⟨u, hp, hb, hF⟩, hce, hcv, hcl, st⟩
  · cases hv
    obtain ⟨k1, k2, k3⟩ := vx_keep h0 e1 hS hA hf hL hF
    obtain ⟨t2, a1, b1⟩ := kk r u t T'.heap (locs ++ L) e1.symm (by rw [← e2]; exact X'.warmed.alike) hp hb k1 k2 k3 T' rfl X'
    exact ⟨t2, st t2 a1, b1⟩
  · obtain ⟨k1, k2, k3⟩ := vx_keep h0 e1 hS hAX hf hL hF
    obtain ⟨t2, a1, b1⟩ := kx E ce q u t T'.heap (locs ++ L) e1.symm (by rw [← e2]; exact X'.warmed.alike) hp hb k1 k2 k3 (by rw [e1]; exact hce) hcv hcl T' rfl X'
    exact ⟨t2, st.trans a1, b1⟩
end
/-! ===== END ===== -/
/-! ===== BEGIN .. by an interface, an object ===== -/
section
variable {p : Program} {l : Launch} {e : Env} {R : Room} {s : State} {m : MethodId} {args : Array Value} {below : List Frame} {meth : Method} {c : Code} {H : Heap} {locs : List Loc} {cells slots : Nat} {Q : State → Prop}
variable {mc ms : Nat} {free : Addr → Prop} {A0 A1 : Nat → Prop} {H0 : Heap} {a : Array Value} {pc : Nat} {ls : Array Slot} {st0 rest : List Value}
theorem vx_callFq {S SX : Type} {post : Option Nat → S → Prop} {px : SX → Prop} {B : S → State → Prop} {BX : String → SX → State → Prop} {AX : Nat → Prop} (hr : vx_Run5 p l e R s m args below meth c H locs cells slots mc ms (F0 m pc ls st0) rest (va_Qq post B A1 a) (vx_X px BX AX) free) (hS : va_S A0 H0 H locs) (hA : ∀ q, q < H.size → A1 q → A0 q) (hf : ∀ q, free q → A0 q) (hAX : ∀ q, q < H.size → AX q → A0 q)
    (kx : ∀ (E : String) (ce : Cell) (q9 : Addr) (u : SX) (t : State) (H1 : Heap) (locs1 : List Loc), t.heap = H1 → s.vm.Alike t.vm → px u → BX E u t → H.size ≤ H1.size → (∀ q : Nat, q < H.size → ¬ AX q → H1[q]? = H[q]?) → va_S A0 H0 H1 locs1 → H1[q9]? = some ce → ce.vm = .none → s.vm.findClass E = some ce.cls → vx_W p l e R s m args below meth c H1 locs1 (cells + mc) (slots + ms) Q (F0 m pc ls rest) q9)
    (kk : ∀ (r : Option Nat) (u : S) (t : State) (H1 : Heap) (locs1 : List Loc), t.heap = H1 → s.vm.Alike t.vm → post r u → B u t → H.size ≤ H1.size → (∀ q : Nat, q < H.size → ¬ A1 q → H1[q]? = H[q]?) → va_S A0 H0 H1 locs1 → W p l e R s m args below meth c H1 locs1 (cells + mc) (slots + ms) Q (F0 m (pc + 5) ls (va_rf r :: rest))) : W p l e R s m args below meth c H locs cells slots Q (F0 m pc ls st0) := by
  intro T hT X
  rcases hr T hT X with ⟨v, st₀, t, T', L, h0, X', hL, e1, e2, ⟨⟨r, u, hv, hp, hb⟩, hF⟩, st⟩ | ⟨q, st₀, t, T', L, E, ce, h0, X', hL, e1, e2, ⟨u, hp, hb, hF⟩, hce, hcv, hcl, st⟩
  · cases hv
    obtain ⟨k1, k2, k3⟩ := vx_keep h0 e1 hS hA hf hL hF
    obtain ⟨t2, a1, b1⟩ := kk r u t T'.heap (locs ++ L) e1.symm (by rw [← e2]; exact X'.warmed.alike) hp hb k1 k2 k3 T' rfl X'
    exact ⟨t2, st t2 a1, b1⟩
  · obtain ⟨k1, k2, k3⟩ := vx_keep h0 e1 hS hAX hf hL hF
    obtain ⟨t2, a1, b1⟩ := kx E ce q u t T'.heap (locs ++ L) e1.symm (by rw [← e2]; exact X'.warmed.alike) hp hb k1 k2 k3 (by rw [e1]; exact hce) hcv hcl T' rfl X'
    exact ⟨t2, st.trans a1, b1⟩
end
/-! ===== END ===== -/
/-! ===== BEGIN .. by an interface, a constant ===== -/
section
variable {p : Program} {l : Launch} {e : Env} {R : Room} {s : State} {m : MethodId} {args : Array Value} {below : List Frame} {meth : Method} {c : Code} {H : Heap} {locs : List Loc} {cells slots : Nat} {Q : State → Prop}
variable {mc ms : Nat} {free : Addr → Prop} {A0 A1 : Nat → Prop} {H0 : Heap} {a : Array Value} {pc : Nat} {ls : Array Slot} {st0 rest : List Value}
theorem vx_callFe {ad : Nat → Nat} {S SX : Type} {post : Option Nat → S → Prop} {px : SX → Prop} {B : S → State → Prop} {BX : String → SX → State → Prop} {AX : Nat → Prop} (hr : vx_Run5 p l e R s m args below meth c H locs cells slots mc ms (F0 m pc ls st0) rest (va_Qe ad post B A1 a) (vx_X px BX AX) free) (hS : va_S A0 H0 H locs) (hA : ∀ q, q < H.size → A1 q → A0 q) (hf : ∀ q, free q → A0 q) (hAX : ∀ q, q < H.size → AX q → A0 q)
    (kx : ∀ (E : String) (ce : Cell) (q9 : Addr) (u : SX) (t : State) (H1 : Heap) (locs1 : List Loc), t.heap = H1 → s.vm.Alike t.vm → px u → BX E u t → H.size ≤ H1.size → (∀ q : Nat, q < H.size → ¬ AX q → H1[q]? = H[q]?) → va_S A0 H0 H1 locs1 → H1[q9]? = some ce → ce.vm = .none → s.vm.findClass E = some ce.cls → vx_W p l e R s m args below meth c H1 locs1 (cells + mc) (slots + ms) Q (F0 m pc ls rest) q9)
    (kk : ∀ (r : Option Nat) (u : S) (t : State) (H1 : Heap) (locs1 : List Loc), t.heap = H1 → s.vm.Alike t.vm → post r u → B u t → H.size ≤ H1.size → (∀ q : Nat, q < H.size → ¬ A1 q → H1[q]? = H[q]?) → va_S A0 H0 H1 locs1 → W p l e R s m args below meth c H1 locs1 (cells + mc) (slots + ms) Q (F0 m (pc + 5) ls (va_re ad r :: rest))) : W p l e R s m args below meth c H locs cells slots Q (F0 m pc ls st0) := by
  intro T hT X
  rcases hr T hT X with ⟨v, st₀, t, T', L, h0, X', hL, e1, e2, ⟨⟨r, u, hv, hp, hb⟩, hF⟩, st⟩ | ⟨q, st₀, t, T', L, E, ce, h0, X', hL, e1, e2, ⟨u, hp, hb, hF⟩, hce, hcv, hcl, st⟩
  · cases hv
    obtain ⟨k1, k2, k3⟩ := vx_keep h0 e1 hS hA hf hL hF
    obtain ⟨t2, a1, b1⟩ := kk r u t T'.heap (locs ++ L) e1.symm (by rw [← e2]; exact X'.warmed.alike) hp hb k1 k2 k3 T' rfl X'
    exact ⟨t2, st t2 a1, b1⟩
  · obtain ⟨k1, k2, k3⟩ := vx_keep h0 e1 hS hAX hf hL hF
    obtain ⟨t2, a1, b1⟩ := kx E ce q u t T'.heap (locs ++ L) e1.symm (by rw [← e2]; exact X'.warmed.alike) hp hb k1 k2 k3 (by rw [e1]; exact hce) hcv hcl T' rfl X'
    exact ⟨t2, st.trans a1, b1⟩
end
/-! ===== END ===== -/
/-! ===== BEGIN what the machine throws by itself: null at a field, at athrow ===== -/
section VXM2
variable {p : Program} {l : Launch} {e : Env} {R : Room} {s : State} {m : MethodId} {args : Array Value} {below : List Frame} {meth : Method} {c : Code} {H : Heap} {locs : List Loc} {cells slots : Nat}
variable {Q : State → Prop} {cc : ByteArray} {pc : Nat} {ls : Array Slot} {rest : List Value}
theorem vx_getfN {D cl tys} {own ref C : String} {T : u_T} {N ci index : Nat} {Ts : List Cond} (hexec : p.tables.exec = Jvm.exec) (hb : c.code = cc) (hts : ∀ w ∈ Ts, w.before args s = true) (hin : ∀ w ∈ u_ws C T N, w ∈ Ts) (hown : s.vm.findClass own = some m.cls) (hK : va_K D cl tys s) (hc : cl[ci]? = some (C, T, N)) (k : Nat) (hk : k < N) (hlink : (Cond.fieldLink own index ref (T k).2.1 (T k).2.2.1).before args s = true) (hsame : ∀ x, s.fieldFound? (T k).1 (T k).2.1 (T k).2.2.1 = some x → s.fieldFound? ref (T k).2.1 (T k).2.2.1 = some x) (hdg : decode cc pc = .ok (.getfield index, 3)) (kk : vx_NoteN p l e R s m args below meth c H locs cells slots Q (F0 m pc ls rest)) : W p l e R s m args below meth c H locs cells slots Q (F0 m pc ls (.null :: rest)) := by
  obtain ⟨hS, hfc, kC, hkC, -⟩ := hK.1 ci _ hc
  obtain ⟨cf, kf, fi, f, hi, -⟩ := hS k hk
  intro U hU X
  obtain ⟨vm', X1, st1⟩ := X.getfieldNull hexec hown hlink (hsame _ hi) (u_facts hfc hkC (u_lays hts hin hk) hi).1 (g := F0 m pc ls (.null :: rest)) rfl (rest := rest) rfl (by rw [hb]; exact hdg)
  obtain ⟨t, st, q⟩ := kk (U.setVm vm') hU X1
  exact ⟨t, st1 t st, q⟩
theorem vx_getfNN {D cl tys} {own ref C host : String} {T : u_T} {N ci index : Nat} {Ts : List Cond} (hexec : p.tables.exec = Jvm.exec) (hb : c.code = cc) (hts : ∀ w ∈ Ts, w.before args s = true) (hin : ∀ w ∈ u_ws C T N, w ∈ Ts) (hown : s.vm.findClass own = some m.cls) (hK : va_K D cl tys s) (hc : cl[ci]? = some (C, T, N)) (k : Nat) (hk : k < N) (hlink : (Cond.fieldLinkNest own index ref (T k).2.1 (T k).2.2.1 host).before args s = true) (hsame : ∀ x, s.fieldFound? (T k).1 (T k).2.1 (T k).2.2.1 = some x → s.fieldFound? ref (T k).2.1 (T k).2.2.1 = some x) (hdg : decode cc pc = .ok (.getfield index, 3)) (kk : vx_NoteN p l e R s m args below meth c H locs cells slots Q (F0 m pc ls rest)) : W p l e R s m args below meth c H locs cells slots Q (F0 m pc ls (.null :: rest)) := by
  obtain ⟨hS, hfc, kC, hkC, -⟩ := hK.1 ci _ hc
  obtain ⟨cf, kf, fi, f, hi, -⟩ := hS k hk
  intro U hU X
  obtain ⟨vm', X1, st1⟩ := X.getfieldNullNest hexec hown hlink (hsame _ hi) (u_facts hfc hkC (u_lays hts hin hk) hi).1 (g := F0 m pc ls (.null :: rest)) rfl (rest := rest) rfl (by rw [hb]; exact hdg)
  obtain ⟨t, st, q⟩ := kk (U.setVm vm') hU X1
  exact ⟨t, st1 t st, q⟩
theorem vx_putfN {D cl tys} {own ref C : String} {T : u_T} {N ci index : Nat} {Ts : List Cond} (hexec : p.tables.exec = Jvm.exec) (hb : c.code = cc) (hts : ∀ w ∈ Ts, w.before args s = true) (hin : ∀ w ∈ u_ws C T N, w ∈ Ts) (hown : s.vm.findClass own = some m.cls) (hK : va_K D cl tys s) (hc : cl[ci]? = some (C, T, N)) (k : Nat) (hk : k < N) (hlink : (Cond.fieldLink own index ref (T k).2.1 (T k).2.2.1).before args s = true) (hsame : ∀ x, s.fieldFound? (T k).1 (T k).2.1 (T k).2.2.1 = some x → s.fieldFound? ref (T k).2.1 (T k).2.2.1 = some x) (hfin : (T k).2.2.2 = false) {v : Value} (hdg : decode cc pc = .ok (.putfield index, 3)) (kk : vx_NoteN p l e R s m args below meth c H locs cells slots Q (F0 m pc ls rest)) : W p l e R s m args below meth c H locs cells slots Q (F0 m pc ls (v :: .null :: rest)) := by
  obtain ⟨hS, hfc, kC, hkC, -⟩ := hK.1 ci _ hc
  obtain ⟨cf, kf, fi, f, hi, -⟩ := hS k hk
  have hlay := hts _ (hin _ (u_in_lay hk))
  unfold u_lay at hlay
  rw [if_neg (by rw [hfin]; decide)] at hlay
  obtain ⟨c9, k9, cf9, kf9, fi9, f9, -, -, hi9, hst9, hnf9, -⟩ := Cond.lays_spec hlay
  cases hi.symm.trans hi9
  intro U hU X
  obtain ⟨vm', X1, st1⟩ := X.putfieldNull hexec hown hlink (hsame _ hi) hst9 hnf9 (g := F0 m pc ls (v :: .null :: rest)) rfl (v := v) (rest := rest) rfl (by rw [hb]; exact hdg)
  obtain ⟨t, st, q⟩ := kk (U.setVm vm') hU X1
  exact ⟨t, st1 t st, q⟩
theorem vx_putfNN {D cl tys} {own ref C host : String} {T : u_T} {N ci index : Nat} {Ts : List Cond} (hexec : p.tables.exec = Jvm.exec) (hb : c.code = cc) (hts : ∀ w ∈ Ts, w.before args s = true) (hin : ∀ w ∈ u_ws C T N, w ∈ Ts) (hown : s.vm.findClass own = some m.cls) (hK : va_K D cl tys s) (hc : cl[ci]? = some (C, T, N)) (k : Nat) (hk : k < N) (hlink : (Cond.fieldLinkNest own index ref (T k).2.1 (T k).2.2.1 host).before args s = true) (hsame : ∀ x, s.fieldFound? (T k).1 (T k).2.1 (T k).2.2.1 = some x → s.fieldFound? ref (T k).2.1 (T k).2.2.1 = some x) (hfin : (T k).2.2.2 = false) {v : Value} (hdg : decode cc pc = .ok (.putfield index, 3)) (kk : vx_NoteN p l e R s m args below meth c H locs cells slots Q (F0 m pc ls rest)) : W p l e R s m args below meth c H locs cells slots Q (F0 m pc ls (v :: .null :: rest)) := by
  obtain ⟨hS, hfc, kC, hkC, -⟩ := hK.1 ci _ hc
  obtain ⟨cf, kf, fi, f, hi, -⟩ := hS k hk
  have hlay := hts _ (hin _ (u_in_lay hk))
  unfold u_lay at hlay
  rw [if_neg (by rw [hfin]; decide)] at hlay
  obtain ⟨c9, k9, cf9, kf9, fi9, f9, -, -, hi9, hst9, hnf9, -⟩ := Cond.lays_spec hlay
  cases hi.symm.trans hi9
  intro U hU X
  obtain ⟨vm', X1, st1⟩ := X.putfieldNullNest hexec hown hlink (hsame _ hi) hst9 hnf9 (g := F0 m pc ls (v :: .null :: rest)) rfl (v := v) (rest := rest) rfl (by rw [hb]; exact hdg)
  obtain ⟨t, st, q⟩ := kk (U.setVm vm') hU X1
  exact ⟨t, st1 t st, q⟩
theorem vx_athrowN (hexec : p.tables.exec = Jvm.exec) (hb : c.code = cc) (hdg : decode cc pc = .ok (.athrow, 1)) (k : vx_NoteN p l e R s m args below meth c H locs cells slots Q (F0 m pc ls rest)) : W p l e R s m args below meth c H locs cells slots Q (F0 m pc ls (.null :: rest)) := by
  intro T hT X
  obtain ⟨t, st, q⟩ := k T hT X
  exact ⟨t, X.athrowNull hexec (g := F0 m pc ls (.null :: rest)) rfl (rest := rest) rfl (by rw [hb]; exact hdg) t st, q⟩
end VXM2
/-! ===== END ===== -/
end
section
set_option maxRecDepth 20000
/-! the kit's text of an exception made (kit/laws/EXCEPTIONS.to-paste), turned: the constructor's link to its parent at any index -/
section XNSE
def xx_chain (X : String) (ix : Nat) (rx : ByteArray) : List String → List Cond
  | [] => Bundle.passSAtoms X Bundle.tN ix rx
  | Y :: r => Bundle.passSAtoms X Y ix rx ++ Bundle.chainSAtoms Y r
theorem xx_chainOk {args : Array Value} {s : State} {pl : Platform} (hpl : pl.magicAccessors = ({} : Platform).magicAccessors) {top : MethodId} (htop : s.methodNamed? (Bundle.initS Bundle.tN) = some top)
    {ix : Nat} {rx : ByteArray} (x0 : decode rx 0 = .ok (.aload_n 0, 1)) (x1 : decode rx 1 = .ok (.aload_n 1, 1)) (x2 : decode rx 2 = .ok (.invokespecial ix, 3)) (x5 : decode rx 5 = .ok (.return_, 1)) :
    ∀ (names : List String) (X : String), Bundle.fit X = true → (∀ n ∈ names, Bundle.fit n = true) → (∀ c ∈ xx_chain X ix rx names, c.before args s = true) →
      ∃ (P1 : PassC) (Ps : List PassC), Ps.length = names.length ∧ P1.LinksS pl s ∧ (∀ P, P ∈ Ps → P.LinksS pl s) ∧ s.methodNamed? (Bundle.initS X) = some P1.m ∧
        P1.sup = firstOf top (Ps.map (·.toPassT)) ∧ PassesOn top (Ps.map (·.toPassT)) := by
  intro names
  cases names with
  | nil =>
    intro X hX _ h
    obtain ⟨P, L, hm, hs⟩ := PassC.ofS_atoms (args := args) (s := s) hpl (X := X) (Y := Bundle.tN) (Bundle.fit_spec hX).1 (by decide) x0 x1 x2 x5 h
    exact ⟨P, [], rfl, L, (fun _ hP => by cases hP), hm, Option.some.inj (hs.symm.trans htop), trivial⟩
  | cons Y r =>
    intro X hX hn h
    obtain ⟨P, L, hm, hs⟩ := PassC.ofS_atoms (args := args) (s := s) hpl (X := X) (Y := Y) (Bundle.fit_spec hX).1 (Bundle.fit_spec (hn Y List.mem_cons_self)).2 x0 x1 x2 x5
      (fun c hc => h c (by simp only [xx_chain, List.mem_append]; exact Or.inl hc))
    obtain ⟨P', Ps, hlen, L', hL, hm', hsup, hpass⟩ := Bundle.chainS (args := args) hpl htop r Y (hn Y List.mem_cons_self) (fun n hn' => hn n (List.mem_cons_of_mem _ hn')) (fun c hc => h c (by simp only [xx_chain, List.mem_append]; exact Or.inr hc))
    refine ⟨P, P' :: Ps, by simp [hlen], L, ?_, hm, Option.some.inj (hs.symm.trans hm'), hsup, hpass⟩
    intro Q hQ
    rcases List.mem_cons.mp hQ with rfl | hQ
    · exact L'
    · exact hL Q hQ
/-- the words of such a throw -/
def xx_own (own : String) (ic : Nat) (X : String) (ix : Nat) (rx : ByteArray) (names : List String) : List Cond :=
  Bundle.throwableAtoms ++ Bundle.throwableSAtoms ++ xx_chain X ix rx names ++
  [.methodLink own ic (Bundle.initS X), .instantiable X 6, .castable X X, .selects X Bundle.tFill0 Bundle.tFill0, .selects X Bundle.tFill Bundle.tFill,
   .lays X Bundle.tN "cause" "Ljava/lang/Throwable;", .lays X Bundle.tN "stackTrace" Bundle.steD, .lays X Bundle.tN "suppressedExceptions" Bundle.listD, .lays X Bundle.tN "detailMessage" "Ljava/lang/String;",
   .isRef (.static Bundle.tN "UNASSIGNED_STACK" Bundle.steD), .isRef (.static Bundle.tN "SUPPRESSED_SENTINEL" Bundle.listD),
   .fieldLink Bundle.tN 198 Bundle.tN "backtrace" "Ljava/lang/Object;", .lays Bundle.tN Bundle.tN "backtrace" "Ljava/lang/Object;", .lays X Bundle.tN "backtrace" "Ljava/lang/Object;"]
def xx_at (own : String) (ic : Nat) (X : String) (ix : Nat) (rx : ByteArray) (names : List String) : List Cond := (xx_own own ic X ix rx names).filter vx_no
section
variable {p : Program} {l : Launch} {e : Env} {R : Room} {s : State} {m₀ : MethodId} {args : Array Value} {below : List Frame} {meth : Method} {c : Code} {W : State} {locs : List Loc} {cells slots : Nat}
set_option maxHeartbeats 1000000 in
theorem xx_ctorMadeS (X : Stand p l e R s m₀ args below meth c W locs cells slots) (hexec : p.tables.exec = Jvm.exec) (htr : e.platform.stackTraces = false) {own cls : String} {names : List String} {ic ix : Nat} {rx : ByteArray} (x0 : decode rx 0 = .ok (.aload_n 0, 1)) (x1 : decode rx 1 = .ok (.aload_n 1, 1)) (x2 : decode rx 2 = .ok (.invokespecial ix, 3)) (x5 : decode rx 5 = .ok (.return_, 1))
    (hown : s.vm.findClass own = some m₀.cls) (hcls : Bundle.fit cls = true) (hnames : ∀ n ∈ names, Bundle.fit n = true)
    (h : ∀ a ∈ xx_own own ic cls ix rx names, a.before args s = true)
    (hlocs : ∀ x ∈ locs, ∀ cell, s.heap[x.base]? = some cell → cell.vm.isStatics = false)
    {a : Addr} {cX : ClassId} {kX : Class} (hfoundX : s.vm.findClass cls = some cX) (hkX : s.vm.classes[cX]? = some kX) (hcell : W.heap[a]? = some (freshCell cX kX)) (hnew : s.heap.size ≤ a)
    {msg : Value} (hmsg : msg.isRef = true)
    {g : JFrame} (hg : g.method = m₀) (hsize : g.locals.size = c.maxLocals) {rest : List Value} (hstack : g.stack = msg :: .ref a :: .ref a :: rest)
    (hd6 : decode c.code g.pc = .ok (.invokespecial ic, 3))
    (hRframes : names.length + 3 < R.frames) (hRlocals : 2 * g.monitorRoom + ((Value.ref a :: rest).map fun v => v.category).sum + (13 * (names.length + 1) + 42) ≤ R.locals) :
    ∃ (V : State) (ce : Cell) (L : List Loc), Stand p l e R s m₀ args below meth c (V.setCell a ce) (locs ++ L) cells slots ∧ (∀ y ∈ L, y.base = a) ∧ a < V.heap.size ∧ ce.cls = cX ∧ ce.vm = .none ∧
      ∀ target, Steps p.tables e below ((V.setCell a ce).setTop { g with stack := .ref a :: rest, pc := g.pc + 3 }) target → Steps p.tables e below (W.setTop g) target := by
  have howns : e.platform.frameOwnsMonitors = true := by rw [X.admits.platform]
  have hfin : e.platform.finalization = false := by rw [X.admits.platform]
  have hpl : e.platform.magicAccessors = ({} : Platform).magicAccessors := by rw [X.admits.platform]
  have a' : ∀ x, x ∈ xx_own own ic cls ix rx names → x.holds args s none s [] = true := fun x hx => h x hx
  obtain ⟨T, Z0, L, -, Y⟩ := ThrowableC.of_atoms (args := args) howns hfin hpl (fun x hx => h x (by simp [xx_own, hx]))
  obtain ⟨Z, M, LZ, LM, hnZ⟩ := Init0T.ofS_atoms (args := args) hpl L Y (fun x hx => h x (by simp [xx_own, hx]))
  obtain ⟨P1, Ps, hlen, L1, hL, hP1m, hlink1, hlink⟩ := xx_chainOk (args := args) hpl hnZ x0 x1 x2 x5 names cls hcls hnames (fun x hx => h x (by simp [xx_own, hx]))
  have hfound : s.vm.findClass cls = some P1.m.cls := findClass_of_methodNamed hP1m
  cases Option.some.inj (hfoundX.symm.trans hfound)
  obtain ⟨c1, kX', hc1, hk, hord, -, -, hn6⟩ := Cond.instantiable_spec (a' (.instantiable cls 6) (by simp [xx_own]))
  cases Option.some.inj (hc1.symm.trans hfound)
  cases Option.some.inj (hkX.symm.trans hk)
  have hsel0 : selectMethod e.platform s.vm P1.m.cls T.fill0 = .method T.fill0 := by
    obtain ⟨c2, r2, m2, q1, q2, q3, q4, -⟩ := Cond.selects_spec (a' (.selects cls Bundle.tFill0 Bundle.tFill0) (by simp [xx_own]))
    cases Option.some.inj (q1.symm.trans hfound)
    cases Option.some.inj (q2.symm.trans (State.methodFound?_of_named Y.fill0 (by decide)))
    cases Option.some.inj (q3.symm.trans Y.fill0)
    rw [Launch.admits_selectMethod X.admits]; exact q4
  have hselF : selectMethod e.platform s.vm P1.m.cls T.fill = .method T.fill := by
    obtain ⟨c2, r2, m2, q1, q2, q3, q4, -⟩ := Cond.selects_spec (a' (.selects cls Bundle.tFill Bundle.tFill) (by simp [xx_own]))
    cases Option.some.inj (q1.symm.trans hfound)
    cases Option.some.inj (q2.symm.trans (State.methodFound?_of_named Y.fill (by decide)))
    cases Option.some.inj (q3.symm.trans Y.fill)
    rw [Launch.admits_selectMethod X.admits]; exact q4
  obtain ⟨cellS0, hcS0, hiss⟩ := Y.statics
  obtain ⟨u0, hu0⟩ := Cond.staticRefV Y.unassigned L.unassignedStatic L.statics hcS0 hiss (a' (.isRef (.static Bundle.tN "UNASSIGNED_STACK" Bundle.steD)) (by simp [xx_own]))
  obtain ⟨sen, hsen⟩ := Cond.staticRefV Y.sentinel L.sentinelStatic L.statics hcS0 hiss (a' (.isRef (.static Bundle.tN "SUPPRESSED_SENTINEL" Bundle.listD)) (by simp [xx_own]))
  obtain ⟨ci198, i198, fB, hk198, hg198, ha198, hsB, -, hnB, htB, hffB⟩ := Cond.ownField (t := .object "java/lang/Object") Y.found L.cls (by decide +kernel) (a' (.fieldLink Bundle.tN 198 Bundle.tN "backtrace" "Ljava/lang/Object;") (by simp [xx_own])) (a' (.lays Bundle.tN Bundle.tN "backtrace" "Ljava/lang/Object;") (by simp [xx_own])) e.platform hpl
  obtain ⟨cellS, hcS', heS, -, hkeep⟩ := X.same.2.2.2.2.2 T.aS cellS0 hcS0
  have hcellS : W.heap[T.aS]? = some cellS := hcS'
  have hout' : ∀ i, (⟨T.aS, i⟩ : Loc) ∉ locs := fun i hmem => by
    have := hlocs _ hmem cellS0 hcS0
    rw [hiss] at this; cases this
  have hknownS : cellS.vm ≠ .unknown := by
    rw [heS]; intro hu
    rw [show cellS0.vm = .unknown from hu] at hiss
    cases hiss
  have hneS : T.aS ≠ a := Nat.ne_of_lt (Nat.lt_of_lt_of_le (Array.getElem?_eq_some_iff.mp hcS0).1 hnew)
  obtain ⟨iM, hffM⟩ := Y.msg
  obtain ⟨tyC, dC, hdC, hdnC⟩ := Cond.laysAt hfound hk Y.cause (a' (.lays cls Bundle.tN "cause" "Ljava/lang/Throwable;") (by simp [xx_own]))
  obtain ⟨tyS, dS, hdS, hdnS⟩ := Cond.laysAt hfound hk Y.stack (a' (.lays cls Bundle.tN "stackTrace" Bundle.steD) (by simp [xx_own]))
  obtain ⟨tyP, dP, hdP, hdnP⟩ := Cond.laysAt hfound hk Y.supp (a' (.lays cls Bundle.tN "suppressedExceptions" Bundle.listD) (by simp [xx_own]))
  obtain ⟨tyM, dM, hdM, hdnM⟩ := Cond.laysAt hfound hk hffM (a' (.lays cls Bundle.tN "detailMessage" "Ljava/lang/String;") (by simp [xx_own]))
  obtain ⟨tyB, dB, hdB, hdnB⟩ := Cond.laysAt hfound hk hffB (a' (.lays cls Bundle.tN "backtrace" "Ljava/lang/Object;") (by simp [xx_own]))
  have bC := Cond.laysApart hdB hdC hdnB hdnC (by rw [hnB, Y.causeName]; decide)
  have bS := Cond.laysApart hdB hdS hdnB hdnS (by rw [hnB, Y.stackName]; decide)
  have bP := Cond.laysApart hdB hdP hdnB hdnP (by rw [hnB, Y.suppName]; decide)
  have hskip : SkipFacts T e.platform s (fun u => u) u0 ((preparedCellV T.toThrowableT (freshCell P1.m.cls kX) a u0 sen).withEntry W.cur) :=
    ⟨{ ci198 := ci198, i198 := i198, fBack := fB }, ⟨hk198, hg198, ha198, hsB⟩, by
      have := fresh_default (c := P1.m.cls) tyB
      rw [htB] at this
      simpa [preparedCellV, Cell.setSlot, Cell.withEntry, Array.getElem?_setIfInBounds, bC, bS, bP, bC.symm, bS.symm, bP.symm, defaultValue] using this, fun _ _ => rfl⟩
  obtain ⟨tm, methC, cdC, kC, vm₁, hnC, -, -, -, -, -, -, -, hW₁, st1⟩ := Steps.initColdS (tb := p.tables) (e := e) (below := below) (s := s) (U := W) X.here hexec X.warmed hpl hown (t := Bundle.initS cls) rfl rfl (Bundle.fit_spec hcls).2
    (a' (.methodLink own ic (Bundle.initS cls)) (by simp [xx_own])) (h (.instanceMethod (Bundle.initS cls)) (by cases names <;> simp [xx_own, xx_chain, Bundle.passSAtoms])) (bytes := rx) (maxL := 2) (h (.code (Bundle.initS cls) rx 2 none) (by cases names <;> simp [xx_own, xx_chain, Bundle.passSAtoms]))
    (f := g) hg (a := a) (msg := msg) (rest := .ref a :: rest) hstack hd6
  cases Option.some.inj (hnC.symm.trans hP1m)
  have X₁ := X.noted hW₁
  obtain ⟨vm₂, X₂, st2⟩ := X₁.ctorMessageOffV hexec (g := { g with stack := .ref a :: rest }) hg hsize T L Z LZ M LM (P1 :: Ps)
    (fun P hP => by rcases List.mem_cons.mp hP with rfl | hP; exact L1; exact hL P hP) ⟨hlink1, hlink⟩ (u0 := u0) (sen := sen) (self := a) hmsg (cell := freshCell P1.m.cls kX) (cellS := cellS)
    hcell (fun _ => by simp) (by simp) rfl rfl hsel0 hselF hcellS hneS hknownS (by rw [hkeep _ (hout' _)]; exact hu0) (by rw [hkeep _ (hout' _)]; exact hsen)
    (Takes.of_laid hk hord tyC (by rw [Y.causeType]; rfl)) (Takes.of_laid hk hord tyS (by rw [Y.stackType]; exact fits_refV_array _ u0)) (Takes.of_laid hk hord tyP (by rw [Y.suppType]; exact fits_refV_object _ sen))
    (Takes.of_laid hk hord tyM (by rw [Y.msgType]; exact fits_refV_object _ ⟨msg, hmsg⟩)) Y.objLocals hskip htr [] hd6
    (by simp only [List.length_cons, hlen]; omega) (by simp only [List.length_cons, hlen]; exact hRlocals)
  have hlt : a < ((W.setVm vm₁).setVm vm₂).heap.size := (Array.getElem?_eq_some_iff.mp hcell).1
  refine ⟨(W.setVm vm₁).setVm vm₂, _, _, X₂, fun y hy => ?_, hlt, rfl, rfl, fun target hwalk => st1 _ (fun acts => ?_)⟩
  · simp only [List.mem_cons, List.not_mem_nil, or_false] at hy
    rcases hy with rfl | rfl | rfl | rfl | rfl <;> rfl
  · rw [doInvoke_state]
    exact st2 _ hwalk
end
section
variable {p : Program} {l : Launch} {e : Env} {R : Room} {s : State} {m : MethodId} {args : Array Value} {below : List Frame} {meth : Method} {c : Code} {H : Heap} {locs : List Loc} {cells slots : Nat} {Q : State → Prop}
variable {ls : Array Slot} {rest : List Value}
/-- 'new E("text")' : the object goes on the stack -/
theorem xx_makeS {cc : ByteArray} {pc : Nat} (hexec : p.tables.exec = Jvm.exec) (hb : c.code = cc) (hl : l.stackTraces = false) {own cls text : String} {names : List String} {ik is ic ix sa k9 : Nat} {rx : ByteArray} {A : Nat → Prop} (x0 : decode rx 0 = .ok (.aload_n 0, 1)) (x1 : decode rx 1 = .ok (.aload_n 1, 1)) (x2 : decode rx 2 = .ok (.invokespecial ix, 3)) (x5 : decode rx 5 = .ok (.return_, 1))
    (hown : s.vm.findClass own = some m.cls) (hcls : Bundle.fit cls = true) (hnames : ∀ n ∈ names, Bundle.fit n = true)
    (hk : (Cond.classLink own ik cls).before args s = true) (hini : (Cond.initialized cls).before args s = true) (hstr : vk_R own is text sa s) (hat : ∀ w ∈ xx_at own ic cls ix rx names, w.before args s = true)
    (hgood : ∀ w ∈ Cond.classLink own ik cls :: Cond.initialized cls :: xx_at own ic cls ix rx names, vx_ot w = true)
    (hU : vx_Zq Bundle.tN "UNASSIGNED_STACK" Bundle.steD A s s.heap) (hN : vx_Zq Bundle.tN "SUPPRESSED_SENTINEL" Bundle.listD A s s.heap) (hS : va_S A s.heap H locs) (hsize : ls.size = c.maxLocals)
    (d0 : decode cc pc = .ok (.new ik, 3)) (d3 : decode cc (pc + 3) = .ok (.dup, 1)) (dd : (decode cc (pc + 4) = .ok (.ldc is, 2) ∧ decode cc (pc + 6) = .ok (.invokespecial ic, 3) ∧ k9 = 9) ∨ decode cc (pc + 4) = .ok (.ldc_w is, 3) ∧ decode cc (pc + 7) = .ok (.invokespecial ic, 3) ∧ k9 = 10)
    (hRframes : names.length + 3 < R.frames) (hRlocals : (rest.map fun v => v.category).sum + (13 * (names.length + 1) + 43) ≤ R.locals) (hRcells : cells + 1 ≤ R.cells) (hRslots : slots + 6 ≤ R.slots)
    (kk : ∀ (q : Nat) (ce : Cell) (H1 : Heap), H1[q]? = some ce → ce.vm = .none → s.vm.findClass cls = some ce.cls → H.size ≤ H1.size → (∀ x, x < H.size → H1[x]? = H[x]?) → W p l e R s m args below meth c H1 locs (cells + 1) (slots + 6) Q (F0 m (pc + k9) ls (.ref q :: rest))) :
    W p l e R s m args below meth c H locs cells slots Q (F0 m pc ls rest) := by
  intro T hT X
  subst hT
  have htr : e.platform.stackTraces = false := (show e.platform.stackTraces = l.stackTraces by rw [X.admits.platform]).trans hl
  have Y := vx_rebase X (R' := { frames := R.frames, locals := R.locals, cells := 1, slots := 6 }) (Nat.le_refl _) (Nat.le_refl _) hRcells hRslots
  obtain ⟨s', hA'⟩ : ∃ z, z = (T.setVm s.vm).setFrames (.invoking m args :: below) := ⟨_, rfl⟩
  rw [← hA'] at Y
  have hvm : s'.vm = s.vm := by rw [hA']; rfl
  have hhp : s'.heap = T.heap := by rw [hA']; rfl
  have hW0 : s.WarmedH s'.vm := by rw [hvm]; exact State.WarmedH.refl s
  have hat' : ∀ w ∈ xx_at own ic cls ix rx names, w.before args s' = true := fun w hw => vx_ot_at hW0 hvm.symm (hgood w (List.mem_cons_of_mem _ (List.mem_cons_of_mem _ hw))) (hat w hw)
  have hk' : (Cond.classLink own ik cls).before args s' = true := vx_ot_at hW0 hvm.symm (hgood _ List.mem_cons_self) hk
  have hini' : (Cond.initialized cls).before args s' = true := vx_ot_at hW0 hvm.symm (hgood _ (List.mem_cons_of_mem _ List.mem_cons_self)) hini
  have hU' : vx_Zq Bundle.tN "UNASSIGNED_STACK" Bundle.steD A s' s'.heap := by rw [hhp]; exact vx_Zq.moved hW0.alike (hU.kept hS.2.1)
  have hN' : vx_Zq Bundle.tN "SUPPRESSED_SENTINEL" Bundle.listD A s' s'.heap := by rw [hhp]; exact vx_Zq.moved hW0.alike (hN.kept hS.2.1)
  have h : ∀ w ∈ xx_own own ic cls ix rx names, w.before args s' = true := vx_own hat' (vx_isRefq hU'.1) (vx_isRefq hN'.1) hU'.2.word hN'.2.word
  have hown' : s'.vm.findClass own = some m.cls := by rw [hvm]; exact hown
  have hins : (Cond.instantiable cls 6).before args s' = true := h _ (by simp [xx_own])
  obtain ⟨vm₁, cX, kX, hfX, hkX, -, -, X₁, st1⟩ := Y.newCold hexec (own := own) (C := cls) (index := ik) (n := 6) hown' hk' hins hini'
    (g := F0 m pc ls rest) rfl (by rw [hb]; exact d0) (Nat.le_refl _) (Nat.le_refl _)
  generalize hT1 : (T.setVm vm₁).pushCell { cls := cX, slots := kX.instanceTypes.map defaultValue, vm := .none } = T1 at X₁ st1
  have hcat : (Value.ref T.heap.size).category = 1 := rfl
  have hcellA : T1.heap[T.heap.size]? = some (freshCell cX kX) := by rw [← hT1]; exact State.heap_pushCell_size _ _
  have d3' : decode c.code (pc + 3) = .ok (.dup, 1) := by rw [hb]; exact d3
  have hstr' : vk_R own is text sa s' := vk_R.warm hW0 hstr
  have ctor : ∀ k6 : Nat, decode c.code (pc + k6) = .ok (.invokespecial ic, 3) → k6 + 3 = k9 → ∃ t, (Steps p.tables e below (T1.setTop { method := m, pc := pc + k6, locals := ls, stack := .ref sa :: .ref T.heap.size :: .ref T.heap.size :: rest, locked := none }) t) ∧ Q t := by
    intro k6 hd6 hk6
    obtain ⟨V, ce, L, Z, hL, hlt, hcl9, hvm9, st⟩ := xx_ctorMadeS X₁ hexec htr (own := own) (cls := cls) (names := names) (ic := ic) x0 x1 x2 x5 hown' hcls hnames h (fun x hx => nomatch hx) hfX hkX hcellA (by rw [hhp]; exact Nat.le_refl _) (msg := .ref sa) rfl
      (g := { method := m, pc := pc + k6, locals := ls, stack := .ref sa :: .ref T.heap.size :: .ref T.heap.size :: rest, locked := none }) rfl hsize (rest := rest) rfl
      hd6 hRframes (by simp only [List.map_cons, List.sum_cons, hcat]; omega)
    have Z0 := Stand.forget (locs := []) Z (fun y hy => by rw [hL y hy, hhp]; exact Nat.le_refl _)
    obtain ⟨f1, f2⟩ := vx_frame Z0.same
    rw [hhp] at f1 f2
    have hcid : s.vm.findClass cls = some ce.cls := by
      rw [hcl9, ← hvm]
      exact hfX
    have hh : (V.setCell T.heap.size ce).heap[T.heap.size]? = some ce := heapAt_setCell_self (s := V) ce hlt
    have X5 : Stand p l e R s m args below meth c (V.setCell T.heap.size ce) locs (cells + 1) (slots + 6) := by
      subst hA'
      have X5 := vx_back9 X Y Z0
      exact { X5 with same := X5.same.mono (by omega) (by omega) }
    obtain ⟨t, a1, b1⟩ := kk T.heap.size ce (V.setCell T.heap.size ce).heap hh hvm9 hcid f1 (fun x hx => f2 x hx (fun z hz => nomatch hz)) _ rfl X5
    refine ⟨t, st t ?_, b1⟩
    have hpk : pc + k6 + 3 = pc + k9 := by omega
    show Steps p.tables e below ((V.setCell T.heap.size ce).setTop { method := m, pc := pc + k6 + 3, locals := ls, stack := .ref T.heap.size :: rest, locked := none }) t
    rw [hpk]
    exact a1
  have fin : ∀ t : State, Steps p.tables e below (T1.setTop { method := m, pc := pc + 4, locals := ls, stack := .ref T.heap.size :: .ref T.heap.size :: rest, locked := none }) t → Steps p.tables e below (T.setTop (F0 m pc ls rest)) t := by
    intro t ht
    refine st1 _ ?_
    show Steps p.tables e below (T1.setTop { method := m, pc := pc + 3, locals := ls, stack := .ref T.heap.size :: rest, locked := none }) _
    jvm_step X₁.here [X₁.here.top, hexec, d3', Value.category]
    exact ht
  rcases dd with ⟨d4, d6, h9⟩ | ⟨d4, d7, h9⟩
  · have d4' : decode c.code (pc + 4) = .ok (.ldc is, 2) := by rw [hb]; exact d4
    obtain ⟨t, a1, b1⟩ := ctor 6 (by rw [hb]; exact d6) (by omega)
    refine ⟨t, fin t ?_, b1⟩
    exact X₁.ldcString hexec (own := own) (text := text) (index := is) (a := sa) hown' hstr'.1 hstr'.2
      (g := { method := m, pc := pc + 4, locals := ls, stack := .ref T.heap.size :: .ref T.heap.size :: rest, locked := none }) rfl d4' _ a1
  · have d4' : decode c.code (pc + 4) = .ok (.ldc_w is, 3) := by rw [hb]; exact d4
    obtain ⟨t, a1, b1⟩ := ctor 7 (by rw [hb]; exact d7) (by omega)
    refine ⟨t, fin t ?_, b1⟩
    exact X₁.ldcStringW hexec (own := own) (text := text) (index := is) (a := sa) hown' hstr'.1 hstr'.2
      (g := { method := m, pc := pc + 4, locals := ls, stack := .ref T.heap.size :: .ref T.heap.size :: rest, locked := none }) rfl d4' _ a1
end
end XNSE
end
section
set_option maxRecDepth 20000
section XJ
/-- a value of the small machine: a number, null or a raw address; or an object by its name -/
abbrev xV : Type := Value ⊕ (Nat × Nat)
/-- an object: class and fields; or kind, length and content of an array -/
abbrev xO : Type := (Nat × List xV) ⊕ (Nat × Nat × (Nat → xV))
abbrev xL : Type := List (Nat × xV)
abbrev xH : Type := Nat × Nat → Option xO
/-- names to be given, cells made, slots made, heap -/
abbrev xA : Type := List (Nat × Nat) × Nat × Nat × xH
abbrev xN : Type := Nat × Nat → Nat
def xcat : xV → Nat
  | .inl v => v.category
  | .inr _ => 1
def xc (ad : xN) : xV → Value
  | .inl v => v
  | .inr q => .ref (ad q)
theorem xc_cat (ad : xN) (v : xV) : (xc ad v).category = xcat v := by cases v <;> rfl
abbrev xlm (ad : xN) (l : xL) : List (Nat × Value) := l.map (fun q => (q.1, xc ad q.2))
def xl : xL → Nat → Option xV
  | [], _ => none
  | q :: r, i => if q.1 = i then some q.2 else xl r i
theorem xl_mem {l : xL} {i : Nat} {v : xV} (h : xl l i = some v) : (i, v) ∈ l := by
  induction l with
  | nil => cases h
  | cons q r ih =>
    unfold xl at h
    split at h
    next e => cases h; subst e; exact List.mem_cons_self
    next e => exact List.mem_cons_of_mem _ (ih h)
theorem xl_at {ls : Array Slot} {nL : Nat} {ad : xN} {l : xL} (hl : lv_has ls nL (xlm ad l)) {i : Nat} {v : xV} (h : xl l i = some v) : ls[i]? = some (.val (xc ad v)) :=
  hl.2.2 (i, xc ad v) (List.mem_map.mpr ⟨(i, v), xl_mem h, rfl⟩)
def xst1 (l : xL) (i : Nat) (v : xV) : xL := (i, v) :: l.filter (fun q => !(q.1 == i) && !(q.1 + 1 == i && xcat q.2 == 2))
def xst2 (l : xL) (i : Nat) (v : xV) : xL := (i, v) :: l.filter (fun q => !(q.1 == i) && (!(q.1 == i + 1) && !(q.1 + 1 == i && xcat q.2 == 2)))
theorem xst1_map (ad : xN) (l : xL) (i : Nat) (v : xV) : (i, xc ad v) :: (xlm ad l).filter (fun q => !(q.1 == i) && !(q.1 + 1 == i && q.2.category == 2)) = xlm ad (xst1 l i v) := by
  unfold xst1 xlm
  rw [List.map_cons, List.filter_map]
  congr 2
  refine List.filter_congr fun q _ => ?_
  simp only [Function.comp, xc_cat]
theorem xst2_map (ad : xN) (l : xL) (i : Nat) (v : xV) : (i, xc ad v) :: (xlm ad l).filter (fun q => !(q.1 == i) && (!(q.1 == i + 1) && !(q.1 + 1 == i && q.2.category == 2))) = xlm ad (xst2 l i v) := by
  unfold xst2 xlm
  rw [List.map_cons, List.filter_map]
  congr 2
  refine List.filter_congr fun q _ => ?_
  simp only [Function.comp, xc_cat]
/-- all values of a frame are live -/
def xok (Lv : xV → Prop) (l : xL) (st : List xV) : Prop := (∀ q ∈ l, Lv q.2) ∧ ∀ v ∈ st, Lv v
theorem xok_l {Lv : xV → Prop} {l : xL} {st : List xV} (h : xok Lv l st) {i : Nat} {v : xV} (e : xl l i = some v) : Lv v := h.1 _ (xl_mem e)
theorem xok_push {Lv : xV → Prop} {l : xL} {st : List xV} (h : xok Lv l st) {v : xV} (e : Lv v) : xok Lv l (v :: st) := ⟨h.1, List.forall_mem_cons.mpr ⟨e, h.2⟩⟩
theorem xok_tl {Lv : xV → Prop} {l : xL} {st : List xV} {v : xV} (h : xok Lv l (v :: st)) : xok Lv l st := ⟨h.1, (List.forall_mem_cons.mp h.2).2⟩
theorem xok_hd {Lv : xV → Prop} {l : xL} {st : List xV} {v : xV} (h : xok Lv l (v :: st)) : Lv v := (List.forall_mem_cons.mp h.2).1
theorem xok_1 {Lv : xV → Prop} {l : xL} {st : List xV} (h : xok Lv l st) (i : Nat) {v : xV} (e : Lv v) : xok Lv (xst1 l i v) st :=
  ⟨List.forall_mem_cons.mpr ⟨e, fun q hq => h.1 q (List.mem_filter.mp hq).1⟩, h.2⟩
theorem xok_2 {Lv : xV → Prop} {l : xL} {st : List xV} (h : xok Lv l st) (i : Nat) {v : xV} (e : Lv v) : xok Lv (xst2 l i v) st :=
  ⟨List.forall_mem_cons.mpr ⟨e, fun q hq => h.1 q (List.mem_filter.mp hq).1⟩, h.2⟩

/-- one plain instruction: the next place, locals, stack -/
def xs1 (nL : Nat) (i : Instr) (pc : Nat) (l : xL) (st : List xV) : Option (Nat × xL × List xV) :=
  match i with
  | .aconst_null => some (pc + 1, l, .inl .null :: st)
  | .iconst n => some (pc + 1, l, .inl (.int (Int32.ofInt n)) :: st)
  | .bipush n => some (pc + 2, l, .inl (.int (Int8.ofInt n).toInt32) :: st)
  | .sipush n => some (pc + 3, l, .inl (.int (Int16.ofInt n).toInt32) :: st)
  | .lconst n => some (pc + 1, l, .inl (.long (Int64.ofNat n)) :: st)
  | .fconst 0 => some (pc + 1, l, .inl (.float FP.fconst0) :: st)
  | .fconst 1 => some (pc + 1, l, .inl (.float FP.fconst1) :: st)
  | .fconst 2 => some (pc + 1, l, .inl (.float FP.fconst2) :: st)
  | .dconst 0 => some (pc + 1, l, .inl (.double FP.dconst0) :: st)
  | .dconst 1 => some (pc + 1, l, .inl (.double FP.dconst1) :: st)
  | .iadd => match st with
    | .inl (.int y) :: .inl (.int x) :: r => some (pc + 1, l, .inl (.int (x + y)) :: r)
    | _ => none
  | .isub => match st with
    | .inl (.int y) :: .inl (.int x) :: r => some (pc + 1, l, .inl (.int (x - y)) :: r)
    | _ => none
  | .imul => match st with
    | .inl (.int y) :: .inl (.int x) :: r => some (pc + 1, l, .inl (.int (x * y)) :: r)
    | _ => none
  | .iand => match st with
    | .inl (.int y) :: .inl (.int x) :: r => some (pc + 1, l, .inl (.int (x &&& y)) :: r)
    | _ => none
  | .ior => match st with
    | .inl (.int y) :: .inl (.int x) :: r => some (pc + 1, l, .inl (.int (x ||| y)) :: r)
    | _ => none
  | .ixor => match st with
    | .inl (.int y) :: .inl (.int x) :: r => some (pc + 1, l, .inl (.int (x ^^^ y)) :: r)
    | _ => none
  | .ishl => match st with
    | .inl (.int y) :: .inl (.int x) :: r => some (pc + 1, l, .inl (.int (x <<< (y &&& 31))) :: r)
    | _ => none
  | .ishr => match st with
    | .inl (.int y) :: .inl (.int x) :: r => some (pc + 1, l, .inl (.int (x >>> (y &&& 31))) :: r)
    | _ => none
  | .iushr => match st with
    | .inl (.int y) :: .inl (.int x) :: r => some (pc + 1, l, .inl (.int (x.toUInt32 >>> (y.toUInt32 &&& Int32.toUInt32 31)).toInt32) :: r)
    | _ => none
  | .idiv => match st with
    | .inl (.int y) :: .inl (.int x) :: r => if ¬ y = 0 then some (pc + 1, l, .inl (.int (x / y)) :: r) else none
    | _ => none
  | .irem => match st with
    | .inl (.int y) :: .inl (.int x) :: r => if ¬ y = 0 then some (pc + 1, l, .inl (.int (x - x / y * y)) :: r) else none
    | _ => none
  | .ineg => match st with
    | .inl (.int x) :: r => some (pc + 1, l, .inl (.int (-x)) :: r)
    | _ => none
  | .ladd => match st with
    | .inl (.long y) :: .inl (.long x) :: r => some (pc + 1, l, .inl (.long (x + y)) :: r)
    | _ => none
  | .lsub => match st with
    | .inl (.long y) :: .inl (.long x) :: r => some (pc + 1, l, .inl (.long (x - y)) :: r)
    | _ => none
  | .lmul => match st with
    | .inl (.long y) :: .inl (.long x) :: r => some (pc + 1, l, .inl (.long (x * y)) :: r)
    | _ => none
  | .land => match st with
    | .inl (.long y) :: .inl (.long x) :: r => some (pc + 1, l, .inl (.long (x &&& y)) :: r)
    | _ => none
  | .lor => match st with
    | .inl (.long y) :: .inl (.long x) :: r => some (pc + 1, l, .inl (.long (x ||| y)) :: r)
    | _ => none
  | .lxor => match st with
    | .inl (.long y) :: .inl (.long x) :: r => some (pc + 1, l, .inl (.long (x ^^^ y)) :: r)
    | _ => none
  | .ldiv => match st with
    | .inl (.long y) :: .inl (.long x) :: r => if ¬ y = 0 then some (pc + 1, l, .inl (.long (x / y)) :: r) else none
    | _ => none
  | .lrem => match st with
    | .inl (.long y) :: .inl (.long x) :: r => if ¬ y = 0 then some (pc + 1, l, .inl (.long (x - x / y * y)) :: r) else none
    | _ => none
  | .lneg => match st with
    | .inl (.long x) :: r => some (pc + 1, l, .inl (.long (-x)) :: r)
    | _ => none
  | .lcmp => match st with
    | .inl (.long y) :: .inl (.long x) :: r => some (pc + 1, l, .inl (.int (lg_cmp x y)) :: r)
    | _ => none
  | .lshl => match st with
    | .inl (.int y) :: .inl (.long x) :: r => some (pc + 1, l, .inl (.long (x <<< (y.toInt64 &&& 63))) :: r)
    | _ => none
  | .lshr => match st with
    | .inl (.int y) :: .inl (.long x) :: r => some (pc + 1, l, .inl (.long (x >>> (y.toInt64 &&& 63))) :: r)
    | _ => none
  | .lushr => match st with
    | .inl (.int y) :: .inl (.long x) :: r => some (pc + 1, l, .inl (.long (x.toUInt64 >>> (y.toInt64.toUInt64 &&& Int64.toUInt64 63)).toInt64) :: r)
    | _ => none
  | .i2l => match st with
    | .inl (.int x) :: r => some (pc + 1, l, .inl (.long x.toInt64) :: r)
    | _ => none
  | .l2i => match st with
    | .inl (.long x) :: r => some (pc + 1, l, .inl (.int x.toInt32) :: r)
    | _ => none
  | .i2b => match st with
    | .inl (.int x) :: r => some (pc + 1, l, .inl (.int x.toInt8.toInt32) :: r)
    | _ => none
  | .i2s => match st with
    | .inl (.int x) :: r => some (pc + 1, l, .inl (.int x.toInt16.toInt32) :: r)
    | _ => none
  | .i2c => match st with
    | .inl (.int x) :: r => some (pc + 1, l, .inl (.int (x.toUInt32 % 65536).toInt32) :: r)
    | _ => none
  | .fadd => match st with
    | .inl (.float y) :: .inl (.float x) :: r => if FP.fadd x y &&& 0x7fffffff ≤ 0x7f800000 then some (pc + 1, l, .inl (.float (FP.fadd x y)) :: r) else none
    | _ => none
  | .fsub => match st with
    | .inl (.float y) :: .inl (.float x) :: r => if FP.fsub x y &&& 0x7fffffff ≤ 0x7f800000 then some (pc + 1, l, .inl (.float (FP.fsub x y)) :: r) else none
    | _ => none
  | .fmul => match st with
    | .inl (.float y) :: .inl (.float x) :: r => if FP.fmul x y &&& 0x7fffffff ≤ 0x7f800000 then some (pc + 1, l, .inl (.float (FP.fmul x y)) :: r) else none
    | _ => none
  | .fdiv => match st with
    | .inl (.float y) :: .inl (.float x) :: r => if FP.fdiv x y &&& 0x7fffffff ≤ 0x7f800000 then some (pc + 1, l, .inl (.float (FP.fdiv x y)) :: r) else none
    | _ => none
  | .frem => match st with
    | .inl (.float y) :: .inl (.float x) :: r => if FP.frem x y &&& 0x7fffffff ≤ 0x7f800000 then some (pc + 1, l, .inl (.float (FP.frem x y)) :: r) else none
    | _ => none
  | .dadd => match st with
    | .inl (.double y) :: .inl (.double x) :: r => if FP.dadd x y &&& 0x7fffffffffffffff ≤ 0x7ff0000000000000 then some (pc + 1, l, .inl (.double (FP.dadd x y)) :: r) else none
    | _ => none
  | .dsub => match st with
    | .inl (.double y) :: .inl (.double x) :: r => if FP.dsub x y &&& 0x7fffffffffffffff ≤ 0x7ff0000000000000 then some (pc + 1, l, .inl (.double (FP.dsub x y)) :: r) else none
    | _ => none
  | .dmul => match st with
    | .inl (.double y) :: .inl (.double x) :: r => if FP.dmul x y &&& 0x7fffffffffffffff ≤ 0x7ff0000000000000 then some (pc + 1, l, .inl (.double (FP.dmul x y)) :: r) else none
    | _ => none
  | .ddiv => match st with
    | .inl (.double y) :: .inl (.double x) :: r => if FP.ddiv x y &&& 0x7fffffffffffffff ≤ 0x7ff0000000000000 then some (pc + 1, l, .inl (.double (FP.ddiv x y)) :: r) else none
    | _ => none
  | .drem => match st with
    | .inl (.double y) :: .inl (.double x) :: r => if FP.drem x y &&& 0x7fffffffffffffff ≤ 0x7ff0000000000000 then some (pc + 1, l, .inl (.double (FP.drem x y)) :: r) else none
    | _ => none
  | .fneg => match st with
    | .inl (.float x) :: r => some (pc + 1, l, .inl (.float (FP.fneg x)) :: r)
    | _ => none
  | .dneg => match st with
    | .inl (.double x) :: r => some (pc + 1, l, .inl (.double (FP.dneg x)) :: r)
    | _ => none
  | .fcmp o => match st with
    | .inl (.float y) :: .inl (.float x) :: r => some (pc + 1, l, .inl (.int (Op.cmpValue (FP.fcmp x y) o)) :: r)
    | _ => none
  | .dcmp o => match st with
    | .inl (.double y) :: .inl (.double x) :: r => some (pc + 1, l, .inl (.int (Op.cmpValue (FP.dcmp x y) o)) :: r)
    | _ => none
  | .i2f => match st with
    | .inl (.int x) :: r => some (pc + 1, l, .inl (.float (FP.i2f x)) :: r)
    | _ => none
  | .l2f => match st with
    | .inl (.long x) :: r => some (pc + 1, l, .inl (.float (FP.l2f x)) :: r)
    | _ => none
  | .f2i => match st with
    | .inl (.float x) :: r => some (pc + 1, l, .inl (.int (FP.f2i x)) :: r)
    | _ => none
  | .f2l => match st with
    | .inl (.float x) :: r => some (pc + 1, l, .inl (.long (FP.f2l x)) :: r)
    | _ => none
  | .i2d => match st with
    | .inl (.int x) :: r => some (pc + 1, l, .inl (.double (FP.i2d x)) :: r)
    | _ => none
  | .l2d => match st with
    | .inl (.long x) :: r => some (pc + 1, l, .inl (.double (FP.l2d x)) :: r)
    | _ => none
  | .d2i => match st with
    | .inl (.double x) :: r => some (pc + 1, l, .inl (.int (FP.d2i x)) :: r)
    | _ => none
  | .d2l => match st with
    | .inl (.double x) :: r => some (pc + 1, l, .inl (.long (FP.d2l x)) :: r)
    | _ => none
  | .f2d => match st with
    | .inl (.float x) :: r => if FP.f2d x &&& 0x7fffffffffffffff ≤ 0x7ff0000000000000 then some (pc + 1, l, .inl (.double (FP.f2d x)) :: r) else none
    | _ => none
  | .d2f => match st with
    | .inl (.double x) :: r => if FP.d2f x &&& 0x7fffffff ≤ 0x7f800000 then some (pc + 1, l, .inl (.float (FP.d2f x)) :: r) else none
    | _ => none
  | .dup => match st with
    | v :: r => if xcat v = 1 then some (pc + 1, l, v :: v :: r) else none
    | _ => none
  | .pop => match st with
    | v :: r => if xcat v = 1 then some (pc + 1, l, r) else none
    | _ => none
  | .dup_x1 => match st with
    | v :: w :: r => if xcat v = 1 ∧ xcat w = 1 then some (pc + 1, l, v :: w :: v :: r) else none
    | _ => none
  | .dup_x2 => match st with
    | v :: w :: u :: r => if xcat v = 1 ∧ xcat w = 1 ∧ xcat u = 1 then some (pc + 1, l, v :: w :: u :: v :: r) else none
    | _ => none
  | .dup2 => match st with
    | v :: w :: r => if xcat v = 1 ∧ xcat w = 1 then some (pc + 1, l, v :: w :: v :: w :: r) else none
    | _ => none
  | .iload_n n => match xl l n.val with
    | some (.inl (.int x)) => some (pc + 1, l, .inl (.int x) :: st)
    | _ => none
  | .iload n => match xl l n with
    | some (.inl (.int x)) => some (pc + 2, l, .inl (.int x) :: st)
    | _ => none
  | .lload_n n => match xl l n.val with
    | some (.inl (.long x)) => some (pc + 1, l, .inl (.long x) :: st)
    | _ => none
  | .lload n => match xl l n with
    | some (.inl (.long x)) => some (pc + 2, l, .inl (.long x) :: st)
    | _ => none
  | .fload_n n => match xl l n.val with
    | some (.inl (.float x)) => some (pc + 1, l, .inl (.float x) :: st)
    | _ => none
  | .fload n => match xl l n with
    | some (.inl (.float x)) => some (pc + 2, l, .inl (.float x) :: st)
    | _ => none
  | .dload_n n => match xl l n.val with
    | some (.inl (.double x)) => some (pc + 1, l, .inl (.double x) :: st)
    | _ => none
  | .dload n => match xl l n with
    | some (.inl (.double x)) => some (pc + 2, l, .inl (.double x) :: st)
    | _ => none
  | .aload_n n => match xl l n.val with
    | some (.inl .null) => some (pc + 1, l, .inl .null :: st)
    | some (.inl (.ref a)) => some (pc + 1, l, .inl (.ref a) :: st)
    | some (.inr q) => some (pc + 1, l, .inr q :: st)
    | _ => none
  | .aload n => match xl l n with
    | some (.inl .null) => some (pc + 2, l, .inl .null :: st)
    | some (.inl (.ref a)) => some (pc + 2, l, .inl (.ref a) :: st)
    | some (.inr q) => some (pc + 2, l, .inr q :: st)
    | _ => none
  | .istore_n n => match st with
    | .inl (.int x) :: r => if n.val < nL then some (pc + 1, xst1 l n.val (.inl (.int x)), r) else none
    | _ => none
  | .istore n => match st with
    | .inl (.int x) :: r => if n < nL then some (pc + 2, xst1 l n (.inl (.int x)), r) else none
    | _ => none
  | .lstore_n n => match st with
    | .inl (.long x) :: r => if n.val + 1 < nL then some (pc + 1, xst2 l n.val (.inl (.long x)), r) else none
    | _ => none
  | .lstore n => match st with
    | .inl (.long x) :: r => if n + 1 < nL then some (pc + 2, xst2 l n (.inl (.long x)), r) else none
    | _ => none
  | .fstore_n n => match st with
    | .inl (.float x) :: r => if n.val < nL then some (pc + 1, xst1 l n.val (.inl (.float x)), r) else none
    | _ => none
  | .fstore n => match st with
    | .inl (.float x) :: r => if n < nL then some (pc + 2, xst1 l n (.inl (.float x)), r) else none
    | _ => none
  | .dstore_n n => match st with
    | .inl (.double x) :: r => if n.val + 1 < nL then some (pc + 1, xst2 l n.val (.inl (.double x)), r) else none
    | _ => none
  | .dstore n => match st with
    | .inl (.double x) :: r => if n + 1 < nL then some (pc + 2, xst2 l n (.inl (.double x)), r) else none
    | _ => none
  | .astore_n n => match st with
    | .inl .null :: r => if n.val < nL then some (pc + 1, xst1 l n.val (.inl .null), r) else none
    | .inr q :: r => if n.val < nL then some (pc + 1, xst1 l n.val (.inr q), r) else none
    | _ => none
  | .astore n => match st with
    | .inl .null :: r => if n < nL then some (pc + 2, xst1 l n (.inl .null), r) else none
    | .inr q :: r => if n < nL then some (pc + 2, xst1 l n (.inr q), r) else none
    | _ => none
  | .iinc i n => match xl l i with
    | some (.inl (.int x)) => if i < nL then some (pc + 3, xst1 l i (.inl (.int (x + Int32.ofInt n))), st) else none
    | _ => none
  | .goto off => if 0 ≤ (pc : Int) + off then some (((pc : Int) + off).toNat, l, st) else none
  | .ifnull off => match st with
    | .inl .null :: r => if 0 ≤ (pc : Int) + off then some (((pc : Int) + off).toNat, l, r) else none
    | .inr _ :: r => some (pc + 3, l, r)
    | _ => none
  | .ifnonnull off => match st with
    | .inl .null :: r => some (pc + 3, l, r)
    | .inr _ :: r => if 0 ≤ (pc : Int) + off then some (((pc : Int) + off).toNat, l, r) else none
    | _ => none
  | _ => none
/-- how many bytes -/
def xlen : Instr → Nat
  | .aconst_null => 1
  | .iconst _ => 1
  | .bipush _ => 2
  | .sipush _ => 3
  | .lconst _ => 1
  | .fconst 0 => 1
  | .fconst 1 => 1
  | .fconst 2 => 1
  | .dconst 0 => 1
  | .dconst 1 => 1
  | .iadd => 1
  | .isub => 1
  | .imul => 1
  | .iand => 1
  | .ior => 1
  | .ixor => 1
  | .ishl => 1
  | .ishr => 1
  | .iushr => 1
  | .idiv => 1
  | .irem => 1
  | .ineg => 1
  | .ladd => 1
  | .lsub => 1
  | .lmul => 1
  | .land => 1
  | .lor => 1
  | .lxor => 1
  | .ldiv => 1
  | .lrem => 1
  | .lneg => 1
  | .lcmp => 1
  | .lshl => 1
  | .lshr => 1
  | .lushr => 1
  | .i2l => 1
  | .l2i => 1
  | .i2b => 1
  | .i2s => 1
  | .i2c => 1
  | .fadd => 1
  | .fsub => 1
  | .fmul => 1
  | .fdiv => 1
  | .frem => 1
  | .dadd => 1
  | .dsub => 1
  | .dmul => 1
  | .ddiv => 1
  | .drem => 1
  | .fneg => 1
  | .dneg => 1
  | .fcmp _ => 1
  | .dcmp _ => 1
  | .i2f => 1
  | .l2f => 1
  | .f2i => 1
  | .f2l => 1
  | .i2d => 1
  | .l2d => 1
  | .d2i => 1
  | .d2l => 1
  | .f2d => 1
  | .d2f => 1
  | .dup => 1
  | .pop => 1
  | .dup_x1 => 1
  | .dup_x2 => 1
  | .dup2 => 1
  | .iload_n _ => 1
  | .iload _ => 2
  | .lload_n _ => 1
  | .lload _ => 2
  | .fload_n _ => 1
  | .fload _ => 2
  | .dload_n _ => 1
  | .dload _ => 2
  | .aload_n _ => 1
  | .aload _ => 2
  | .istore_n _ => 1
  | .istore _ => 2
  | .lstore_n _ => 1
  | .lstore _ => 2
  | .fstore_n _ => 1
  | .fstore _ => 2
  | .dstore_n _ => 1
  | .dstore _ => 2
  | .astore_n _ => 1
  | .astore _ => 2
  | .iinc _ _ => 3
  | .goto _ => 3
  | .ifnull _ => 3
  | .ifnonnull _ => 3
  | _ => 0
variable {p : Program} {l0 : Launch} {e : Env} {R : Room} {s : State} {m : MethodId} {args : Array Value} {below : List Frame} {meth : Method} {c : Code} {H : Heap} {locs : List Loc} {cells slots : Nat} {Q : State → Prop}
variable {cc : ByteArray} {pc : Nat} {ls : Array Slot} {ad : xN}
theorem xs_aconst_null {Lv : xV → Prop} {l l2 : xL} {st st2 : List xV} {nL pc2 : Nat} (h0 : ∀ v, Lv (.inl v)) (hx : p.tables.exec = Jvm.exec) (hb : c.code = cc) (hd : decode cc pc = .ok (.aconst_null, 1)) (hl : lv_has ls nL (xlm ad l)) (hk : xok Lv l st) (h : xs1 nL (.aconst_null) pc l st = some (pc2, l2, st2)) (k : ∀ ls2 : Array Slot, lv_has ls2 nL (xlm ad l2) → xok Lv l2 st2 → W p l0 e R s m args below meth c H locs cells slots Q (F0 m pc2 ls2 (st2.map (xc ad)))) : W p l0 e R s m args below meth c H locs cells slots Q (F0 m pc ls (st.map (xc ad))) := by
  simp only [xs1] at h
  cases h
  exact lv_null hx hb hd (k _ hl (xok_push hk (h0 _)))
theorem xs_iconst {Lv : xV → Prop} {l l2 : xL} {st st2 : List xV} {nL pc2 : Nat} (h0 : ∀ v, Lv (.inl v)) (hx : p.tables.exec = Jvm.exec) (hb : c.code = cc) {n : Int} (hd : decode cc pc = .ok (.iconst n, 1)) (hl : lv_has ls nL (xlm ad l)) (hk : xok Lv l st) (h : xs1 nL (.iconst n) pc l st = some (pc2, l2, st2)) (k : ∀ ls2 : Array Slot, lv_has ls2 nL (xlm ad l2) → xok Lv l2 st2 → W p l0 e R s m args below meth c H locs cells slots Q (F0 m pc2 ls2 (st2.map (xc ad)))) : W p l0 e R s m args below meth c H locs cells slots Q (F0 m pc ls (st.map (xc ad))) := by
  simp only [xs1] at h
  cases h
  exact lv_iconst hx hb hd rfl (k _ hl (xok_push hk (h0 _)))
theorem xs_bipush {Lv : xV → Prop} {l l2 : xL} {st st2 : List xV} {nL pc2 : Nat} (h0 : ∀ v, Lv (.inl v)) (hx : p.tables.exec = Jvm.exec) (hb : c.code = cc) {n : Int} (hd : decode cc pc = .ok (.bipush n, 2)) (hl : lv_has ls nL (xlm ad l)) (hk : xok Lv l st) (h : xs1 nL (.bipush n) pc l st = some (pc2, l2, st2)) (k : ∀ ls2 : Array Slot, lv_has ls2 nL (xlm ad l2) → xok Lv l2 st2 → W p l0 e R s m args below meth c H locs cells slots Q (F0 m pc2 ls2 (st2.map (xc ad)))) : W p l0 e R s m args below meth c H locs cells slots Q (F0 m pc ls (st.map (xc ad))) := by
  simp only [xs1] at h
  cases h
  exact lv_bipush hx hb hd rfl (k _ hl (xok_push hk (h0 _)))
theorem xs_sipush {Lv : xV → Prop} {l l2 : xL} {st st2 : List xV} {nL pc2 : Nat} (h0 : ∀ v, Lv (.inl v)) (hx : p.tables.exec = Jvm.exec) (hb : c.code = cc) {n : Int} (hd : decode cc pc = .ok (.sipush n, 3)) (hl : lv_has ls nL (xlm ad l)) (hk : xok Lv l st) (h : xs1 nL (.sipush n) pc l st = some (pc2, l2, st2)) (k : ∀ ls2 : Array Slot, lv_has ls2 nL (xlm ad l2) → xok Lv l2 st2 → W p l0 e R s m args below meth c H locs cells slots Q (F0 m pc2 ls2 (st2.map (xc ad)))) : W p l0 e R s m args below meth c H locs cells slots Q (F0 m pc ls (st.map (xc ad))) := by
  simp only [xs1] at h
  cases h
  exact lv_sipush hx hb hd rfl (k _ hl (xok_push hk (h0 _)))
theorem xs_lconst {Lv : xV → Prop} {l l2 : xL} {st st2 : List xV} {nL pc2 : Nat} (h0 : ∀ v, Lv (.inl v)) (hx : p.tables.exec = Jvm.exec) (hb : c.code = cc) {n : Fin 2} (hd : decode cc pc = .ok (.lconst n, 1)) (hl : lv_has ls nL (xlm ad l)) (hk : xok Lv l st) (h : xs1 nL (.lconst n) pc l st = some (pc2, l2, st2)) (k : ∀ ls2 : Array Slot, lv_has ls2 nL (xlm ad l2) → xok Lv l2 st2 → W p l0 e R s m args below meth c H locs cells slots Q (F0 m pc2 ls2 (st2.map (xc ad)))) : W p l0 e R s m args below meth c H locs cells slots Q (F0 m pc ls (st.map (xc ad))) := by
  simp only [xs1] at h
  cases h
  exact lv_lconst hx hb hd rfl (k _ hl (xok_push hk (h0 _)))
theorem xs_fconst0 {Lv : xV → Prop} {l l2 : xL} {st st2 : List xV} {nL pc2 : Nat} (h0 : ∀ v, Lv (.inl v)) (hx : p.tables.exec = Jvm.exec) (hb : c.code = cc) (hd : decode cc pc = .ok (.fconst 0, 1)) (hl : lv_has ls nL (xlm ad l)) (hk : xok Lv l st) (h : xs1 nL (.fconst 0) pc l st = some (pc2, l2, st2)) (k : ∀ ls2 : Array Slot, lv_has ls2 nL (xlm ad l2) → xok Lv l2 st2 → W p l0 e R s m args below meth c H locs cells slots Q (F0 m pc2 ls2 (st2.map (xc ad)))) : W p l0 e R s m args below meth c H locs cells slots Q (F0 m pc ls (st.map (xc ad))) := by
  simp only [xs1] at h
  cases h
  exact lv_fconst0 hx hb hd (k _ hl (xok_push hk (h0 _)))
theorem xs_fconst1 {Lv : xV → Prop} {l l2 : xL} {st st2 : List xV} {nL pc2 : Nat} (h0 : ∀ v, Lv (.inl v)) (hx : p.tables.exec = Jvm.exec) (hb : c.code = cc) (hd : decode cc pc = .ok (.fconst 1, 1)) (hl : lv_has ls nL (xlm ad l)) (hk : xok Lv l st) (h : xs1 nL (.fconst 1) pc l st = some (pc2, l2, st2)) (k : ∀ ls2 : Array Slot, lv_has ls2 nL (xlm ad l2) → xok Lv l2 st2 → W p l0 e R s m args below meth c H locs cells slots Q (F0 m pc2 ls2 (st2.map (xc ad)))) : W p l0 e R s m args below meth c H locs cells slots Q (F0 m pc ls (st.map (xc ad))) := by
  simp only [xs1] at h
  cases h
  exact lv_fconst1 hx hb hd (k _ hl (xok_push hk (h0 _)))
theorem xs_fconst2 {Lv : xV → Prop} {l l2 : xL} {st st2 : List xV} {nL pc2 : Nat} (h0 : ∀ v, Lv (.inl v)) (hx : p.tables.exec = Jvm.exec) (hb : c.code = cc) (hd : decode cc pc = .ok (.fconst 2, 1)) (hl : lv_has ls nL (xlm ad l)) (hk : xok Lv l st) (h : xs1 nL (.fconst 2) pc l st = some (pc2, l2, st2)) (k : ∀ ls2 : Array Slot, lv_has ls2 nL (xlm ad l2) → xok Lv l2 st2 → W p l0 e R s m args below meth c H locs cells slots Q (F0 m pc2 ls2 (st2.map (xc ad)))) : W p l0 e R s m args below meth c H locs cells slots Q (F0 m pc ls (st.map (xc ad))) := by
  simp only [xs1] at h
  cases h
  exact lv_fconst2 hx hb hd (k _ hl (xok_push hk (h0 _)))
theorem xs_dconst0 {Lv : xV → Prop} {l l2 : xL} {st st2 : List xV} {nL pc2 : Nat} (h0 : ∀ v, Lv (.inl v)) (hx : p.tables.exec = Jvm.exec) (hb : c.code = cc) (hd : decode cc pc = .ok (.dconst 0, 1)) (hl : lv_has ls nL (xlm ad l)) (hk : xok Lv l st) (h : xs1 nL (.dconst 0) pc l st = some (pc2, l2, st2)) (k : ∀ ls2 : Array Slot, lv_has ls2 nL (xlm ad l2) → xok Lv l2 st2 → W p l0 e R s m args below meth c H locs cells slots Q (F0 m pc2 ls2 (st2.map (xc ad)))) : W p l0 e R s m args below meth c H locs cells slots Q (F0 m pc ls (st.map (xc ad))) := by
  simp only [xs1] at h
  cases h
  exact lv_dconst0 hx hb hd (k _ hl (xok_push hk (h0 _)))
theorem xs_dconst1 {Lv : xV → Prop} {l l2 : xL} {st st2 : List xV} {nL pc2 : Nat} (h0 : ∀ v, Lv (.inl v)) (hx : p.tables.exec = Jvm.exec) (hb : c.code = cc) (hd : decode cc pc = .ok (.dconst 1, 1)) (hl : lv_has ls nL (xlm ad l)) (hk : xok Lv l st) (h : xs1 nL (.dconst 1) pc l st = some (pc2, l2, st2)) (k : ∀ ls2 : Array Slot, lv_has ls2 nL (xlm ad l2) → xok Lv l2 st2 → W p l0 e R s m args below meth c H locs cells slots Q (F0 m pc2 ls2 (st2.map (xc ad)))) : W p l0 e R s m args below meth c H locs cells slots Q (F0 m pc ls (st.map (xc ad))) := by
  simp only [xs1] at h
  cases h
  exact lv_dconst1 hx hb hd (k _ hl (xok_push hk (h0 _)))
theorem xs_iadd {Lv : xV → Prop} {l l2 : xL} {st st2 : List xV} {nL pc2 : Nat} (h0 : ∀ v, Lv (.inl v)) (hx : p.tables.exec = Jvm.exec) (hb : c.code = cc) (hd : decode cc pc = .ok (.iadd, 1)) (hl : lv_has ls nL (xlm ad l)) (hk : xok Lv l st) (h : xs1 nL (.iadd) pc l st = some (pc2, l2, st2)) (k : ∀ ls2 : Array Slot, lv_has ls2 nL (xlm ad l2) → xok Lv l2 st2 → W p l0 e R s m args below meth c H locs cells slots Q (F0 m pc2 ls2 (st2.map (xc ad)))) : W p l0 e R s m args below meth c H locs cells slots Q (F0 m pc ls (st.map (xc ad))) := by
  simp only [xs1] at h
  split at h
  next =>
    cases h
    exact lv_iadd hx hb hd (k _ hl (xok_push (xok_tl (xok_tl hk)) (h0 _)))
  next => cases h
theorem xs_isub {Lv : xV → Prop} {l l2 : xL} {st st2 : List xV} {nL pc2 : Nat} (h0 : ∀ v, Lv (.inl v)) (hx : p.tables.exec = Jvm.exec) (hb : c.code = cc) (hd : decode cc pc = .ok (.isub, 1)) (hl : lv_has ls nL (xlm ad l)) (hk : xok Lv l st) (h : xs1 nL (.isub) pc l st = some (pc2, l2, st2)) (k : ∀ ls2 : Array Slot, lv_has ls2 nL (xlm ad l2) → xok Lv l2 st2 → W p l0 e R s m args below meth c H locs cells slots Q (F0 m pc2 ls2 (st2.map (xc ad)))) : W p l0 e R s m args below meth c H locs cells slots Q (F0 m pc ls (st.map (xc ad))) := by
  simp only [xs1] at h
  split at h
  next =>
    cases h
    exact lv_isub hx hb hd (k _ hl (xok_push (xok_tl (xok_tl hk)) (h0 _)))
  next => cases h
theorem xs_imul {Lv : xV → Prop} {l l2 : xL} {st st2 : List xV} {nL pc2 : Nat} (h0 : ∀ v, Lv (.inl v)) (hx : p.tables.exec = Jvm.exec) (hb : c.code = cc) (hd : decode cc pc = .ok (.imul, 1)) (hl : lv_has ls nL (xlm ad l)) (hk : xok Lv l st) (h : xs1 nL (.imul) pc l st = some (pc2, l2, st2)) (k : ∀ ls2 : Array Slot, lv_has ls2 nL (xlm ad l2) → xok Lv l2 st2 → W p l0 e R s m args below meth c H locs cells slots Q (F0 m pc2 ls2 (st2.map (xc ad)))) : W p l0 e R s m args below meth c H locs cells slots Q (F0 m pc ls (st.map (xc ad))) := by
  simp only [xs1] at h
  split at h
  next =>
    cases h
    exact lv_imul hx hb hd (k _ hl (xok_push (xok_tl (xok_tl hk)) (h0 _)))
  next => cases h
theorem xs_iand {Lv : xV → Prop} {l l2 : xL} {st st2 : List xV} {nL pc2 : Nat} (h0 : ∀ v, Lv (.inl v)) (hx : p.tables.exec = Jvm.exec) (hb : c.code = cc) (hd : decode cc pc = .ok (.iand, 1)) (hl : lv_has ls nL (xlm ad l)) (hk : xok Lv l st) (h : xs1 nL (.iand) pc l st = some (pc2, l2, st2)) (k : ∀ ls2 : Array Slot, lv_has ls2 nL (xlm ad l2) → xok Lv l2 st2 → W p l0 e R s m args below meth c H locs cells slots Q (F0 m pc2 ls2 (st2.map (xc ad)))) : W p l0 e R s m args below meth c H locs cells slots Q (F0 m pc ls (st.map (xc ad))) := by
  simp only [xs1] at h
  split at h
  next =>
    cases h
    exact lv_iand hx hb hd (k _ hl (xok_push (xok_tl (xok_tl hk)) (h0 _)))
  next => cases h
theorem xs_ior {Lv : xV → Prop} {l l2 : xL} {st st2 : List xV} {nL pc2 : Nat} (h0 : ∀ v, Lv (.inl v)) (hx : p.tables.exec = Jvm.exec) (hb : c.code = cc) (hd : decode cc pc = .ok (.ior, 1)) (hl : lv_has ls nL (xlm ad l)) (hk : xok Lv l st) (h : xs1 nL (.ior) pc l st = some (pc2, l2, st2)) (k : ∀ ls2 : Array Slot, lv_has ls2 nL (xlm ad l2) → xok Lv l2 st2 → W p l0 e R s m args below meth c H locs cells slots Q (F0 m pc2 ls2 (st2.map (xc ad)))) : W p l0 e R s m args below meth c H locs cells slots Q (F0 m pc ls (st.map (xc ad))) := by
  simp only [xs1] at h
  split at h
  next =>
    cases h
    exact lv_ior hx hb hd (k _ hl (xok_push (xok_tl (xok_tl hk)) (h0 _)))
  next => cases h
theorem xs_ixor {Lv : xV → Prop} {l l2 : xL} {st st2 : List xV} {nL pc2 : Nat} (h0 : ∀ v, Lv (.inl v)) (hx : p.tables.exec = Jvm.exec) (hb : c.code = cc) (hd : decode cc pc = .ok (.ixor, 1)) (hl : lv_has ls nL (xlm ad l)) (hk : xok Lv l st) (h : xs1 nL (.ixor) pc l st = some (pc2, l2, st2)) (k : ∀ ls2 : Array Slot, lv_has ls2 nL (xlm ad l2) → xok Lv l2 st2 → W p l0 e R s m args below meth c H locs cells slots Q (F0 m pc2 ls2 (st2.map (xc ad)))) : W p l0 e R s m args below meth c H locs cells slots Q (F0 m pc ls (st.map (xc ad))) := by
  simp only [xs1] at h
  split at h
  next =>
    cases h
    exact lv_ixor hx hb hd (k _ hl (xok_push (xok_tl (xok_tl hk)) (h0 _)))
  next => cases h
theorem xs_ishl {Lv : xV → Prop} {l l2 : xL} {st st2 : List xV} {nL pc2 : Nat} (h0 : ∀ v, Lv (.inl v)) (hx : p.tables.exec = Jvm.exec) (hb : c.code = cc) (hd : decode cc pc = .ok (.ishl, 1)) (hl : lv_has ls nL (xlm ad l)) (hk : xok Lv l st) (h : xs1 nL (.ishl) pc l st = some (pc2, l2, st2)) (k : ∀ ls2 : Array Slot, lv_has ls2 nL (xlm ad l2) → xok Lv l2 st2 → W p l0 e R s m args below meth c H locs cells slots Q (F0 m pc2 ls2 (st2.map (xc ad)))) : W p l0 e R s m args below meth c H locs cells slots Q (F0 m pc ls (st.map (xc ad))) := by
  simp only [xs1] at h
  split at h
  next =>
    cases h
    exact lv_ishl hx hb hd (k _ hl (xok_push (xok_tl (xok_tl hk)) (h0 _)))
  next => cases h
theorem xs_ishr {Lv : xV → Prop} {l l2 : xL} {st st2 : List xV} {nL pc2 : Nat} (h0 : ∀ v, Lv (.inl v)) (hx : p.tables.exec = Jvm.exec) (hb : c.code = cc) (hd : decode cc pc = .ok (.ishr, 1)) (hl : lv_has ls nL (xlm ad l)) (hk : xok Lv l st) (h : xs1 nL (.ishr) pc l st = some (pc2, l2, st2)) (k : ∀ ls2 : Array Slot, lv_has ls2 nL (xlm ad l2) → xok Lv l2 st2 → W p l0 e R s m args below meth c H locs cells slots Q (F0 m pc2 ls2 (st2.map (xc ad)))) : W p l0 e R s m args below meth c H locs cells slots Q (F0 m pc ls (st.map (xc ad))) := by
  simp only [xs1] at h
  split at h
  next =>
    cases h
    exact lv_ishr hx hb hd (k _ hl (xok_push (xok_tl (xok_tl hk)) (h0 _)))
  next => cases h
theorem xs_iushr {Lv : xV → Prop} {l l2 : xL} {st st2 : List xV} {nL pc2 : Nat} (h0 : ∀ v, Lv (.inl v)) (hx : p.tables.exec = Jvm.exec) (hb : c.code = cc) (hd : decode cc pc = .ok (.iushr, 1)) (hl : lv_has ls nL (xlm ad l)) (hk : xok Lv l st) (h : xs1 nL (.iushr) pc l st = some (pc2, l2, st2)) (k : ∀ ls2 : Array Slot, lv_has ls2 nL (xlm ad l2) → xok Lv l2 st2 → W p l0 e R s m args below meth c H locs cells slots Q (F0 m pc2 ls2 (st2.map (xc ad)))) : W p l0 e R s m args below meth c H locs cells slots Q (F0 m pc ls (st.map (xc ad))) := by
  simp only [xs1] at h
  split at h
  next =>
    cases h
    exact lv_iushr hx hb hd rfl (k _ hl (xok_push (xok_tl (xok_tl hk)) (h0 _)))
  next => cases h
theorem xs_idiv {Lv : xV → Prop} {l l2 : xL} {st st2 : List xV} {nL pc2 : Nat} (h0 : ∀ v, Lv (.inl v)) (hx : p.tables.exec = Jvm.exec) (hb : c.code = cc) (hd : decode cc pc = .ok (.idiv, 1)) (hl : lv_has ls nL (xlm ad l)) (hk : xok Lv l st) (h : xs1 nL (.idiv) pc l st = some (pc2, l2, st2)) (k : ∀ ls2 : Array Slot, lv_has ls2 nL (xlm ad l2) → xok Lv l2 st2 → W p l0 e R s m args below meth c H locs cells slots Q (F0 m pc2 ls2 (st2.map (xc ad)))) : W p l0 e R s m args below meth c H locs cells slots Q (F0 m pc ls (st.map (xc ad))) := by
  simp only [xs1] at h
  split at h
  next =>
    split at h
    next hg =>
      cases h
      exact lv_idiv hx hb hd hg (k _ hl (xok_push (xok_tl (xok_tl hk)) (h0 _)))
    next => cases h
  next => cases h
theorem xs_irem {Lv : xV → Prop} {l l2 : xL} {st st2 : List xV} {nL pc2 : Nat} (h0 : ∀ v, Lv (.inl v)) (hx : p.tables.exec = Jvm.exec) (hb : c.code = cc) (hd : decode cc pc = .ok (.irem, 1)) (hl : lv_has ls nL (xlm ad l)) (hk : xok Lv l st) (h : xs1 nL (.irem) pc l st = some (pc2, l2, st2)) (k : ∀ ls2 : Array Slot, lv_has ls2 nL (xlm ad l2) → xok Lv l2 st2 → W p l0 e R s m args below meth c H locs cells slots Q (F0 m pc2 ls2 (st2.map (xc ad)))) : W p l0 e R s m args below meth c H locs cells slots Q (F0 m pc ls (st.map (xc ad))) := by
  simp only [xs1] at h
  split at h
  next =>
    split at h
    next hg =>
      cases h
      exact lv_irem hx hb hd hg (k _ hl (xok_push (xok_tl (xok_tl hk)) (h0 _)))
    next => cases h
  next => cases h
theorem xs_ineg {Lv : xV → Prop} {l l2 : xL} {st st2 : List xV} {nL pc2 : Nat} (h0 : ∀ v, Lv (.inl v)) (hx : p.tables.exec = Jvm.exec) (hb : c.code = cc) (hd : decode cc pc = .ok (.ineg, 1)) (hl : lv_has ls nL (xlm ad l)) (hk : xok Lv l st) (h : xs1 nL (.ineg) pc l st = some (pc2, l2, st2)) (k : ∀ ls2 : Array Slot, lv_has ls2 nL (xlm ad l2) → xok Lv l2 st2 → W p l0 e R s m args below meth c H locs cells slots Q (F0 m pc2 ls2 (st2.map (xc ad)))) : W p l0 e R s m args below meth c H locs cells slots Q (F0 m pc ls (st.map (xc ad))) := by
  simp only [xs1] at h
  split at h
  next =>
    cases h
    exact lv_ineg hx hb hd (k _ hl (xok_push (xok_tl hk) (h0 _)))
  next => cases h
theorem xs_ladd {Lv : xV → Prop} {l l2 : xL} {st st2 : List xV} {nL pc2 : Nat} (h0 : ∀ v, Lv (.inl v)) (hx : p.tables.exec = Jvm.exec) (hb : c.code = cc) (hd : decode cc pc = .ok (.ladd, 1)) (hl : lv_has ls nL (xlm ad l)) (hk : xok Lv l st) (h : xs1 nL (.ladd) pc l st = some (pc2, l2, st2)) (k : ∀ ls2 : Array Slot, lv_has ls2 nL (xlm ad l2) → xok Lv l2 st2 → W p l0 e R s m args below meth c H locs cells slots Q (F0 m pc2 ls2 (st2.map (xc ad)))) : W p l0 e R s m args below meth c H locs cells slots Q (F0 m pc ls (st.map (xc ad))) := by
  simp only [xs1] at h
  split at h
  next =>
    cases h
    exact lv_ladd hx hb hd (k _ hl (xok_push (xok_tl (xok_tl hk)) (h0 _)))
  next => cases h
theorem xs_lsub {Lv : xV → Prop} {l l2 : xL} {st st2 : List xV} {nL pc2 : Nat} (h0 : ∀ v, Lv (.inl v)) (hx : p.tables.exec = Jvm.exec) (hb : c.code = cc) (hd : decode cc pc = .ok (.lsub, 1)) (hl : lv_has ls nL (xlm ad l)) (hk : xok Lv l st) (h : xs1 nL (.lsub) pc l st = some (pc2, l2, st2)) (k : ∀ ls2 : Array Slot, lv_has ls2 nL (xlm ad l2) → xok Lv l2 st2 → W p l0 e R s m args below meth c H locs cells slots Q (F0 m pc2 ls2 (st2.map (xc ad)))) : W p l0 e R s m args below meth c H locs cells slots Q (F0 m pc ls (st.map (xc ad))) := by
  simp only [xs1] at h
  split at h
  next =>
    cases h
    exact lv_lsub hx hb hd (k _ hl (xok_push (xok_tl (xok_tl hk)) (h0 _)))
  next => cases h
theorem xs_lmul {Lv : xV → Prop} {l l2 : xL} {st st2 : List xV} {nL pc2 : Nat} (h0 : ∀ v, Lv (.inl v)) (hx : p.tables.exec = Jvm.exec) (hb : c.code = cc) (hd : decode cc pc = .ok (.lmul, 1)) (hl : lv_has ls nL (xlm ad l)) (hk : xok Lv l st) (h : xs1 nL (.lmul) pc l st = some (pc2, l2, st2)) (k : ∀ ls2 : Array Slot, lv_has ls2 nL (xlm ad l2) → xok Lv l2 st2 → W p l0 e R s m args below meth c H locs cells slots Q (F0 m pc2 ls2 (st2.map (xc ad)))) : W p l0 e R s m args below meth c H locs cells slots Q (F0 m pc ls (st.map (xc ad))) := by
  simp only [xs1] at h
  split at h
  next =>
    cases h
    exact lv_lmul hx hb hd (k _ hl (xok_push (xok_tl (xok_tl hk)) (h0 _)))
  next => cases h
theorem xs_land {Lv : xV → Prop} {l l2 : xL} {st st2 : List xV} {nL pc2 : Nat} (h0 : ∀ v, Lv (.inl v)) (hx : p.tables.exec = Jvm.exec) (hb : c.code = cc) (hd : decode cc pc = .ok (.land, 1)) (hl : lv_has ls nL (xlm ad l)) (hk : xok Lv l st) (h : xs1 nL (.land) pc l st = some (pc2, l2, st2)) (k : ∀ ls2 : Array Slot, lv_has ls2 nL (xlm ad l2) → xok Lv l2 st2 → W p l0 e R s m args below meth c H locs cells slots Q (F0 m pc2 ls2 (st2.map (xc ad)))) : W p l0 e R s m args below meth c H locs cells slots Q (F0 m pc ls (st.map (xc ad))) := by
  simp only [xs1] at h
  split at h
  next =>
    cases h
    exact lv_land hx hb hd (k _ hl (xok_push (xok_tl (xok_tl hk)) (h0 _)))
  next => cases h
theorem xs_lor {Lv : xV → Prop} {l l2 : xL} {st st2 : List xV} {nL pc2 : Nat} (h0 : ∀ v, Lv (.inl v)) (hx : p.tables.exec = Jvm.exec) (hb : c.code = cc) (hd : decode cc pc = .ok (.lor, 1)) (hl : lv_has ls nL (xlm ad l)) (hk : xok Lv l st) (h : xs1 nL (.lor) pc l st = some (pc2, l2, st2)) (k : ∀ ls2 : Array Slot, lv_has ls2 nL (xlm ad l2) → xok Lv l2 st2 → W p l0 e R s m args below meth c H locs cells slots Q (F0 m pc2 ls2 (st2.map (xc ad)))) : W p l0 e R s m args below meth c H locs cells slots Q (F0 m pc ls (st.map (xc ad))) := by
  simp only [xs1] at h
  split at h
  next =>
    cases h
    exact lv_lor hx hb hd (k _ hl (xok_push (xok_tl (xok_tl hk)) (h0 _)))
  next => cases h
theorem xs_lxor {Lv : xV → Prop} {l l2 : xL} {st st2 : List xV} {nL pc2 : Nat} (h0 : ∀ v, Lv (.inl v)) (hx : p.tables.exec = Jvm.exec) (hb : c.code = cc) (hd : decode cc pc = .ok (.lxor, 1)) (hl : lv_has ls nL (xlm ad l)) (hk : xok Lv l st) (h : xs1 nL (.lxor) pc l st = some (pc2, l2, st2)) (k : ∀ ls2 : Array Slot, lv_has ls2 nL (xlm ad l2) → xok Lv l2 st2 → W p l0 e R s m args below meth c H locs cells slots Q (F0 m pc2 ls2 (st2.map (xc ad)))) : W p l0 e R s m args below meth c H locs cells slots Q (F0 m pc ls (st.map (xc ad))) := by
  simp only [xs1] at h
  split at h
  next =>
    cases h
    exact lv_lxor hx hb hd (k _ hl (xok_push (xok_tl (xok_tl hk)) (h0 _)))
  next => cases h
theorem xs_ldiv {Lv : xV → Prop} {l l2 : xL} {st st2 : List xV} {nL pc2 : Nat} (h0 : ∀ v, Lv (.inl v)) (hx : p.tables.exec = Jvm.exec) (hb : c.code = cc) (hd : decode cc pc = .ok (.ldiv, 1)) (hl : lv_has ls nL (xlm ad l)) (hk : xok Lv l st) (h : xs1 nL (.ldiv) pc l st = some (pc2, l2, st2)) (k : ∀ ls2 : Array Slot, lv_has ls2 nL (xlm ad l2) → xok Lv l2 st2 → W p l0 e R s m args below meth c H locs cells slots Q (F0 m pc2 ls2 (st2.map (xc ad)))) : W p l0 e R s m args below meth c H locs cells slots Q (F0 m pc ls (st.map (xc ad))) := by
  simp only [xs1] at h
  split at h
  next =>
    split at h
    next hg =>
      cases h
      exact lv_ldiv hx hb hd hg (k _ hl (xok_push (xok_tl (xok_tl hk)) (h0 _)))
    next => cases h
  next => cases h
theorem xs_lrem {Lv : xV → Prop} {l l2 : xL} {st st2 : List xV} {nL pc2 : Nat} (h0 : ∀ v, Lv (.inl v)) (hx : p.tables.exec = Jvm.exec) (hb : c.code = cc) (hd : decode cc pc = .ok (.lrem, 1)) (hl : lv_has ls nL (xlm ad l)) (hk : xok Lv l st) (h : xs1 nL (.lrem) pc l st = some (pc2, l2, st2)) (k : ∀ ls2 : Array Slot, lv_has ls2 nL (xlm ad l2) → xok Lv l2 st2 → W p l0 e R s m args below meth c H locs cells slots Q (F0 m pc2 ls2 (st2.map (xc ad)))) : W p l0 e R s m args below meth c H locs cells slots Q (F0 m pc ls (st.map (xc ad))) := by
  simp only [xs1] at h
  split at h
  next =>
    split at h
    next hg =>
      cases h
      exact lv_lrem hx hb hd hg (k _ hl (xok_push (xok_tl (xok_tl hk)) (h0 _)))
    next => cases h
  next => cases h
theorem xs_lneg {Lv : xV → Prop} {l l2 : xL} {st st2 : List xV} {nL pc2 : Nat} (h0 : ∀ v, Lv (.inl v)) (hx : p.tables.exec = Jvm.exec) (hb : c.code = cc) (hd : decode cc pc = .ok (.lneg, 1)) (hl : lv_has ls nL (xlm ad l)) (hk : xok Lv l st) (h : xs1 nL (.lneg) pc l st = some (pc2, l2, st2)) (k : ∀ ls2 : Array Slot, lv_has ls2 nL (xlm ad l2) → xok Lv l2 st2 → W p l0 e R s m args below meth c H locs cells slots Q (F0 m pc2 ls2 (st2.map (xc ad)))) : W p l0 e R s m args below meth c H locs cells slots Q (F0 m pc ls (st.map (xc ad))) := by
  simp only [xs1] at h
  split at h
  next =>
    cases h
    exact lv_lneg hx hb hd (k _ hl (xok_push (xok_tl hk) (h0 _)))
  next => cases h
theorem xs_lcmp {Lv : xV → Prop} {l l2 : xL} {st st2 : List xV} {nL pc2 : Nat} (h0 : ∀ v, Lv (.inl v)) (hx : p.tables.exec = Jvm.exec) (hb : c.code = cc) (hd : decode cc pc = .ok (.lcmp, 1)) (hl : lv_has ls nL (xlm ad l)) (hk : xok Lv l st) (h : xs1 nL (.lcmp) pc l st = some (pc2, l2, st2)) (k : ∀ ls2 : Array Slot, lv_has ls2 nL (xlm ad l2) → xok Lv l2 st2 → W p l0 e R s m args below meth c H locs cells slots Q (F0 m pc2 ls2 (st2.map (xc ad)))) : W p l0 e R s m args below meth c H locs cells slots Q (F0 m pc ls (st.map (xc ad))) := by
  simp only [xs1] at h
  split at h
  next =>
    cases h
    exact W.lcmp hx hb hd (k _ hl (xok_push (xok_tl (xok_tl hk)) (h0 _)))
  next => cases h
theorem xs_lshl {Lv : xV → Prop} {l l2 : xL} {st st2 : List xV} {nL pc2 : Nat} (h0 : ∀ v, Lv (.inl v)) (hx : p.tables.exec = Jvm.exec) (hb : c.code = cc) (hd : decode cc pc = .ok (.lshl, 1)) (hl : lv_has ls nL (xlm ad l)) (hk : xok Lv l st) (h : xs1 nL (.lshl) pc l st = some (pc2, l2, st2)) (k : ∀ ls2 : Array Slot, lv_has ls2 nL (xlm ad l2) → xok Lv l2 st2 → W p l0 e R s m args below meth c H locs cells slots Q (F0 m pc2 ls2 (st2.map (xc ad)))) : W p l0 e R s m args below meth c H locs cells slots Q (F0 m pc ls (st.map (xc ad))) := by
  simp only [xs1] at h
  split at h
  next =>
    cases h
    exact lv_lshl hx hb hd rfl (k _ hl (xok_push (xok_tl (xok_tl hk)) (h0 _)))
  next => cases h
theorem xs_lshr {Lv : xV → Prop} {l l2 : xL} {st st2 : List xV} {nL pc2 : Nat} (h0 : ∀ v, Lv (.inl v)) (hx : p.tables.exec = Jvm.exec) (hb : c.code = cc) (hd : decode cc pc = .ok (.lshr, 1)) (hl : lv_has ls nL (xlm ad l)) (hk : xok Lv l st) (h : xs1 nL (.lshr) pc l st = some (pc2, l2, st2)) (k : ∀ ls2 : Array Slot, lv_has ls2 nL (xlm ad l2) → xok Lv l2 st2 → W p l0 e R s m args below meth c H locs cells slots Q (F0 m pc2 ls2 (st2.map (xc ad)))) : W p l0 e R s m args below meth c H locs cells slots Q (F0 m pc ls (st.map (xc ad))) := by
  simp only [xs1] at h
  split at h
  next =>
    cases h
    exact lv_lshr hx hb hd rfl (k _ hl (xok_push (xok_tl (xok_tl hk)) (h0 _)))
  next => cases h
theorem xs_lushr {Lv : xV → Prop} {l l2 : xL} {st st2 : List xV} {nL pc2 : Nat} (h0 : ∀ v, Lv (.inl v)) (hx : p.tables.exec = Jvm.exec) (hb : c.code = cc) (hd : decode cc pc = .ok (.lushr, 1)) (hl : lv_has ls nL (xlm ad l)) (hk : xok Lv l st) (h : xs1 nL (.lushr) pc l st = some (pc2, l2, st2)) (k : ∀ ls2 : Array Slot, lv_has ls2 nL (xlm ad l2) → xok Lv l2 st2 → W p l0 e R s m args below meth c H locs cells slots Q (F0 m pc2 ls2 (st2.map (xc ad)))) : W p l0 e R s m args below meth c H locs cells slots Q (F0 m pc ls (st.map (xc ad))) := by
  simp only [xs1] at h
  split at h
  next =>
    cases h
    exact lv_lushr hx hb hd rfl (k _ hl (xok_push (xok_tl (xok_tl hk)) (h0 _)))
  next => cases h
theorem xs_i2l {Lv : xV → Prop} {l l2 : xL} {st st2 : List xV} {nL pc2 : Nat} (h0 : ∀ v, Lv (.inl v)) (hx : p.tables.exec = Jvm.exec) (hb : c.code = cc) (hd : decode cc pc = .ok (.i2l, 1)) (hl : lv_has ls nL (xlm ad l)) (hk : xok Lv l st) (h : xs1 nL (.i2l) pc l st = some (pc2, l2, st2)) (k : ∀ ls2 : Array Slot, lv_has ls2 nL (xlm ad l2) → xok Lv l2 st2 → W p l0 e R s m args below meth c H locs cells slots Q (F0 m pc2 ls2 (st2.map (xc ad)))) : W p l0 e R s m args below meth c H locs cells slots Q (F0 m pc ls (st.map (xc ad))) := by
  simp only [xs1] at h
  split at h
  next =>
    cases h
    exact lv_i2l hx hb hd rfl (k _ hl (xok_push (xok_tl hk) (h0 _)))
  next => cases h
theorem xs_l2i {Lv : xV → Prop} {l l2 : xL} {st st2 : List xV} {nL pc2 : Nat} (h0 : ∀ v, Lv (.inl v)) (hx : p.tables.exec = Jvm.exec) (hb : c.code = cc) (hd : decode cc pc = .ok (.l2i, 1)) (hl : lv_has ls nL (xlm ad l)) (hk : xok Lv l st) (h : xs1 nL (.l2i) pc l st = some (pc2, l2, st2)) (k : ∀ ls2 : Array Slot, lv_has ls2 nL (xlm ad l2) → xok Lv l2 st2 → W p l0 e R s m args below meth c H locs cells slots Q (F0 m pc2 ls2 (st2.map (xc ad)))) : W p l0 e R s m args below meth c H locs cells slots Q (F0 m pc ls (st.map (xc ad))) := by
  simp only [xs1] at h
  split at h
  next =>
    cases h
    exact lv_l2i hx hb hd rfl (k _ hl (xok_push (xok_tl hk) (h0 _)))
  next => cases h
theorem xs_i2b {Lv : xV → Prop} {l l2 : xL} {st st2 : List xV} {nL pc2 : Nat} (h0 : ∀ v, Lv (.inl v)) (hx : p.tables.exec = Jvm.exec) (hb : c.code = cc) (hd : decode cc pc = .ok (.i2b, 1)) (hl : lv_has ls nL (xlm ad l)) (hk : xok Lv l st) (h : xs1 nL (.i2b) pc l st = some (pc2, l2, st2)) (k : ∀ ls2 : Array Slot, lv_has ls2 nL (xlm ad l2) → xok Lv l2 st2 → W p l0 e R s m args below meth c H locs cells slots Q (F0 m pc2 ls2 (st2.map (xc ad)))) : W p l0 e R s m args below meth c H locs cells slots Q (F0 m pc ls (st.map (xc ad))) := by
  simp only [xs1] at h
  split at h
  next =>
    cases h
    exact lv_i2b hx hb hd rfl (k _ hl (xok_push (xok_tl hk) (h0 _)))
  next => cases h
theorem xs_i2s {Lv : xV → Prop} {l l2 : xL} {st st2 : List xV} {nL pc2 : Nat} (h0 : ∀ v, Lv (.inl v)) (hx : p.tables.exec = Jvm.exec) (hb : c.code = cc) (hd : decode cc pc = .ok (.i2s, 1)) (hl : lv_has ls nL (xlm ad l)) (hk : xok Lv l st) (h : xs1 nL (.i2s) pc l st = some (pc2, l2, st2)) (k : ∀ ls2 : Array Slot, lv_has ls2 nL (xlm ad l2) → xok Lv l2 st2 → W p l0 e R s m args below meth c H locs cells slots Q (F0 m pc2 ls2 (st2.map (xc ad)))) : W p l0 e R s m args below meth c H locs cells slots Q (F0 m pc ls (st.map (xc ad))) := by
  simp only [xs1] at h
  split at h
  next =>
    cases h
    exact lv_i2s hx hb hd rfl (k _ hl (xok_push (xok_tl hk) (h0 _)))
  next => cases h
theorem xs_i2c {Lv : xV → Prop} {l l2 : xL} {st st2 : List xV} {nL pc2 : Nat} (h0 : ∀ v, Lv (.inl v)) (hx : p.tables.exec = Jvm.exec) (hb : c.code = cc) (hd : decode cc pc = .ok (.i2c, 1)) (hl : lv_has ls nL (xlm ad l)) (hk : xok Lv l st) (h : xs1 nL (.i2c) pc l st = some (pc2, l2, st2)) (k : ∀ ls2 : Array Slot, lv_has ls2 nL (xlm ad l2) → xok Lv l2 st2 → W p l0 e R s m args below meth c H locs cells slots Q (F0 m pc2 ls2 (st2.map (xc ad)))) : W p l0 e R s m args below meth c H locs cells slots Q (F0 m pc ls (st.map (xc ad))) := by
  simp only [xs1] at h
  split at h
  next =>
    cases h
    exact lv_i2c hx hb hd rfl (k _ hl (xok_push (xok_tl hk) (h0 _)))
  next => cases h
theorem xs_fadd {Lv : xV → Prop} {l l2 : xL} {st st2 : List xV} {nL pc2 : Nat} (h0 : ∀ v, Lv (.inl v)) (hx : p.tables.exec = Jvm.exec) (hb : c.code = cc) (hd : decode cc pc = .ok (.fadd, 1)) (hl : lv_has ls nL (xlm ad l)) (hk : xok Lv l st) (h : xs1 nL (.fadd) pc l st = some (pc2, l2, st2)) (k : ∀ ls2 : Array Slot, lv_has ls2 nL (xlm ad l2) → xok Lv l2 st2 → W p l0 e R s m args below meth c H locs cells slots Q (F0 m pc2 ls2 (st2.map (xc ad)))) : W p l0 e R s m args below meth c H locs cells slots Q (F0 m pc ls (st.map (xc ad))) := by
  simp only [xs1] at h
  split at h
  next =>
    split at h
    next hg =>
      cases h
      exact lv_fadd hx hb hd hg (k _ hl (xok_push (xok_tl (xok_tl hk)) (h0 _)))
    next => cases h
  next => cases h
theorem xs_fsub {Lv : xV → Prop} {l l2 : xL} {st st2 : List xV} {nL pc2 : Nat} (h0 : ∀ v, Lv (.inl v)) (hx : p.tables.exec = Jvm.exec) (hb : c.code = cc) (hd : decode cc pc = .ok (.fsub, 1)) (hl : lv_has ls nL (xlm ad l)) (hk : xok Lv l st) (h : xs1 nL (.fsub) pc l st = some (pc2, l2, st2)) (k : ∀ ls2 : Array Slot, lv_has ls2 nL (xlm ad l2) → xok Lv l2 st2 → W p l0 e R s m args below meth c H locs cells slots Q (F0 m pc2 ls2 (st2.map (xc ad)))) : W p l0 e R s m args below meth c H locs cells slots Q (F0 m pc ls (st.map (xc ad))) := by
  simp only [xs1] at h
  split at h
  next =>
    split at h
    next hg =>
      cases h
      exact lv_fsub hx hb hd hg (k _ hl (xok_push (xok_tl (xok_tl hk)) (h0 _)))
    next => cases h
  next => cases h
theorem xs_fmul {Lv : xV → Prop} {l l2 : xL} {st st2 : List xV} {nL pc2 : Nat} (h0 : ∀ v, Lv (.inl v)) (hx : p.tables.exec = Jvm.exec) (hb : c.code = cc) (hd : decode cc pc = .ok (.fmul, 1)) (hl : lv_has ls nL (xlm ad l)) (hk : xok Lv l st) (h : xs1 nL (.fmul) pc l st = some (pc2, l2, st2)) (k : ∀ ls2 : Array Slot, lv_has ls2 nL (xlm ad l2) → xok Lv l2 st2 → W p l0 e R s m args below meth c H locs cells slots Q (F0 m pc2 ls2 (st2.map (xc ad)))) : W p l0 e R s m args below meth c H locs cells slots Q (F0 m pc ls (st.map (xc ad))) := by
  simp only [xs1] at h
  split at h
  next =>
    split at h
    next hg =>
      cases h
      exact lv_fmul hx hb hd hg (k _ hl (xok_push (xok_tl (xok_tl hk)) (h0 _)))
    next => cases h
  next => cases h
theorem xs_fdiv {Lv : xV → Prop} {l l2 : xL} {st st2 : List xV} {nL pc2 : Nat} (h0 : ∀ v, Lv (.inl v)) (hx : p.tables.exec = Jvm.exec) (hb : c.code = cc) (hd : decode cc pc = .ok (.fdiv, 1)) (hl : lv_has ls nL (xlm ad l)) (hk : xok Lv l st) (h : xs1 nL (.fdiv) pc l st = some (pc2, l2, st2)) (k : ∀ ls2 : Array Slot, lv_has ls2 nL (xlm ad l2) → xok Lv l2 st2 → W p l0 e R s m args below meth c H locs cells slots Q (F0 m pc2 ls2 (st2.map (xc ad)))) : W p l0 e R s m args below meth c H locs cells slots Q (F0 m pc ls (st.map (xc ad))) := by
  simp only [xs1] at h
  split at h
  next =>
    split at h
    next hg =>
      cases h
      exact lv_fdiv hx hb hd hg (k _ hl (xok_push (xok_tl (xok_tl hk)) (h0 _)))
    next => cases h
  next => cases h
theorem xs_frem {Lv : xV → Prop} {l l2 : xL} {st st2 : List xV} {nL pc2 : Nat} (h0 : ∀ v, Lv (.inl v)) (hx : p.tables.exec = Jvm.exec) (hb : c.code = cc) (hd : decode cc pc = .ok (.frem, 1)) (hl : lv_has ls nL (xlm ad l)) (hk : xok Lv l st) (h : xs1 nL (.frem) pc l st = some (pc2, l2, st2)) (k : ∀ ls2 : Array Slot, lv_has ls2 nL (xlm ad l2) → xok Lv l2 st2 → W p l0 e R s m args below meth c H locs cells slots Q (F0 m pc2 ls2 (st2.map (xc ad)))) : W p l0 e R s m args below meth c H locs cells slots Q (F0 m pc ls (st.map (xc ad))) := by
  simp only [xs1] at h
  split at h
  next =>
    split at h
    next hg =>
      cases h
      exact lv_frem hx hb hd hg (k _ hl (xok_push (xok_tl (xok_tl hk)) (h0 _)))
    next => cases h
  next => cases h
theorem xs_dadd {Lv : xV → Prop} {l l2 : xL} {st st2 : List xV} {nL pc2 : Nat} (h0 : ∀ v, Lv (.inl v)) (hx : p.tables.exec = Jvm.exec) (hb : c.code = cc) (hd : decode cc pc = .ok (.dadd, 1)) (hl : lv_has ls nL (xlm ad l)) (hk : xok Lv l st) (h : xs1 nL (.dadd) pc l st = some (pc2, l2, st2)) (k : ∀ ls2 : Array Slot, lv_has ls2 nL (xlm ad l2) → xok Lv l2 st2 → W p l0 e R s m args below meth c H locs cells slots Q (F0 m pc2 ls2 (st2.map (xc ad)))) : W p l0 e R s m args below meth c H locs cells slots Q (F0 m pc ls (st.map (xc ad))) := by
  simp only [xs1] at h
  split at h
  next =>
    split at h
    next hg =>
      cases h
      exact lv_dadd hx hb hd hg (k _ hl (xok_push (xok_tl (xok_tl hk)) (h0 _)))
    next => cases h
  next => cases h
theorem xs_dsub {Lv : xV → Prop} {l l2 : xL} {st st2 : List xV} {nL pc2 : Nat} (h0 : ∀ v, Lv (.inl v)) (hx : p.tables.exec = Jvm.exec) (hb : c.code = cc) (hd : decode cc pc = .ok (.dsub, 1)) (hl : lv_has ls nL (xlm ad l)) (hk : xok Lv l st) (h : xs1 nL (.dsub) pc l st = some (pc2, l2, st2)) (k : ∀ ls2 : Array Slot, lv_has ls2 nL (xlm ad l2) → xok Lv l2 st2 → W p l0 e R s m args below meth c H locs cells slots Q (F0 m pc2 ls2 (st2.map (xc ad)))) : W p l0 e R s m args below meth c H locs cells slots Q (F0 m pc ls (st.map (xc ad))) := by
  simp only [xs1] at h
  split at h
  next =>
    split at h
    next hg =>
      cases h
      exact lv_dsub hx hb hd hg (k _ hl (xok_push (xok_tl (xok_tl hk)) (h0 _)))
    next => cases h
  next => cases h
theorem xs_dmul {Lv : xV → Prop} {l l2 : xL} {st st2 : List xV} {nL pc2 : Nat} (h0 : ∀ v, Lv (.inl v)) (hx : p.tables.exec = Jvm.exec) (hb : c.code = cc) (hd : decode cc pc = .ok (.dmul, 1)) (hl : lv_has ls nL (xlm ad l)) (hk : xok Lv l st) (h : xs1 nL (.dmul) pc l st = some (pc2, l2, st2)) (k : ∀ ls2 : Array Slot, lv_has ls2 nL (xlm ad l2) → xok Lv l2 st2 → W p l0 e R s m args below meth c H locs cells slots Q (F0 m pc2 ls2 (st2.map (xc ad)))) : W p l0 e R s m args below meth c H locs cells slots Q (F0 m pc ls (st.map (xc ad))) := by
  simp only [xs1] at h
  split at h
  next =>
    split at h
    next hg =>
      cases h
      exact lv_dmul hx hb hd hg (k _ hl (xok_push (xok_tl (xok_tl hk)) (h0 _)))
    next => cases h
  next => cases h
theorem xs_ddiv {Lv : xV → Prop} {l l2 : xL} {st st2 : List xV} {nL pc2 : Nat} (h0 : ∀ v, Lv (.inl v)) (hx : p.tables.exec = Jvm.exec) (hb : c.code = cc) (hd : decode cc pc = .ok (.ddiv, 1)) (hl : lv_has ls nL (xlm ad l)) (hk : xok Lv l st) (h : xs1 nL (.ddiv) pc l st = some (pc2, l2, st2)) (k : ∀ ls2 : Array Slot, lv_has ls2 nL (xlm ad l2) → xok Lv l2 st2 → W p l0 e R s m args below meth c H locs cells slots Q (F0 m pc2 ls2 (st2.map (xc ad)))) : W p l0 e R s m args below meth c H locs cells slots Q (F0 m pc ls (st.map (xc ad))) := by
  simp only [xs1] at h
  split at h
  next =>
    split at h
    next hg =>
      cases h
      exact lv_ddiv hx hb hd hg (k _ hl (xok_push (xok_tl (xok_tl hk)) (h0 _)))
    next => cases h
  next => cases h
theorem xs_drem {Lv : xV → Prop} {l l2 : xL} {st st2 : List xV} {nL pc2 : Nat} (h0 : ∀ v, Lv (.inl v)) (hx : p.tables.exec = Jvm.exec) (hb : c.code = cc) (hd : decode cc pc = .ok (.drem, 1)) (hl : lv_has ls nL (xlm ad l)) (hk : xok Lv l st) (h : xs1 nL (.drem) pc l st = some (pc2, l2, st2)) (k : ∀ ls2 : Array Slot, lv_has ls2 nL (xlm ad l2) → xok Lv l2 st2 → W p l0 e R s m args below meth c H locs cells slots Q (F0 m pc2 ls2 (st2.map (xc ad)))) : W p l0 e R s m args below meth c H locs cells slots Q (F0 m pc ls (st.map (xc ad))) := by
  simp only [xs1] at h
  split at h
  next =>
    split at h
    next hg =>
      cases h
      exact lv_drem hx hb hd hg (k _ hl (xok_push (xok_tl (xok_tl hk)) (h0 _)))
    next => cases h
  next => cases h
theorem xs_fneg {Lv : xV → Prop} {l l2 : xL} {st st2 : List xV} {nL pc2 : Nat} (h0 : ∀ v, Lv (.inl v)) (hx : p.tables.exec = Jvm.exec) (hb : c.code = cc) (hd : decode cc pc = .ok (.fneg, 1)) (hl : lv_has ls nL (xlm ad l)) (hk : xok Lv l st) (h : xs1 nL (.fneg) pc l st = some (pc2, l2, st2)) (k : ∀ ls2 : Array Slot, lv_has ls2 nL (xlm ad l2) → xok Lv l2 st2 → W p l0 e R s m args below meth c H locs cells slots Q (F0 m pc2 ls2 (st2.map (xc ad)))) : W p l0 e R s m args below meth c H locs cells slots Q (F0 m pc ls (st.map (xc ad))) := by
  simp only [xs1] at h
  split at h
  next =>
    cases h
    exact lv_fneg hx hb hd (k _ hl (xok_push (xok_tl hk) (h0 _)))
  next => cases h
theorem xs_dneg {Lv : xV → Prop} {l l2 : xL} {st st2 : List xV} {nL pc2 : Nat} (h0 : ∀ v, Lv (.inl v)) (hx : p.tables.exec = Jvm.exec) (hb : c.code = cc) (hd : decode cc pc = .ok (.dneg, 1)) (hl : lv_has ls nL (xlm ad l)) (hk : xok Lv l st) (h : xs1 nL (.dneg) pc l st = some (pc2, l2, st2)) (k : ∀ ls2 : Array Slot, lv_has ls2 nL (xlm ad l2) → xok Lv l2 st2 → W p l0 e R s m args below meth c H locs cells slots Q (F0 m pc2 ls2 (st2.map (xc ad)))) : W p l0 e R s m args below meth c H locs cells slots Q (F0 m pc ls (st.map (xc ad))) := by
  simp only [xs1] at h
  split at h
  next =>
    cases h
    exact lv_dneg hx hb hd (k _ hl (xok_push (xok_tl hk) (h0 _)))
  next => cases h
theorem xs_fcmp {Lv : xV → Prop} {l l2 : xL} {st st2 : List xV} {nL pc2 : Nat} (h0 : ∀ v, Lv (.inl v)) (hx : p.tables.exec = Jvm.exec) (hb : c.code = cc) {o : CmpOp} (hd : decode cc pc = .ok (.fcmp o, 1)) (hl : lv_has ls nL (xlm ad l)) (hk : xok Lv l st) (h : xs1 nL (.fcmp o) pc l st = some (pc2, l2, st2)) (k : ∀ ls2 : Array Slot, lv_has ls2 nL (xlm ad l2) → xok Lv l2 st2 → W p l0 e R s m args below meth c H locs cells slots Q (F0 m pc2 ls2 (st2.map (xc ad)))) : W p l0 e R s m args below meth c H locs cells slots Q (F0 m pc ls (st.map (xc ad))) := by
  simp only [xs1] at h
  split at h
  next =>
    cases h
    exact lv_fcmp hx hb hd (k _ hl (xok_push (xok_tl (xok_tl hk)) (h0 _)))
  next => cases h
theorem xs_dcmp {Lv : xV → Prop} {l l2 : xL} {st st2 : List xV} {nL pc2 : Nat} (h0 : ∀ v, Lv (.inl v)) (hx : p.tables.exec = Jvm.exec) (hb : c.code = cc) {o : CmpOp} (hd : decode cc pc = .ok (.dcmp o, 1)) (hl : lv_has ls nL (xlm ad l)) (hk : xok Lv l st) (h : xs1 nL (.dcmp o) pc l st = some (pc2, l2, st2)) (k : ∀ ls2 : Array Slot, lv_has ls2 nL (xlm ad l2) → xok Lv l2 st2 → W p l0 e R s m args below meth c H locs cells slots Q (F0 m pc2 ls2 (st2.map (xc ad)))) : W p l0 e R s m args below meth c H locs cells slots Q (F0 m pc ls (st.map (xc ad))) := by
  simp only [xs1] at h
  split at h
  next =>
    cases h
    exact lv_dcmp hx hb hd (k _ hl (xok_push (xok_tl (xok_tl hk)) (h0 _)))
  next => cases h
theorem xs_i2f {Lv : xV → Prop} {l l2 : xL} {st st2 : List xV} {nL pc2 : Nat} (h0 : ∀ v, Lv (.inl v)) (hx : p.tables.exec = Jvm.exec) (hb : c.code = cc) (hd : decode cc pc = .ok (.i2f, 1)) (hl : lv_has ls nL (xlm ad l)) (hk : xok Lv l st) (h : xs1 nL (.i2f) pc l st = some (pc2, l2, st2)) (k : ∀ ls2 : Array Slot, lv_has ls2 nL (xlm ad l2) → xok Lv l2 st2 → W p l0 e R s m args below meth c H locs cells slots Q (F0 m pc2 ls2 (st2.map (xc ad)))) : W p l0 e R s m args below meth c H locs cells slots Q (F0 m pc ls (st.map (xc ad))) := by
  simp only [xs1] at h
  split at h
  next =>
    cases h
    exact lv_i2f hx hb hd (k _ hl (xok_push (xok_tl hk) (h0 _)))
  next => cases h
theorem xs_l2f {Lv : xV → Prop} {l l2 : xL} {st st2 : List xV} {nL pc2 : Nat} (h0 : ∀ v, Lv (.inl v)) (hx : p.tables.exec = Jvm.exec) (hb : c.code = cc) (hd : decode cc pc = .ok (.l2f, 1)) (hl : lv_has ls nL (xlm ad l)) (hk : xok Lv l st) (h : xs1 nL (.l2f) pc l st = some (pc2, l2, st2)) (k : ∀ ls2 : Array Slot, lv_has ls2 nL (xlm ad l2) → xok Lv l2 st2 → W p l0 e R s m args below meth c H locs cells slots Q (F0 m pc2 ls2 (st2.map (xc ad)))) : W p l0 e R s m args below meth c H locs cells slots Q (F0 m pc ls (st.map (xc ad))) := by
  simp only [xs1] at h
  split at h
  next =>
    cases h
    exact lv_l2f hx hb hd (k _ hl (xok_push (xok_tl hk) (h0 _)))
  next => cases h
theorem xs_f2i {Lv : xV → Prop} {l l2 : xL} {st st2 : List xV} {nL pc2 : Nat} (h0 : ∀ v, Lv (.inl v)) (hx : p.tables.exec = Jvm.exec) (hb : c.code = cc) (hd : decode cc pc = .ok (.f2i, 1)) (hl : lv_has ls nL (xlm ad l)) (hk : xok Lv l st) (h : xs1 nL (.f2i) pc l st = some (pc2, l2, st2)) (k : ∀ ls2 : Array Slot, lv_has ls2 nL (xlm ad l2) → xok Lv l2 st2 → W p l0 e R s m args below meth c H locs cells slots Q (F0 m pc2 ls2 (st2.map (xc ad)))) : W p l0 e R s m args below meth c H locs cells slots Q (F0 m pc ls (st.map (xc ad))) := by
  simp only [xs1] at h
  split at h
  next =>
    cases h
    exact lv_f2i hx hb hd (k _ hl (xok_push (xok_tl hk) (h0 _)))
  next => cases h
theorem xs_f2l {Lv : xV → Prop} {l l2 : xL} {st st2 : List xV} {nL pc2 : Nat} (h0 : ∀ v, Lv (.inl v)) (hx : p.tables.exec = Jvm.exec) (hb : c.code = cc) (hd : decode cc pc = .ok (.f2l, 1)) (hl : lv_has ls nL (xlm ad l)) (hk : xok Lv l st) (h : xs1 nL (.f2l) pc l st = some (pc2, l2, st2)) (k : ∀ ls2 : Array Slot, lv_has ls2 nL (xlm ad l2) → xok Lv l2 st2 → W p l0 e R s m args below meth c H locs cells slots Q (F0 m pc2 ls2 (st2.map (xc ad)))) : W p l0 e R s m args below meth c H locs cells slots Q (F0 m pc ls (st.map (xc ad))) := by
  simp only [xs1] at h
  split at h
  next =>
    cases h
    exact lv_f2l hx hb hd (k _ hl (xok_push (xok_tl hk) (h0 _)))
  next => cases h
theorem xs_i2d {Lv : xV → Prop} {l l2 : xL} {st st2 : List xV} {nL pc2 : Nat} (h0 : ∀ v, Lv (.inl v)) (hx : p.tables.exec = Jvm.exec) (hb : c.code = cc) (hd : decode cc pc = .ok (.i2d, 1)) (hl : lv_has ls nL (xlm ad l)) (hk : xok Lv l st) (h : xs1 nL (.i2d) pc l st = some (pc2, l2, st2)) (k : ∀ ls2 : Array Slot, lv_has ls2 nL (xlm ad l2) → xok Lv l2 st2 → W p l0 e R s m args below meth c H locs cells slots Q (F0 m pc2 ls2 (st2.map (xc ad)))) : W p l0 e R s m args below meth c H locs cells slots Q (F0 m pc ls (st.map (xc ad))) := by
  simp only [xs1] at h
  split at h
  next =>
    cases h
    exact lv_i2d hx hb hd (k _ hl (xok_push (xok_tl hk) (h0 _)))
  next => cases h
theorem xs_l2d {Lv : xV → Prop} {l l2 : xL} {st st2 : List xV} {nL pc2 : Nat} (h0 : ∀ v, Lv (.inl v)) (hx : p.tables.exec = Jvm.exec) (hb : c.code = cc) (hd : decode cc pc = .ok (.l2d, 1)) (hl : lv_has ls nL (xlm ad l)) (hk : xok Lv l st) (h : xs1 nL (.l2d) pc l st = some (pc2, l2, st2)) (k : ∀ ls2 : Array Slot, lv_has ls2 nL (xlm ad l2) → xok Lv l2 st2 → W p l0 e R s m args below meth c H locs cells slots Q (F0 m pc2 ls2 (st2.map (xc ad)))) : W p l0 e R s m args below meth c H locs cells slots Q (F0 m pc ls (st.map (xc ad))) := by
  simp only [xs1] at h
  split at h
  next =>
    cases h
    exact lv_l2d hx hb hd (k _ hl (xok_push (xok_tl hk) (h0 _)))
  next => cases h
theorem xs_d2i {Lv : xV → Prop} {l l2 : xL} {st st2 : List xV} {nL pc2 : Nat} (h0 : ∀ v, Lv (.inl v)) (hx : p.tables.exec = Jvm.exec) (hb : c.code = cc) (hd : decode cc pc = .ok (.d2i, 1)) (hl : lv_has ls nL (xlm ad l)) (hk : xok Lv l st) (h : xs1 nL (.d2i) pc l st = some (pc2, l2, st2)) (k : ∀ ls2 : Array Slot, lv_has ls2 nL (xlm ad l2) → xok Lv l2 st2 → W p l0 e R s m args below meth c H locs cells slots Q (F0 m pc2 ls2 (st2.map (xc ad)))) : W p l0 e R s m args below meth c H locs cells slots Q (F0 m pc ls (st.map (xc ad))) := by
  simp only [xs1] at h
  split at h
  next =>
    cases h
    exact lv_d2i hx hb hd (k _ hl (xok_push (xok_tl hk) (h0 _)))
  next => cases h
theorem xs_d2l {Lv : xV → Prop} {l l2 : xL} {st st2 : List xV} {nL pc2 : Nat} (h0 : ∀ v, Lv (.inl v)) (hx : p.tables.exec = Jvm.exec) (hb : c.code = cc) (hd : decode cc pc = .ok (.d2l, 1)) (hl : lv_has ls nL (xlm ad l)) (hk : xok Lv l st) (h : xs1 nL (.d2l) pc l st = some (pc2, l2, st2)) (k : ∀ ls2 : Array Slot, lv_has ls2 nL (xlm ad l2) → xok Lv l2 st2 → W p l0 e R s m args below meth c H locs cells slots Q (F0 m pc2 ls2 (st2.map (xc ad)))) : W p l0 e R s m args below meth c H locs cells slots Q (F0 m pc ls (st.map (xc ad))) := by
  simp only [xs1] at h
  split at h
  next =>
    cases h
    exact lv_d2l hx hb hd (k _ hl (xok_push (xok_tl hk) (h0 _)))
  next => cases h
theorem xs_f2d {Lv : xV → Prop} {l l2 : xL} {st st2 : List xV} {nL pc2 : Nat} (h0 : ∀ v, Lv (.inl v)) (hx : p.tables.exec = Jvm.exec) (hb : c.code = cc) (hd : decode cc pc = .ok (.f2d, 1)) (hl : lv_has ls nL (xlm ad l)) (hk : xok Lv l st) (h : xs1 nL (.f2d) pc l st = some (pc2, l2, st2)) (k : ∀ ls2 : Array Slot, lv_has ls2 nL (xlm ad l2) → xok Lv l2 st2 → W p l0 e R s m args below meth c H locs cells slots Q (F0 m pc2 ls2 (st2.map (xc ad)))) : W p l0 e R s m args below meth c H locs cells slots Q (F0 m pc ls (st.map (xc ad))) := by
  simp only [xs1] at h
  split at h
  next =>
    split at h
    next hg =>
      cases h
      exact lv_f2d hx hb hd hg (k _ hl (xok_push (xok_tl hk) (h0 _)))
    next => cases h
  next => cases h
theorem xs_d2f {Lv : xV → Prop} {l l2 : xL} {st st2 : List xV} {nL pc2 : Nat} (h0 : ∀ v, Lv (.inl v)) (hx : p.tables.exec = Jvm.exec) (hb : c.code = cc) (hd : decode cc pc = .ok (.d2f, 1)) (hl : lv_has ls nL (xlm ad l)) (hk : xok Lv l st) (h : xs1 nL (.d2f) pc l st = some (pc2, l2, st2)) (k : ∀ ls2 : Array Slot, lv_has ls2 nL (xlm ad l2) → xok Lv l2 st2 → W p l0 e R s m args below meth c H locs cells slots Q (F0 m pc2 ls2 (st2.map (xc ad)))) : W p l0 e R s m args below meth c H locs cells slots Q (F0 m pc ls (st.map (xc ad))) := by
  simp only [xs1] at h
  split at h
  next =>
    split at h
    next hg =>
      cases h
      exact lv_d2f hx hb hd hg (k _ hl (xok_push (xok_tl hk) (h0 _)))
    next => cases h
  next => cases h
theorem xs_dup {Lv : xV → Prop} {l l2 : xL} {st st2 : List xV} {nL pc2 : Nat} (h0 : ∀ v, Lv (.inl v)) (hx : p.tables.exec = Jvm.exec) (hb : c.code = cc) (hd : decode cc pc = .ok (.dup, 1)) (hl : lv_has ls nL (xlm ad l)) (hk : xok Lv l st) (h : xs1 nL (.dup) pc l st = some (pc2, l2, st2)) (k : ∀ ls2 : Array Slot, lv_has ls2 nL (xlm ad l2) → xok Lv l2 st2 → W p l0 e R s m args below meth c H locs cells slots Q (F0 m pc2 ls2 (st2.map (xc ad)))) : W p l0 e R s m args below meth c H locs cells slots Q (F0 m pc ls (st.map (xc ad))) := by
  simp only [xs1] at h
  split at h
  next =>
    split at h
    next hg =>
      cases h
      exact lv_dup hx hb hd (by rw [xc_cat]; exact hg) (k _ hl (xok_push hk (xok_hd hk)))
    next => cases h
  next => cases h
theorem xs_pop {Lv : xV → Prop} {l l2 : xL} {st st2 : List xV} {nL pc2 : Nat} (h0 : ∀ v, Lv (.inl v)) (hx : p.tables.exec = Jvm.exec) (hb : c.code = cc) (hd : decode cc pc = .ok (.pop, 1)) (hl : lv_has ls nL (xlm ad l)) (hk : xok Lv l st) (h : xs1 nL (.pop) pc l st = some (pc2, l2, st2)) (k : ∀ ls2 : Array Slot, lv_has ls2 nL (xlm ad l2) → xok Lv l2 st2 → W p l0 e R s m args below meth c H locs cells slots Q (F0 m pc2 ls2 (st2.map (xc ad)))) : W p l0 e R s m args below meth c H locs cells slots Q (F0 m pc ls (st.map (xc ad))) := by
  simp only [xs1] at h
  split at h
  next =>
    split at h
    next hg =>
      cases h
      exact lv_pop hx hb hd (by rw [xc_cat]; exact hg) (k _ hl (xok_tl hk))
    next => cases h
  next => cases h
theorem xs_dup_x1 {Lv : xV → Prop} {l l2 : xL} {st st2 : List xV} {nL pc2 : Nat} (h0 : ∀ v, Lv (.inl v)) (hx : p.tables.exec = Jvm.exec) (hb : c.code = cc) (hd : decode cc pc = .ok (.dup_x1, 1)) (hl : lv_has ls nL (xlm ad l)) (hk : xok Lv l st) (h : xs1 nL (.dup_x1) pc l st = some (pc2, l2, st2)) (k : ∀ ls2 : Array Slot, lv_has ls2 nL (xlm ad l2) → xok Lv l2 st2 → W p l0 e R s m args below meth c H locs cells slots Q (F0 m pc2 ls2 (st2.map (xc ad)))) : W p l0 e R s m args below meth c H locs cells slots Q (F0 m pc ls (st.map (xc ad))) := by
  simp only [xs1] at h
  split at h
  next =>
    split at h
    next hg =>
      cases h
      exact lv_dup_x1 hx hb hd (by rw [xc_cat]; exact hg.1) (by rw [xc_cat]; exact hg.2) (k _ hl (xok_push (xok_push (xok_push (xok_tl (xok_tl hk)) (xok_hd hk)) (xok_hd (xok_tl hk))) (xok_hd hk)))
    next => cases h
  next => cases h
theorem xs_dup_x2 {Lv : xV → Prop} {l l2 : xL} {st st2 : List xV} {nL pc2 : Nat} (h0 : ∀ v, Lv (.inl v)) (hx : p.tables.exec = Jvm.exec) (hb : c.code = cc) (hd : decode cc pc = .ok (.dup_x2, 1)) (hl : lv_has ls nL (xlm ad l)) (hk : xok Lv l st) (h : xs1 nL (.dup_x2) pc l st = some (pc2, l2, st2)) (k : ∀ ls2 : Array Slot, lv_has ls2 nL (xlm ad l2) → xok Lv l2 st2 → W p l0 e R s m args below meth c H locs cells slots Q (F0 m pc2 ls2 (st2.map (xc ad)))) : W p l0 e R s m args below meth c H locs cells slots Q (F0 m pc ls (st.map (xc ad))) := by
  simp only [xs1] at h
  split at h
  next =>
    split at h
    next hg =>
      cases h
      exact lv_dup_x2 hx hb hd (by rw [xc_cat]; exact hg.1) (by rw [xc_cat]; exact hg.2.1) (by rw [xc_cat]; exact hg.2.2) (k _ hl (xok_push (xok_push (xok_push (xok_push (xok_tl (xok_tl (xok_tl hk))) (xok_hd hk)) (xok_hd (xok_tl (xok_tl hk)))) (xok_hd (xok_tl hk))) (xok_hd hk)))
    next => cases h
  next => cases h
theorem xs_dup2 {Lv : xV → Prop} {l l2 : xL} {st st2 : List xV} {nL pc2 : Nat} (h0 : ∀ v, Lv (.inl v)) (hx : p.tables.exec = Jvm.exec) (hb : c.code = cc) (hd : decode cc pc = .ok (.dup2, 1)) (hl : lv_has ls nL (xlm ad l)) (hk : xok Lv l st) (h : xs1 nL (.dup2) pc l st = some (pc2, l2, st2)) (k : ∀ ls2 : Array Slot, lv_has ls2 nL (xlm ad l2) → xok Lv l2 st2 → W p l0 e R s m args below meth c H locs cells slots Q (F0 m pc2 ls2 (st2.map (xc ad)))) : W p l0 e R s m args below meth c H locs cells slots Q (F0 m pc ls (st.map (xc ad))) := by
  simp only [xs1] at h
  split at h
  next =>
    split at h
    next hg =>
      cases h
      exact lv_dup2_11 hx hb hd (by rw [xc_cat]; exact hg.1) (by rw [xc_cat]; exact hg.2) (k _ hl (xok_push (xok_push hk (xok_hd (xok_tl hk))) (xok_hd hk)))
    next => cases h
  next => cases h
theorem xs_iload_n {Lv : xV → Prop} {l l2 : xL} {st st2 : List xV} {nL pc2 : Nat} (h0 : ∀ v, Lv (.inl v)) (hx : p.tables.exec = Jvm.exec) (hb : c.code = cc) {n : Fin 4} (hd : decode cc pc = .ok (.iload_n n, 1)) (hl : lv_has ls nL (xlm ad l)) (hk : xok Lv l st) (h : xs1 nL (.iload_n n) pc l st = some (pc2, l2, st2)) (k : ∀ ls2 : Array Slot, lv_has ls2 nL (xlm ad l2) → xok Lv l2 st2 → W p l0 e R s m args below meth c H locs cells slots Q (F0 m pc2 ls2 (st2.map (xc ad)))) : W p l0 e R s m args below meth c H locs cells slots Q (F0 m pc ls (st.map (xc ad))) := by
  simp only [xs1] at h
  split at h
  next e0 =>
    cases h
    exact lv_iload_n hx hb hd rfl (xl_at hl e0) (k _ hl (xok_push hk (h0 _)))
  next => cases h
theorem xs_iload {Lv : xV → Prop} {l l2 : xL} {st st2 : List xV} {nL pc2 : Nat} (h0 : ∀ v, Lv (.inl v)) (hx : p.tables.exec = Jvm.exec) (hb : c.code = cc) {n : Nat} (hd : decode cc pc = .ok (.iload n, 2)) (hl : lv_has ls nL (xlm ad l)) (hk : xok Lv l st) (h : xs1 nL (.iload n) pc l st = some (pc2, l2, st2)) (k : ∀ ls2 : Array Slot, lv_has ls2 nL (xlm ad l2) → xok Lv l2 st2 → W p l0 e R s m args below meth c H locs cells slots Q (F0 m pc2 ls2 (st2.map (xc ad)))) : W p l0 e R s m args below meth c H locs cells slots Q (F0 m pc ls (st.map (xc ad))) := by
  simp only [xs1] at h
  split at h
  next e0 =>
    cases h
    exact lv_iload hx hb hd (xl_at hl e0) (k _ hl (xok_push hk (h0 _)))
  next => cases h
theorem xs_lload_n {Lv : xV → Prop} {l l2 : xL} {st st2 : List xV} {nL pc2 : Nat} (h0 : ∀ v, Lv (.inl v)) (hx : p.tables.exec = Jvm.exec) (hb : c.code = cc) {n : Fin 4} (hd : decode cc pc = .ok (.lload_n n, 1)) (hl : lv_has ls nL (xlm ad l)) (hk : xok Lv l st) (h : xs1 nL (.lload_n n) pc l st = some (pc2, l2, st2)) (k : ∀ ls2 : Array Slot, lv_has ls2 nL (xlm ad l2) → xok Lv l2 st2 → W p l0 e R s m args below meth c H locs cells slots Q (F0 m pc2 ls2 (st2.map (xc ad)))) : W p l0 e R s m args below meth c H locs cells slots Q (F0 m pc ls (st.map (xc ad))) := by
  simp only [xs1] at h
  split at h
  next e0 =>
    cases h
    exact lv_lload_n hx hb hd rfl (xl_at hl e0) (k _ hl (xok_push hk (h0 _)))
  next => cases h
theorem xs_lload {Lv : xV → Prop} {l l2 : xL} {st st2 : List xV} {nL pc2 : Nat} (h0 : ∀ v, Lv (.inl v)) (hx : p.tables.exec = Jvm.exec) (hb : c.code = cc) {n : Nat} (hd : decode cc pc = .ok (.lload n, 2)) (hl : lv_has ls nL (xlm ad l)) (hk : xok Lv l st) (h : xs1 nL (.lload n) pc l st = some (pc2, l2, st2)) (k : ∀ ls2 : Array Slot, lv_has ls2 nL (xlm ad l2) → xok Lv l2 st2 → W p l0 e R s m args below meth c H locs cells slots Q (F0 m pc2 ls2 (st2.map (xc ad)))) : W p l0 e R s m args below meth c H locs cells slots Q (F0 m pc ls (st.map (xc ad))) := by
  simp only [xs1] at h
  split at h
  next e0 =>
    cases h
    exact lv_lload hx hb hd (xl_at hl e0) (k _ hl (xok_push hk (h0 _)))
  next => cases h
theorem xs_fload_n {Lv : xV → Prop} {l l2 : xL} {st st2 : List xV} {nL pc2 : Nat} (h0 : ∀ v, Lv (.inl v)) (hx : p.tables.exec = Jvm.exec) (hb : c.code = cc) {n : Fin 4} (hd : decode cc pc = .ok (.fload_n n, 1)) (hl : lv_has ls nL (xlm ad l)) (hk : xok Lv l st) (h : xs1 nL (.fload_n n) pc l st = some (pc2, l2, st2)) (k : ∀ ls2 : Array Slot, lv_has ls2 nL (xlm ad l2) → xok Lv l2 st2 → W p l0 e R s m args below meth c H locs cells slots Q (F0 m pc2 ls2 (st2.map (xc ad)))) : W p l0 e R s m args below meth c H locs cells slots Q (F0 m pc ls (st.map (xc ad))) := by
  simp only [xs1] at h
  split at h
  next e0 =>
    cases h
    exact lv_fload_n hx hb hd rfl (xl_at hl e0) (k _ hl (xok_push hk (h0 _)))
  next => cases h
theorem xs_fload {Lv : xV → Prop} {l l2 : xL} {st st2 : List xV} {nL pc2 : Nat} (h0 : ∀ v, Lv (.inl v)) (hx : p.tables.exec = Jvm.exec) (hb : c.code = cc) {n : Nat} (hd : decode cc pc = .ok (.fload n, 2)) (hl : lv_has ls nL (xlm ad l)) (hk : xok Lv l st) (h : xs1 nL (.fload n) pc l st = some (pc2, l2, st2)) (k : ∀ ls2 : Array Slot, lv_has ls2 nL (xlm ad l2) → xok Lv l2 st2 → W p l0 e R s m args below meth c H locs cells slots Q (F0 m pc2 ls2 (st2.map (xc ad)))) : W p l0 e R s m args below meth c H locs cells slots Q (F0 m pc ls (st.map (xc ad))) := by
  simp only [xs1] at h
  split at h
  next e0 =>
    cases h
    exact lv_fload hx hb hd (xl_at hl e0) (k _ hl (xok_push hk (h0 _)))
  next => cases h
theorem xs_dload_n {Lv : xV → Prop} {l l2 : xL} {st st2 : List xV} {nL pc2 : Nat} (h0 : ∀ v, Lv (.inl v)) (hx : p.tables.exec = Jvm.exec) (hb : c.code = cc) {n : Fin 4} (hd : decode cc pc = .ok (.dload_n n, 1)) (hl : lv_has ls nL (xlm ad l)) (hk : xok Lv l st) (h : xs1 nL (.dload_n n) pc l st = some (pc2, l2, st2)) (k : ∀ ls2 : Array Slot, lv_has ls2 nL (xlm ad l2) → xok Lv l2 st2 → W p l0 e R s m args below meth c H locs cells slots Q (F0 m pc2 ls2 (st2.map (xc ad)))) : W p l0 e R s m args below meth c H locs cells slots Q (F0 m pc ls (st.map (xc ad))) := by
  simp only [xs1] at h
  split at h
  next e0 =>
    cases h
    exact lv_dload_n hx hb hd rfl (xl_at hl e0) (k _ hl (xok_push hk (h0 _)))
  next => cases h
theorem xs_dload {Lv : xV → Prop} {l l2 : xL} {st st2 : List xV} {nL pc2 : Nat} (h0 : ∀ v, Lv (.inl v)) (hx : p.tables.exec = Jvm.exec) (hb : c.code = cc) {n : Nat} (hd : decode cc pc = .ok (.dload n, 2)) (hl : lv_has ls nL (xlm ad l)) (hk : xok Lv l st) (h : xs1 nL (.dload n) pc l st = some (pc2, l2, st2)) (k : ∀ ls2 : Array Slot, lv_has ls2 nL (xlm ad l2) → xok Lv l2 st2 → W p l0 e R s m args below meth c H locs cells slots Q (F0 m pc2 ls2 (st2.map (xc ad)))) : W p l0 e R s m args below meth c H locs cells slots Q (F0 m pc ls (st.map (xc ad))) := by
  simp only [xs1] at h
  split at h
  next e0 =>
    cases h
    exact lv_dload hx hb hd (xl_at hl e0) (k _ hl (xok_push hk (h0 _)))
  next => cases h
theorem xs_aload_n {Lv : xV → Prop} {l l2 : xL} {st st2 : List xV} {nL pc2 : Nat} (h0 : ∀ v, Lv (.inl v)) (hx : p.tables.exec = Jvm.exec) (hb : c.code = cc) {n : Fin 4} (hd : decode cc pc = .ok (.aload_n n, 1)) (hl : lv_has ls nL (xlm ad l)) (hk : xok Lv l st) (h : xs1 nL (.aload_n n) pc l st = some (pc2, l2, st2)) (k : ∀ ls2 : Array Slot, lv_has ls2 nL (xlm ad l2) → xok Lv l2 st2 → W p l0 e R s m args below meth c H locs cells slots Q (F0 m pc2 ls2 (st2.map (xc ad)))) : W p l0 e R s m args below meth c H locs cells slots Q (F0 m pc ls (st.map (xc ad))) := by
  simp only [xs1] at h
  split at h
  next e0 =>
    cases h
    exact lv_aload_nN hx hb hd rfl (xl_at hl e0) (k _ hl (xok_push hk (h0 _)))
  next e0 =>
    cases h
    exact lv_aload_n hx hb hd rfl (xl_at hl e0) (k _ hl (xok_push hk (h0 _)))
  next e0 =>
    cases h
    exact lv_aload_n hx hb hd rfl (xl_at hl e0) (k _ hl (xok_push hk (xok_l hk e0)))
  next => cases h
theorem xs_aload {Lv : xV → Prop} {l l2 : xL} {st st2 : List xV} {nL pc2 : Nat} (h0 : ∀ v, Lv (.inl v)) (hx : p.tables.exec = Jvm.exec) (hb : c.code = cc) {n : Nat} (hd : decode cc pc = .ok (.aload n, 2)) (hl : lv_has ls nL (xlm ad l)) (hk : xok Lv l st) (h : xs1 nL (.aload n) pc l st = some (pc2, l2, st2)) (k : ∀ ls2 : Array Slot, lv_has ls2 nL (xlm ad l2) → xok Lv l2 st2 → W p l0 e R s m args below meth c H locs cells slots Q (F0 m pc2 ls2 (st2.map (xc ad)))) : W p l0 e R s m args below meth c H locs cells slots Q (F0 m pc ls (st.map (xc ad))) := by
  simp only [xs1] at h
  split at h
  next e0 =>
    cases h
    exact lv_aloadN hx hb hd (xl_at hl e0) (k _ hl (xok_push hk (h0 _)))
  next e0 =>
    cases h
    exact lv_aload hx hb hd (xl_at hl e0) (k _ hl (xok_push hk (h0 _)))
  next e0 =>
    cases h
    exact lv_aload hx hb hd (xl_at hl e0) (k _ hl (xok_push hk (xok_l hk e0)))
  next => cases h
theorem xs_istore_n {Lv : xV → Prop} {l l2 : xL} {st st2 : List xV} {nL pc2 : Nat} (h0 : ∀ v, Lv (.inl v)) (hx : p.tables.exec = Jvm.exec) (hb : c.code = cc) {n : Fin 4} (hd : decode cc pc = .ok (.istore_n n, 1)) (hl : lv_has ls nL (xlm ad l)) (hk : xok Lv l st) (h : xs1 nL (.istore_n n) pc l st = some (pc2, l2, st2)) (k : ∀ ls2 : Array Slot, lv_has ls2 nL (xlm ad l2) → xok Lv l2 st2 → W p l0 e R s m args below meth c H locs cells slots Q (F0 m pc2 ls2 (st2.map (xc ad)))) : W p l0 e R s m args below meth c H locs cells slots Q (F0 m pc ls (st.map (xc ad))) := by
  simp only [xs1] at h
  split at h
  next =>
    split at h
    next hg =>
      cases h
      exact lv_istore_n hx hb hd rfl hl hg (xst1_map ad l _ (.inl (.int _))) (fun ls2 hl2 => k ls2 hl2 (xok_1 (xok_tl hk) _ (h0 _)))
    next => cases h
  next => cases h
theorem xs_istore {Lv : xV → Prop} {l l2 : xL} {st st2 : List xV} {nL pc2 : Nat} (h0 : ∀ v, Lv (.inl v)) (hx : p.tables.exec = Jvm.exec) (hb : c.code = cc) {n : Nat} (hd : decode cc pc = .ok (.istore n, 2)) (hl : lv_has ls nL (xlm ad l)) (hk : xok Lv l st) (h : xs1 nL (.istore n) pc l st = some (pc2, l2, st2)) (k : ∀ ls2 : Array Slot, lv_has ls2 nL (xlm ad l2) → xok Lv l2 st2 → W p l0 e R s m args below meth c H locs cells slots Q (F0 m pc2 ls2 (st2.map (xc ad)))) : W p l0 e R s m args below meth c H locs cells slots Q (F0 m pc ls (st.map (xc ad))) := by
  simp only [xs1] at h
  split at h
  next =>
    split at h
    next hg =>
      cases h
      exact lv_istore hx hb hd hl hg (xst1_map ad l _ (.inl (.int _))) (fun ls2 hl2 => k ls2 hl2 (xok_1 (xok_tl hk) _ (h0 _)))
    next => cases h
  next => cases h
theorem xs_lstore_n {Lv : xV → Prop} {l l2 : xL} {st st2 : List xV} {nL pc2 : Nat} (h0 : ∀ v, Lv (.inl v)) (hx : p.tables.exec = Jvm.exec) (hb : c.code = cc) {n : Fin 4} (hd : decode cc pc = .ok (.lstore_n n, 1)) (hl : lv_has ls nL (xlm ad l)) (hk : xok Lv l st) (h : xs1 nL (.lstore_n n) pc l st = some (pc2, l2, st2)) (k : ∀ ls2 : Array Slot, lv_has ls2 nL (xlm ad l2) → xok Lv l2 st2 → W p l0 e R s m args below meth c H locs cells slots Q (F0 m pc2 ls2 (st2.map (xc ad)))) : W p l0 e R s m args below meth c H locs cells slots Q (F0 m pc ls (st.map (xc ad))) := by
  simp only [xs1] at h
  split at h
  next =>
    split at h
    next hg =>
      cases h
      exact lv_lstore_n hx hb hd rfl hl hg (xst2_map ad l _ (.inl (.long _))) (fun ls2 hl2 => k ls2 hl2 (xok_2 (xok_tl hk) _ (h0 _)))
    next => cases h
  next => cases h
theorem xs_lstore {Lv : xV → Prop} {l l2 : xL} {st st2 : List xV} {nL pc2 : Nat} (h0 : ∀ v, Lv (.inl v)) (hx : p.tables.exec = Jvm.exec) (hb : c.code = cc) {n : Nat} (hd : decode cc pc = .ok (.lstore n, 2)) (hl : lv_has ls nL (xlm ad l)) (hk : xok Lv l st) (h : xs1 nL (.lstore n) pc l st = some (pc2, l2, st2)) (k : ∀ ls2 : Array Slot, lv_has ls2 nL (xlm ad l2) → xok Lv l2 st2 → W p l0 e R s m args below meth c H locs cells slots Q (F0 m pc2 ls2 (st2.map (xc ad)))) : W p l0 e R s m args below meth c H locs cells slots Q (F0 m pc ls (st.map (xc ad))) := by
  simp only [xs1] at h
  split at h
  next =>
    split at h
    next hg =>
      cases h
      exact lv_lstore hx hb hd hl hg (xst2_map ad l _ (.inl (.long _))) (fun ls2 hl2 => k ls2 hl2 (xok_2 (xok_tl hk) _ (h0 _)))
    next => cases h
  next => cases h
theorem xs_fstore_n {Lv : xV → Prop} {l l2 : xL} {st st2 : List xV} {nL pc2 : Nat} (h0 : ∀ v, Lv (.inl v)) (hx : p.tables.exec = Jvm.exec) (hb : c.code = cc) {n : Fin 4} (hd : decode cc pc = .ok (.fstore_n n, 1)) (hl : lv_has ls nL (xlm ad l)) (hk : xok Lv l st) (h : xs1 nL (.fstore_n n) pc l st = some (pc2, l2, st2)) (k : ∀ ls2 : Array Slot, lv_has ls2 nL (xlm ad l2) → xok Lv l2 st2 → W p l0 e R s m args below meth c H locs cells slots Q (F0 m pc2 ls2 (st2.map (xc ad)))) : W p l0 e R s m args below meth c H locs cells slots Q (F0 m pc ls (st.map (xc ad))) := by
  simp only [xs1] at h
  split at h
  next =>
    split at h
    next hg =>
      cases h
      exact lv_fstore_n hx hb hd rfl hl hg (xst1_map ad l _ (.inl (.float _))) (fun ls2 hl2 => k ls2 hl2 (xok_1 (xok_tl hk) _ (h0 _)))
    next => cases h
  next => cases h
theorem xs_fstore {Lv : xV → Prop} {l l2 : xL} {st st2 : List xV} {nL pc2 : Nat} (h0 : ∀ v, Lv (.inl v)) (hx : p.tables.exec = Jvm.exec) (hb : c.code = cc) {n : Nat} (hd : decode cc pc = .ok (.fstore n, 2)) (hl : lv_has ls nL (xlm ad l)) (hk : xok Lv l st) (h : xs1 nL (.fstore n) pc l st = some (pc2, l2, st2)) (k : ∀ ls2 : Array Slot, lv_has ls2 nL (xlm ad l2) → xok Lv l2 st2 → W p l0 e R s m args below meth c H locs cells slots Q (F0 m pc2 ls2 (st2.map (xc ad)))) : W p l0 e R s m args below meth c H locs cells slots Q (F0 m pc ls (st.map (xc ad))) := by
  simp only [xs1] at h
  split at h
  next =>
    split at h
    next hg =>
      cases h
      exact lv_fstore hx hb hd hl hg (xst1_map ad l _ (.inl (.float _))) (fun ls2 hl2 => k ls2 hl2 (xok_1 (xok_tl hk) _ (h0 _)))
    next => cases h
  next => cases h
theorem xs_dstore_n {Lv : xV → Prop} {l l2 : xL} {st st2 : List xV} {nL pc2 : Nat} (h0 : ∀ v, Lv (.inl v)) (hx : p.tables.exec = Jvm.exec) (hb : c.code = cc) {n : Fin 4} (hd : decode cc pc = .ok (.dstore_n n, 1)) (hl : lv_has ls nL (xlm ad l)) (hk : xok Lv l st) (h : xs1 nL (.dstore_n n) pc l st = some (pc2, l2, st2)) (k : ∀ ls2 : Array Slot, lv_has ls2 nL (xlm ad l2) → xok Lv l2 st2 → W p l0 e R s m args below meth c H locs cells slots Q (F0 m pc2 ls2 (st2.map (xc ad)))) : W p l0 e R s m args below meth c H locs cells slots Q (F0 m pc ls (st.map (xc ad))) := by
  simp only [xs1] at h
  split at h
  next =>
    split at h
    next hg =>
      cases h
      exact lv_dstore_n hx hb hd rfl hl hg (xst2_map ad l _ (.inl (.double _))) (fun ls2 hl2 => k ls2 hl2 (xok_2 (xok_tl hk) _ (h0 _)))
    next => cases h
  next => cases h
theorem xs_dstore {Lv : xV → Prop} {l l2 : xL} {st st2 : List xV} {nL pc2 : Nat} (h0 : ∀ v, Lv (.inl v)) (hx : p.tables.exec = Jvm.exec) (hb : c.code = cc) {n : Nat} (hd : decode cc pc = .ok (.dstore n, 2)) (hl : lv_has ls nL (xlm ad l)) (hk : xok Lv l st) (h : xs1 nL (.dstore n) pc l st = some (pc2, l2, st2)) (k : ∀ ls2 : Array Slot, lv_has ls2 nL (xlm ad l2) → xok Lv l2 st2 → W p l0 e R s m args below meth c H locs cells slots Q (F0 m pc2 ls2 (st2.map (xc ad)))) : W p l0 e R s m args below meth c H locs cells slots Q (F0 m pc ls (st.map (xc ad))) := by
  simp only [xs1] at h
  split at h
  next =>
    split at h
    next hg =>
      cases h
      exact lv_dstore hx hb hd hl hg (xst2_map ad l _ (.inl (.double _))) (fun ls2 hl2 => k ls2 hl2 (xok_2 (xok_tl hk) _ (h0 _)))
    next => cases h
  next => cases h
theorem xs_astore_n {Lv : xV → Prop} {l l2 : xL} {st st2 : List xV} {nL pc2 : Nat} (h0 : ∀ v, Lv (.inl v)) (hx : p.tables.exec = Jvm.exec) (hb : c.code = cc) {n : Fin 4} (hd : decode cc pc = .ok (.astore_n n, 1)) (hl : lv_has ls nL (xlm ad l)) (hk : xok Lv l st) (h : xs1 nL (.astore_n n) pc l st = some (pc2, l2, st2)) (k : ∀ ls2 : Array Slot, lv_has ls2 nL (xlm ad l2) → xok Lv l2 st2 → W p l0 e R s m args below meth c H locs cells slots Q (F0 m pc2 ls2 (st2.map (xc ad)))) : W p l0 e R s m args below meth c H locs cells slots Q (F0 m pc ls (st.map (xc ad))) := by
  simp only [xs1] at h
  split at h
  next =>
    split at h
    next hg =>
      cases h
      exact lv_astore_nN hx hb hd rfl hl hg (xst1_map ad l _ (.inl .null)) (fun ls2 hl2 => k ls2 hl2 (xok_1 (xok_tl hk) _ (h0 _)))
    next => cases h
  next q r =>
    split at h
    next hg =>
      cases h
      exact lv_astore_n hx hb hd rfl hl hg (xst1_map ad l _ (.inr q)) (fun ls2 hl2 => k ls2 hl2 (xok_1 (xok_tl hk) _ (xok_hd hk)))
    next => cases h
  next => cases h
theorem xs_astore {Lv : xV → Prop} {l l2 : xL} {st st2 : List xV} {nL pc2 : Nat} (h0 : ∀ v, Lv (.inl v)) (hx : p.tables.exec = Jvm.exec) (hb : c.code = cc) {n : Nat} (hd : decode cc pc = .ok (.astore n, 2)) (hl : lv_has ls nL (xlm ad l)) (hk : xok Lv l st) (h : xs1 nL (.astore n) pc l st = some (pc2, l2, st2)) (k : ∀ ls2 : Array Slot, lv_has ls2 nL (xlm ad l2) → xok Lv l2 st2 → W p l0 e R s m args below meth c H locs cells slots Q (F0 m pc2 ls2 (st2.map (xc ad)))) : W p l0 e R s m args below meth c H locs cells slots Q (F0 m pc ls (st.map (xc ad))) := by
  simp only [xs1] at h
  split at h
  next =>
    split at h
    next hg =>
      cases h
      exact lv_astoreN hx hb hd hl hg (xst1_map ad l _ (.inl .null)) (fun ls2 hl2 => k ls2 hl2 (xok_1 (xok_tl hk) _ (h0 _)))
    next => cases h
  next q r =>
    split at h
    next hg =>
      cases h
      exact lv_astore hx hb hd hl hg (xst1_map ad l _ (.inr q)) (fun ls2 hl2 => k ls2 hl2 (xok_1 (xok_tl hk) _ (xok_hd hk)))
    next => cases h
  next => cases h
theorem xs_iinc {Lv : xV → Prop} {l l2 : xL} {st st2 : List xV} {nL pc2 : Nat} (h0 : ∀ v, Lv (.inl v)) (hx : p.tables.exec = Jvm.exec) (hb : c.code = cc) {i : Nat} {n : Int} (hd : decode cc pc = .ok (.iinc i n, 3)) (hl : lv_has ls nL (xlm ad l)) (hk : xok Lv l st) (h : xs1 nL (.iinc i n) pc l st = some (pc2, l2, st2)) (k : ∀ ls2 : Array Slot, lv_has ls2 nL (xlm ad l2) → xok Lv l2 st2 → W p l0 e R s m args below meth c H locs cells slots Q (F0 m pc2 ls2 (st2.map (xc ad)))) : W p l0 e R s m args below meth c H locs cells slots Q (F0 m pc ls (st.map (xc ad))) := by
  simp only [xs1] at h
  split at h
  next e0 =>
    split at h
    next hg =>
      cases h
      obtain ⟨k0, hk0⟩ := List.getElem?_of_mem (xl_mem e0)
      exact lv_iinc hx hb hd hl (k := k0) (by rw [List.getElem?_map, hk0]; rfl) rfl hg (xst1_map ad l _ (.inl (.int _))) (fun ls2 hl2 => k ls2 hl2 (xok_1 hk _ (h0 _)))
    next => cases h
  next => cases h
theorem xs_goto {Lv : xV → Prop} {l l2 : xL} {st st2 : List xV} {nL pc2 : Nat} (h0 : ∀ v, Lv (.inl v)) (hx : p.tables.exec = Jvm.exec) (hb : c.code = cc) {off : Int} (hd : decode cc pc = .ok (.goto off, 3)) (hl : lv_has ls nL (xlm ad l)) (hk : xok Lv l st) (h : xs1 nL (.goto off) pc l st = some (pc2, l2, st2)) (k : ∀ ls2 : Array Slot, lv_has ls2 nL (xlm ad l2) → xok Lv l2 st2 → W p l0 e R s m args below meth c H locs cells slots Q (F0 m pc2 ls2 (st2.map (xc ad)))) : W p l0 e R s m args below meth c H locs cells slots Q (F0 m pc ls (st.map (xc ad))) := by
  simp only [xs1] at h
  split at h
  next hg =>
    cases h
    exact lv_goto hx hb hd (Int.toNat_of_nonneg hg).symm (k _ hl hk)
  next => cases h
theorem xs_ifnull {Lv : xV → Prop} {l l2 : xL} {st st2 : List xV} {nL pc2 : Nat} (h0 : ∀ v, Lv (.inl v)) (hx : p.tables.exec = Jvm.exec) (hb : c.code = cc) {off : Int} (hd : decode cc pc = .ok (.ifnull off, 3)) (hl : lv_has ls nL (xlm ad l)) (hk : xok Lv l st) (h : xs1 nL (.ifnull off) pc l st = some (pc2, l2, st2)) (k : ∀ ls2 : Array Slot, lv_has ls2 nL (xlm ad l2) → xok Lv l2 st2 → W p l0 e R s m args below meth c H locs cells slots Q (F0 m pc2 ls2 (st2.map (xc ad)))) : W p l0 e R s m args below meth c H locs cells slots Q (F0 m pc ls (st.map (xc ad))) := by
  simp only [xs1] at h
  split at h
  next =>
    split at h
    next hg =>
      cases h
      exact lv_ifnullN hx hb hd (Int.toNat_of_nonneg hg).symm (k _ hl (xok_tl hk))
    next => cases h
  next =>
    cases h
    exact lv_ifnull hx hb hd (k _ hl (xok_tl hk))
  next => cases h
theorem xs_ifnonnull {Lv : xV → Prop} {l l2 : xL} {st st2 : List xV} {nL pc2 : Nat} (h0 : ∀ v, Lv (.inl v)) (hx : p.tables.exec = Jvm.exec) (hb : c.code = cc) {off : Int} (hd : decode cc pc = .ok (.ifnonnull off, 3)) (hl : lv_has ls nL (xlm ad l)) (hk : xok Lv l st) (h : xs1 nL (.ifnonnull off) pc l st = some (pc2, l2, st2)) (k : ∀ ls2 : Array Slot, lv_has ls2 nL (xlm ad l2) → xok Lv l2 st2 → W p l0 e R s m args below meth c H locs cells slots Q (F0 m pc2 ls2 (st2.map (xc ad)))) : W p l0 e R s m args below meth c H locs cells slots Q (F0 m pc ls (st.map (xc ad))) := by
  simp only [xs1] at h
  split at h
  next =>
    cases h
    exact lv_ifnonnullN hx hb hd (k _ hl (xok_tl hk))
  next =>
    split at h
    next hg =>
      cases h
      exact lv_ifnonnull hx hb hd (Int.toNat_of_nonneg hg).symm (k _ hl (xok_tl hk))
    next => cases h
  next => cases h
set_option maxHeartbeats 4000000 in
/-- each plain instruction is the machine's own -/
theorem xs1_ok {Lv : xV → Prop} {l l2 : xL} {st st2 : List xV} {nL pc2 : Nat} {i : Instr} (h0 : ∀ v, Lv (.inl v)) (hx : p.tables.exec = Jvm.exec) (hb : c.code = cc) (hd : decode cc pc = .ok (i, xlen i)) (hl : lv_has ls nL (xlm ad l)) (hk : xok Lv l st) (h : xs1 nL i pc l st = some (pc2, l2, st2)) (k : ∀ ls2 : Array Slot, lv_has ls2 nL (xlm ad l2) → xok Lv l2 st2 → W p l0 e R s m args below meth c H locs cells slots Q (F0 m pc2 ls2 (st2.map (xc ad)))) : W p l0 e R s m args below meth c H locs cells slots Q (F0 m pc ls (st.map (xc ad))) := by
  cases i
  case aconst_null => exact xs_aconst_null h0 hx hb hd hl hk h k
  case iconst _ => exact xs_iconst h0 hx hb hd hl hk h k
  case bipush _ => exact xs_bipush h0 hx hb hd hl hk h k
  case sipush _ => exact xs_sipush h0 hx hb hd hl hk h k
  case lconst _ => exact xs_lconst h0 hx hb hd hl hk h k
  case iadd => exact xs_iadd h0 hx hb hd hl hk h k
  case isub => exact xs_isub h0 hx hb hd hl hk h k
  case imul => exact xs_imul h0 hx hb hd hl hk h k
  case iand => exact xs_iand h0 hx hb hd hl hk h k
  case ior => exact xs_ior h0 hx hb hd hl hk h k
  case ixor => exact xs_ixor h0 hx hb hd hl hk h k
  case ishl => exact xs_ishl h0 hx hb hd hl hk h k
  case ishr => exact xs_ishr h0 hx hb hd hl hk h k
  case iushr => exact xs_iushr h0 hx hb hd hl hk h k
  case idiv => exact xs_idiv h0 hx hb hd hl hk h k
  case irem => exact xs_irem h0 hx hb hd hl hk h k
  case ineg => exact xs_ineg h0 hx hb hd hl hk h k
  case ladd => exact xs_ladd h0 hx hb hd hl hk h k
  case lsub => exact xs_lsub h0 hx hb hd hl hk h k
  case lmul => exact xs_lmul h0 hx hb hd hl hk h k
  case land => exact xs_land h0 hx hb hd hl hk h k
  case lor => exact xs_lor h0 hx hb hd hl hk h k
  case lxor => exact xs_lxor h0 hx hb hd hl hk h k
  case ldiv => exact xs_ldiv h0 hx hb hd hl hk h k
  case lrem => exact xs_lrem h0 hx hb hd hl hk h k
  case lneg => exact xs_lneg h0 hx hb hd hl hk h k
  case lcmp => exact xs_lcmp h0 hx hb hd hl hk h k
  case lshl => exact xs_lshl h0 hx hb hd hl hk h k
  case lshr => exact xs_lshr h0 hx hb hd hl hk h k
  case lushr => exact xs_lushr h0 hx hb hd hl hk h k
  case i2l => exact xs_i2l h0 hx hb hd hl hk h k
  case l2i => exact xs_l2i h0 hx hb hd hl hk h k
  case i2b => exact xs_i2b h0 hx hb hd hl hk h k
  case i2s => exact xs_i2s h0 hx hb hd hl hk h k
  case i2c => exact xs_i2c h0 hx hb hd hl hk h k
  case fadd => exact xs_fadd h0 hx hb hd hl hk h k
  case fsub => exact xs_fsub h0 hx hb hd hl hk h k
  case fmul => exact xs_fmul h0 hx hb hd hl hk h k
  case fdiv => exact xs_fdiv h0 hx hb hd hl hk h k
  case frem => exact xs_frem h0 hx hb hd hl hk h k
  case dadd => exact xs_dadd h0 hx hb hd hl hk h k
  case dsub => exact xs_dsub h0 hx hb hd hl hk h k
  case dmul => exact xs_dmul h0 hx hb hd hl hk h k
  case ddiv => exact xs_ddiv h0 hx hb hd hl hk h k
  case drem => exact xs_drem h0 hx hb hd hl hk h k
  case fneg => exact xs_fneg h0 hx hb hd hl hk h k
  case dneg => exact xs_dneg h0 hx hb hd hl hk h k
  case fcmp _ => exact xs_fcmp h0 hx hb hd hl hk h k
  case dcmp _ => exact xs_dcmp h0 hx hb hd hl hk h k
  case i2f => exact xs_i2f h0 hx hb hd hl hk h k
  case l2f => exact xs_l2f h0 hx hb hd hl hk h k
  case f2i => exact xs_f2i h0 hx hb hd hl hk h k
  case f2l => exact xs_f2l h0 hx hb hd hl hk h k
  case i2d => exact xs_i2d h0 hx hb hd hl hk h k
  case l2d => exact xs_l2d h0 hx hb hd hl hk h k
  case d2i => exact xs_d2i h0 hx hb hd hl hk h k
  case d2l => exact xs_d2l h0 hx hb hd hl hk h k
  case f2d => exact xs_f2d h0 hx hb hd hl hk h k
  case d2f => exact xs_d2f h0 hx hb hd hl hk h k
  case dup => exact xs_dup h0 hx hb hd hl hk h k
  case pop => exact xs_pop h0 hx hb hd hl hk h k
  case dup_x1 => exact xs_dup_x1 h0 hx hb hd hl hk h k
  case dup_x2 => exact xs_dup_x2 h0 hx hb hd hl hk h k
  case dup2 => exact xs_dup2 h0 hx hb hd hl hk h k
  case iload_n _ => exact xs_iload_n h0 hx hb hd hl hk h k
  case iload _ => exact xs_iload h0 hx hb hd hl hk h k
  case lload_n _ => exact xs_lload_n h0 hx hb hd hl hk h k
  case lload _ => exact xs_lload h0 hx hb hd hl hk h k
  case fload_n _ => exact xs_fload_n h0 hx hb hd hl hk h k
  case fload _ => exact xs_fload h0 hx hb hd hl hk h k
  case dload_n _ => exact xs_dload_n h0 hx hb hd hl hk h k
  case dload _ => exact xs_dload h0 hx hb hd hl hk h k
  case aload_n _ => exact xs_aload_n h0 hx hb hd hl hk h k
  case aload _ => exact xs_aload h0 hx hb hd hl hk h k
  case istore_n _ => exact xs_istore_n h0 hx hb hd hl hk h k
  case istore _ => exact xs_istore h0 hx hb hd hl hk h k
  case lstore_n _ => exact xs_lstore_n h0 hx hb hd hl hk h k
  case lstore _ => exact xs_lstore h0 hx hb hd hl hk h k
  case fstore_n _ => exact xs_fstore_n h0 hx hb hd hl hk h k
  case fstore _ => exact xs_fstore h0 hx hb hd hl hk h k
  case dstore_n _ => exact xs_dstore_n h0 hx hb hd hl hk h k
  case dstore _ => exact xs_dstore h0 hx hb hd hl hk h k
  case astore_n _ => exact xs_astore_n h0 hx hb hd hl hk h k
  case astore _ => exact xs_astore h0 hx hb hd hl hk h k
  case iinc _ _ => exact xs_iinc h0 hx hb hd hl hk h k
  case goto _ => exact xs_goto h0 hx hb hd hl hk h k
  case ifnull _ => exact xs_ifnull h0 hx hb hd hl hk h k
  case ifnonnull _ => exact xs_ifnonnull h0 hx hb hd hl hk h k
  case fconst n =>
    match n, hd, h with
    | 0, hd, h => exact xs_fconst0 h0 hx hb hd hl hk h k
    | 1, hd, h => exact xs_fconst1 h0 hx hb hd hl hk h k
    | 2, hd, h => exact xs_fconst2 h0 hx hb hd hl hk h k
  case dconst n =>
    match n, hd, h with
    | 0, hd, h => exact xs_dconst0 h0 hx hb hd hl hk h k
    | 1, hd, h => exact xs_dconst1 h0 hx hb hd hl hk h k
  all_goals (cases h)
end XJ
end
section
set_option maxRecDepth 20000
section XH
/-- the kinds of arrays: 0 int, 1 long, 2 char, 3 double, 4 objects, 5 the reference's holders, 9 an int array that is only read -/
def xak (k : Nat) : FieldType := match k with
  | 1 => .long
  | 2 => .char
  | 3 => .double
  | 4 => .object "java/lang/Object"
  | 5 => .object "ViewFoundryModel$Held"
  | _ => .int
def xlv (h : xH) : xV → Prop
  | .inl _ => True
  | .inr q => h q ≠ none
def xOl (h : xH) : xO → Prop
  | .inl w => ∀ v ∈ w.2, xlv h v
  | .inr w => ∀ j, xlv h (w.2.2 j)
def xup (h : xH) (q : Nat × Nat) (o : xO) : xH := fun z => if z = q then some o else h z
def xan (ad : xN) (q : Nat × Nat) (a : Nat) : xN := fun z => if z = q then a else ad z
def xfu (f : Nat → xV) (i : Nat) (v : xV) : Nat → xV := fun j => if j = i then v else f j
theorem xup_dom {h : xH} {q z : Nat × Nat} {o : xO} (hz : h z ≠ none) : xup h q o z ≠ none := by
  unfold xup
  split
  · simp
  · exact hz
theorem xup_lv {h : xH} {q : Nat × Nat} {o : xO} {v : xV} (hv : xlv h v) : xlv (xup h q o) v := by
  cases v with
  | inl v => trivial
  | inr z => exact xup_dom hv
theorem xup_Ol {h : xH} {q : Nat × Nat} {o o1 : xO} (ho : xOl h o1) : xOl (xup h q o) o1 := by
  cases o1 with
  | inl w => exact fun v hv => xup_lv (ho v hv)
  | inr w => exact fun j => xup_lv (ho j)
theorem xan_c {h : xH} {ad : xN} {q : Nat × Nat} {a : Nat} (hq : h q = none) {v : xV} (hv : xlv h v) : xc (xan ad q a) v = xc ad v := by
  cases v with
  | inl v => rfl
  | inr z =>
    show Value.ref (xan ad q a z) = Value.ref (ad z)
    unfold xan
    exact congrArg Value.ref (if_neg (fun e : z = q => hv (by rw [e]; exact hq)))
/-- what a cell of the machine is of an object -/
def xcell (s : State) (D : va_G) (cl : List vw_C) (ad : xN) (a : Nat) (o : xO) (H : Heap) : Prop := match o with
  | .inl w => ∃ r : vw_C, cl[w.1]? = some r ∧ w.2.length = r.2.2 ∧ t_OB a (D.1 w.1) r.2.2 (D.2 w.1) H (vp_V (w.2.map (xc ad)))
  | .inr w => ∃ cell : Cell, H[a]? = some cell ∧ s.isArrayOf cell (xak w.1) ∧ (w.1 = 9 ∨ va_RA s cell.cls (xak w.1)) ∧ cell.vm ≠ .unknown ∧ cell.slots.size = w.2.1 ∧ ∀ j, j < w.2.1 → cell.slots[j]? = some (xc ad (w.2.2 j))
theorem xcell.kept {s : State} {D : va_G} {cl : List vw_C} {ad : xN} {a : Nat} {o : xO} {H H1 : Heap} (h : xcell s D cl ad a o H) (e : H1[a]? = H[a]?) : xcell s D cl ad a o H1 := by
  cases o with
  | inl w =>
    obtain ⟨r, h1, h2, h3⟩ := h
    exact ⟨r, h1, h2, h3.kept e⟩
  | inr w =>
    obtain ⟨cell, h1, h2⟩ := h
    exact ⟨cell, by rw [e]; exact h1, h2⟩
theorem xcell.lt {s : State} {D : va_G} {cl : List vw_C} {ad : xN} {a : Nat} {o : xO} {H : Heap} (h : xcell s D cl ad a o H) : a < H.size := by
  cases o with
  | inl w =>
    obtain ⟨r, h1, h2, cell, h3, -⟩ := h
    exact (Array.getElem?_eq_some_iff.mp h3).1
  | inr w =>
    obtain ⟨cell, h1, -⟩ := h
    exact (Array.getElem?_eq_some_iff.mp h1).1
theorem xcell.ad {s : State} {D : va_G} {cl : List vw_C} {ad ad2 : xN} {a : Nat} {o : xO} {H : Heap} {h : xH} (hc : xcell s D cl ad a o H) (ho : xOl h o) (e : ∀ v, xlv h v → xc ad2 v = xc ad v) : xcell s D cl ad2 a o H := by
  cases o with
  | inl w =>
    obtain ⟨r, h1, h2, h3⟩ := hc
    refine ⟨r, h1, h2, ?_⟩
    rw [List.map_congr_left (fun v hv => e v (ho v hv))]
    exact h3
  | inr w =>
    obtain ⟨cell, h1, h2, h3, h4, h5, h6⟩ := hc
    exact ⟨cell, h1, h2, h3, h4, h5, fun j hj => by rw [e _ (ho j)]; exact h6 j hj⟩
theorem xcell.moved {s U : State} {D : va_G} {cl : List vw_C} {ad : xN} {a : Nat} {o : xO} {H : Heap} (hvm : s.vm.Alike U.vm) (h : xcell s D cl ad a o H) : xcell U D cl ad a o H := by
  cases o with
  | inl w => exact h
  | inr w =>
    obtain ⟨cell, h1, h2, h3, h4⟩ := h
    exact ⟨cell, h1, State.isArrayOf_alike hvm h2, h3.imp id (fun z => z.moved hvm), h4⟩
/-- the machine's heap holds the small machine's objects, each at the address of its name -/
def xRep (s : State) (D : va_G) (cl : List vw_C) (B : Nat) (ad : xN) (h : xH) (H : Heap) : Prop :=
  (∀ q o, h q = some o → xcell s D cl ad (ad q) o H) ∧ (∀ q z, h q ≠ none → h z ≠ none → ad q = ad z → q = z) ∧ (∀ q, h q ≠ none → q.1 ≠ 0 → B ≤ ad q) ∧ ∀ q o, h q = some o → xOl h o
theorem xRep.moved {s U : State} {D : va_G} {cl : List vw_C} {B : Nat} {ad : xN} {h : xH} {H : Heap} (hvm : s.vm.Alike U.vm) (hR : xRep s D cl B ad h H) : xRep U D cl B ad h H :=
  ⟨fun q o hq => (hR.1 q o hq).moved hvm, hR.2⟩
theorem xRep.put {s : State} {D : va_G} {cl : List vw_C} {B : Nat} {ad : xN} {h : xH} {H H1 : Heap} {q : Nat × Nat} {o o1 : xO} (hR : xRep s D cl B ad h H) (hq : h q = some o) (hc : xcell s D cl ad (ad q) o1 H1) (hk : ∀ a, a ≠ ad q → H1[a]? = H[a]?) (ho : xOl h o1) : xRep s D cl B ad (xup h q o1) H1 := by
  obtain ⟨r1, r2, r3, r4⟩ := hR
  have hq0 : h q ≠ none := by rw [hq]; simp
  have dom : ∀ z, xup h q o1 z ≠ none → h z ≠ none := by
    intro z hz
    unfold xup at hz
    split at hz
    next e => subst e; exact hq0
    next => exact hz
  refine ⟨fun z oz hz => ?_, fun z y hz hy e => r2 z y (dom z hz) (dom y hy) e, fun z hz h0 => r3 z (dom z hz) h0, fun z oz hz => ?_⟩
  · unfold xup at hz
    split at hz
    next e => cases hz; subst e; exact hc
    next e => exact (r1 z oz hz).kept (hk _ (fun a => e (r2 z q (by rw [hz]; simp) hq0 a)))
  · unfold xup at hz
    split at hz
    next e => cases hz; exact xup_Ol ho
    next e => exact xup_Ol (r4 z oz hz)
theorem xRep.new {s : State} {D : va_G} {cl : List vw_C} {B : Nat} {ad : xN} {h : xH} {H H1 : Heap} {q : Nat × Nat} {o1 : xO} (hR : xRep s D cl B ad h H) (hq : h q = none) (hB : B ≤ H.size) (hc : xcell s D cl (xan ad q H.size) H.size o1 H1) (hk : ∀ x, x < H.size → H1[x]? = H[x]?) (ho : xOl (xup h q o1) o1) : xRep s D cl B (xan ad q H.size) (xup h q o1) H1 := by
  obtain ⟨r1, r2, r3, r4⟩ := hR
  have hlt : ∀ z, h z ≠ none → ad z < H.size := by
    intro z hz
    cases e : h z with
    | none => exact absurd e hz
    | some o => exact (r1 z o e).lt
  have hae : ∀ z, h z ≠ none → xan ad q H.size z = ad z := fun z hz => by
    unfold xan
    exact if_neg (fun e : z = q => hz (by rw [e]; exact hq))
  have hself : xan ad q H.size q = H.size := by unfold xan; rw [if_pos rfl]
  have dom : ∀ z, xup h q o1 z ≠ none → z = q ∨ h z ≠ none := by
    intro z hz
    unfold xup at hz
    split at hz
    next e => exact Or.inl e
    next => exact Or.inr hz
  refine ⟨fun z oz hz => ?_, fun z y hz hy e => ?_, fun z hz h0 => ?_, fun z oz hz => ?_⟩
  · unfold xup at hz
    split at hz
    next e =>
      cases hz
      subst e
      rw [hself]
      exact hc
    next e =>
      have hz0 : h z ≠ none := by rw [hz]; simp
      rw [hae z hz0]
      exact ((r1 z oz hz).ad (r4 z oz hz) (fun v hv => xan_c hq hv)).kept (hk _ (hlt z hz0))
  · rcases dom z hz with rfl | hz0 <;> rcases dom y hy with rfl | hy0
    · rfl
    · rw [hself, hae y hy0] at e
      exact absurd (hlt y hy0) (by omega)
    · rw [hself, hae z hz0] at e
      exact absurd (hlt z hz0) (by omega)
    · rw [hae z hz0, hae y hy0] at e
      exact r2 z y hz0 hy0 e
  · rcases dom z hz with rfl | hz0
    · rw [hself]; exact hB
    · rw [hae z hz0]; exact r3 z hz0 h0
  · unfold xup at hz
    split at hz
    next e => cases hz; exact ho
    next e => exact xup_Ol (r4 z oz hz)
theorem xarr_set {ad : xN} {cell : Cell} {n : Nat} {f : Nat → xV} {i : Nat} {v : xV} (hsz : cell.slots.size = n) (hv : ∀ j, j < n → cell.slots[j]? = some (xc ad (f j))) (hi : i < n) :
    (cell.setSlot i (xc ad v)).slots.size = n ∧ ∀ j, j < n → (cell.setSlot i (xc ad v)).slots[j]? = some (xc ad (xfu f i v j)) := by
  refine ⟨by simp [Cell.setSlot, hsz], fun j hj => ?_⟩
  show (cell.slots.setIfInBounds i (xc ad v))[j]? = _
  unfold xfu
  by_cases e : j = i
  · subst e
    rw [if_pos rfl, Array.getElem?_setIfInBounds_self_of_lt (by omega)]
  · rw [if_neg e, Array.getElem?_setIfInBounds_ne (fun z => e z.symm)]
    exact hv j hj
/-- what a frame knows of the heap: the objects, and that nothing else that was there at its start has changed -/
def xI (s : State) (D : va_G) (cl : List vw_C) (B : Nat) (ad : xN) (h : xH) (H : Heap) (locs : List Loc) : Prop :=
  xRep s D cl B ad h H ∧ va_S (fun q => B ≤ q) s.heap H locs ∧ B ≤ s.heap.size
/-- one address more was written -/
theorem xS_put {B : Nat} {H0 H H1 : Heap} {locs : List Loc} {a i : Nat} (hS : va_S (fun q => B ≤ q) H0 H locs) (hz : H1.size = H.size) (hk : ∀ x, x ≠ a → H1[x]? = H[x]?) (ha : B ≤ a) : va_S (fun q => B ≤ q) H0 H1 (locs ++ [⟨a, i⟩]) := by
  refine ⟨by rw [hz]; exact hS.1, fun q h1 h2 => ?_, fun l hl => ?_⟩
  · have h2' : ¬ B ≤ q := h2
    rw [hk q (fun e => h2' (e ▸ ha))]
    exact hS.2.1 q h1 h2
  · rcases List.mem_append.mp hl with h | h
    · exact hS.2.2 l h
    · rw [List.mem_singleton.mp h]
      exact ha
theorem xS_new {B : Nat} {H0 H H1 : Heap} {locs : List Loc} (hS : va_S (fun q => B ≤ q) H0 H locs) (hz : H.size ≤ H1.size) (hk : ∀ x, x < H.size → H1[x]? = H[x]?) : va_S (fun q => B ≤ q) H0 H1 locs :=
  ⟨Nat.le_trans hS.1 hz, fun q h1 h2 => by rw [hk q (Nat.lt_of_lt_of_le h1 hS.1)]; exact hS.2.1 q h1 h2, hS.2.2⟩
/-- a write of an object that is there, but not one that is only read -/
theorem xI.put {s : State} {D : va_G} {cl : List vw_C} {B : Nat} {ad : xN} {h : xH} {H H1 : Heap} {locs : List Loc} {q : Nat × Nat} {o o1 : xO} {i : Nat} (hI : xI s D cl B ad h H locs) (hq : h q = some o) (h0 : q.1 ≠ 0) (hc : xcell s D cl ad (ad q) o1 H1) (hz : H1.size = H.size) (hk : ∀ a, a ≠ ad q → H1[a]? = H[a]?) (ho : xOl h o1) : xI s D cl B ad (xup h q o1) H1 (locs ++ [⟨ad q, i⟩]) :=
  ⟨hI.1.put hq hc hk ho, xS_put hI.2.1 hz hk (hI.1.2.2.1 q (by rw [hq]; simp) h0), hI.2.2⟩
theorem xI.new {s : State} {D : va_G} {cl : List vw_C} {B : Nat} {ad : xN} {h : xH} {H H1 : Heap} {locs : List Loc} {q : Nat × Nat} {o1 : xO} (hI : xI s D cl B ad h H locs) (hq : h q = none) (hc : xcell s D cl (xan ad q H.size) H.size o1 H1) (hz : H.size ≤ H1.size) (hk : ∀ x, x < H.size → H1[x]? = H[x]?) (ho : xOl (xup h q o1) o1) : xI s D cl B (xan ad q H.size) (xup h q o1) H1 locs :=
  ⟨hI.1.new hq (Nat.le_trans hI.2.2 hI.2.1.1) hc hk ho, xS_new hI.2.1 hz hk, hI.2.2⟩
theorem xlm_an {h : xH} {ad : xN} {q : Nat × Nat} {a : Nat} {l : xL} (hq : h q = none) (hl : ∀ z ∈ l, xlv h z.2) : xlm (xan ad q a) l = xlm ad l :=
  List.map_congr_left (fun z hz => by rw [xan_c hq (hl z hz)])
theorem xst_an {h : xH} {ad : xN} {q : Nat × Nat} {a : Nat} {st : List xV} (hq : h q = none) (hl : ∀ v ∈ st, xlv h v) : st.map (xc (xan ad q a)) = st.map (xc ad) :=
  List.map_congr_left (fun z hz => xan_c hq (hl z hz))
theorem xok_up {h : xH} {q : Nat × Nat} {o : xO} {l : xL} {st : List xV} (hk : xok (xlv h) l st) : xok (xlv (xup h q o)) l st := ⟨fun z hz => xup_lv (hk.1 z hz), fun v hv => xup_lv (hk.2 v hv)⟩
theorem xlv_self {h : xH} {q : Nat × Nat} {o : xO} : xlv (xup h q o) (.inr q) := by
  show xup h q o q ≠ none
  unfold xup
  rw [if_pos rfl]
  simp
end XH
end
section
set_option maxRecDepth 20000
section XT
def xtyc (t : Nat) (ty : FieldType) : Prop := match t, ty with
  | 0, .int => True
  | 1, .long => True
  | 2, .object _ => True
  | 2, .array _ => True
  | 3, .boolean => True
  | 4, .char => True
  | _, _ => False
def xfit (t : Nat) (v : xV) : Bool := match t, v with
  | 0, .inl (.int _) => true
  | 1, .inl (.long _) => true
  | 2, .inl .null => true
  | 2, .inr _ => true
  | 3, .inl (.int x) => decide (x = 0 ∨ x = 1)
  | 4, .inl (.int x) => decide (0 ≤ x ∧ x ≤ 65535)
  | _, _ => false
theorem xfit_char {x : Int32} (h : 0 ≤ x ∧ x ≤ 65535) : narrow .char (.int x) = .int x ∧ fits .char (.int x) = true := by
  obtain ⟨j, hj, rfl⟩ := nI_of2 (M := 65535) (n := 65535) rfl (by
    have h2 := Int32.le_iff_toInt_le.mp h.1
    intro q
    have h3 := Int32.lt_iff_toInt_lt.mp q
    omega) h.2
  exact pk_charN (by omega)
theorem xfit_ok {t : Nat} {ty : FieldType} {v : xV} {ad : xN} (ht : xtyc t ty) (h : xfit t v = true) : narrow ty (xc ad v) = xc ad v ∧ fits ty (xc ad v) = true := by
  unfold xfit at h
  split at h
  next => cases ty <;> first | exact ⟨rfl, rfl⟩ | exact absurd ht id
  next => cases ty <;> first | exact ⟨rfl, rfl⟩ | exact absurd ht id
  next => cases ty <;> first | exact ⟨rfl, rfl⟩ | exact absurd ht id
  next => cases ty <;> first | exact ⟨rfl, rfl⟩ | exact absurd ht id
  next x =>
    have h := of_decide_eq_true h
    cases ty <;> first | exact absurd ht id | (rcases h with rfl | rfl <;> exact ⟨rfl, rfl⟩)
  next x =>
    have h := of_decide_eq_true h
    cases ty <;> first | exact absurd ht id | exact xfit_char h
  next => cases h
/-- a fresh field of a type -/
def xd0 (t : Nat) : xV := match t with
  | 0 => .inl (.int 0)
  | 1 => .inl (.long 0)
  | 2 => .inl .null
  | 3 => .inl (.int 0)
  | 4 => .inl (.int 0)
  | _ => .inl (.double 0)
def xcd (o : Jvm.ClassFile.Cond) (x y : Int32) : Bool := match o with
  | .eq => decide (x = y)
  | .ne => decide (¬ x = y)
  | .lt => decide (x < y)
  | .ge => decide (y ≤ x)
  | .gt => decide (y < x)
  | .le => decide (x ≤ y)
def xjmp (pc : Nat) (off : Int) (l : xL) (st : List xV) (A : xA) : Option (Nat × xL × List xV × xA) := if 0 ≤ (pc : Int) + off then some (((pc : Int) + off).toNat, l, st, A) else none
def xbr (b : Bool) (pc : Nat) (off : Int) (l : xL) (st : List xV) (A : xA) : Option (Nat × xL × List xV × xA) := if 0 ≤ (pc : Int) + off then (if b = true then some (((pc : Int) + off).toNat, l, st, A) else some (pc + 3, l, st, A)) else none
/-- how many bytes -/
def xlen2 : Instr → Nat
  | .ifCond _ _ => 3
  | .if_icmp _ _ => 3
  | .if_acmp _ _ => 3
  | .getfield _ => 3
  | .putfield _ => 3
  | .newarray _ => 2
  | .anewarray _ => 3
  | .new _ => 3
  | .checkcast _ => 3
  | .ldc _ => 2
  | .ldc_w _ => 3
  | .ldc2_w _ => 3
  | .getstatic _ => 3
  | _ => 1
def xarr (kd : Nat) (i : Int32) (n : Nat) (f : Nat → xV) (want : Nat) : Option xV := if (kd = want ∨ want = 0 ∧ kd = 9) ∧ ¬ (i < 0 ∨ n ≤ i.toNatClampNeg) then some (f i.toNatClampNeg) else none
def xsto (A : xA) (q : Nat × Nat) (kd : Nat) (i : Int32) (n : Nat) (f : Nat → xV) (want : Nat) (v : xV) : Option xA := if kd = want ∧ q.1 ≠ 0 ∧ ¬ (i < 0 ∨ n ≤ i.toNatClampNeg) then some (A.1, A.2.1, A.2.2.1, xup A.2.2.2 q (.inr (kd, n, xfu f i.toNatClampNeg v))) else none
/-- one instruction that branches or touches the heap -/
def xs2 (i : Instr) (ops : List Nat) (pc : Nat) (l : xL) (st : List xV) (A : xA) : Option (Nat × xL × List xV × xA) :=
  match i with
  | .ifCond o off => match st with
    | .inl (.int x) :: r => xbr (xcd o x 0) pc off l r A
    | _ => none
  | .if_icmp o off => match st with
    | .inl (.int y) :: .inl (.int x) :: r => xbr (xcd o x y) pc off l r A
    | _ => none
  | .if_acmp .eq off => match st with
    | .inr q :: .inr z :: r => xbr (decide (z = q)) pc off l r A
    | .inl .null :: .inr _ :: r => xbr false pc off l r A
    | .inr _ :: .inl .null :: r => xbr false pc off l r A
    | .inl .null :: .inl .null :: r => xbr true pc off l r A
    | _ => none
  | .if_acmp .ne off => match st with
    | .inr q :: .inr z :: r => xbr (decide (¬ z = q)) pc off l r A
    | .inl .null :: .inr _ :: r => xbr true pc off l r A
    | .inr _ :: .inl .null :: r => xbr true pc off l r A
    | .inl .null :: .inl .null :: r => xbr false pc off l r A
    | _ => none
  | .tableswitch dflt lo hi offs => match st with
    | .inl (.int x) :: r => if x.toInt < lo ∨ hi < x.toInt then xjmp pc dflt l r A else (match offs[(x.toInt - lo).toNat]? with
      | some off => xjmp pc off l r A
      | none => none)
    | _ => none
  | .getfield _ => match st with
    | .inr q :: r => match A.2.2.2 q with
      | some (.inl (ci, fs)) => match ops with
        | kx :: cis => if cis.elem ci = true then (match fs[kx]? with
          | some v => some (pc + 3, l, v :: r, A)
          | none => none) else none
        | _ => none
      | _ => none
    | _ => none
  | .putfield _ => match st with
    | v :: .inr q :: r => match A.2.2.2 q with
      | some (.inl (ci, fs)) => match ops with
        | kx :: t :: cis => if cis.elem ci = true ∧ q.1 ≠ 0 ∧ xfit t v = true then some (pc + 3, l, r, (A.1, A.2.1, A.2.2.1, xup A.2.2.2 q (.inl (ci, fs.set kx v)))) else none
        | _ => none
      | _ => none
    | _ => none
  | .iaload => match st with
    | .inl (.int j) :: .inr q :: r => match A.2.2.2 q with
      | some (.inr (kd, n, f)) => match xarr kd j n f 0 with
        | some v => some (pc + 1, l, v :: r, A)
        | none => none
      | _ => none
    | _ => none
  | .laload => match st with
    | .inl (.int j) :: .inr q :: r => match A.2.2.2 q with
      | some (.inr (kd, n, f)) => match xarr kd j n f 1 with
        | some v => some (pc + 1, l, v :: r, A)
        | none => none
      | _ => none
    | _ => none
  | .caload => match st with
    | .inl (.int j) :: .inr q :: r => match A.2.2.2 q with
      | some (.inr (kd, n, f)) => match xarr kd j n f 2 with
        | some v => some (pc + 1, l, v :: r, A)
        | none => none
      | _ => none
    | _ => none
  | .daload => match st with
    | .inl (.int j) :: .inr q :: r => match A.2.2.2 q with
      | some (.inr (kd, n, f)) => match xarr kd j n f 3 with
        | some v => some (pc + 1, l, v :: r, A)
        | none => none
      | _ => none
    | _ => none
  | .aaload => match st with
    | .inl (.int j) :: .inr q :: r => match A.2.2.2 q with
      | some (.inr (kd, n, f)) => match xarr kd j n f (if kd = 5 then 5 else 4) with
        | some v => some (pc + 1, l, v :: r, A)
        | none => none
      | _ => none
    | _ => none
  | .iastore => match st with
    | .inl (.int x) :: .inl (.int j) :: .inr q :: r => match A.2.2.2 q with
      | some (.inr (kd, n, f)) => match xsto A q kd j n f 0 (.inl (.int x)) with
        | some A1 => some (pc + 1, l, r, A1)
        | none => none
      | _ => none
    | _ => none
  | .lastore => match st with
    | .inl (.long x) :: .inl (.int j) :: .inr q :: r => match A.2.2.2 q with
      | some (.inr (kd, n, f)) => match xsto A q kd j n f 1 (.inl (.long x)) with
        | some A1 => some (pc + 1, l, r, A1)
        | none => none
      | _ => none
    | _ => none
  | .castore => match st with
    | .inl (.int x) :: .inl (.int j) :: .inr q :: r => match A.2.2.2 q with
      | some (.inr (kd, n, f)) => if 0 ≤ x ∧ x ≤ 65535 then (match xsto A q kd j n f 2 (.inl (.int x)) with
        | some A1 => some (pc + 1, l, r, A1)
        | none => none) else none
      | _ => none
    | _ => none
  | .dastore => match st with
    | .inl (.double x) :: .inl (.int j) :: .inr q :: r => match A.2.2.2 q with
      | some (.inr (kd, n, f)) => match xsto A q kd j n f 3 (.inl (.double x)) with
        | some A1 => some (pc + 1, l, r, A1)
        | none => none
      | _ => none
    | _ => none
  | .aastore => match st with
    | .inr z :: .inl (.int j) :: .inr q :: r => match A.2.2.2 q, A.2.2.2 z with
      | some (.inr (kd, n, f)), some (.inl (ci, _)) => if ops.elem ci = true ∧ (kd = 4 ∨ kd = 5 ∧ ops[0]? = some ci) then (match xsto A q kd j n f kd (.inr z) with
        | some A1 => some (pc + 1, l, r, A1)
        | none => none) else none
      | _, _ => none
    | .inl .null :: .inl (.int j) :: .inr q :: r => match A.2.2.2 q with
      | some (.inr (kd, n, f)) => if kd = 4 ∨ kd = 5 then (match xsto A q kd j n f kd (.inl .null) with
        | some A1 => some (pc + 1, l, r, A1)
        | none => none) else none
      | _ => none
    | _ => none
  | .arraylength => match st with
    | .inr q :: r => match A.2.2.2 q with
      | some (.inr (_, n, _)) => some (pc + 1, l, .inl (.int (Int32.ofNat n)) :: r, A)
      | _ => none
    | _ => none
  | .newarray _ => match st, ops, A.1 with
    | .inl (.int n) :: r, [kd], q :: nm => if ¬ n < 0 ∧ n.toNatClampNeg ≤ 67108864 ∧ (A.2.2.2 q).isNone = true ∧ q.1 ≠ 0 then some (pc + 2, l, .inr q :: r, (nm, A.2.1 + 1, A.2.2.1 + n.toNatClampNeg, xup A.2.2.2 q (.inr (kd, n.toNatClampNeg, fun _ => .inl (defaultValue (xak kd)))))) else none
    | _, _, _ => none
  | .anewarray _ => match st, ops, A.1 with
    | .inl (.int n) :: r, [kd], q :: nm => if ¬ n < 0 ∧ n.toNatClampNeg ≤ 67108864 ∧ (A.2.2.2 q).isNone = true ∧ q.1 ≠ 0 then some (pc + 3, l, .inr q :: r, (nm, A.2.1 + 1, A.2.2.1 + n.toNatClampNeg, xup A.2.2.2 q (.inr (kd, n.toNatClampNeg, fun _ => .inl .null)))) else none
    | _, _, _ => none
  | .new _ => match ops, A.1 with
    | ci :: tc, q :: nm => if (A.2.2.2 q).isNone = true ∧ q.1 ≠ 0 then some (pc + 3, l, .inr q :: st, (nm, A.2.1 + 1, A.2.2.1 + tc.length, xup A.2.2.2 q (.inl (ci, tc.map xd0)))) else none
    | _, _ => none
  | .checkcast _ => match st with
    | .inl .null :: r => some (pc + 3, l, .inl .null :: r, A)
    | .inr q :: r => match A.2.2.2 q with
      | some (.inl (ci, _)) => if ops.elem ci = true then some (pc + 3, l, .inr q :: r, A) else none
      | _ => none
    | _ => none
  | .ldc _ => match ops with
    | [0, v] => some (pc + 2, l, .inl (.int (Int32.ofNat v)) :: st, A)
    | [5, v] => some (pc + 2, l, .inl (.float (UInt32.ofNat v)) :: st, A)
    | _ => none
  | .ldc_w _ => match ops with
    | [0, v] => some (pc + 3, l, .inl (.int (Int32.ofNat v)) :: st, A)
    | _ => none
  | .ldc2_w _ => match ops with
    | [1, v] => some (pc + 3, l, .inl (.long (Int64.ofNat v)) :: st, A)
    | [6, v] => some (pc + 3, l, .inl (.double (UInt64.ofNat v)) :: st, A)
    | _ => none
  | .getstatic _ => if ops = [77] then some (pc + 3, l, .inr (0, 1) :: st, A) else none
  | _ => none
/-- a field of a class by its place: what the tables say -/
def xfld (Ts : List Cond) (cl : List vw_C) (own : String) (idx k ci : Nat) : Prop := ∃ (r : vw_C) (ref : String), cl[ci]? = some r ∧ k < r.2.2 ∧ (Cond.fieldLink own idx ref (r.2.1 k).2.1 (r.2.1 k).2.2.1 ∈ Ts ∨ ∃ host, Cond.fieldLinkNest own idx ref (r.2.1 k).2.1 (r.2.1 k).2.2.1 host ∈ Ts) ∧ (ref = (r.2.1 k).1 ∨ Cond.sameField ref (r.2.1 k).1 (r.2.1 k).2.1 (r.2.1 k).2.2.1 ∈ Ts)
def xput (Ts : List Cond) (cl : List vw_C) (own nm : String) (idx k t ci : Nat) : Prop := ∃ (r : vw_C) (ref : String) (ty : FieldType), cl[ci]? = some r ∧ k < r.2.2 ∧ parseFieldDescriptor (r.2.1 k).2.2.1 = some ty ∧ xtyc t ty ∧ (ref = (r.2.1 k).1 ∨ Cond.sameField ref (r.2.1 k).1 (r.2.1 k).2.1 (r.2.1 k).2.2.1 ∈ Ts) ∧
  ((Cond.fieldLink own idx ref (r.2.1 k).2.1 (r.2.1 k).2.2.1 ∈ Ts ∧ ((r.2.1 k).2.2.2 = false ∨ (r.2.1 k).2.2.2 = true ∧ nm = "<init>" ∧ (r.2.1 k).1 = own)) ∨ (∃ host, Cond.fieldLinkNest own idx ref (r.2.1 k).2.1 (r.2.1 k).2.2.1 host ∈ Ts) ∧ (r.2.1 k).2.2.2 = false)
def xcls (Ts : List Cond) (r : vw_C) : Prop := (∀ w ∈ u_ws r.1 r.2.1 r.2.2, w ∈ Ts) ∧ (∃ ty : Nat → FieldType, ∀ k, k < r.2.2 → parseFieldDescriptor (r.2.1 k).2.2.1 = some (ty k)) ∧ ∀ a, a < r.2.2 → ∀ b, b < r.2.2 → a ≠ b → (r.2.1 a).2.1 ≠ (r.2.1 b).2.1
/-- what the tables must say of an instruction with its operands -/
def xT (Ts : List Cond) (cl : List vw_C) (own nm : String) (i : Instr) (ops : List Nat) : Prop := match i with
  | .getfield idx => match ops with
    | kx :: cis => ∀ ci ∈ cis, xfld Ts cl own idx kx ci
    | _ => True
  | .putfield idx => match ops with
    | kx :: t :: cis => ∀ ci ∈ cis, xput Ts cl own nm idx kx t ci
    | _ => True
  | .newarray at_ => match ops with
    | [kd] => newarray.typeOf at_ = xak kd ∧ Cond.arrayClass (newarray.typeOf at_) ∈ Ts ∧ kd ≠ 4 ∧ kd ≠ 5
    | _ => True
  | .anewarray idx => match ops with
    | [kd] => ∃ C, xak kd = .object C ∧ Cond.classLink own idx C ∈ Ts ∧ Cond.arrayOver (.object C) ∈ Ts
    | _ => True
  | .new idx => match ops with
    | ci :: tc => ∃ r : vw_C, cl[ci]? = some r ∧ tc.length = r.2.2 ∧ Cond.classLink own idx r.1 ∈ Ts ∧ Cond.instantiable r.1 r.2.2 ∈ Ts ∧ Cond.initialized r.1 ∈ Ts ∧ ∀ j, j < r.2.2 → ∃ ty t, parseFieldDescriptor (r.2.1 j).2.2.1 = some ty ∧ tc[j]? = some t ∧ .inl (defaultValue ty) = xd0 t
    | _ => True
  | .checkcast idx => ∀ ci ∈ ops, ∃ (r : vw_C) (nm : String), cl[ci]? = some r ∧ Cond.classLink own idx nm ∈ Ts ∧ (Cond.castable r.1 nm ∈ Ts ∨ nm = r.1)
  | .aastore => ∀ ci ∈ ops, ∃ r : vw_C, cl[ci]? = some r ∧ Cond.castable r.1 "java/lang/Object" ∈ Ts ∧ (ops[0]? = some ci → r.1 = "ViewFoundryModel$Held")
  | .ldc idx => match ops with
    | [0, v] => Cond.constant own idx (Int32.ofNat v) ∈ Ts
    | [5, v] => Cond.constantFloat own idx (UInt32.ofNat v) ∈ Ts
    | _ => True
  | .ldc_w idx => match ops with
    | [0, v] => Cond.constant own idx (Int32.ofNat v) ∈ Ts
    | _ => True
  | .ldc2_w idx => match ops with
    | [1, v] => Cond.constantLong own idx (Int64.ofNat v) ∈ Ts
    | [6, v] => Cond.constantDouble own idx (UInt64.ofNat v) ∈ Ts
    | _ => True
  | .getstatic idx => ops = [77] → Cond.fieldLink own idx "java/util/ArrayList" "DEFAULTCAPACITY_EMPTY_ELEMENTDATA" "[Ljava/lang/Object;" ∈ Ts
  | _ => True
/-- the statics that a run reads, as they were at the frame's start -/
def xE (s : State) (B : Nat) (ad : xN) (h : xH) : Prop := h (0, 1) ≠ none ∧ va_Z "java/util/ArrayList" "DEFAULTCAPACITY_EMPTY_ELEMENTDATA" "[Ljava/lang/Object;" (.ref (ad (0, 1))) (fun q => B ≤ q) s s.heap
/-- a frame's machine, tables and code -/
def xCx (p : Program) (s : State) (m : MethodId) (args : Array Value) (meth : Method) (c : Code) (D : va_G) (cl : List vw_C) (Ts : List Cond) (own nm : String) (cc : ByteArray) : Prop :=
  p.tables.exec = Jvm.exec ∧ c.code = cc ∧ s.vm.findClass own = some m.cls ∧ (∀ w ∈ Ts, w.before args s = true) ∧ meth.name = nm ∧ va_K D cl [] s ∧ ∀ (ci : Nat) (r : vw_C), cl[ci]? = some r → xcls Ts r
/-- from the next place on, whatever addresses the new names have -/
def xCont (p : Program) (l0 : Launch) (e : Env) (R : Room) (s : State) (m : MethodId) (args : Array Value) (below : List Frame) (meth : Method) (c : Code) (D : va_G) (cl : List vw_C) (B : Nat) (ad : xN) (A A2 : xA) (l2 : xL) (st2 : List xV) (nL pc2 cells slots : Nat) (Q : State → Prop) : Prop :=
  ∀ (ad2 : xN) (H2 : Heap) (locs2 : List Loc) (ls2 : Array Slot) (cells2 slots2 : Nat), (∀ v, xlv A.2.2.2 v → xlv A2.2.2.2 v ∧ xc ad2 v = xc ad v) → (∀ z : Nat × Nat, z.1 = 0 → ad2 z = ad z) → xI s D cl B ad2 A2.2.2.2 H2 locs2 → lv_has ls2 nL (xlm ad2 l2) → xok (xlv A2.2.2.2) l2 st2 → cells2 + A.2.1 = cells + A2.2.1 → slots2 + A.2.2.1 = slots + A2.2.2.1 →
    W p l0 e R s m args below meth c H2 locs2 cells2 slots2 Q (F0 m pc2 ls2 (st2.map (xc ad2)))
variable {p : Program} {l0 : Launch} {e : Env} {R : Room} {s : State} {m : MethodId} {args : Array Value} {below : List Frame} {meth : Method} {c : Code} {H : Heap} {locs : List Loc} {cells slots : Nat} {Q : State → Prop}
variable {cc : ByteArray} {pc : Nat} {ls : Array Slot} {ad : xN} {D : va_G} {cl : List vw_C} {Ts : List Cond} {own nm : String} {B : Nat}
/-- the heap stays -/
theorem xCont.same {A : xA} {l2 : xL} {st2 : List xV} {nL pc2 : Nat} (k : xCont p l0 e R s m args below meth c D cl B ad A A l2 st2 nL pc2 cells slots Q) (hl : lv_has ls nL (xlm ad l2)) (hk : xok (xlv A.2.2.2) l2 st2) (hI : xI s D cl B ad A.2.2.2 H locs) : W p l0 e R s m args below meth c H locs cells slots Q (F0 m pc2 ls (st2.map (xc ad))) :=
  k ad H locs ls cells slots (fun v hv => ⟨hv, rfl⟩) (fun _ _ => rfl) hI hl hk rfl rfl
theorem xjmp_ok {off : Int} {tgt : Nat} {l l2 : xL} {st st2 : List xV} {A A2 : xA} (h : xjmp pc off l st A = some (tgt, l2, st2, A2)) : (pc : Int) + off = (tgt : Int) ∧ l2 = l ∧ st2 = st ∧ A2 = A := by
  unfold xjmp at h
  split at h
  next hg =>
    cases h
    exact ⟨(Int.toNat_of_nonneg hg).symm, rfl, rfl, rfl⟩
  next => cases h
theorem xbr_ok {b : Bool} {off : Int} {pc2 : Nat} {l l2 : xL} {st st2 : List xV} {A A2 : xA} (h : xbr b pc off l st A = some (pc2, l2, st2, A2)) : ∃ tgt : Nat, (pc : Int) + off = (tgt : Int) ∧ l2 = l ∧ st2 = st ∧ A2 = A ∧ (b = true ∧ pc2 = tgt ∨ b = false ∧ pc2 = pc + 3) := by
  unfold xbr at h
  split at h
  next hg =>
    refine ⟨((pc : Int) + off).toNat, (Int.toNat_of_nonneg hg).symm, ?_⟩
    split at h
    next hc => cases h; exact ⟨rfl, rfl, rfl, Or.inl ⟨hc, rfl⟩⟩
    next hc => cases h; exact ⟨rfl, rfl, rfl, Or.inr ⟨by cases b <;> simp_all, rfl⟩⟩
  next => cases h
theorem xsame_ok {args : Array Value} {ref owner name desc : String} (hts : ∀ w ∈ Ts, w.before args s = true) (h : ref = owner ∨ Cond.sameField ref owner name desc ∈ Ts) : ∀ x, s.fieldFound? owner name desc = some x → s.fieldFound? ref name desc = some x := by
  rcases h with rfl | h
  · exact fun _ z => z
  · exact u_same (hts _ h)
theorem xarr_ok {kd want n : Nat} {i : Int32} {f : Nat → xV} {v : xV} (h : xarr kd i n f want = some v) : (kd = want ∨ want = 0 ∧ kd = 9) ∧ ¬ (i < 0 ∨ n ≤ i.toNatClampNeg) ∧ v = f i.toNatClampNeg := by
  unfold xarr at h
  by_cases hg : (kd = want ∨ want = 0 ∧ kd = 9) ∧ ¬ (i < 0 ∨ n ≤ i.toNatClampNeg)
  · rw [if_pos hg] at h
    exact ⟨hg.1, hg.2, (Option.some.inj h).symm⟩
  · rw [if_neg hg] at h
    cases h
theorem xelem {n : Nat} {xs : List Nat} (h : xs.elem n = true) : n ∈ xs := by simpa using h

theorem xt_ifCond {l l2 : xL} {st st2 : List xV} {A A2 : xA} {nL pc2 : Nat} {ops : List Nat} {o : Jvm.ClassFile.Cond} {off : Int} (X : xCx p s m args meth c D cl Ts own nm cc) (hd : decode cc pc = .ok (.ifCond o off, xlen2 (.ifCond o off))) (hT : xT Ts cl own nm (.ifCond o off) ops) (hl : lv_has ls nL (xlm ad l)) (hk : xok (xlv A.2.2.2) l st) (hI : xI s D cl B ad A.2.2.2 H locs) (hE : xE s B ad A.2.2.2) (h : xs2 (.ifCond o off) ops pc l st A = some (pc2, l2, st2, A2)) (hbud : cells + A2.2.1 ≤ R.cells + A.2.1 ∧ slots + A2.2.2.1 ≤ R.slots + A.2.2.1)
    (k : xCont p l0 e R s m args below meth c D cl B ad A A2 l2 st2 nL pc2 cells slots Q) : W p l0 e R s m args below meth c H locs cells slots Q (F0 m pc ls (st.map (xc ad))) := by
  simp only [xs2] at h
  obtain ⟨hx, hb, hown, hts, hnm, hK, hcl⟩ := X
  split at h
  next =>
    obtain ⟨tgt, ht, rfl, rfl, rfl, hc⟩ := xbr_ok h
    cases o
    case eq =>
      refine lv_if_eq hx hb hd ht (fun z => ?_) (fun z => ?_)
      · rcases hc with ⟨q, rfl⟩ | ⟨q, rfl⟩
        · exact k.same hl (xok_tl hk) hI
        · exact absurd z (of_decide_eq_false q)
      · rcases hc with ⟨q, rfl⟩ | ⟨q, rfl⟩
        · first | exact absurd (of_decide_eq_true q) z | exact absurd z (of_decide_eq_true q)
        · exact k.same hl (xok_tl hk) hI
    case ne =>
      refine lv_if_ne hx hb hd ht (fun z => ?_) (fun z => ?_)
      · rcases hc with ⟨q, rfl⟩ | ⟨q, rfl⟩
        · exact k.same hl (xok_tl hk) hI
        · exact absurd z (of_decide_eq_false q)
      · rcases hc with ⟨q, rfl⟩ | ⟨q, rfl⟩
        · first | exact absurd (of_decide_eq_true q) z | exact absurd z (of_decide_eq_true q)
        · exact k.same hl (xok_tl hk) hI
    case lt =>
      refine lv_if_lt hx hb hd ht (fun z => ?_) (fun z => ?_)
      · rcases hc with ⟨q, rfl⟩ | ⟨q, rfl⟩
        · exact k.same hl (xok_tl hk) hI
        · exact absurd z (of_decide_eq_false q)
      · rcases hc with ⟨q, rfl⟩ | ⟨q, rfl⟩
        · first | exact absurd (of_decide_eq_true q) z | exact absurd z (of_decide_eq_true q)
        · exact k.same hl (xok_tl hk) hI
    case ge =>
      refine lv_if_ge hx hb hd ht (fun z => ?_) (fun z => ?_)
      · rcases hc with ⟨q, rfl⟩ | ⟨q, rfl⟩
        · exact k.same hl (xok_tl hk) hI
        · exact absurd z (of_decide_eq_false q)
      · rcases hc with ⟨q, rfl⟩ | ⟨q, rfl⟩
        · first | exact absurd (of_decide_eq_true q) z | exact absurd z (of_decide_eq_true q)
        · exact k.same hl (xok_tl hk) hI
    case gt =>
      refine lv_if_gt hx hb hd ht (fun z => ?_) (fun z => ?_)
      · rcases hc with ⟨q, rfl⟩ | ⟨q, rfl⟩
        · exact k.same hl (xok_tl hk) hI
        · exact absurd z (of_decide_eq_false q)
      · rcases hc with ⟨q, rfl⟩ | ⟨q, rfl⟩
        · first | exact absurd (of_decide_eq_true q) z | exact absurd z (of_decide_eq_true q)
        · exact k.same hl (xok_tl hk) hI
    case le =>
      refine lv_if_le hx hb hd ht (fun z => ?_) (fun z => ?_)
      · rcases hc with ⟨q, rfl⟩ | ⟨q, rfl⟩
        · exact k.same hl (xok_tl hk) hI
        · exact absurd z (of_decide_eq_false q)
      · rcases hc with ⟨q, rfl⟩ | ⟨q, rfl⟩
        · first | exact absurd (of_decide_eq_true q) z | exact absurd z (of_decide_eq_true q)
        · exact k.same hl (xok_tl hk) hI
  next => cases h

theorem xt_if_icmp {l l2 : xL} {st st2 : List xV} {A A2 : xA} {nL pc2 : Nat} {ops : List Nat} {o : Jvm.ClassFile.Cond} {off : Int} (X : xCx p s m args meth c D cl Ts own nm cc) (hd : decode cc pc = .ok (.if_icmp o off, xlen2 (.if_icmp o off))) (hT : xT Ts cl own nm (.if_icmp o off) ops) (hl : lv_has ls nL (xlm ad l)) (hk : xok (xlv A.2.2.2) l st) (hI : xI s D cl B ad A.2.2.2 H locs) (hE : xE s B ad A.2.2.2) (h : xs2 (.if_icmp o off) ops pc l st A = some (pc2, l2, st2, A2)) (hbud : cells + A2.2.1 ≤ R.cells + A.2.1 ∧ slots + A2.2.2.1 ≤ R.slots + A.2.2.1)
    (k : xCont p l0 e R s m args below meth c D cl B ad A A2 l2 st2 nL pc2 cells slots Q) : W p l0 e R s m args below meth c H locs cells slots Q (F0 m pc ls (st.map (xc ad))) := by
  simp only [xs2] at h
  obtain ⟨hx, hb, hown, hts, hnm, hK, hcl⟩ := X
  split at h
  next =>
    obtain ⟨tgt, ht, rfl, rfl, rfl, hc⟩ := xbr_ok h
    cases o
    case eq =>
      refine lv_icmp_eq hx hb hd ht (fun z => ?_) (fun z => ?_)
      · rcases hc with ⟨q, rfl⟩ | ⟨q, rfl⟩
        · exact k.same hl (xok_tl (xok_tl hk)) hI
        · exact absurd z (of_decide_eq_false q)
      · rcases hc with ⟨q, rfl⟩ | ⟨q, rfl⟩
        · first | exact absurd (of_decide_eq_true q) z | exact absurd z (of_decide_eq_true q)
        · exact k.same hl (xok_tl (xok_tl hk)) hI
    case ne =>
      refine lv_icmp_ne hx hb hd ht (fun z => ?_) (fun z => ?_)
      · rcases hc with ⟨q, rfl⟩ | ⟨q, rfl⟩
        · exact k.same hl (xok_tl (xok_tl hk)) hI
        · exact absurd z (of_decide_eq_false q)
      · rcases hc with ⟨q, rfl⟩ | ⟨q, rfl⟩
        · first | exact absurd (of_decide_eq_true q) z | exact absurd z (of_decide_eq_true q)
        · exact k.same hl (xok_tl (xok_tl hk)) hI
    case lt =>
      refine lv_icmp_lt hx hb hd ht (fun z => ?_) (fun z => ?_)
      · rcases hc with ⟨q, rfl⟩ | ⟨q, rfl⟩
        · exact k.same hl (xok_tl (xok_tl hk)) hI
        · exact absurd z (of_decide_eq_false q)
      · rcases hc with ⟨q, rfl⟩ | ⟨q, rfl⟩
        · first | exact absurd (of_decide_eq_true q) z | exact absurd z (of_decide_eq_true q)
        · exact k.same hl (xok_tl (xok_tl hk)) hI
    case ge =>
      refine lv_icmp_ge hx hb hd ht (fun z => ?_) (fun z => ?_)
      · rcases hc with ⟨q, rfl⟩ | ⟨q, rfl⟩
        · exact k.same hl (xok_tl (xok_tl hk)) hI
        · exact absurd z (of_decide_eq_false q)
      · rcases hc with ⟨q, rfl⟩ | ⟨q, rfl⟩
        · first | exact absurd (of_decide_eq_true q) z | exact absurd z (of_decide_eq_true q)
        · exact k.same hl (xok_tl (xok_tl hk)) hI
    case gt =>
      refine lv_icmp_gt hx hb hd ht (fun z => ?_) (fun z => ?_)
      · rcases hc with ⟨q, rfl⟩ | ⟨q, rfl⟩
        · exact k.same hl (xok_tl (xok_tl hk)) hI
        · exact absurd z (of_decide_eq_false q)
      · rcases hc with ⟨q, rfl⟩ | ⟨q, rfl⟩
        · first | exact absurd (of_decide_eq_true q) z | exact absurd z (of_decide_eq_true q)
        · exact k.same hl (xok_tl (xok_tl hk)) hI
    case le =>
      refine lv_icmp_le hx hb hd ht (fun z => ?_) (fun z => ?_)
      · rcases hc with ⟨q, rfl⟩ | ⟨q, rfl⟩
        · exact k.same hl (xok_tl (xok_tl hk)) hI
        · exact absurd z (of_decide_eq_false q)
      · rcases hc with ⟨q, rfl⟩ | ⟨q, rfl⟩
        · first | exact absurd (of_decide_eq_true q) z | exact absurd z (of_decide_eq_true q)
        · exact k.same hl (xok_tl (xok_tl hk)) hI
  next => cases h

theorem xt_if_acmp_eq {l l2 : xL} {st st2 : List xV} {A A2 : xA} {nL pc2 : Nat} {ops : List Nat} {off : Int} (X : xCx p s m args meth c D cl Ts own nm cc) (hd : decode cc pc = .ok (.if_acmp .eq off, xlen2 (.if_acmp .eq off))) (hT : xT Ts cl own nm (.if_acmp .eq off) ops) (hl : lv_has ls nL (xlm ad l)) (hk : xok (xlv A.2.2.2) l st) (hI : xI s D cl B ad A.2.2.2 H locs) (hE : xE s B ad A.2.2.2) (h : xs2 (.if_acmp .eq off) ops pc l st A = some (pc2, l2, st2, A2)) (hbud : cells + A2.2.1 ≤ R.cells + A.2.1 ∧ slots + A2.2.2.1 ≤ R.slots + A.2.2.1)
    (k : xCont p l0 e R s m args below meth c D cl B ad A A2 l2 st2 nL pc2 cells slots Q) : W p l0 e R s m args below meth c H locs cells slots Q (F0 m pc ls (st.map (xc ad))) := by
  simp only [xs2] at h
  obtain ⟨hx, hb, hown, hts, hnm, hK, hcl⟩ := X
  split at h
  next q z r =>
    obtain ⟨tgt, ht, rfl, rfl, rfl, hc⟩ := xbr_ok h
    refine lv_acmp_eq (ry := some (ad q)) (rx := some (ad z)) hx hb hd ht (fun w => ?_) (fun w => ?_)
    · rcases hc with ⟨u, rfl⟩ | ⟨u, rfl⟩
      · exact k.same hl (xok_tl (xok_tl hk)) hI
      · exact absurd (hI.1.2.1 _ _ (xok_hd (xok_tl hk)) (xok_hd hk) (Option.some.inj w)) (of_decide_eq_false u)
    · rcases hc with ⟨u, rfl⟩ | ⟨u, rfl⟩
      · exact absurd (by rw [of_decide_eq_true u]) w
      · exact k.same hl (xok_tl (xok_tl hk)) hI
  next z r =>
    obtain ⟨tgt, ht, rfl, rfl, rfl, hc⟩ := xbr_ok h
    refine lv_acmp_eq (ry := none) (rx := some (ad z)) hx hb hd ht (fun w => ?_) (fun w => ?_)
    · rcases hc with ⟨u, rfl⟩ | ⟨u, rfl⟩
      · exact k.same hl (xok_tl (xok_tl hk)) hI
      · first | exact absurd u (by decide) | exact absurd rfl w | (cases w; done)
    · rcases hc with ⟨u, rfl⟩ | ⟨u, rfl⟩
      · first | exact absurd u (by decide) | exact absurd rfl w | (cases w; done)
      · exact k.same hl (xok_tl (xok_tl hk)) hI
  next q r =>
    obtain ⟨tgt, ht, rfl, rfl, rfl, hc⟩ := xbr_ok h
    refine lv_acmp_eq (ry := some (ad q)) (rx := none) hx hb hd ht (fun w => ?_) (fun w => ?_)
    · rcases hc with ⟨u, rfl⟩ | ⟨u, rfl⟩
      · exact k.same hl (xok_tl (xok_tl hk)) hI
      · first | exact absurd u (by decide) | exact absurd rfl w | (cases w; done)
    · rcases hc with ⟨u, rfl⟩ | ⟨u, rfl⟩
      · first | exact absurd u (by decide) | exact absurd rfl w | (cases w; done)
      · exact k.same hl (xok_tl (xok_tl hk)) hI
  next r =>
    obtain ⟨tgt, ht, rfl, rfl, rfl, hc⟩ := xbr_ok h
    refine lv_acmp_eq (ry := none) (rx := none) hx hb hd ht (fun w => ?_) (fun w => ?_)
    · rcases hc with ⟨u, rfl⟩ | ⟨u, rfl⟩
      · exact k.same hl (xok_tl (xok_tl hk)) hI
      · first | exact absurd u (by decide) | exact absurd rfl w | (cases w; done)
    · rcases hc with ⟨u, rfl⟩ | ⟨u, rfl⟩
      · first | exact absurd u (by decide) | exact absurd rfl w | (cases w; done)
      · exact k.same hl (xok_tl (xok_tl hk)) hI
  next => cases h

theorem xt_if_acmp_ne {l l2 : xL} {st st2 : List xV} {A A2 : xA} {nL pc2 : Nat} {ops : List Nat} {off : Int} (X : xCx p s m args meth c D cl Ts own nm cc) (hd : decode cc pc = .ok (.if_acmp .ne off, xlen2 (.if_acmp .ne off))) (hT : xT Ts cl own nm (.if_acmp .ne off) ops) (hl : lv_has ls nL (xlm ad l)) (hk : xok (xlv A.2.2.2) l st) (hI : xI s D cl B ad A.2.2.2 H locs) (hE : xE s B ad A.2.2.2) (h : xs2 (.if_acmp .ne off) ops pc l st A = some (pc2, l2, st2, A2)) (hbud : cells + A2.2.1 ≤ R.cells + A.2.1 ∧ slots + A2.2.2.1 ≤ R.slots + A.2.2.1)
    (k : xCont p l0 e R s m args below meth c D cl B ad A A2 l2 st2 nL pc2 cells slots Q) : W p l0 e R s m args below meth c H locs cells slots Q (F0 m pc ls (st.map (xc ad))) := by
  simp only [xs2] at h
  obtain ⟨hx, hb, hown, hts, hnm, hK, hcl⟩ := X
  split at h
  next q z r =>
    obtain ⟨tgt, ht, rfl, rfl, rfl, hc⟩ := xbr_ok h
    refine lv_acmp_ne (ry := some (ad q)) (rx := some (ad z)) hx hb hd ht (fun w => ?_) (fun w => ?_)
    · rcases hc with ⟨u, rfl⟩ | ⟨u, rfl⟩
      · exact k.same hl (xok_tl (xok_tl hk)) hI
      · exact absurd (by rw [Decidable.of_not_not (of_decide_eq_false u)]) w
    · rcases hc with ⟨u, rfl⟩ | ⟨u, rfl⟩
      · exact absurd (hI.1.2.1 _ _ (xok_hd (xok_tl hk)) (xok_hd hk) (Option.some.inj w)) (of_decide_eq_true u)
      · exact k.same hl (xok_tl (xok_tl hk)) hI
  next z r =>
    obtain ⟨tgt, ht, rfl, rfl, rfl, hc⟩ := xbr_ok h
    refine lv_acmp_ne (ry := none) (rx := some (ad z)) hx hb hd ht (fun w => ?_) (fun w => ?_)
    · rcases hc with ⟨u, rfl⟩ | ⟨u, rfl⟩
      · exact k.same hl (xok_tl (xok_tl hk)) hI
      · first | exact absurd u (by decide) | exact absurd rfl w | (cases w; done)
    · rcases hc with ⟨u, rfl⟩ | ⟨u, rfl⟩
      · first | exact absurd u (by decide) | exact absurd rfl w | (cases w; done)
      · exact k.same hl (xok_tl (xok_tl hk)) hI
  next q r =>
    obtain ⟨tgt, ht, rfl, rfl, rfl, hc⟩ := xbr_ok h
    refine lv_acmp_ne (ry := some (ad q)) (rx := none) hx hb hd ht (fun w => ?_) (fun w => ?_)
    · rcases hc with ⟨u, rfl⟩ | ⟨u, rfl⟩
      · exact k.same hl (xok_tl (xok_tl hk)) hI
      · first | exact absurd u (by decide) | exact absurd rfl w | (cases w; done)
    · rcases hc with ⟨u, rfl⟩ | ⟨u, rfl⟩
      · first | exact absurd u (by decide) | exact absurd rfl w | (cases w; done)
      · exact k.same hl (xok_tl (xok_tl hk)) hI
  next r =>
    obtain ⟨tgt, ht, rfl, rfl, rfl, hc⟩ := xbr_ok h
    refine lv_acmp_ne (ry := none) (rx := none) hx hb hd ht (fun w => ?_) (fun w => ?_)
    · rcases hc with ⟨u, rfl⟩ | ⟨u, rfl⟩
      · exact k.same hl (xok_tl (xok_tl hk)) hI
      · first | exact absurd u (by decide) | exact absurd rfl w | (cases w; done)
    · rcases hc with ⟨u, rfl⟩ | ⟨u, rfl⟩
      · first | exact absurd u (by decide) | exact absurd rfl w | (cases w; done)
      · exact k.same hl (xok_tl (xok_tl hk)) hI
  next => cases h

theorem xt_tableswitch {l l2 : xL} {st st2 : List xV} {A A2 : xA} {nL pc2 : Nat} {ops : List Nat} {dflt lo hi : Int} {offs : Array Int} {len : Nat} (X : xCx p s m args meth c D cl Ts own nm cc) (hd : decode cc pc = .ok (.tableswitch dflt lo hi offs, len)) (hT : xT Ts cl own nm (.tableswitch dflt lo hi offs) ops) (hl : lv_has ls nL (xlm ad l)) (hk : xok (xlv A.2.2.2) l st) (hI : xI s D cl B ad A.2.2.2 H locs) (hE : xE s B ad A.2.2.2) (h : xs2 (.tableswitch dflt lo hi offs) ops pc l st A = some (pc2, l2, st2, A2)) (hbud : cells + A2.2.1 ≤ R.cells + A.2.1 ∧ slots + A2.2.2.1 ≤ R.slots + A.2.2.1)
    (k : xCont p l0 e R s m args below meth c D cl B ad A A2 l2 st2 nL pc2 cells slots Q) : W p l0 e R s m args below meth c H locs cells slots Q (F0 m pc ls (st.map (xc ad))) := by
  simp only [xs2] at h
  obtain ⟨hx, hb, hown, hts, hnm, hK, hcl⟩ := X
  split at h
  next =>
    split at h
    next hc =>
      obtain ⟨ht, rfl, rfl, rfl⟩ := xjmp_ok h
      exact lv_tableOut hx hb hd hc ht (k.same hl (xok_tl hk) hI)
    next hc =>
      split at h
      next ho =>
        obtain ⟨ht, rfl, rfl, rfl⟩ := xjmp_ok h
        exact lv_tableIn hx hb hd (fun z => hc (Or.inl z)) (fun z => hc (Or.inr z)) ho ht (k.same hl (xok_tl hk) hI)
      next => cases h
  next => cases h

theorem xt_getfield {l l2 : xL} {st st2 : List xV} {A A2 : xA} {nL pc2 : Nat} {ops : List Nat} {idx : Nat} (X : xCx p s m args meth c D cl Ts own nm cc) (hd : decode cc pc = .ok (.getfield idx, xlen2 (.getfield idx))) (hT : xT Ts cl own nm (.getfield idx) ops) (hl : lv_has ls nL (xlm ad l)) (hk : xok (xlv A.2.2.2) l st) (hI : xI s D cl B ad A.2.2.2 H locs) (hE : xE s B ad A.2.2.2) (h : xs2 (.getfield idx) ops pc l st A = some (pc2, l2, st2, A2)) (hbud : cells + A2.2.1 ≤ R.cells + A.2.1 ∧ slots + A2.2.2.1 ≤ R.slots + A.2.2.1)
    (k : xCont p l0 e R s m args below meth c D cl B ad A A2 l2 st2 nL pc2 cells slots Q) : W p l0 e R s m args below meth c H locs cells slots Q (F0 m pc ls (st.map (xc ad))) := by
  simp only [xs2] at h
  obtain ⟨hx, hb, hown, hts, hnm, hK, hcl⟩ := X
  split at h
  next q r =>
    split at h
    next ci fs hq =>
      split at h
      next kx cis =>
        split at h
        next hci =>
          split at h
          next v hv =>
            cases h
            obtain ⟨w, ref, hc, hkx, hlk, hsm⟩ := hT ci (xelem hci)
            obtain ⟨w2, h1, hlen, cell, q1, q2, q3, q4⟩ := hI.1.1 q _ hq
            cases Option.some.inj (hc.symm.trans h1)
            obtain ⟨hS, hfc, kC, hkC, hkind⟩ := hK.1 ci _ hc
            obtain ⟨cf, kf, fi, f, hi, hsl⟩ := hS kx hkx
            have hst := (u_facts hfc hkC (u_lays hts (hcl ci _ hc).1 hkx) hi).1
            have hi2 := xsame_ok hts hsm _ hi
            have hval : cell.slots[f.slot]? = some (xc ad v) := by
              rw [hsl, q4 kx hkx]
              simp [vp_V, hv]
            have hlv : xlv A.2.2.2 v := hI.1.2.2.2 q _ hq v (List.mem_of_getElem? hv)
            have kk := k.same (H := H) (locs := locs) hl (xok_push (xok_tl hk) hlv) hI
            rcases hlk with hlk | ⟨host, hlk⟩
            · exact W.getf hx hb hown (hts _ hlk) hi2 hst q1 (by rw [q3]; exact fun z => by cases z) hval rfl rfl hd kk
            · exact va_Wgetf hx hb hown (hts _ hlk) hi2 hst q1 (by rw [q3]; exact fun z => by cases z) hval rfl rfl hd kk
          next => cases h
        next => cases h
      next => cases h
    next => cases h
  next => cases h

theorem xt_putfield {l l2 : xL} {st st2 : List xV} {A A2 : xA} {nL pc2 : Nat} {ops : List Nat} {idx : Nat} (X : xCx p s m args meth c D cl Ts own nm cc) (hd : decode cc pc = .ok (.putfield idx, xlen2 (.putfield idx))) (hT : xT Ts cl own nm (.putfield idx) ops) (hl : lv_has ls nL (xlm ad l)) (hk : xok (xlv A.2.2.2) l st) (hI : xI s D cl B ad A.2.2.2 H locs) (hE : xE s B ad A.2.2.2) (h : xs2 (.putfield idx) ops pc l st A = some (pc2, l2, st2, A2)) (hbud : cells + A2.2.1 ≤ R.cells + A.2.1 ∧ slots + A2.2.2.1 ≤ R.slots + A.2.2.1)
    (k : xCont p l0 e R s m args below meth c D cl B ad A A2 l2 st2 nL pc2 cells slots Q) : W p l0 e R s m args below meth c H locs cells slots Q (F0 m pc ls (st.map (xc ad))) := by
  simp only [xs2] at h
  obtain ⟨hx, hb, hown, hts, hnm, hK, hcl⟩ := X
  split at h
  next v q r =>
    split at h
    next ci fs hq =>
      split at h
      next kx t cis =>
        split at h
        next hg =>
          cases h
          obtain ⟨hci, h0, hfit⟩ := hg
          obtain ⟨w, ref, ty, hc, hkx, hdesc, hty, hsm, hlk⟩ := hT ci (xelem hci)
          obtain ⟨w2, h1, hlen, cell, q1, q2, q3, q4⟩ := hI.1.1 q _ hq
          cases Option.some.inj (hc.symm.trans h1)
          obtain ⟨hin, ⟨ty0, hty0⟩, hnm2⟩ := hcl ci _ hc
          have hap : ∀ x y, x < w.2.2 → y < w.2.2 → x ≠ y → (D.2 ci) x ≠ (D.2 ci) y := va_apart (own := own) (C := w.1) (T := w.2.1) (N := w.2.2) hts hin ty0 hty0 hnm2 hK hc
          obtain ⟨hS, hfc, kC, hkC, hkind⟩ := hK.1 ci _ hc
          obtain ⟨cf, kf, fi, f, hi, hsl⟩ := hS kx hkx
          have hst := (u_facts hfc hkC (u_lays hts hin hkx) hi).1
          have hi2 := xsame_ok hts hsm _ hi
          obtain ⟨hn1, hf1⟩ := xfit_ok (ad := ad) hty hfit
          have hsz : f.slot < cell.slots.size := by rw [hsl]; exact k2_hasslot (q4 kx hkx)
          have hlv : xlv A.2.2.2 v := xok_hd hk
          have kk : ∀ H1 : Heap, H1[ad q]? = some (cell.setSlot f.slot (xc ad v)) → H1.size = H.size → (∀ z, z ≠ ad q → H1[z]? = H[z]?) → W p l0 e R s m args below meth c H1 (locs ++ [⟨ad q, f.slot⟩]) cells slots Q (F0 m (pc + 3) ls (st2.map (xc ad))) := by
            intro H1 e1 e2 e3
            have hcell : xcell s D cl ad (ad q) (.inl (ci, fs.set kx v)) H1 := by
              refine ⟨w, hc, by rw [List.length_set]; exact hlen, t_OB.to (V := updV (vp_V (fs.map (xc ad))) kx (xc ad v)) ⟨_, e1, q2, q3, ?_⟩ (fun j _ => ?_)⟩
              · rw [hsl]
                exact t_set q4 hap hkx _
              · rw [vp_updV_set (by rw [List.length_map]; exact Nat.lt_of_lt_of_eq hkx hlen.symm), List.map_set]
            refine k ad H1 _ ls cells slots (fun u hu => ⟨xup_lv hu, rfl⟩) (fun _ _ => rfl) (hI.put hq h0 hcell e2 e3 ?_) hl (xok_up (xok_tl (xok_tl hk))) rfl rfl
            intro u hu
            rcases List.mem_or_eq_of_mem_set hu with hu | rfl
            · exact hI.1.2.2.2 q _ hq u hu
            · exact hlv
          have hlay := hts _ (hin _ (u_in_lay hkx))
          unfold u_lay at hlay
          rcases hlk with ⟨hlk, hfin⟩ | ⟨⟨host, hlk⟩, hfin⟩
          · rcases hfin with hfin | ⟨hfin, hinit, hdecl⟩
            · rw [if_neg (by rw [hfin]; decide)] at hlay
              exact W.putK hx hb (f := f) ⟨hown, hts _ hlk, ⟨_, _, _, hi2⟩, hst⟩ (by rw [q2]; exact u_store hfc hkC hkind hlay hi hdesc hn1 hf1) q1 q3 hsz rfl rfl hd kk
            · rw [if_pos hfin] at hlay
              have hcf : m.cls = cf := by
                obtain ⟨_, _, c2, _, _, _, -, -, hf2, -, -, -, hown2, -⟩ := Cond.laysFinal_spec hlay
                have e1 : c2 = cf := by have := hi.symm.trans hf2; simp at this; exact this.1.symm
                rw [hdecl] at hown2
                rw [← e1]; exact Option.some.inj (hown.symm.trans hown2)
              exact W.putFinK hx hb hown (hts _ hlk) hi2 hst hcf (hnm.trans hinit) (by rw [q2]; exact u_fits hfc hkC hkind (Or.inr hlay) hi hdesc hn1 hf1) q1 q3 hsz rfl rfl hd kk
          · rw [if_neg (by rw [hfin]; decide)] at hlay
            exact va_WputK hx hb (f := f) hown (hts _ hlk) hi2 hst (by rw [q2]; exact u_store hfc hkC hkind hlay hi hdesc hn1 hf1) q1 q3 hsz rfl rfl hd kk
        next => cases h
      next => cases h
    next => cases h
  next => cases h

theorem xt_iaload {l l2 : xL} {st st2 : List xV} {A A2 : xA} {nL pc2 : Nat} {ops : List Nat} (X : xCx p s m args meth c D cl Ts own nm cc) (hd : decode cc pc = .ok (.iaload, xlen2 (.iaload))) (hT : xT Ts cl own nm (.iaload) ops) (hl : lv_has ls nL (xlm ad l)) (hk : xok (xlv A.2.2.2) l st) (hI : xI s D cl B ad A.2.2.2 H locs) (hE : xE s B ad A.2.2.2) (h : xs2 (.iaload) ops pc l st A = some (pc2, l2, st2, A2)) (hbud : cells + A2.2.1 ≤ R.cells + A.2.1 ∧ slots + A2.2.2.1 ≤ R.slots + A.2.2.1)
    (k : xCont p l0 e R s m args below meth c D cl B ad A A2 l2 st2 nL pc2 cells slots Q) : W p l0 e R s m args below meth c H locs cells slots Q (F0 m pc ls (st.map (xc ad))) := by
  simp only [xs2] at h
  obtain ⟨hx, hb, hown, hts, hnm, hK, hcl⟩ := X
  split at h
  next j q r =>
    split at h
    next kd n f hq =>
      split at h
      next v hv =>
        cases h
        · obtain ⟨hkd, hin, rfl⟩ := xarr_ok hv
          obtain ⟨cell, h1, h2, h3, h4, h5, h6⟩ := hI.1.1 q _ hq
          have hty : xak kd = .int := by rcases hkd with rfl | ⟨hw, rfl⟩ <;> first | rfl | exact absurd hw (by decide)
          exact W.iald hx hb h1 (by rw [← hty]; exact h2) h4 (by rw [h5]; exact hin) (h6 _ (Nat.not_le.mp fun z => hin (Or.inr z))) rfl rfl hd (k.same hl (xok_push (xok_tl (xok_tl hk)) (hI.1.2.2.2 q _ hq _)) hI)
      next => cases h
    next => cases h
  next => cases h

theorem xt_laload {l l2 : xL} {st st2 : List xV} {A A2 : xA} {nL pc2 : Nat} {ops : List Nat} (X : xCx p s m args meth c D cl Ts own nm cc) (hd : decode cc pc = .ok (.laload, xlen2 (.laload))) (hT : xT Ts cl own nm (.laload) ops) (hl : lv_has ls nL (xlm ad l)) (hk : xok (xlv A.2.2.2) l st) (hI : xI s D cl B ad A.2.2.2 H locs) (hE : xE s B ad A.2.2.2) (h : xs2 (.laload) ops pc l st A = some (pc2, l2, st2, A2)) (hbud : cells + A2.2.1 ≤ R.cells + A.2.1 ∧ slots + A2.2.2.1 ≤ R.slots + A.2.2.1)
    (k : xCont p l0 e R s m args below meth c D cl B ad A A2 l2 st2 nL pc2 cells slots Q) : W p l0 e R s m args below meth c H locs cells slots Q (F0 m pc ls (st.map (xc ad))) := by
  simp only [xs2] at h
  obtain ⟨hx, hb, hown, hts, hnm, hK, hcl⟩ := X
  split at h
  next j q r =>
    split at h
    next kd n f hq =>
      split at h
      next v hv =>
        cases h
        · obtain ⟨hkd, hin, rfl⟩ := xarr_ok hv
          obtain ⟨cell, h1, h2, h3, h4, h5, h6⟩ := hI.1.1 q _ hq
          have hty : xak kd = .long := by rcases hkd with rfl | ⟨hw, rfl⟩ <;> first | rfl | exact absurd hw (by decide)
          exact W.lald hx hb h1 (by rw [← hty]; exact h2) h4 (by rw [h5]; exact hin) (h6 _ (Nat.not_le.mp fun z => hin (Or.inr z))) rfl rfl hd (k.same hl (xok_push (xok_tl (xok_tl hk)) (hI.1.2.2.2 q _ hq _)) hI)
      next => cases h
    next => cases h
  next => cases h

theorem xt_caload {l l2 : xL} {st st2 : List xV} {A A2 : xA} {nL pc2 : Nat} {ops : List Nat} (X : xCx p s m args meth c D cl Ts own nm cc) (hd : decode cc pc = .ok (.caload, xlen2 (.caload))) (hT : xT Ts cl own nm (.caload) ops) (hl : lv_has ls nL (xlm ad l)) (hk : xok (xlv A.2.2.2) l st) (hI : xI s D cl B ad A.2.2.2 H locs) (hE : xE s B ad A.2.2.2) (h : xs2 (.caload) ops pc l st A = some (pc2, l2, st2, A2)) (hbud : cells + A2.2.1 ≤ R.cells + A.2.1 ∧ slots + A2.2.2.1 ≤ R.slots + A.2.2.1)
    (k : xCont p l0 e R s m args below meth c D cl B ad A A2 l2 st2 nL pc2 cells slots Q) : W p l0 e R s m args below meth c H locs cells slots Q (F0 m pc ls (st.map (xc ad))) := by
  simp only [xs2] at h
  obtain ⟨hx, hb, hown, hts, hnm, hK, hcl⟩ := X
  split at h
  next j q r =>
    split at h
    next kd n f hq =>
      split at h
      next v hv =>
        cases h
        · obtain ⟨hkd, hin, rfl⟩ := xarr_ok hv
          obtain ⟨cell, h1, h2, h3, h4, h5, h6⟩ := hI.1.1 q _ hq
          have hty : xak kd = .char := by rcases hkd with rfl | ⟨hw, rfl⟩ <;> first | rfl | exact absurd hw (by decide)
          exact W.cald hx hb h1 (by rw [← hty]; exact h2) h4 (by rw [h5]; exact hin) (h6 _ (Nat.not_le.mp fun z => hin (Or.inr z))) rfl rfl hd (k.same hl (xok_push (xok_tl (xok_tl hk)) (hI.1.2.2.2 q _ hq _)) hI)
      next => cases h
    next => cases h
  next => cases h

theorem xt_daload {l l2 : xL} {st st2 : List xV} {A A2 : xA} {nL pc2 : Nat} {ops : List Nat} (X : xCx p s m args meth c D cl Ts own nm cc) (hd : decode cc pc = .ok (.daload, xlen2 (.daload))) (hT : xT Ts cl own nm (.daload) ops) (hl : lv_has ls nL (xlm ad l)) (hk : xok (xlv A.2.2.2) l st) (hI : xI s D cl B ad A.2.2.2 H locs) (hE : xE s B ad A.2.2.2) (h : xs2 (.daload) ops pc l st A = some (pc2, l2, st2, A2)) (hbud : cells + A2.2.1 ≤ R.cells + A.2.1 ∧ slots + A2.2.2.1 ≤ R.slots + A.2.2.1)
    (k : xCont p l0 e R s m args below meth c D cl B ad A A2 l2 st2 nL pc2 cells slots Q) : W p l0 e R s m args below meth c H locs cells slots Q (F0 m pc ls (st.map (xc ad))) := by
  simp only [xs2] at h
  obtain ⟨hx, hb, hown, hts, hnm, hK, hcl⟩ := X
  split at h
  next j q r =>
    split at h
    next kd n f hq =>
      split at h
      next v hv =>
        cases h
        · obtain ⟨hkd, hin, rfl⟩ := xarr_ok hv
          obtain ⟨cell, h1, h2, h3, h4, h5, h6⟩ := hI.1.1 q _ hq
          have hty : xak kd = .double := by rcases hkd with rfl | ⟨hw, rfl⟩ <;> first | rfl | exact absurd hw (by decide)
          exact W.dald hx hb h1 (by rw [← hty]; exact h2) h4 (by rw [h5]; exact hin) (h6 _ (Nat.not_le.mp fun z => hin (Or.inr z))) rfl rfl hd (k.same hl (xok_push (xok_tl (xok_tl hk)) (hI.1.2.2.2 q _ hq _)) hI)
      next => cases h
    next => cases h
  next => cases h

theorem xt_aaload {l l2 : xL} {st st2 : List xV} {A A2 : xA} {nL pc2 : Nat} {ops : List Nat} (X : xCx p s m args meth c D cl Ts own nm cc) (hd : decode cc pc = .ok (.aaload, xlen2 (.aaload))) (hT : xT Ts cl own nm (.aaload) ops) (hl : lv_has ls nL (xlm ad l)) (hk : xok (xlv A.2.2.2) l st) (hI : xI s D cl B ad A.2.2.2 H locs) (hE : xE s B ad A.2.2.2) (h : xs2 (.aaload) ops pc l st A = some (pc2, l2, st2, A2)) (hbud : cells + A2.2.1 ≤ R.cells + A.2.1 ∧ slots + A2.2.2.1 ≤ R.slots + A.2.2.1)
    (k : xCont p l0 e R s m args below meth c D cl B ad A A2 l2 st2 nL pc2 cells slots Q) : W p l0 e R s m args below meth c H locs cells slots Q (F0 m pc ls (st.map (xc ad))) := by
  simp only [xs2] at h
  obtain ⟨hx, hb, hown, hts, hnm, hK, hcl⟩ := X
  split at h
  next j q r =>
    split at h
    next kd n f hq =>
      split at h
      next v hv =>
        cases h
        · obtain ⟨hkd, hin, rfl⟩ := xarr_ok hv
          obtain ⟨cell, h1, h2, h3, h4, h5, h6⟩ := hI.1.1 q _ hq
          have hty : (xak kd).isReference = true := by
            by_cases h55 : kd = 5
            · subst h55; rfl
            · rw [if_neg h55] at hkd
              rcases hkd with rfl | ⟨hw, rfl⟩
              · rfl
              · exact absurd hw (by decide)
          exact W.aald hx hb h1 h2 hty h4 (by rw [h5]; exact hin) (h6 _ (Nat.not_le.mp fun z => hin (Or.inr z))) rfl rfl hd (k.same hl (xok_push (xok_tl (xok_tl hk)) (hI.1.2.2.2 q _ hq _)) hI)
      next => cases h
    next => cases h
  next => cases h

/-- a store into an array -/
theorem xsto_ok {A A1 : xA} {q : Nat × Nat} {kd n want : Nat} {j : Int32} {f : Nat → xV} {v : xV} {l2 : xL} {st2 : List xV} {nL pc2 : Nat} (hq : A.2.2.2 q = some (.inr (kd, n, f))) (h : xsto A q kd j n f want v = some A1) (hl : lv_has ls nL (xlm ad l2)) (hk : xok (xlv A.2.2.2) l2 st2) (hv : xlv A.2.2.2 v) (hI : xI s D cl B ad A.2.2.2 H locs) (k : xCont p l0 e R s m args below meth c D cl B ad A A1 l2 st2 nL pc2 cells slots Q) :
    kd = want ∧ ¬ (j < 0 ∨ n ≤ j.toNatClampNeg) ∧ ∃ cell : Cell, H[ad q]? = some cell ∧ s.isArrayOf cell (xak kd) ∧ (kd = 9 ∨ va_RA s cell.cls (xak kd)) ∧ cell.vm ≠ .unknown ∧ cell.slots.size = n ∧ ∀ H1 : Heap, H1[ad q]? = some (cell.setSlot j.toNatClampNeg (xc ad v)) → H1.size = H.size → (∀ z, z ≠ ad q → H1[z]? = H[z]?) → W p l0 e R s m args below meth c H1 (locs ++ [⟨ad q, j.toNatClampNeg⟩]) cells slots Q (F0 m pc2 ls (st2.map (xc ad))) := by
  unfold xsto at h
  split at h
  next hg =>
    cases h
    obtain ⟨hw, h0, hin⟩ := hg
    obtain ⟨cell, h1, h2, h3, h4, h5, h6⟩ := hI.1.1 q _ hq
    refine ⟨hw, hin, cell, h1, h2, h3, h4, h5, fun H1 e1 e2 e3 => ?_⟩
    obtain ⟨g1, g2⟩ := xarr_set (v := v) h5 h6 (Nat.not_le.mp fun z => hin (Or.inr z))
    refine k ad H1 _ ls cells slots (fun u hu => ⟨xup_lv hu, rfl⟩) (fun _ _ => rfl) (hI.put hq h0 ⟨_, e1, h2, h3, h4, g1, g2⟩ e2 e3 ?_) hl (xok_up hk) rfl rfl
    intro i
    show xlv A.2.2.2 (xfu f j.toNatClampNeg v i)
    unfold xfu
    split
    · exact hv
    · exact hI.1.2.2.2 q _ hq i
  next => cases h

theorem xt_iastore {l l2 : xL} {st st2 : List xV} {A A2 : xA} {nL pc2 : Nat} {ops : List Nat} (X : xCx p s m args meth c D cl Ts own nm cc) (hd : decode cc pc = .ok (.iastore, xlen2 (.iastore))) (hT : xT Ts cl own nm (.iastore) ops) (hl : lv_has ls nL (xlm ad l)) (hk : xok (xlv A.2.2.2) l st) (hI : xI s D cl B ad A.2.2.2 H locs) (hE : xE s B ad A.2.2.2) (h : xs2 (.iastore) ops pc l st A = some (pc2, l2, st2, A2)) (hbud : cells + A2.2.1 ≤ R.cells + A.2.1 ∧ slots + A2.2.2.1 ≤ R.slots + A.2.2.1)
    (k : xCont p l0 e R s m args below meth c D cl B ad A A2 l2 st2 nL pc2 cells slots Q) : W p l0 e R s m args below meth c H locs cells slots Q (F0 m pc ls (st.map (xc ad))) := by
  simp only [xs2] at h
  obtain ⟨hx, hb, hown, hts, hnm, hK, hcl⟩ := X
  split at h
  next x j q r =>
    split at h
    next kd n f hq =>
      split at h
      next A1 ha =>
        cases h
        obtain ⟨rfl, hin, cell, h1, h2, h3, h4, h5, kk⟩ := xsto_ok hq ha hl (xok_tl (xok_tl (xok_tl hk))) (xok_hd hk) hI k
        exact W.iast hx hb h1 h2 h4 (by rw [h5]; exact hin) rfl rfl hd kk
      next => cases h
    next => cases h
  next => cases h

theorem xt_lastore {l l2 : xL} {st st2 : List xV} {A A2 : xA} {nL pc2 : Nat} {ops : List Nat} (X : xCx p s m args meth c D cl Ts own nm cc) (hd : decode cc pc = .ok (.lastore, xlen2 (.lastore))) (hT : xT Ts cl own nm (.lastore) ops) (hl : lv_has ls nL (xlm ad l)) (hk : xok (xlv A.2.2.2) l st) (hI : xI s D cl B ad A.2.2.2 H locs) (hE : xE s B ad A.2.2.2) (h : xs2 (.lastore) ops pc l st A = some (pc2, l2, st2, A2)) (hbud : cells + A2.2.1 ≤ R.cells + A.2.1 ∧ slots + A2.2.2.1 ≤ R.slots + A.2.2.1)
    (k : xCont p l0 e R s m args below meth c D cl B ad A A2 l2 st2 nL pc2 cells slots Q) : W p l0 e R s m args below meth c H locs cells slots Q (F0 m pc ls (st.map (xc ad))) := by
  simp only [xs2] at h
  obtain ⟨hx, hb, hown, hts, hnm, hK, hcl⟩ := X
  split at h
  next x j q r =>
    split at h
    next kd n f hq =>
      split at h
      next A1 ha =>
        cases h
        obtain ⟨rfl, hin, cell, h1, h2, h3, h4, h5, kk⟩ := xsto_ok hq ha hl (xok_tl (xok_tl (xok_tl hk))) (xok_hd hk) hI k
        exact W.last hx hb h1 h2 h4 (by rw [h5]; exact hin) rfl rfl hd kk
      next => cases h
    next => cases h
  next => cases h

theorem xt_dastore {l l2 : xL} {st st2 : List xV} {A A2 : xA} {nL pc2 : Nat} {ops : List Nat} (X : xCx p s m args meth c D cl Ts own nm cc) (hd : decode cc pc = .ok (.dastore, xlen2 (.dastore))) (hT : xT Ts cl own nm (.dastore) ops) (hl : lv_has ls nL (xlm ad l)) (hk : xok (xlv A.2.2.2) l st) (hI : xI s D cl B ad A.2.2.2 H locs) (hE : xE s B ad A.2.2.2) (h : xs2 (.dastore) ops pc l st A = some (pc2, l2, st2, A2)) (hbud : cells + A2.2.1 ≤ R.cells + A.2.1 ∧ slots + A2.2.2.1 ≤ R.slots + A.2.2.1)
    (k : xCont p l0 e R s m args below meth c D cl B ad A A2 l2 st2 nL pc2 cells slots Q) : W p l0 e R s m args below meth c H locs cells slots Q (F0 m pc ls (st.map (xc ad))) := by
  simp only [xs2] at h
  obtain ⟨hx, hb, hown, hts, hnm, hK, hcl⟩ := X
  split at h
  next x j q r =>
    split at h
    next kd n f hq =>
      split at h
      next A1 ha =>
        cases h
        obtain ⟨rfl, hin, cell, h1, h2, h3, h4, h5, kk⟩ := xsto_ok hq ha hl (xok_tl (xok_tl (xok_tl hk))) (xok_hd hk) hI k
        exact W.dast hx hb h1 h2 h4 (by rw [h5]; exact hin) rfl rfl hd kk
      next => cases h
    next => cases h
  next => cases h

theorem xt_castore {l l2 : xL} {st st2 : List xV} {A A2 : xA} {nL pc2 : Nat} {ops : List Nat} (X : xCx p s m args meth c D cl Ts own nm cc) (hd : decode cc pc = .ok (.castore, xlen2 (.castore))) (hT : xT Ts cl own nm (.castore) ops) (hl : lv_has ls nL (xlm ad l)) (hk : xok (xlv A.2.2.2) l st) (hI : xI s D cl B ad A.2.2.2 H locs) (hE : xE s B ad A.2.2.2) (h : xs2 (.castore) ops pc l st A = some (pc2, l2, st2, A2)) (hbud : cells + A2.2.1 ≤ R.cells + A.2.1 ∧ slots + A2.2.2.1 ≤ R.slots + A.2.2.1)
    (k : xCont p l0 e R s m args below meth c D cl B ad A A2 l2 st2 nL pc2 cells slots Q) : W p l0 e R s m args below meth c H locs cells slots Q (F0 m pc ls (st.map (xc ad))) := by
  simp only [xs2] at h
  obtain ⟨hx, hb, hown, hts, hnm, hK, hcl⟩ := X
  split at h
  next x j q r =>
    split at h
    next kd n f hq =>
      split at h
      next hch =>
        split at h
        next A1 ha =>
          cases h
          obtain ⟨rfl, hin, cell, h1, h2, h3, h4, h5, kk⟩ := xsto_ok hq ha hl (xok_tl (xok_tl (xok_tl hk))) (xok_hd hk) hI k
          exact W.cast hx hb h1 h2 h4 (by rw [h5]; exact hin) rfl rfl hd (fun H1 e1 e2 e3 => kk H1 (by rw [(xfit_char hch).1] at e1; exact e1) e2 e3)
        next => cases h
      next => cases h
    next => cases h
  next => cases h

theorem xt_arraylength {l l2 : xL} {st st2 : List xV} {A A2 : xA} {nL pc2 : Nat} {ops : List Nat} (X : xCx p s m args meth c D cl Ts own nm cc) (hd : decode cc pc = .ok (.arraylength, xlen2 (.arraylength))) (hT : xT Ts cl own nm (.arraylength) ops) (hl : lv_has ls nL (xlm ad l)) (hk : xok (xlv A.2.2.2) l st) (hI : xI s D cl B ad A.2.2.2 H locs) (hE : xE s B ad A.2.2.2) (h : xs2 (.arraylength) ops pc l st A = some (pc2, l2, st2, A2)) (hbud : cells + A2.2.1 ≤ R.cells + A.2.1 ∧ slots + A2.2.2.1 ≤ R.slots + A.2.2.1)
    (k : xCont p l0 e R s m args below meth c D cl B ad A A2 l2 st2 nL pc2 cells slots Q) : W p l0 e R s m args below meth c H locs cells slots Q (F0 m pc ls (st.map (xc ad))) := by
  simp only [xs2] at h
  obtain ⟨hx, hb, hown, hts, hnm, hK, hcl⟩ := X
  split at h
  next q r =>
    split at h
    next kd n f hq =>
      cases h
      obtain ⟨cell, h1, h2, h3, h4, h5, h6⟩ := hI.1.1 q _ hq
      exact W.alen hx hb h1 h2 (by rw [h5]) rfl rfl hd (k.same hl (xok_push (xok_tl hk) trivial) hI)
    next => cases h
  next => cases h

/-- a fresh name gets a fresh address -/
theorem xnew_ok {A : xA} {q : Nat × Nat} {nm2 : List (Nat × Nat)} {sz : Nat} {o : xO} {l2 : xL} {st2 : List xV} {nL pc2 : Nat} {H1 : Heap} (hq : A.2.2.2 q = none) (h0 : q.1 ≠ 0) (hl : lv_has ls nL (xlm ad l2)) (hk : xok (xlv A.2.2.2) l2 st2) (hI : xI s D cl B ad A.2.2.2 H locs) (k : xCont p l0 e R s m args below meth c D cl B ad A (nm2, A.2.1 + 1, A.2.2.1 + sz, xup A.2.2.2 q o) l2 (.inr q :: st2) nL pc2 cells slots Q) (hc : xcell s D cl (xan ad q H.size) H.size o H1) (hz : H1.size = H.size + 1) (o1 : ∀ x, x < H.size → H1[x]? = H[x]?) (ho : xOl (xup A.2.2.2 q o) o) :
    W p l0 e R s m args below meth c H1 locs (cells + 1) (slots + sz) Q (F0 m pc2 ls (.ref H.size :: st2.map (xc ad))) := by
  have hst : (.inr q :: st2).map (xc (xan ad q H.size)) = .ref H.size :: st2.map (xc ad) := by
    show .ref (xan ad q H.size q) :: st2.map (xc (xan ad q H.size)) = _
    rw [xst_an hq hk.2]
    unfold xan
    rw [if_pos rfl]
  rw [← hst]
  refine k (xan ad q H.size) H1 locs ls (cells + 1) (slots + sz) (fun u hu => ⟨xup_lv hu, xan_c hq hu⟩) (fun z hz => ?_) (hI.new hq hc (by omega) o1 ho) (by rw [xlm_an hq hk.1]; exact hl) (xok_push (xok_up hk) xlv_self) ?_ ?_
  · unfold xan
    exact if_neg (fun e : z = q => h0 (by rw [← e]; exact hz))
  · show cells + 1 + A.2.1 = cells + (A.2.1 + 1)
    omega
  · show slots + sz + A.2.2.1 = slots + (A.2.2.1 + sz)
    omega

theorem xt_newarray {l l2 : xL} {st st2 : List xV} {A A2 : xA} {nL pc2 : Nat} {ops : List Nat} {at_ : ArrayType} (X : xCx p s m args meth c D cl Ts own nm cc) (hd : decode cc pc = .ok (.newarray at_, xlen2 (.newarray at_))) (hT : xT Ts cl own nm (.newarray at_) ops) (hl : lv_has ls nL (xlm ad l)) (hk : xok (xlv A.2.2.2) l st) (hI : xI s D cl B ad A.2.2.2 H locs) (hE : xE s B ad A.2.2.2) (h : xs2 (.newarray at_) ops pc l st A = some (pc2, l2, st2, A2)) (hbud : cells + A2.2.1 ≤ R.cells + A.2.1 ∧ slots + A2.2.2.1 ≤ R.slots + A.2.2.1)
    (k : xCont p l0 e R s m args below meth c D cl B ad A A2 l2 st2 nL pc2 cells slots Q) : W p l0 e R s m args below meth c H locs cells slots Q (F0 m pc ls (st.map (xc ad))) := by
  simp only [xs2] at h
  obtain ⟨hx, hb, hown, hts, hnm, hK, hcl⟩ := X
  split at h
  next n r kd q nm2 hn =>
    split at h
    next hg =>
      obtain ⟨hn0, hbig, hq, h0⟩ := hg
      have hq : A.2.2.2 q = none := Option.isNone_iff_eq_none.mp hq
      cases h
      obtain ⟨hty, harr, hk4, hk5⟩ := hT
      have hb1 : cells + 1 ≤ R.cells := by have := hbud.1; dsimp only at this; omega
      have hb2 : slots + n.toNatClampNeg ≤ R.slots := by have := hbud.2; dsimp only at this; omega
      have hcb : componentBytes (newarray.typeOf at_) ≤ 8 := by cases at_ <;> decide
      refine va_newaK (atype := at_) hx hb (hts _ harr) rfl hd rfl hn0 rfl (Nat.le_trans (Nat.mul_le_mul hbig hcb) (by decide)) hb1 hb2 rfl fun H1 cA e1 z1 o1 hAr hNm => ?_
      refine xnew_ok hq h0 hl (xok_tl hk) hI k ⟨_, e1, ?_, Or.inr ?_, (fun z => by cases z), arrV_size _ _ _, fun j hj => ?_⟩ z1 o1 (fun _ => trivial)
      · show s.isArrayOf _ (xak kd)
        rw [← hty]
        exact hAr _ _
      · show va_RA s cA (xak kd)
        rw [← hty]
        cases at_ <;> exact hNm
      · show (arrV _ _ _).slots[j]? = some (defaultValue (xak kd))
        rw [← hty]
        simp [arrV, hj]
    next => cases h
  next => cases h

theorem xt_anewarray {l l2 : xL} {st st2 : List xV} {A A2 : xA} {nL pc2 : Nat} {ops : List Nat} {idx : Nat} (X : xCx p s m args meth c D cl Ts own nm cc) (hd : decode cc pc = .ok (.anewarray idx, xlen2 (.anewarray idx))) (hT : xT Ts cl own nm (.anewarray idx) ops) (hl : lv_has ls nL (xlm ad l)) (hk : xok (xlv A.2.2.2) l st) (hI : xI s D cl B ad A.2.2.2 H locs) (hE : xE s B ad A.2.2.2) (h : xs2 (.anewarray idx) ops pc l st A = some (pc2, l2, st2, A2)) (hbud : cells + A2.2.1 ≤ R.cells + A.2.1 ∧ slots + A2.2.2.1 ≤ R.slots + A.2.2.1)
    (k : xCont p l0 e R s m args below meth c D cl B ad A A2 l2 st2 nL pc2 cells slots Q) : W p l0 e R s m args below meth c H locs cells slots Q (F0 m pc ls (st.map (xc ad))) := by
  simp only [xs2] at h
  obtain ⟨hx, hb, hown, hts, hnm, hK, hcl⟩ := X
  split at h
  next n r kd q nm2 hn =>
    split at h
    next hg =>
      obtain ⟨hn0, hbig, hq, h0⟩ := hg
      have hq : A.2.2.2 q = none := Option.isNone_iff_eq_none.mp hq
      cases h
      obtain ⟨C, hty, hlk, hov⟩ := hT
      have hb1 : cells + 1 ≤ R.cells := by have := hbud.1; dsimp only at this; omega
      have hb2 : slots + n.toNatClampNeg ≤ R.slots := by have := hbud.2; dsimp only at this; omega
      refine W.anew hx hb hown (hts _ hlk) (hts _ hov) rfl hd rfl hn0 (Nat.le_trans (Nat.mul_le_mul_right 4 hbig) (by decide)) hb1 hb2 fun cA kA comp g1 g2 g3 g4 => ?_
      refine xnew_ok hq h0 hl (xok_tl hk) hI k ⟨{ cls := cA, slots := Array.replicate n.toNatClampNeg .null, vm := .none }, Array.getElem?_push_size, ?_, Or.inr ?_, (fun z => by cases z), Array.size_replicate, fun j hj => ?_⟩ (Array.size_push _) (fun x hx => ?_) (fun _ => trivial)
      · show s.isArrayOf _ (xak kd)
        rw [hty]
        exact ⟨fun z w => (by cases w), kA, g2, comp, g3⟩
      · show va_RA s cA (xak kd)
        rw [hty]
        exact ⟨kA, comp, g2, g3, g4, g1⟩
      · show (Array.replicate n.toNatClampNeg Value.null)[j]? = some Value.null
        rw [Array.getElem?_replicate, if_pos hj]
      · rw [Array.getElem?_push, if_neg (Nat.ne_of_lt hx)]
    next => cases h
  next => cases h

theorem xt_new {l l2 : xL} {st st2 : List xV} {A A2 : xA} {nL pc2 : Nat} {ops : List Nat} {idx : Nat} (X : xCx p s m args meth c D cl Ts own nm cc) (hd : decode cc pc = .ok (.new idx, xlen2 (.new idx))) (hT : xT Ts cl own nm (.new idx) ops) (hl : lv_has ls nL (xlm ad l)) (hk : xok (xlv A.2.2.2) l st) (hI : xI s D cl B ad A.2.2.2 H locs) (hE : xE s B ad A.2.2.2) (h : xs2 (.new idx) ops pc l st A = some (pc2, l2, st2, A2)) (hbud : cells + A2.2.1 ≤ R.cells + A.2.1 ∧ slots + A2.2.2.1 ≤ R.slots + A.2.2.1)
    (k : xCont p l0 e R s m args below meth c D cl B ad A A2 l2 st2 nL pc2 cells slots Q) : W p l0 e R s m args below meth c H locs cells slots Q (F0 m pc ls (st.map (xc ad))) := by
  simp only [xs2] at h
  obtain ⟨hx, hb, hown, hts, hnm, hK, hcl⟩ := X
  split at h
  next ci tc q nm2 hn =>
    split at h
    next hg =>
      obtain ⟨hq, h0⟩ := hg
      have hq : A.2.2.2 q = none := Option.isNone_iff_eq_none.mp hq
      cases h
      obtain ⟨w, hc, hlen, hlk, hins, hini, hf⟩ := hT
      obtain ⟨hin, ⟨ty0, hty0⟩, hnm2⟩ := hcl ci _ hc
      have hb1 : cells + 1 ≤ R.cells := by have := hbud.1; dsimp only at this; omega
      have hb2 : slots + tc.length ≤ R.slots := by have := hbud.2; dsimp only at this; omega
      have hKn := hK.1 ci _ hc
      refine W.newcK hx hb hown (hts _ hlk) (n := tc.length) (by rw [hlen]; exact hts _ hins) (hts _ hini) rfl hd hb1 hb2 hKn.2.1 rfl fun H1 kC hkC e1 z1 o1 => ?_
      refine xnew_ok hq h0 hl hk hI k ⟨w, hc, by rw [List.length_map]; exact hlen, t_OB.to (u_born (C := w.1) (T := w.2.1) (N := w.2.2) ty0 hts hin hKn hkC e1 hty0) (fun j hj => ?_)⟩ z1 o1 (fun v hv => ?_)
      · obtain ⟨ty, t, g1, g2, g3⟩ := hf j hj
        cases Option.some.inj (g1.symm.trans (hty0 j hj))
        show defaultValue (ty0 j) = (((tc.map xd0).map (xc _)).getD j .null)
        rw [List.getD_eq_getElem?_getD, List.getElem?_map, List.getElem?_map, g2]
        show defaultValue (ty0 j) = xc _ (xd0 t)
        rw [← g3]
        rfl
      · obtain ⟨t, -, rfl⟩ := List.mem_map.mp hv
        unfold xd0
        split <;> trivial
    next => cases h
  next => cases h

theorem xt_checkcast {l l2 : xL} {st st2 : List xV} {A A2 : xA} {nL pc2 : Nat} {ops : List Nat} {idx : Nat} (X : xCx p s m args meth c D cl Ts own nm cc) (hd : decode cc pc = .ok (.checkcast idx, xlen2 (.checkcast idx))) (hT : xT Ts cl own nm (.checkcast idx) ops) (hl : lv_has ls nL (xlm ad l)) (hk : xok (xlv A.2.2.2) l st) (hI : xI s D cl B ad A.2.2.2 H locs) (hE : xE s B ad A.2.2.2) (h : xs2 (.checkcast idx) ops pc l st A = some (pc2, l2, st2, A2)) (hbud : cells + A2.2.1 ≤ R.cells + A.2.1 ∧ slots + A2.2.2.1 ≤ R.slots + A.2.2.1)
    (k : xCont p l0 e R s m args below meth c D cl B ad A A2 l2 st2 nL pc2 cells slots Q) : W p l0 e R s m args below meth c H locs cells slots Q (F0 m pc ls (st.map (xc ad))) := by
  simp only [xs2] at h
  obtain ⟨hx, hb, hown, hts, hnm, hK, hcl⟩ := X
  split at h
  next r =>
    cases h
    exact lv_castN hx hb hd (k.same hl hk hI)
  next q r =>
    split at h
    next ci fs hq =>
      split at h
      next hci =>
        cases h
        obtain ⟨w, nm3, hc, hlk, hca⟩ := hT ci (xelem hci)
        obtain ⟨w2, h1, hlen, cell, q1, q2, q3, q4⟩ := hI.1.1 q _ hq
        cases Option.some.inj (hc.symm.trans h1)
        rcases hca with hca | rfl
        · exact va_castY (a := ad q) hx hb hown (hts _ hlk) (va_Nw.of rfl (hts _ hca)) ⟨cell, q1, by rw [q3]; rfl, by rw [q2]; exact (hK.1 ci w hc).2.1⟩ hd (k.same hl hk hI)
        · exact va_castS (a := ad q) hx hb hown (hts _ hlk) (hK.1 ci w hc).2 ⟨cell, q1, by rw [q3]; rfl, by rw [q2]; exact (hK.1 ci w hc).2.1⟩ hd (k.same hl hk hI)
      next => cases h
    next => cases h
  next => cases h

theorem xt_ldc {l l2 : xL} {st st2 : List xV} {A A2 : xA} {nL pc2 : Nat} {ops : List Nat} {idx : Nat} (X : xCx p s m args meth c D cl Ts own nm cc) (hd : decode cc pc = .ok (.ldc idx, xlen2 (.ldc idx))) (hT : xT Ts cl own nm (.ldc idx) ops) (hl : lv_has ls nL (xlm ad l)) (hk : xok (xlv A.2.2.2) l st) (hI : xI s D cl B ad A.2.2.2 H locs) (hE : xE s B ad A.2.2.2) (h : xs2 (.ldc idx) ops pc l st A = some (pc2, l2, st2, A2)) (hbud : cells + A2.2.1 ≤ R.cells + A.2.1 ∧ slots + A2.2.2.1 ≤ R.slots + A.2.2.1)
    (k : xCont p l0 e R s m args below meth c D cl B ad A A2 l2 st2 nL pc2 cells slots Q) : W p l0 e R s m args below meth c H locs cells slots Q (F0 m pc ls (st.map (xc ad))) := by
  simp only [xs2] at h
  obtain ⟨hx, hb, hown, hts, hnm, hK, hcl⟩ := X
  split at h
  next => cases h; exact lv_ldc hx hb hown (hts _ hT) hd (k.same hl (xok_push hk trivial) hI)
  next => cases h; exact lv_ldcf hx hb hown (hts _ hT) hd (k.same hl (xok_push hk trivial) hI)
  next => cases h

theorem xt_ldc_w {l l2 : xL} {st st2 : List xV} {A A2 : xA} {nL pc2 : Nat} {ops : List Nat} {idx : Nat} (X : xCx p s m args meth c D cl Ts own nm cc) (hd : decode cc pc = .ok (.ldc_w idx, xlen2 (.ldc_w idx))) (hT : xT Ts cl own nm (.ldc_w idx) ops) (hl : lv_has ls nL (xlm ad l)) (hk : xok (xlv A.2.2.2) l st) (hI : xI s D cl B ad A.2.2.2 H locs) (hE : xE s B ad A.2.2.2) (h : xs2 (.ldc_w idx) ops pc l st A = some (pc2, l2, st2, A2)) (hbud : cells + A2.2.1 ≤ R.cells + A.2.1 ∧ slots + A2.2.2.1 ≤ R.slots + A.2.2.1)
    (k : xCont p l0 e R s m args below meth c D cl B ad A A2 l2 st2 nL pc2 cells slots Q) : W p l0 e R s m args below meth c H locs cells slots Q (F0 m pc ls (st.map (xc ad))) := by
  simp only [xs2] at h
  obtain ⟨hx, hb, hown, hts, hnm, hK, hcl⟩ := X
  split at h
  next => cases h; exact lv_ldcw hx hb hown (hts _ hT) hd (k.same hl (xok_push hk trivial) hI)
  next => cases h

theorem xt_ldc2_w {l l2 : xL} {st st2 : List xV} {A A2 : xA} {nL pc2 : Nat} {ops : List Nat} {idx : Nat} (X : xCx p s m args meth c D cl Ts own nm cc) (hd : decode cc pc = .ok (.ldc2_w idx, xlen2 (.ldc2_w idx))) (hT : xT Ts cl own nm (.ldc2_w idx) ops) (hl : lv_has ls nL (xlm ad l)) (hk : xok (xlv A.2.2.2) l st) (hI : xI s D cl B ad A.2.2.2 H locs) (hE : xE s B ad A.2.2.2) (h : xs2 (.ldc2_w idx) ops pc l st A = some (pc2, l2, st2, A2)) (hbud : cells + A2.2.1 ≤ R.cells + A.2.1 ∧ slots + A2.2.2.1 ≤ R.slots + A.2.2.1)
    (k : xCont p l0 e R s m args below meth c D cl B ad A A2 l2 st2 nL pc2 cells slots Q) : W p l0 e R s m args below meth c H locs cells slots Q (F0 m pc ls (st.map (xc ad))) := by
  simp only [xs2] at h
  obtain ⟨hx, hb, hown, hts, hnm, hK, hcl⟩ := X
  split at h
  next => cases h; exact lv_ldc2 hx hb hown (hts _ hT) hd (k.same hl (xok_push hk trivial) hI)
  next => cases h; exact lv_ldc2d hx hb hown (hts _ hT) hd (k.same hl (xok_push hk trivial) hI)
  next => cases h

theorem xt_getstatic {l l2 : xL} {st st2 : List xV} {A A2 : xA} {nL pc2 : Nat} {ops : List Nat} {idx : Nat} (X : xCx p s m args meth c D cl Ts own nm cc) (hd : decode cc pc = .ok (.getstatic idx, xlen2 (.getstatic idx))) (hT : xT Ts cl own nm (.getstatic idx) ops) (hl : lv_has ls nL (xlm ad l)) (hk : xok (xlv A.2.2.2) l st) (hI : xI s D cl B ad A.2.2.2 H locs) (hE : xE s B ad A.2.2.2) (h : xs2 (.getstatic idx) ops pc l st A = some (pc2, l2, st2, A2)) (hbud : cells + A2.2.1 ≤ R.cells + A.2.1 ∧ slots + A2.2.2.1 ≤ R.slots + A.2.2.1)
    (k : xCont p l0 e R s m args below meth c D cl B ad A A2 l2 st2 nL pc2 cells slots Q) : W p l0 e R s m args below meth c H locs cells slots Q (F0 m pc ls (st.map (xc ad))) := by
  simp only [xs2] at h
  obtain ⟨hx, hb, hown, hts, hnm, hK, hcl⟩ := X
  split at h
  next ho =>
    cases h
    exact va_gets hx hb hE.2 hI.2.1 hown (hts _ (hT ho)) (fun _ z => z) hd (k.same hl (xok_push hk hE.1) hI)
  next => cases h

theorem xt_aastore {l l2 : xL} {st st2 : List xV} {A A2 : xA} {nL pc2 : Nat} {ops : List Nat} (X : xCx p s m args meth c D cl Ts own nm cc) (hd : decode cc pc = .ok (.aastore, xlen2 (.aastore))) (hT : xT Ts cl own nm (.aastore) ops) (hl : lv_has ls nL (xlm ad l)) (hk : xok (xlv A.2.2.2) l st) (hI : xI s D cl B ad A.2.2.2 H locs) (hE : xE s B ad A.2.2.2) (h : xs2 (.aastore) ops pc l st A = some (pc2, l2, st2, A2)) (hbud : cells + A2.2.1 ≤ R.cells + A.2.1 ∧ slots + A2.2.2.1 ≤ R.slots + A.2.2.1)
    (k : xCont p l0 e R s m args below meth c D cl B ad A A2 l2 st2 nL pc2 cells slots Q) : W p l0 e R s m args below meth c H locs cells slots Q (F0 m pc ls (st.map (xc ad))) := by
  simp only [xs2] at h
  obtain ⟨hx, hb, hown, hts, hnm, hK, hcl⟩ := X
  split at h
  next z j q r =>
    split at h
    next kd n f ci fs hq hz =>
      split at h
      next hg =>
        split at h
        next A1 ha =>
          cases h
          obtain ⟨hci, hkd⟩ := hg
          obtain ⟨-, hin, cell, h1, h2, h3, h4, h5, kk⟩ := xsto_ok hq ha hl (xok_tl (xok_tl (xok_tl hk))) (xok_hd hk) hI k
          obtain ⟨w, hc, hob, hhe⟩ := hT ci (xelem hci)
          obtain ⟨w2, g1, hlen, cv, q1, q2, q3, q4⟩ := hI.1.1 z _ hz
          cases Option.some.inj (hc.symm.trans g1)
          have hcls := (hK.1 ci w hc).2
          obtain ⟨kC, hkC, -⟩ := hcls.2
          have hra : ∃ E, xak kd = .object E ∧ va_RA s cell.cls (.object E) ∧ ∀ comp, s.vm.findClass E = some comp → s.vm.assignable cv.cls comp = true := by
            rcases hkd with rfl | ⟨rfl, h5⟩
            · refine ⟨"java/lang/Object", rfl, h3.resolve_left (by decide), fun comp hcomp => ?_⟩
              obtain ⟨c0, t0, f1, f2, f3⟩ := Cond.castable_spec (hts _ hob)
              cases Option.some.inj (hcls.1.symm.trans f1)
              cases Option.some.inj (hcomp.symm.trans f2)
              rw [q2]
              exact f3
            · refine ⟨"ViewFoundryModel$Held", rfl, h3.resolve_left (by decide), fun comp hcomp => ?_⟩
              rw [← hhe h5] at hcomp
              cases Option.some.inj (hcls.1.symm.trans hcomp)
              rw [q2]
              exact va_assign hcls
          obtain ⟨E, hE2, ⟨kA, comp, k1, k2, k3, k4⟩, hasg⟩ := hra
          obtain ⟨kE, hkE, -⟩ := Vm.findClass_spec k3
          exact W.aast (v := ad z) hx hb h1 h2.1 h4 k1 k2 rfl hkE ⟨fun y => hin (Or.inl y), by rw [h5]; exact Nat.not_le.mp fun y => hin (Or.inr y)⟩ q1 (fun y hy => by rw [q3] at hy; cases hy) (by rw [q2]; exact hkC) (hasg _ k3) rfl rfl hd kk
        next => cases h
      next => cases h
    next => cases h
  next j q r =>
    split at h
    next kd n f hq =>
      split at h
      next hkd =>
        split at h
        next A1 ha =>
          cases h
          obtain ⟨-, hin, cell, h1, h2, h3, h4, h5, kk⟩ := xsto_ok (v := .inl .null) hq ha hl (xok_tl (xok_tl (xok_tl hk))) trivial hI k
          have hra : ∃ E, xak kd = .object E := by
            rcases hkd with rfl | rfl
            · exact ⟨_, rfl⟩
            · exact ⟨_, rfl⟩
          obtain ⟨E, hE2⟩ := hra
          exact va_WaastN hx hb h1 (by rw [← hE2]; exact h2) h4 (by rw [h5]; exact hin) rfl rfl hd kk
        next => cases h
      next => cases h
    next => cases h
  next => cases h

end XT
end
section
set_option maxRecDepth 20000
section XR
/-- words that stay true while classes are linked and warmed -/
def xkp (w : Cond) : Bool := goodWord w || match w with
  | .castable .. => true
  | .arrayOver (.object _) => true
  | .fieldLinkNest .. => true
  | .methodLinkNest .. => true
  | .declares _ => true
  | _ => false
theorem xkp_ok {w : Cond} (h : xkp w = true) {a a2 : Array Value} {s U : State} (hW : s.WarmedH U.vm) (hb : w.before a s = true) : w.before a2 U = true := by
  unfold xkp at h
  rcases Bool.or_eq_true _ _ ▸ h with g | g
  · exact word_at hW (good_of_word g) hb
  · split at g
    next => exact (va_Nw.warmC hW (va_Nw.of rfl hb)).use rfl
    next => exact (va_AO.moved hW.alike (va_AO.of hb)).use
    next => exact (va_Nw.warmF hW (va_Nw.of rfl hb)).use rfl
    next => exact (va_Nw.warmM hW (va_Nw.of rfl hb)).use rfl
    next => exact (va_Nw.warmD hW (va_Nw.of rfl hb)).use rfl
    next => cases g
/-- a method: name, code, locals, what it returns, handlers -/
abbrev xM : Type := MethodName × ByteArray × Nat × Option FieldType × List (Nat × Nat × Nat × Nat)
/-- a program: the instructions of each method with their operands; the methods; where one throws a new exception; where it catches -/
abbrev xPr : Type := (Nat → Nat → Option (Instr × List Nat)) × (Nat → xM) × (Nat → Nat → Option String) × (Nat → Nat → String → Option (Nat × Nat × Nat))
/-- how a method ends: a value, or an exception's class -/
abbrev xR : Type := (Option xV) ⊕ String
def xcw (m : xM) : Cond := if m.2.2.2.2 = [] then .code m.1 m.2.1 m.2.2.1 m.2.2.2.1 else .codeWith m.1 m.2.1 m.2.2.1 m.2.2.2.1 m.2.2.2.2
def xpick (ci : Nat) : List Nat → Option Nat
  | a :: b :: r => if a = ci then some b else xpick ci r
  | _ => none
/-- whom an instruction calls, with what, and what is left on the stack -/
def xinv (i : Instr) (ops : List Nat) (st : List xV) (h : xH) : Option (Nat × List xV × List xV) :=
  match i with
  | .invokevirtual _ => match ops with
    | n :: tb => match st.drop n with
      | .inr q :: rest => match h q with
        | some (.inl (ci, _)) => match xpick ci tb with
          | some mid => some (mid, .inr q :: (st.take n).reverse, rest)
          | none => none
        | _ => none
      | _ => none
    | _ => none
  | .invokespecial _ => match ops with
    | [n, mid] => match st.drop n with
      | .inr q :: rest => some (mid, .inr q :: (st.take n).reverse, rest)
      | _ => none
    | _ => none
  | .invokestatic _ => match ops with
    | [n, mid] => if n ≤ st.length then some (mid, (st.take n).reverse, st.drop n) else none
    | _ => none
  | _ => none
/-- what an instruction returns -/
def xret (rt : Option FieldType) (i : Instr) (st : List xV) : Option (Option xV) :=
  match i with
  | .ireturn => match st with
    | [.inl (.int x)] => match rt with
      | some .int => some (some (.inl (.int x)))
      | some .boolean => if x = 0 ∨ x = 1 then some (some (.inl (.int x))) else none
      | _ => none
    | _ => none
  | .lreturn => match st with
    | [.inl (.long x)] => if rt = some .long then some (some (.inl (.long x))) else none
    | _ => none
  | .freturn => match st with
    | [.inl (.float x)] => if rt = some .float then some (some (.inl (.float x))) else none
    | _ => none
  | .dreturn => match st with
    | [.inl (.double x)] => if rt = some .double then some (some (.inl (.double x))) else none
    | _ => none
  | .areturn => match rt with
    | some (.object _) => match st with
      | [.inl .null] => some (some (.inl .null))
      | [.inr q] => some (some (.inr q))
      | _ => none
    | some (.array _) => match st with
      | [.inl .null] => some (some (.inl .null))
      | [.inr q] => some (some (.inr q))
      | _ => none
    | _ => none
  | .return_ => match st with
    | [] => match rt with
      | none => some none
      | some _ => none
    | _ => none
  | _ => none
/-- one instruction that stays in its method -/
def xs (nL : Nat) (i : Instr) (ops : List Nat) (pc : Nat) (l : xL) (st : List xV) (A : xA) : Option (Nat × xL × List xV × xA) :=
  match xs1 nL i pc l st with
  | some z => some (z.1, z.2.1, z.2.2, A)
  | none => match xs2 i ops pc l st A with
    | some z => some z
    | none => match i, ops, st with
      | .invokespecial _, [], .inr _ :: r => if (r.map xcat).sum ≤ 8 then some (pc + 3, l, r, A) else none
      | _, _, _ => none
def xar : Nat → List xV → xL
  | _, [] => []
  | i, v :: vs => (i, v) :: xar (if xcat v = 2 then i + 2 else i + 1) vs
def xrm (l : xL) (i : Nat) : xL := l.filter (fun q => !(q.1 == i) && !(q.1 + 1 == i && xcat q.2 == 2))
/-- THE SMALL MACHINE: fuel, frames left, method, place, locals, stack, objects; ct: methods whose end is known -/
def xrun (P : xPr) (ct : Nat → Nat → List xV → xA → Option (xR × xA)) : Nat → Nat → Nat → Nat → xL → List xV → xA → Option (xR × xA)
  | 0, _, _, _, _, _, _ => none
  | n + 1, d, mid, pc, l, st, A =>
    match P.1 mid pc with
    | none => none
    | some (i, ops) =>
      match xret (P.2.1 mid).2.2.2.1 i st with
      | some v => some (.inl v, A)
      | none =>
        match P.2.2.1 mid pc with
        | some E => if 8 ≤ d ∧ (st.map xcat).sum ≤ 8 then some (.inr E, (A.1, A.2.1 + 1, A.2.2.1 + 6, A.2.2.2)) else none
        | none =>
          match xs (P.2.1 mid).2.2.1 i ops pc l st A with
          | some z => xrun P ct n d mid z.1 z.2.1 z.2.2.1 z.2.2.2
          | none =>
            match xinv i ops st A.2.2.2, d with
            | some (mid2, args, rest), d2 + 1 =>
              if (args.map xcat).sum ≤ (P.2.1 mid2).2.2.1 ∧ (rest.map xcat).sum ≤ 8 then
                match (match ct d2 mid2 args A with
                  | some z => some z
                  | none => xrun P ct n d2 mid2 0 (xar 0 args) [] A) with
                | some (.inl v, A2) => xrun P ct n (d2 + 1) mid (pc + 3) l (v.toList ++ rest) A2
                | some (.inr E, A2) => match P.2.2.2 mid pc E with
                  | some (hpc, ln, k) => xrun P ct n (d2 + 1) mid (hpc + ln) (xrm l k) [] A2
                  | none => if (P.2.1 mid).2.2.2.2 = [] then some (.inr E, A2) else none
                | none => none
              else none
            | _, _ => none
end XR
end
section
set_option maxRecDepth 20000
section XSIM
/-- the addresses of names: those that were are as they were -/
def xAg (ad ad2 : xN) (h h2 : xH) : Prop := (∀ v, xlv h v → xlv h2 v ∧ xc ad2 v = xc ad v) ∧ ∀ z : Nat × Nat, z.1 = 0 → ad2 z = ad z
theorem xAg.rf {ad : xN} {h : xH} : xAg ad ad h h := ⟨fun _ hv => ⟨hv, rfl⟩, fun _ _ => rfl⟩
theorem xAg.tr {a1 a2 a3 : xN} {h1 h2 h3 : xH} (x : xAg a1 a2 h1 h2) (y : xAg a2 a3 h2 h3) : xAg a1 a3 h1 h3 :=
  ⟨fun v hv => ⟨(y.1 v (x.1 v hv).1).1, (y.1 v (x.1 v hv).1).2.trans (x.1 v hv).2⟩, fun z hz => (y.2 z hz).trans (x.2 z hz)⟩
theorem xAg.lm {a1 a2 : xN} {h1 h2 : xH} (x : xAg a1 a2 h1 h2) {l : xL} (hl : ∀ z ∈ l, xlv h1 z.2) : xlm a2 l = xlm a1 l :=
  List.map_congr_left (fun z hz => by rw [(x.1 _ (hl z hz)).2])
theorem xAg.st {a1 a2 : xN} {h1 h2 : xH} (x : xAg a1 a2 h1 h2) {st : List xV} (hl : ∀ v ∈ st, xlv h1 v) : st.map (xc a2) = st.map (xc a1) :=
  List.map_congr_left (fun z hz => (x.1 _ (hl z hz)).2)
theorem xAg.ok {a1 a2 : xN} {h1 h2 : xH} (x : xAg a1 a2 h1 h2) {l : xL} {st : List xV} (hk : xok (xlv h1) l st) : xok (xlv h2) l st := ⟨fun z hz => (x.1 _ (hk.1 z hz)).1, fun v hv => (x.1 v (hk.2 v hv)).1⟩
/-- texts of exceptions, and which classes aren't kinds of which -/
abbrev xSL : Type := List (String × Nat × String) × List (String × String)
/-- what else a run reads: two statics, and the texts of exceptions -/
def xZ (s : State) (B : Nat) (SL : xSL) : Prop := vx_Zq Bundle.tN "UNASSIGNED_STACK" Bundle.steD (fun q => B ≤ q) s s.heap ∧ vx_Zq Bundle.tN "SUPPRESSED_SENTINEL" Bundle.listD (fun q => B ≤ q) s s.heap ∧ (∀ z ∈ SL.1, ∃ sa, vk_R z.1 z.2.1 z.2.2 sa s) ∧ ∀ z ∈ SL.2, va_Nc z.1 z.2 s
theorem xZ.mv {s U : State} {B : Nat} {SL : xSL} {H : Heap} {locs : List Loc} (h : xZ s B SL) (hS : va_S (fun q => B ≤ q) s.heap H locs) (hU : U.heap = H) (hW : s.WarmedH U.vm) : xZ U B SL := by
  obtain ⟨h1, h2, h3, h4⟩ := h
  have hk : ∀ a : Nat, a < s.heap.size → ¬ B ≤ a → H[a]? = s.heap[a]? := hS.2.1
  refine ⟨?_, ?_, fun z hz => ?_, fun z hz => (h4 z hz).moved hW.alike⟩
  · rw [hU]; exact (h1.kept hk).moved hW.alike
  · rw [hU]; exact (h2.kept hk).moved hW.alike
  · obtain ⟨sa, hsa⟩ := h3 z hz
    exact ⟨sa, hsa.warm hW⟩
theorem xE.mv {s U : State} {B : Nat} {ad ad2 : xN} {h h2 : xH} {H : Heap} {locs : List Loc} (hE : xE s B ad h) (hg : xAg ad ad2 h h2) (hS : va_S (fun q => B ≤ q) s.heap H locs) (hU : U.heap = H) (hW : s.WarmedH U.vm) : xE U B ad2 h2 := by
  obtain ⟨h1, h3⟩ := hE
  refine ⟨(hg.1 (.inr (0, 1)) h1).1, ?_⟩
  rw [hg.2 (0, 1) rfl, hU]
  exact (h3.kept hS.2.1).moved hW.alike
theorem xE.ag {s : State} {B : Nat} {ad ad2 : xN} {h h2 : xH} (hE : xE s B ad h) (hg : xAg ad ad2 h h2) : xE s B ad2 h2 := by
  obtain ⟨h1, h3⟩ := hE
  refine ⟨(hg.1 (.inr (0, 1)) h1).1, ?_⟩
  rw [hg.2 (0, 1) rfl]
  exact h3
def xRm (d mc ms : Nat) : Room := { frames := d + 1, cells := mc, slots := ms, locals := 40 * (d + 1) }
/-- a method's start: the arguments, and all that a frame must know -/
def xPc (cl : List vw_C) (SL : xSL) (D : va_G) (B : Nat) (ad : xN) (A : xA) (args : List xV) : Array Value → State → Prop := fun a U =>
  a = (args.map (xc ad)).toArray ∧ xRep U D cl B ad A.2.2.2 U.heap ∧ B ≤ U.heap.size ∧ va_K D cl [] U ∧ xE U B ad A.2.2.2 ∧ xZ U B SL
def xQc (cl : List vw_C) (D : va_G) (B : Nat) (ad : xN) (A A2 : xA) (res : xR) : Array Value → State → Outcome → State → Prop := fun _ st o t =>
  (∃ (v : Option xV) (ad2 : xN), res = .inl v ∧ o = .returned (v.map (xc ad2)) ∧ xAg ad ad2 A.2.2.2 A2.2.2.2 ∧ xRep t D cl B ad2 A2.2.2.2 t.heap ∧ ∀ x, v = some x → xlv A2.2.2.2 x) ∧ va_F (fun q => B ≤ q) st t
def xXc (cl : List vw_C) (D : va_G) (B : Nat) (ad : xN) (A A2 : xA) (res : xR) : String → State → State → Prop := fun E st t =>
  res = .inr E ∧ (∃ ad2 : xN, xAg ad ad2 A.2.2.2 A2.2.2.2 ∧ xRep t D cl B ad2 A2.2.2.2 t.heap) ∧ va_F (fun q => B ≤ q) st t
/-- what is known of a call of a method: it ends so -/
def xMet (l0 : Launch) (P : xPr) (cl : List vw_C) (TS : List Cond) (SL : xSL) (d mid : Nat) (args : List xV) (A : xA) (res : xR) (A2 : xA) : Prop :=
  (A.2.1 ≤ A2.2.1 ∧ A.2.2.1 ≤ A2.2.2.1) ∧ ∀ (D : va_G) (B : Nat) (ad : xN), (∀ v ∈ args, xlv A.2.2.2 v) →
    vx_Met l0 (P.2.1 mid).1 (xcw (P.2.1 mid) :: TS) (xRm d (A2.2.1 - A.2.1) (A2.2.2.1 - A.2.2.1)) (xPc cl SL D B ad A args) (xQc cl D B ad A A2 res) (xXc cl D B ad A A2 res) (A2.2.1 - A.2.1) (A2.2.2.1 - A.2.2.1) (fun q => B ≤ q)
theorem xPc.blind {cl : List vw_C} {SL : xSL} {D : va_G} {B : Nat} {ad : xN} {A : xA} {args : List xV} : FrameBlind (xPc cl SL D B ad A args) := by
  intro a U g mk h
  obtain ⟨h1, h2, h3, h4, ⟨h5, h6⟩, h7, h8, h9, h10⟩ := h
  have hv : U.vm.Alike (U.calling g mk a).vm := Vm.Alike.refl U.vm
  exact ⟨h1, h2.moved hv, h3, va_K.moved (u := U) hv h4, ⟨h5, h6.moved hv⟩, h7.moved hv, h8.moved hv, fun z hz => by
    obtain ⟨sa, hsa⟩ := h9 z hz
    exact ⟨sa, vk_R.same (u := U) rfl hsa⟩, fun z hz => (h10 z hz).moved hv⟩
variable {p : Program} {l0 : Launch} {e : Env} {R : Room} {s : State} {m : MethodId} {args : Array Value} {below : List Frame} {meth : Method} {c : Code} {H : Heap} {locs : List Loc} {cells slots : Nat} {Q : State → Prop}
variable {cc : ByteArray} {pc : Nat} {ls : Array Slot} {ad : xN} {D : va_G} {cl : List vw_C} {TS : List Cond} {own nm : String} {B : Nat} {SL : xSL} {P : xPr}
/-- behind a call -/
theorem xgo {A A2 : xA} {res : xR} {a : Array Value} {st0 : List Value} {rest : List Value} {mc ms : Nat} (hr : vx_Run p l0 e R s m args below meth c H locs cells slots mc ms (F0 m pc ls st0) rest (xQc cl D B ad A A2 res a) (xXc cl D B ad A A2 res) (fun q => B ≤ q)) (hI : xI s D cl B ad A.2.2.2 H locs)
    (kk : ∀ (v : Option xV) (ad2 : xN) (H1 : Heap) (locs1 : List Loc), res = .inl v → xAg ad ad2 A.2.2.2 A2.2.2.2 → xI s D cl B ad2 A2.2.2.2 H1 locs1 → (∀ x, v = some x → xlv A2.2.2.2 x) → W p l0 e R s m args below meth c H1 locs1 (cells + mc) (slots + ms) Q (F0 m (pc + 3) ls ((v.map (xc ad2)).toList ++ rest)))
    (kx : ∀ (E : String) (ce : Cell) (q9 : Addr) (ad2 : xN) (H1 : Heap) (locs1 : List Loc), res = .inr E → xAg ad ad2 A.2.2.2 A2.2.2.2 → xI s D cl B ad2 A2.2.2.2 H1 locs1 → H1[q9]? = some ce → ce.vm = .none → s.vm.findClass E = some ce.cls → vx_W p l0 e R s m args below meth c H1 locs1 (cells + mc) (slots + ms) Q (F0 m pc ls rest) q9) :
    W p l0 e R s m args below meth c H locs cells slots Q (F0 m pc ls st0) := by
  intro T hT X
  have keep : ∀ (st₀ t T2 : State) (L : List Loc), st₀.heap = H → T2.heap = t.heap → (∀ q ∈ L, B ≤ q.base) → va_F (fun q => B ≤ q) st₀ t → va_S (fun q => B ≤ q) s.heap T2.heap (locs ++ L) := by
    intro st₀ t T2 L h0 e1 hL hF
    exact (vx_keep (A1 := fun q => B ≤ q) (free := fun q => B ≤ q) h0 e1 hI.2.1 (fun _ _ z => z) (fun _ z => z) hL hF).2.2
  rcases hr T hT X with ⟨v, st₀, t, T', L, h0, X', hL, e1, e2, ⟨⟨v1, ad2, hres, hv, hg, hrep, hlv⟩, hF⟩, st⟩ | ⟨q, st₀, t, T', L, E, ce, h0, X', hL, e1, e2, ⟨hres, ⟨ad2, hg, hrep⟩, hF⟩, hce, hcv, hcl, st⟩
  · cases hv
    have hal : s.vm.Alike t.vm := by rw [← e2]; exact X'.warmed.alike
    obtain ⟨t2, a1, b1⟩ := kk v1 ad2 T'.heap (locs ++ L) hres hg ⟨by rw [e1]; exact hrep.moved hal.symm, keep st₀ t T' L h0 e1 hL hF, hI.2.2⟩ hlv T' rfl X'
    exact ⟨t2, st t2 a1, b1⟩
  · have hal : s.vm.Alike t.vm := by rw [← e2]; exact X'.warmed.alike
    obtain ⟨t2, a1, b1⟩ := kx E ce q ad2 T'.heap (locs ++ L) hres hg ⟨by rw [e1]; exact hrep.moved hal.symm, keep st₀ t T' L h0 e1 hL hF, hI.2.2⟩ (by rw [e1]; exact hce) hcv hcl T' rfl X'
    exact ⟨t2, st.trans a1, b1⟩
/-- a callee's start, out of the caller's frame -/
theorem xpre {A : xA} {as : List xV} (X : xCx p s m args meth c D cl TS own nm cc) (hI : xI s D cl B ad A.2.2.2 H locs) (hE : xE s B ad A.2.2.2) (hZ : xZ s B SL) {U : State} (hU : U.heap = H) (hW : s.WarmedH U.vm) : xPc cl SL D B ad A as (as.map (xc ad)).toArray U :=
  ⟨rfl, by rw [hU]; exact hI.1.moved hW.alike, by rw [hU]; exact Nat.le_trans hI.2.2 hI.2.1.1, va_K.moved hW.alike X.2.2.2.2.2.1, hE.mv xAg.rf hI.2.1 hU hW, hZ.mv hI.2.1 hU hW⟩
/-- what the tables must say of a method that is called -/
def xMF (P : xPr) (TS : List Cond) (mid n : Nat) : Prop := plainName (P.2.1 mid).1.cls = true ∧ ((P.2.1 mid).1.cls ≠ "java/lang/invoke/MethodHandle" ∧ (P.2.1 mid).1.cls ≠ "java/lang/invoke/VarHandle") ∧ (parseMethodDescriptor (P.2.1 mid).1.desc).map (fun d => d.parameters.length) = some n ∧ (P.2.1 mid).2.2.1 ≤ 21 ∧ xcw (P.2.1 mid) ∈ TS ∧ Cond.initialized (P.2.1 mid).1.cls ∈ TS
/-- .. of a virtual call -/
def xsV (P : xPr) (TS : List Cond) (cl : List vw_C) (own : String) (idx n ci mid : Nat) : Prop := xMF P TS mid n ∧ (P.2.1 mid).2.2.2.2 = [] ∧ Cond.instanceMethod (P.2.1 mid).1 ∈ TS ∧ ∃ r : vw_C, cl[ci]? = some r ∧
  ((Cond.methodLink own idx (P.2.1 mid).1 ∈ TS ∧ Cond.selects r.1 (P.2.1 mid).1 (P.2.1 mid).1 ∈ TS) ∨ (∃ host, Cond.methodLinkNest own idx (P.2.1 mid).1 host ∈ TS ∧ Cond.selects r.1 (P.2.1 mid).1 (P.2.1 mid).1 ∈ TS) ∨
    ∃ (x : MethodName) (owner : String), Cond.methodLink own idx x ∈ TS ∧ Cond.sameMethod x.cls owner x.name x.desc ∈ TS ∧ Cond.selects r.1 x (P.2.1 mid).1 ∈ TS ∧ ((P.2.1 mid).1 = ⟨owner, x.name, x.desc⟩ ∨ Cond.declares ⟨owner, x.name, x.desc⟩ ∈ TS) ∧ (owner ≠ "java/lang/invoke/MethodHandle" ∧ owner ≠ "java/lang/invoke/VarHandle") ∧ (parseMethodDescriptor x.desc).map (fun d => d.parameters.length) = some n)
/-- .. of a constructor's call -/
def xsI (P : xPr) (TS : List Cond) (own : String) (idx n mid : Nat) : Prop := xMF P TS mid n ∧ (P.2.1 mid).2.2.2.2 = [] ∧ (P.2.1 mid).2.2.2.1 = none ∧ (P.2.1 mid).1.name = "<init>" ∧ Cond.instanceMethod (P.2.1 mid).1 ∈ TS ∧ (Cond.methodLink own idx (P.2.1 mid).1 ∈ TS ∨ ∃ host, Cond.methodLinkNest own idx (P.2.1 mid).1 host ∈ TS)
/-- .. of a static call -/
def xsS (P : xPr) (TS : List Cond) (own : String) (idx n mid : Nat) : Prop := xMF P TS mid n ∧ Cond.static (P.2.1 mid).1 ∈ TS ∧ (Cond.methodLink own idx (P.2.1 mid).1 ∈ TS ∨ (P.2.1 mid).2.2.2.2 = [] ∧ ∃ host, Cond.methodLinkNest own idx (P.2.1 mid).1 host ∈ TS)
def xTc (P : xPr) (TS : List Cond) (cl : List vw_C) (own : String) (i : Instr) (ops : List Nat) : Prop := match i with
  | .invokevirtual idx => match ops with
    | n :: tb => ∀ ci mid, xpick ci tb = some mid → xsV P TS cl own idx n ci mid
    | _ => True
  | .invokespecial idx => match ops with
    | [n, mid] => xsI P TS own idx n mid
    | [] => Cond.methodLink own idx Lib.objectInit ∈ TS ∧ Cond.instanceMethod Lib.objectInit ∈ TS ∧ Cond.code Lib.objectInit ⟨#[0xb1]⟩ 1 none ∈ TS
    | _ => True
  | .invokestatic idx => match ops with
    | [n, mid] => xsS P TS own idx n mid
    | _ => True
  | _ => True
theorem xkeep (hk : ∀ w ∈ TS, xkp w = true) (hts : ∀ w ∈ TS, w.before args s = true) {w0 : Cond} (h0 : w0 ∈ TS) : ∀ w ∈ w0 :: TS, ∀ (a2 : Array Value) (U : State), s.WarmedH U.vm → w.before a2 U = true := by
  intro w hw a2 U hW
  have hm : w ∈ TS := by
    rcases List.mem_cons.mp hw with rfl | h
    · exact h0
    · exact h
  exact xkp_ok (hk w hm) hW (hts w hm)
theorem xlenn {y : MethodName} {n : Nat} (h : (parseMethodDescriptor y.desc).map (fun d => d.parameters.length) = some n) : ∀ sig, parseMethodDescriptor y.desc = some sig → n = sig.parameters.length := by
  intro sig hs
  rw [hs] at h
  exact (Option.some.inj h).symm
end XSIM
end
section
set_option maxRecDepth 20000
section XCALL
variable {p : Program} {l0 : Launch} {e : Env} {R : Room} {s : State} {m : MethodId} {args : Array Value} {below : List Frame} {meth : Method} {c : Code} {H : Heap} {locs : List Loc} {cells slots : Nat} {Q : State → Prop}
variable {cc : ByteArray} {pc : Nat} {ls : Array Slot} {ad : xN} {D : va_G} {cl : List vw_C} {TS : List Cond} {own nm : String} {B : Nat} {SL : xSL} {P : xPr}
theorem xcw_nil {y : xM} (h : y.2.2.2.2 = []) : xcw y = .code y.1 y.2.1 y.2.2.1 y.2.2.2.1 := if_pos h
theorem xcw_with {y : xM} (h : ¬ y.2.2.2.2 = []) : xcw y = .codeWith y.1 y.2.1 y.2.2.1 y.2.2.2.1 y.2.2.2.2 := if_neg h
/-- a virtual call -/
theorem xrunV {A A2 : xA} {res : xR} {d2 mid idx n ci : Nat} {q : Nat × Nat} {fs as2 rest : List xV} (X : xCx p s m args meth c D cl TS own nm cc) (hml : c.maxLocals = ls.size) (hkp : ∀ w ∈ TS, xkp w = true) (hM : xMet l0 P cl TS SL d2 mid (.inr q :: as2) A res A2) (hs : xsV P TS cl own idx n ci mid) (hq : A.2.2.2 q = some (.inl (ci, fs))) (hn : as2.length = n) (hI : xI s D cl B ad A.2.2.2 H locs) (hE : xE s B ad A.2.2.2) (hZ : xZ s B SL) (hlv : ∀ v ∈ (.inr q :: as2), xlv A.2.2.2 v) (hR : d2 + 2 ≤ R.frames ∧ 40 * (d2 + 2) ≤ R.locals) (hW : ((rest.map (xc ad)).map fun v => v.category).sum ≤ 8) (hd : decode cc pc = .ok (.invokevirtual idx, 3)) (hf : cells + (A2.2.1 - A.2.1) ≤ R.cells ∧ slots + (A2.2.2.1 - A.2.2.1) ≤ R.slots) :
    vx_Run p l0 e R s m args below meth c H locs cells slots (A2.2.1 - A.2.1) (A2.2.2.1 - A.2.2.1) (F0 m pc ls ((as2.map (xc ad)).reverse ++ .ref (ad q) :: rest.map (xc ad))) (rest.map (xc ad)) (xQc cl D B ad A A2 res (Value.ref (ad q) :: as2.map (xc ad)).toArray) (xXc cl D B ad A A2 res) (fun q => B ≤ q) := by
  obtain ⟨hx, hb, hown, hts, hnm, hK, hcl⟩ := id X
  obtain ⟨⟨hpl, hmh, hlen, hmx, hcw, hini⟩, hhh, hin, w, hc, hlk⟩ := hs
  have hM2 := hM.2 D B ad hlv
  rw [xcw_nil hhh] at hM2 hcw
  have hkeep := xkeep hkp hts hcw
  obtain ⟨w2, h1, hlen2, cell, q1, q2, q3, q4⟩ := hI.1.1 q _ hq
  cases Option.some.inj (hc.symm.trans h1)
  have hrec : ∃ cellB : Cell, H[ad q]? = some cellB ∧ cellB.vm.isStatics = false ∧ s.vm.findClass w.1 = some cellB.cls := ⟨cell, q1, by rw [q3]; rfl, by rw [q2]; exact (hK.1 ci w hc).2.1⟩
  have hpre : PreV s H w.1 (ad q) (xPc cl SL D B ad A (.inr q :: as2)) (as2.map (xc ad)) := ⟨xPc.blind, hrec, fun U hU hWm => xpre X hI hE hZ hU hWm⟩
  have hl8 : 8 + ((P.2.1 mid).2.2.1 + 11) + (xRm d2 (A2.2.1 - A.2.1) (A2.2.2.1 - A.2.2.1)).locals ≤ R.locals := by
    show 8 + ((P.2.1 mid).2.2.1 + 11) + 40 * (d2 + 1) ≤ R.locals
    omega
  have hfr : (xRm d2 (A2.2.1 - A.2.1) (A2.2.2.1 - A.2.2.1)).frames + 1 ≤ R.frames := hR.1
  have hn2 : (as2.map (xc ad)).length = n := by rw [List.length_map]; exact hn
  have hroom : 2 * (F0 m pc ls ((as2.map (xc ad)).reverse ++ .ref (ad q) :: rest.map (xc ad))).monitorRoom + ((rest.map (xc ad)).map fun v => v.category).sum ≤ 8 := lv_room hW
  rcases hlk with ⟨hlk, hsel⟩ | ⟨host, hlk, hsel⟩ | ⟨x, owner, hlk, hsm, hsel, hdc, hmo, hlx⟩
  · exact vx_runV ⟨hx, hb, hml, hown, hts⟩ hM2 ⟨⟨rfl, rfl, hfr, hl8, hkeep, List.mem_cons_self, hts _ hcw, hts _ hini, hmh, xlenn hlen, hts _ hlk⟩, hts _ hin, hts _ hsel⟩ hpre rfl hn2 rfl rfl hroom hd hf
  · exact vx_runVN ⟨hx, hb, hml, hown, hts⟩ hM2 ⟨⟨⟨rfl, rfl, hfr, hl8, hkeep, List.mem_cons_self⟩, hts _ hcw, hts _ hini, hmh, xlenn hlen, hts _ hlk⟩, hts _ hin, hts _ hsel⟩ hpre rfl hn2 rfl rfl hroom hd hf
  · have hdecl : va_Decl s ⟨owner, x.name, x.desc⟩ := by
      rcases hdc with e | hdc
      · rw [← e]
        exact va_Decl.of (hts _ hin) (hts _ hcw)
      · exact va_Decl.abs (va_Nw.of rfl (hts _ hdc))
    exact vx_runU (x := x) (owner := owner) ⟨hx, hb, hml, hown, hts⟩ hM2 ⟨⟨rfl, rfl, hfr, hl8, hkeep, List.mem_cons_self⟩, hts _ hcw, hts _ hini, hmo, xlenn (y := x) hlx, hts _ hlk, hts _ hsm, hdecl, hts _ hsel, hts _ hin⟩ hpre rfl hn2 rfl rfl hroom hd hf
/-- a constructor's call -/
theorem xrunI {A A2 : xA} {res : xR} {d2 mid idx n : Nat} {q : Nat × Nat} {as2 rest : List xV} (X : xCx p s m args meth c D cl TS own nm cc) (hml : c.maxLocals = ls.size) (hkp : ∀ w ∈ TS, xkp w = true) (hM : xMet l0 P cl TS SL d2 mid (.inr q :: as2) A res A2) (hs : xsI P TS own idx n mid) (hn : as2.length = n) (hI : xI s D cl B ad A.2.2.2 H locs) (hE : xE s B ad A.2.2.2) (hZ : xZ s B SL) (hlv : ∀ v ∈ (.inr q :: as2), xlv A.2.2.2 v) (hR : d2 + 2 ≤ R.frames ∧ 40 * (d2 + 2) ≤ R.locals) (hW : ((rest.map (xc ad)).map fun v => v.category).sum ≤ 8) (hd : decode cc pc = .ok (.invokespecial idx, 3)) (hf : cells + (A2.2.1 - A.2.1) ≤ R.cells ∧ slots + (A2.2.2.1 - A.2.2.1) ≤ R.slots) :
    vx_Run p l0 e R s m args below meth c H locs cells slots (A2.2.1 - A.2.1) (A2.2.2.1 - A.2.2.1) (F0 m pc ls ((as2.map (xc ad)).reverse ++ .ref (ad q) :: rest.map (xc ad))) (rest.map (xc ad)) (xQc cl D B ad A A2 res (Value.ref (ad q) :: as2.map (xc ad)).toArray) (xXc cl D B ad A A2 res) (fun q => B ≤ q) := by
  obtain ⟨hx, hb, hown, hts, hnm, hK, hcl⟩ := id X
  obtain ⟨⟨hpl, hmh, hlen, hmx, hcw, hini⟩, hhh, hret, hname, hin, hlk⟩ := hs
  have hM2 := hM.2 D B ad hlv
  rw [xcw_nil hhh] at hM2 hcw
  rw [hret] at hM2 hcw
  have hkeep := xkeep hkp hts hcw
  have hpre : PreS s H (xPc cl SL D B ad A (.inr q :: as2)) (.ref (ad q) :: as2.map (xc ad)) := ⟨xPc.blind, fun U hU hWm => xpre X hI hE hZ hU hWm⟩
  have hl8 : 8 + ((P.2.1 mid).2.2.1 + 11) + (xRm d2 (A2.2.1 - A.2.1) (A2.2.2.1 - A.2.2.1)).locals ≤ R.locals := by
    show 8 + ((P.2.1 mid).2.2.1 + 11) + 40 * (d2 + 1) ≤ R.locals
    omega
  have hfr : (xRm d2 (A2.2.1 - A.2.1) (A2.2.2.1 - A.2.2.1)).frames + 1 ≤ R.frames := hR.1
  have hn2 : (as2.map (xc ad)).length = n := by rw [List.length_map]; exact hn
  have hroom : 2 * (F0 m pc ls ((as2.map (xc ad)).reverse ++ .ref (ad q) :: rest.map (xc ad))).monitorRoom + ((rest.map (xc ad)).map fun v => v.category).sum ≤ 8 := lv_room hW
  rcases hlk with hlk | ⟨host, hlk⟩
  · exact vx_runI ⟨hx, hb, hml, hown, hts⟩ hM2 ⟨⟨rfl, rfl, hfr, hl8, hkeep, List.mem_cons_self, hts _ hcw, hts _ hini, hmh, xlenn hlen, hts _ hlk⟩, hname, hts _ hin⟩ hpre rfl hn2 rfl rfl hroom hd hf
  · exact vx_runIN ⟨hx, hb, hml, hown, hts⟩ hM2 ⟨⟨⟨rfl, rfl, hfr, hl8, hkeep, List.mem_cons_self⟩, hts _ hcw, hts _ hini, hmh, xlenn hlen, hts _ hlk⟩, hname, hts _ hin⟩ hpre rfl hn2 rfl rfl hroom hd hf
/-- a static call -/
theorem xrunS {A A2 : xA} {res : xR} {d2 mid idx n : Nat} {as rest : List xV} (X : xCx p s m args meth c D cl TS own nm cc) (hml : c.maxLocals = ls.size) (hkp : ∀ w ∈ TS, xkp w = true) (hM : xMet l0 P cl TS SL d2 mid as A res A2) (hs : xsS P TS own idx n mid) (hn : as.length = n) (hI : xI s D cl B ad A.2.2.2 H locs) (hE : xE s B ad A.2.2.2) (hZ : xZ s B SL) (hlv : ∀ v ∈ as, xlv A.2.2.2 v) (hR : d2 + 2 ≤ R.frames ∧ 40 * (d2 + 2) ≤ R.locals) (hW : ((rest.map (xc ad)).map fun v => v.category).sum ≤ 8) (hd : decode cc pc = .ok (.invokestatic idx, 3)) (hf : cells + (A2.2.1 - A.2.1) ≤ R.cells ∧ slots + (A2.2.2.1 - A.2.2.1) ≤ R.slots) :
    vx_Run p l0 e R s m args below meth c H locs cells slots (A2.2.1 - A.2.1) (A2.2.2.1 - A.2.2.1) (F0 m pc ls ((as.map (xc ad)).reverse ++ rest.map (xc ad))) (rest.map (xc ad)) (xQc cl D B ad A A2 res (as.map (xc ad)).toArray) (xXc cl D B ad A A2 res) (fun q => B ≤ q) := by
  obtain ⟨hx, hb, hown, hts, hnm, hK, hcl⟩ := id X
  obtain ⟨⟨hpl, hmh, hlen, hmx, hcw, hini⟩, hstat, hlk⟩ := hs
  have hM2 := hM.2 D B ad hlv
  have hkeep := xkeep hkp hts hcw
  have hpre : PreS s H (xPc cl SL D B ad A as) (as.map (xc ad)) := ⟨xPc.blind, fun U hU hWm => xpre X hI hE hZ hU hWm⟩
  have hl8 : 8 + ((P.2.1 mid).2.2.1 + 11) + (xRm d2 (A2.2.1 - A.2.1) (A2.2.2.1 - A.2.2.1)).locals ≤ R.locals := by
    show 8 + ((P.2.1 mid).2.2.1 + 11) + 40 * (d2 + 1) ≤ R.locals
    omega
  have hfr : (xRm d2 (A2.2.1 - A.2.1) (A2.2.2.1 - A.2.2.1)).frames + 1 ≤ R.frames := hR.1
  have hn2 : (as.map (xc ad)).length = n := by rw [List.length_map]; exact hn
  have hroom : 2 * (F0 m pc ls ((as.map (xc ad)).reverse ++ rest.map (xc ad))).monitorRoom + ((rest.map (xc ad)).map fun v => v.category).sum ≤ 8 := lv_room hW
  by_cases hhh : (P.2.1 mid).2.2.2.2 = []
  · rw [xcw_nil hhh] at hM2 hcw hkeep
    rcases hlk with hlk | ⟨-, host, hlk⟩
    · exact vx_runS ⟨hx, hb, hml, hown, hts⟩ hM2 ⟨⟨rfl, rfl, hfr, hl8, hkeep, List.mem_cons_self, hts _ hcw, hts _ hini, hmh, xlenn hlen, hts _ hlk⟩, hts _ hstat⟩ hpre rfl hn2 rfl rfl hroom hd hf
    · exact vx_runSN ⟨hx, hb, hml, hown, hts⟩ hM2 ⟨⟨⟨rfl, rfl, hfr, hl8, hkeep, List.mem_cons_self⟩, hts _ hcw, hts _ hini, hmh, xlenn hlen, hts _ hlk⟩, hts _ hstat, trivial⟩ hpre rfl hn2 rfl rfl hroom hd hf
  · rw [xcw_with hhh] at hM2 hcw hkeep
    rcases hlk with hlk | ⟨h9, -⟩
    · exact vx_runSX ⟨hx, hb, hml, hown, hts⟩ hM2 ⟨⟨rfl, rfl, hfr, hl8, hkeep, List.mem_cons_self⟩, hts _ hcw, hts _ hini, hmh, xlenn hlen, hts _ hlk, hts _ hstat⟩ hpre rfl hn2 rfl rfl hroom hd hf
    · exact absurd h9 hhh
end XCALL
end
section
set_option maxRecDepth 20000
section XSTEP
def xln (i : Instr) : Nat := match i with
  | .invokevirtual _ => 3
  | .invokespecial _ => 3
  | .invokestatic _ => 3
  | i => match xlen i with
    | 0 => xlen2 i
    | k + 1 => k + 1
/-- the length that decoding an instruction must give -/
def xdok (i : Instr) (n : Nat) : Prop := match i with
  | .tableswitch _ _ _ _ => True
  | i => n = xln i
theorem xs1_len {nL pc n : Nat} {i : Instr} {l : xL} {st : List xV} {z : Nat × xL × List xV} (h : xs1 nL i pc l st = some z) (hn : xdok i n) : n = xlen i := by
  cases i
  case fconst f =>
    match f, h, hn with
    | 0, h, hn => exact hn
    | 1, h, hn => exact hn
    | 2, h, hn => exact hn
  case dconst f =>
    match f, h, hn with
    | 0, h, hn => exact hn
    | 1, h, hn => exact hn
  all_goals first | exact hn | (cases h; done)
set_option maxHeartbeats 4000000 in
theorem xs2_mono {i : Instr} {ops : List Nat} {pc : Nat} {l : xL} {st : List xV} {A : xA} {z : Nat × xL × List xV × xA} (h : xs2 i ops pc l st A = some z) : A.2.1 ≤ z.2.2.2.2.1 ∧ A.2.2.1 ≤ z.2.2.2.2.2.1 := by
  obtain ⟨pc2, l2, st2, A2⟩ := z
  show A.2.1 ≤ A2.2.1 ∧ A.2.2.1 ≤ A2.2.2.1
  have sto : ∀ {q : Nat × Nat} {kd n want : Nat} {j : Int32} {f : Nat → xV} {v : xV} {A1 : xA}, xsto A q kd j n f want v = some A1 → A.2.1 ≤ A1.2.1 ∧ A.2.2.1 ≤ A1.2.2.1 := by
    intro q kd n want j f v A1 h
    unfold xsto at h
    split at h
    · cases h; exact ⟨Nat.le_refl _, Nat.le_refl _⟩
    · cases h
  cases i <;> simp only [xs2] at h
  all_goals (repeat' split at h)
  all_goals first
    | (cases h; done)
    | (cases h; exact ⟨Nat.le_refl _, Nat.le_refl _⟩)
    | (cases h; exact ⟨Nat.le_succ _, Nat.le_add_right _ _⟩)
    | (cases h; exact sto (by assumption))
    | (obtain ⟨_, _, _, _, rfl, _⟩ := xbr_ok h; exact ⟨Nat.le_refl _, Nat.le_refl _⟩)
    | (obtain ⟨_, _, _, rfl⟩ := xjmp_ok h; exact ⟨Nat.le_refl _, Nat.le_refl _⟩)
theorem xs_mono {nL : Nat} {i : Instr} {ops : List Nat} {pc : Nat} {l : xL} {st : List xV} {A : xA} {z : Nat × xL × List xV × xA} (h : xs nL i ops pc l st A = some z) : A.2.1 ≤ z.2.2.2.2.1 ∧ A.2.2.1 ≤ z.2.2.2.2.2.1 := by
  unfold xs at h
  split at h
  next => cases h; exact ⟨Nat.le_refl _, Nat.le_refl _⟩
  next =>
    split at h
    next h2 => cases h; exact xs2_mono h2
    next =>
      split at h
      next =>
        split at h
        next => cases h; exact ⟨Nat.le_refl _, Nat.le_refl _⟩
        next => cases h
      next => cases h
variable {p : Program} {l0 : Launch} {e : Env} {R : Room} {s : State} {m : MethodId} {args : Array Value} {below : List Frame} {meth : Method} {c : Code} {H : Heap} {locs : List Loc} {cells slots : Nat} {Q : State → Prop}
variable {cc : ByteArray} {pc : Nat} {ls : Array Slot} {ad : xN} {D : va_G} {cl : List vw_C} {TS : List Cond} {own nm : String} {B : Nat} {SL : xSL} {P : xPr}
set_option maxHeartbeats 4000000 in
theorem xs2_ok {l l2 : xL} {st st2 : List xV} {A A2 : xA} {nL pc2 n : Nat} {ops : List Nat} {i : Instr} (X : xCx p s m args meth c D cl TS own nm cc) (hd : decode cc pc = .ok (i, n)) (hn : xdok i n) (hT : xT TS cl own nm i ops) (hl : lv_has ls nL (xlm ad l)) (hk : xok (xlv A.2.2.2) l st) (hI : xI s D cl B ad A.2.2.2 H locs) (hE : xE s B ad A.2.2.2) (h : xs2 i ops pc l st A = some (pc2, l2, st2, A2)) (hbud : cells + A2.2.1 ≤ R.cells + A.2.1 ∧ slots + A2.2.2.1 ≤ R.slots + A.2.2.1)
    (k : xCont p l0 e R s m args below meth c D cl B ad A A2 l2 st2 nL pc2 cells slots Q) : W p l0 e R s m args below meth c H locs cells slots Q (F0 m pc ls (st.map (xc ad))) := by
  cases i
  case tableswitch a b c d => exact xt_tableswitch X hd hT hl hk hI hE h hbud k
  case ifCond o off => cases hn; exact xt_ifCond X hd hT hl hk hI hE h hbud k
  case if_icmp o off => cases hn; exact xt_if_icmp X hd hT hl hk hI hE h hbud k
  case if_acmp o off =>
    cases hn
    cases o
    · exact xt_if_acmp_eq X hd hT hl hk hI hE h hbud k
    · exact xt_if_acmp_ne X hd hT hl hk hI hE h hbud k
  case getfield => cases hn; exact xt_getfield X hd hT hl hk hI hE h hbud k
  case putfield => cases hn; exact xt_putfield X hd hT hl hk hI hE h hbud k
  case iaload => cases hn; exact xt_iaload X hd hT hl hk hI hE h hbud k
  case laload => cases hn; exact xt_laload X hd hT hl hk hI hE h hbud k
  case caload => cases hn; exact xt_caload X hd hT hl hk hI hE h hbud k
  case daload => cases hn; exact xt_daload X hd hT hl hk hI hE h hbud k
  case aaload => cases hn; exact xt_aaload X hd hT hl hk hI hE h hbud k
  case iastore => cases hn; exact xt_iastore X hd hT hl hk hI hE h hbud k
  case lastore => cases hn; exact xt_lastore X hd hT hl hk hI hE h hbud k
  case castore => cases hn; exact xt_castore X hd hT hl hk hI hE h hbud k
  case dastore => cases hn; exact xt_dastore X hd hT hl hk hI hE h hbud k
  case aastore => cases hn; exact xt_aastore X hd hT hl hk hI hE h hbud k
  case arraylength => cases hn; exact xt_arraylength X hd hT hl hk hI hE h hbud k
  case newarray => cases hn; exact xt_newarray X hd hT hl hk hI hE h hbud k
  case anewarray => cases hn; exact xt_anewarray X hd hT hl hk hI hE h hbud k
  case new => cases hn; exact xt_new X hd hT hl hk hI hE h hbud k
  case checkcast => cases hn; exact xt_checkcast X hd hT hl hk hI hE h hbud k
  case ldc => cases hn; exact xt_ldc X hd hT hl hk hI hE h hbud k
  case ldc_w => cases hn; exact xt_ldc_w X hd hT hl hk hI hE h hbud k
  case ldc2_w => cases hn; exact xt_ldc2_w X hd hT hl hk hI hE h hbud k
  case getstatic => cases hn; exact xt_getstatic X hd hT hl hk hI hE h hbud k
  all_goals (cases h; done)
/-- one instruction that stays in its method is the machine's own -/
theorem xs_ok {l l2 : xL} {st st2 : List xV} {A A2 : xA} {nL pc2 n : Nat} {ops : List Nat} {i : Instr} (X : xCx p s m args meth c D cl TS own nm cc) (hml : c.maxLocals = nL) (hd : decode cc pc = .ok (i, n)) (hn : xdok i n) (hT : xT TS cl own nm i ops) (hT2 : xTc P TS cl own i ops) (hR : 1 ≤ R.frames ∧ 40 ≤ R.locals) (hl : lv_has ls nL (xlm ad l)) (hk : xok (xlv A.2.2.2) l st) (hI : xI s D cl B ad A.2.2.2 H locs) (hE : xE s B ad A.2.2.2) (h : xs nL i ops pc l st A = some (pc2, l2, st2, A2)) (hbud : cells + A2.2.1 ≤ R.cells + A.2.1 ∧ slots + A2.2.2.1 ≤ R.slots + A.2.2.1)
    (k : xCont p l0 e R s m args below meth c D cl B ad A A2 l2 st2 nL pc2 cells slots Q) : W p l0 e R s m args below meth c H locs cells slots Q (F0 m pc ls (st.map (xc ad))) := by
  obtain ⟨hx, hb, hown, hts, hnm, hK, hcl⟩ := id X
  unfold xs at h
  split at h
  next z hz =>
    cases h
    have hn1 := xs1_len hz hn
    subst hn1
    exact xs1_ok (Lv := xlv A.2.2.2) (fun _ => trivial) hx hb hd hl hk hz (fun ls2 hl2 hk2 => k.same hl2 hk2 hI)
  next =>
    split at h
    next z hz =>
      cases h
      exact xs2_ok X hd hn hT hl hk hI hE hz hbud k
    next =>
      split at h
      next q r =>
        split at h
        next hsum =>
          cases h
          cases hn
          obtain ⟨g1, g2, g3⟩ := hT2
          refine W.objInit hx hb hown (hts _ g1) (hts _ g2) (hts _ g3) rfl (by rw [hml]; exact hl.1) rfl hd hR.1 ?_ ?_
          · have h8 : ((st2.map (xc ad)).map fun v => v.category).sum ≤ 8 := by
              rw [List.map_map]
              rw [show ((fun v : Value => v.category) ∘ xc ad) = xcat from funext fun v => xc_cat ad v]
              exact hsum
            exact Nat.le_trans (Nat.add_le_add_right (lv_room h8) 12) (by omega)
          · exact k.same hl (xok_tl hk) hI
        next => cases h
      next => cases h
end XSTEP
end
section
set_option maxRecDepth 20000
section XMAIN
/-- .. of a place that throws a new exception with a text -/
def xthr (P : xPr) (TS : List Cond) (SL : xSL) (mid pc : Nat) (E : String) : Prop := ∃ (ik is ic ix k9 : Nat) (rx : ByteArray) (text : String) (names : List String),
  decode (P.2.1 mid).2.1 pc = .ok (.new ik, 3) ∧ decode (P.2.1 mid).2.1 (pc + 3) = .ok (.dup, 1) ∧ ((decode (P.2.1 mid).2.1 (pc + 4) = .ok (.ldc is, 2) ∧ decode (P.2.1 mid).2.1 (pc + 6) = .ok (.invokespecial ic, 3) ∧ k9 = 9) ∨ decode (P.2.1 mid).2.1 (pc + 4) = .ok (.ldc_w is, 3) ∧ decode (P.2.1 mid).2.1 (pc + 7) = .ok (.invokespecial ic, 3) ∧ k9 = 10) ∧ decode (P.2.1 mid).2.1 (pc + k9) = .ok (.athrow, 1) ∧
  (decode rx 0 = .ok (.aload_n 0, 1) ∧ decode rx 1 = .ok (.aload_n 1, 1) ∧ decode rx 2 = .ok (.invokespecial ix, 3) ∧ decode rx 5 = .ok (.return_, 1)) ∧
  Bundle.fit E = true ∧ (∀ n ∈ names, Bundle.fit n = true) ∧ Cond.classLink (P.2.1 mid).1.cls ik E ∈ TS ∧ Cond.initialized E ∈ TS ∧ ((P.2.1 mid).1.cls, is, text) ∈ SL.1 ∧ (∀ w ∈ xx_at (P.2.1 mid).1.cls ic E ix rx names, w ∈ TS) ∧
  (∀ w ∈ Cond.classLink (P.2.1 mid).1.cls ik E :: Cond.initialized E :: xx_at (P.2.1 mid).1.cls ic E ix rx names, vx_ot w = true) ∧ names.length ≤ 4 ∧ (P.2.1 mid).2.2.2.2 = []
/-- .. of a place at which an exception is caught: the handler begins by storing it -/
def xhdl (P : xPr) (TS : List Cond) (SL : xSL) (mid pc : Nat) (E : String) (hpc ln k : Nat) : Prop := ∃ (pre suf : List ExceptionTableEntry) (x : ExceptionTableEntry) (name : String), tableOf (P.2.1 mid).2.2.2.2 = pre ++ x :: suf ∧
  (∀ z ∈ pre, covers z pc = false ∨ (z.catchType ≠ 0 ∧ ∃ nm : String, Cond.classLink (P.2.1 mid).1.cls z.catchType nm ∈ TS ∧ (E, nm) ∈ SL.2)) ∧ covers x pc = true ∧ x.catchType ≠ 0 ∧ Cond.classLink (P.2.1 mid).1.cls x.catchType name ∈ TS ∧ Cond.castable E name ∈ TS ∧ x.handlerPc = hpc ∧
  k < (P.2.1 mid).2.2.1 ∧ ((∃ f : Fin 4, f.val = k ∧ ln = 1 ∧ decode (P.2.1 mid).2.1 hpc = .ok (.astore_n f, 1)) ∨ ln = 2 ∧ decode (P.2.1 mid).2.1 hpc = .ok (.astore k, 2))
/-- THE TABLES OF A PROGRAM -/
def xG (P : xPr) (cl : List vw_C) (TS : List Cond) (SL : xSL) : Prop :=
  (∀ w ∈ TS, xkp w = true) ∧ (∀ (ci : Nat) (r : vw_C), cl[ci]? = some r → xcls TS r) ∧
  (∀ mid pc i ops, P.1 mid pc = some (i, ops) → (∃ n, decode (P.2.1 mid).2.1 pc = .ok (i, n) ∧ xdok i n) ∧ xT TS cl (P.2.1 mid).1.cls (P.2.1 mid).1.name i ops ∧ xTc P TS cl (P.2.1 mid).1.cls i ops) ∧
  (∀ mid pc E, P.2.2.1 mid pc = some E → xthr P TS SL mid pc E) ∧ (∀ mid pc E hpc ln k, P.2.2.2 mid pc E = some (hpc, ln, k) → xhdl P TS SL mid pc E hpc ln k)
/-- how a frame's run may end -/
def xFin (p : Program) (l0 : Launch) (e : Env) (R : Room) (s : State) (m : MethodId) (args : Array Value) (below : List Frame) (meth : Method) (c : Code) (D : va_G) (cl : List vw_C) (B : Nat) (P : xPr) (d mid : Nat) (Q : State → Prop) (ad : xN) (A : xA) (res : xR) (A2 : xA) : Prop :=
  (∀ (pc2 : Nat) (i : Instr) (ops : List Nat) (v : Option xV) (ad2 : xN) (H2 : Heap) (locs2 : List Loc) (ls2 : Array Slot) (l2 : xL) (st2 : List xV) (cells2 slots2 : Nat), P.1 mid pc2 = some (i, ops) → xret (P.2.1 mid).2.2.2.1 i st2 = some v → res = .inl v → xAg ad ad2 A.2.2.2 A2.2.2.2 → xI s D cl B ad2 A2.2.2.2 H2 locs2 → lv_has ls2 (P.2.1 mid).2.2.1 (xlm ad2 l2) → xok (xlv A2.2.2.2) l2 st2 → cells2 ≤ R.cells ∧ slots2 ≤ R.slots → W p l0 e R s m args below meth c H2 locs2 cells2 slots2 Q (F0 m pc2 ls2 (st2.map (xc ad2)))) ∧
  (∀ (pc2 : Nat) (E : String) (ad2 : xN) (H2 : Heap) (locs2 : List Loc) (ls2 : Array Slot) (l2 : xL) (st2 : List xV) (cells2 slots2 : Nat), P.2.2.1 mid pc2 = some E → res = .inr E → xAg ad ad2 A.2.2.2 A2.2.2.2 → xI s D cl B ad2 A2.2.2.2 H2 locs2 → lv_has ls2 (P.2.1 mid).2.2.1 (xlm ad2 l2) → xok (xlv A2.2.2.2) l2 st2 → cells2 + 1 ≤ R.cells ∧ slots2 + 6 ≤ R.slots → 8 ≤ d → (st2.map xcat).sum ≤ 8 → W p l0 e R s m args below meth c H2 locs2 cells2 slots2 Q (F0 m pc2 ls2 (st2.map (xc ad2)))) ∧
  (∀ (pc2 : Nat) (E : String) (ce : Cell) (q9 : Addr) (ad2 : xN) (H2 : Heap) (locs2 : List Loc) (ls2 : Array Slot) (rest : List Value) (cells2 slots2 : Nat), res = .inr E → (P.2.1 mid).2.2.2.2 = [] → xAg ad ad2 A.2.2.2 A2.2.2.2 → xI s D cl B ad2 A2.2.2.2 H2 locs2 → H2[q9]? = some ce → ce.vm = .none → s.vm.findClass E = some ce.cls → cells2 ≤ R.cells ∧ slots2 ≤ R.slots → vx_W p l0 e R s m args below meth c H2 locs2 cells2 slots2 Q (F0 m pc2 ls2 rest) q9)
theorem xFin.go {p : Program} {l0 : Launch} {e : Env} {R : Room} {s : State} {m : MethodId} {args : Array Value} {below : List Frame} {meth : Method} {c : Code} {D : va_G} {cl : List vw_C} {B : Nat} {P : xPr} {d mid : Nat} {Q : State → Prop} {ad ad1 : xN} {A A1 : xA} {res : xR} {A2 : xA} (h : xFin p l0 e R s m args below meth c D cl B P d mid Q ad A res A2) (g : xAg ad ad1 A.2.2.2 A1.2.2.2) : xFin p l0 e R s m args below meth c D cl B P d mid Q ad1 A1 res A2 :=
  ⟨fun pc2 i ops v ad2 H2 locs2 ls2 l2 st2 cells2 slots2 a1 a2 a3 a4 => h.1 pc2 i ops v ad2 H2 locs2 ls2 l2 st2 cells2 slots2 a1 a2 a3 (g.tr a4),
   fun pc2 E ad2 H2 locs2 ls2 l2 st2 cells2 slots2 a1 a2 a3 => h.2.1 pc2 E ad2 H2 locs2 ls2 l2 st2 cells2 slots2 a1 a2 (g.tr a3),
   fun pc2 E ce q9 ad2 H2 locs2 ls2 rest cells2 slots2 a1 a2 a3 => h.2.2 pc2 E ce q9 ad2 H2 locs2 ls2 rest cells2 slots2 a1 a2 (g.tr a3)⟩
/-- a stretch of a frame's run: from any machine that holds it, the machine comes to the frame's end -/
def xSim (l0 : Launch) (P : xPr) (cl : List vw_C) (TS : List Cond) (SL : xSL) (d mid pc : Nat) (l : xL) (st : List xV) (A : xA) (res : xR) (A2 : xA) : Prop :=
  (A.2.1 ≤ A2.2.1 ∧ A.2.2.1 ≤ A2.2.2.1) ∧ ∀ (p : Program) (e : Env) (R : Room) (s : State) (m : MethodId) (args : Array Value) (below : List Frame) (meth : Method) (c : Code) (H : Heap) (locs : List Loc) (cells slots : Nat) (Q : State → Prop) (ls : Array Slot) (ad : xN) (D : va_G) (B : Nat),
    xCx p s m args meth c D cl TS (P.2.1 mid).1.cls (P.2.1 mid).1.name (P.2.1 mid).2.1 → c.maxLocals = (P.2.1 mid).2.2.1 → c.exceptionTable.toList = tableOf (P.2.1 mid).2.2.2.2 → lv_has ls (P.2.1 mid).2.2.1 (xlm ad l) → xok (xlv A.2.2.2) l st → xI s D cl B ad A.2.2.2 H locs → xE s B ad A.2.2.2 → xZ s B SL → (d + 1 ≤ R.frames ∧ 40 * (d + 1) ≤ R.locals) → (cells + A2.2.1 ≤ R.cells + A.2.1 ∧ slots + A2.2.2.1 ≤ R.slots + A.2.2.1) →
    xFin p l0 e R s m args below meth c D cl B P d mid Q ad A res A2 → W p l0 e R s m args below meth c H locs cells slots Q (F0 m pc ls (st.map (xc ad)))
theorem xar_lm (ad : xN) : ∀ (vs : List xV) (i : Nat), xlm ad (xar i vs) = lv_args i (vs.map (xc ad))
  | [], _ => rfl
  | v :: vs, i => by
    show (i, xc ad v) :: xlm ad (xar _ vs) = (i, xc ad v) :: lv_args _ (vs.map (xc ad))
    rw [xar_lm ad vs, xc_cat]
theorem xar_ok {Lv : xV → Prop} : ∀ (vs : List xV) (i : Nat), (∀ v ∈ vs, Lv v) → ∀ q ∈ xar i vs, Lv q.2
  | [], _, _ => fun _ h => by cases h
  | v :: vs, i, h => by
    intro q hq
    rcases List.mem_cons.mp hq with rfl | hq
    · exact h v List.mem_cons_self
    · exact xar_ok vs _ (fun u hu => h u (List.mem_cons_of_mem _ hu)) q hq
theorem xsl_len (ad : xN) : ∀ vs : List xV, (lg_sl (vs.map (xc ad))).length = (vs.map xcat).sum
  | [] => rfl
  | v :: vs => by
    have ih := xsl_len ad vs
    have h1 : lg_sl ((v :: vs).map (xc ad)) = (if (xc ad v).category = 2 then [Slot.val (xc ad v), .second] else [.val (xc ad v)]) ++ lg_sl (vs.map (xc ad)) := by
      simp [lg_sl]
    rw [h1, List.length_append, ih, List.map_cons, List.sum_cons, ← xc_cat ad v]
    rcases lv_cat (xc ad v) with h | h <;> simp [h]
theorem xsum_c (ad : xN) (vs : List xV) : ((vs.map (xc ad)).map fun v => v.category).sum = (vs.map xcat).sum := by
  rw [List.map_map, show ((fun v : Value => v.category) ∘ xc ad) = xcat from funext fun v => xc_cat ad v]
end XMAIN
end
section
set_option maxRecDepth 20000
section XMETOF
variable {p : Program} {l0 : Launch} {e : Env} {R : Room} {s : State} {m : MethodId} {args : Array Value} {below : List Frame} {meth : Method} {c : Code} {H : Heap} {locs : List Loc} {cells slots : Nat} {Q : State → Prop}
variable {cc : ByteArray} {pc : Nat} {ls : Array Slot} {ad : xN} {D : va_G} {cl : List vw_C} {TS : List Cond} {own nm : String} {B : Nat} {SL : xSL} {P : xPr}
theorem xRep.ext {h : xH} {H1 : Heap} (hR : xRep s D cl B ad h H) (hk : ∀ q, q < H.size → H1[q]? = H[q]?) : xRep s D cl B ad h H1 :=
  ⟨fun q o hq => (hR.1 q o hq).kept (hk _ (hR.1 q o hq).lt), hR.2⟩
/-- the end of a method by a return instruction -/
theorem xend {A A2 : xA} {res : xR} {i : Instr} {n : Nat} {rt : Option FieldType} {st2 : List xV} {v : Option xV} {ad2 : xN} (hx : p.tables.exec = Jvm.exec) (hb : c.code = cc) (hr : meth.sig.returnType = rt) (hlocks : meth.locks = false) (hd : decode cc pc = .ok (i, n)) (hn : xdok i n) (hv : xret rt i st2 = some v) (hres : res = .inl v) (hg : xAg ad ad2 A.2.2.2 A2.2.2.2) (hI : xI s D cl B ad2 A2.2.2.2 H locs) (hlv : ∀ u ∈ st2, xlv A2.2.2.2 u) :
    W p l0 e R s m args below meth c H locs cells slots (MQ below (xQc cl D B ad A A2 res) args s cells slots (fun q => B ≤ q)) (F0 m pc ls (st2.map (xc ad2))) := by
  have post : ∀ t : State, t.heap = H → s.WarmedH t.vm → (∀ x, v = some x → xlv A2.2.2.2 x) → xQc cl D B ad A A2 res args s (.returned (v.map (xc ad2))) t := fun t ht hW h3 =>
    ⟨⟨v, ad2, hres, rfl, hg, by rw [ht]; exact hI.1.moved hW.alike, h3⟩, hI.2.1.F ht⟩
  have hf : ∀ q ∈ locs, B ≤ q.base := hI.2.1.2.2
  unfold xret at hv
  split at hv
  next =>
    cases hn
    split at hv
    next x =>
      split at hv
      next =>
        cases hv
        exact W.iret hx hb hr (fun t ht hW => post t ht hW (fun y hy => by cases hy; trivial)) hf hd hlocks
      next =>
        split at hv
        next h01 =>
          cases hv
          refine W.zret hx hb hr (by rcases h01 with rfl | rfl <;> rfl) (fun t ht hW => post t ht hW (fun y hy => by cases hy; trivial)) hf hd hlocks
        next => cases hv
      next => cases hv
    next => cases hv
  next =>
    cases hn
    split at hv
    next x =>
      split at hv
      next hty =>
        cases hv
        exact W.lret hx hb (hr.trans hty) (fun t ht hW => post t ht hW (fun y hy => by cases hy; trivial)) hf hd hlocks
      next => cases hv
    next => cases hv
  next =>
    cases hn
    split at hv
    next x =>
      split at hv
      next hty =>
        cases hv
        exact W.fret hx hb (hr.trans hty) (fun t ht hW => post t ht hW (fun y hy => by cases hy; trivial)) hf hd hlocks
      next => cases hv
    next => cases hv
  next =>
    cases hn
    split at hv
    next x =>
      split at hv
      next hty =>
        cases hv
        exact W.dret hx hb (hr.trans hty) (fun t ht hW => post t ht hW (fun y hy => by cases hy; trivial)) hf hd hlocks
      next => cases hv
    next => cases hv
  next =>
    cases hn
    split at hv
    next C =>
      split at hv
      next =>
        cases hv
        exact W.aret hx hb hr (Or.inl ⟨_, rfl⟩) (Or.inl rfl) (fun t ht hW => post t ht hW (fun y hy => by cases hy; trivial)) hf hd hlocks
      next q =>
        cases hv
        exact W.aret hx hb hr (Or.inl ⟨_, rfl⟩) (Or.inr ⟨_, rfl⟩) (fun t ht hW => post t ht hW (fun y hy => by cases hy; exact hlv _ List.mem_cons_self)) hf hd hlocks
      next => cases hv
    next C =>
      split at hv
      next =>
        cases hv
        exact W.aret hx hb hr (Or.inr ⟨_, rfl⟩) (Or.inl rfl) (fun t ht hW => post t ht hW (fun y hy => by cases hy; trivial)) hf hd hlocks
      next q =>
        cases hv
        exact W.aret hx hb hr (Or.inr ⟨_, rfl⟩) (Or.inr ⟨_, rfl⟩) (fun t ht hW => post t ht hW (fun y hy => by cases hy; exact hlv _ List.mem_cons_self)) hf hd hlocks
      next => cases hv
    next => cases hv
  next =>
    cases hn
    split at hv
    next =>
      split at hv
      next =>
        cases hv
        exact W.vret hx hb hr (fun t ht hW => post t ht hW (fun y hy => by cases hy)) hf hd hlocks
      next => cases hv
    next => cases hv
  next => cases hv
set_option maxHeartbeats 4000000 in
/-- a run of a method from its entry is a contract of it -/
theorem xMet_of (G : xG P cl TS SL) (hflag : l0.stackTraces = false) {d mid n : Nat} {as : List xV} {A A2 : xA} {res : xR} (hmf : xMF P TS mid n) (hw : (as.map xcat).sum ≤ (P.2.1 mid).2.2.1) (h : xSim l0 P cl TS SL d mid 0 (xar 0 as) [] A res A2) : xMet l0 P cl TS SL d mid as A res A2 := by
  refine ⟨h.1, fun D B ad hlv => ?_⟩
  obtain ⟨hm1, hm2⟩ := h.1
  have body : ∀ (p : Program) (e : Env) (s : State) (m : MethodId) (args : Array Value) (below : List Frame) (meth : Method) (c : Code) (s₁ : State), BodyLoose p l0 (P.2.1 mid).1 (headSpec (xcw (P.2.1 mid) :: TS) (xRm d (A2.2.1 - A.2.1) (A2.2.2.1 - A.2.2.1))) (P.2.1 mid).2.1 (P.2.1 mid).2.2.1 (P.2.1 mid).2.2.2.1 e s m args below meth c s₁ → c.maxLocals = (P.2.1 mid).2.2.1 → c.exceptionTable.toList = tableOf (P.2.1 mid).2.2.2.2 → xPc cl SL D B ad A as args s →
      W p l0 e (xRm d (A2.2.1 - A.2.1) (A2.2.2.1 - A.2.2.1)) s m args below meth c s.heap [] 0 0 (vx_MQ below (xQc cl D B ad A A2 res) (xXc cl D B ad A A2 res) args s (A2.2.1 - A.2.1) (A2.2.2.1 - A.2.2.1) (fun q => B ≤ q)) (entryFrame m args (P.2.1 mid).2.2.1) := by
    intro p e s m args below meth c s₁ BB hml htab hv
    obtain ⟨rfl, hrep, hB, hK, hE, hZ⟩ := hv
    have hts := atoms_spec (ws := xcw (P.2.1 mid) :: TS) BB.pre
    have hlocks := BB.notSynchronized
    have X : xCx p s m (as.map (xc ad)).toArray meth c D cl TS (P.2.1 mid).1.cls (P.2.1 mid).1.name (P.2.1 mid).2.1 := ⟨BB.exec, BB.bytes, findClass_of_methodNamed BB.named, fun w hw => hts w (List.mem_cons_of_mem _ hw), (name_of_methodNamed BB.named BB.method).1, hK, G.2.1⟩
    obtain ⟨hx, hb, hown, hts2, -⟩ := id X
    have hl := lv_entry (as.map (xc ad)) (n := (P.2.1 mid).2.2.1) (by rw [xsl_len]; exact hw)
    rw [lg_entry_eq]
    generalize (lg_sl (as.map (xc ad)) ++ List.replicate ((P.2.1 mid).2.2.1 - (lg_sl (as.map (xc ad))).length) Slot.unset).toArray = ls at hl ⊢
    have hl : lv_has ls (P.2.1 mid).2.2.1 (xlm ad (xar 0 as)) := by rw [xar_lm]; exact hl
    refine h.2 p e _ s m _ below meth c s.heap [] 0 0 _ ls ad D B X hml htab hl ⟨xar_ok as 0 hlv, fun _ h => by cases h⟩ ⟨hrep, va_S.rf, hB⟩ hE hZ ⟨Nat.le_refl _, Nat.le_refl _⟩ ⟨?_, ?_⟩ ⟨?_, ?_, ?_⟩
    · show 0 + A2.2.1 ≤ (A2.2.1 - A.2.1) + A.2.1
      omega
    · show 0 + A2.2.2.1 ≤ (A2.2.2.1 - A.2.2.1) + A.2.2.1
      omega
    · intro pc2 i ops v ad2 H2 locs2 ls2 l2 st2 cells2 slots2 hP hv hres hg hI hl2 hk2 hbd
      obtain ⟨⟨n1, hd, hn⟩, -⟩ := G.2.2.1 mid pc2 i ops hP
      exact W.widen hbd.1 hbd.2 (vx_ret (xend hx hb BB.returns hlocks hd hn hv hres hg hI hk2.2))
    · intro pc2 E ad2 H2 locs2 ls2 l2 st2 cells2 slots2 hP hres hg hI hl2 hk2 hbd hd8 hsum
      obtain ⟨ik, is, ic, ix, k9, rx, text, names, d0, d3, dd, d9, ⟨x0, x1, x2, x5⟩, hfit, hfits, hcl1, hini, hstr, hat, hgood, hnl, hhh⟩ := G.2.2.2.1 mid pc2 E hP
      obtain ⟨sa, hsa⟩ := hZ.2.2.1 _ hstr
      have hfr : names.length + 3 < d + 1 := by omega
      have hlo : ((st2.map (xc ad2)).map fun v => v.category).sum + (13 * (names.length + 1) + 43) ≤ 40 * (d + 1) := by rw [xsum_c]; omega
      have hout : ∀ (k : Nat), ∀ x ∈ c.exceptionTable.toList, covers x k = false := by
        intro k x hx2
        rw [htab, hhh] at hx2
        cases hx2
      refine xx_makeS hx hb hflag x0 x1 x2 x5 hown hfit hfits (hts2 _ hcl1) (hts2 _ hini) hsa (fun w hw => hts2 _ (hat w hw)) hgood hZ.1 hZ.2.1 hI.2.1 (hl2.1.trans hml.symm) d0 d3 dd hfr hlo hbd.1 hbd.2 (fun q ce H1 hce hvm hcl2 hsz hk => ?_)
      refine vx_athrow hx hb d9 (vx_out (hout _) hlocks hce hvm hcl2 (fun t ht hal => ?_) hI.2.1.2.2 hbd.1 hbd.2)
      refine ⟨hres, ⟨ad2, hg, by rw [ht]; exact (hI.1.ext hk).moved hal⟩, by rw [ht]; exact Nat.le_trans hI.2.1.1 hsz, fun q h1 h2 => ?_⟩
      rw [ht, hk q (Nat.lt_of_lt_of_le h1 hI.2.1.1)]
      exact hI.2.1.2.1 q h1 h2
    · intro pc2 E ce q9 ad2 H2 locs2 ls2 rest cells2 slots2 hres hhh hg hI hcell hvm hcls hbd
      refine vx_out ?_ hlocks hcell hvm hcls ?_ hI.2.1.2.2 hbd.1 hbd.2
      · intro x hx2
        rw [htab, hhh] at hx2
        cases hx2
      · intro t ht hal
        exact ⟨hres, ⟨ad2, hg, by rw [ht]; exact hI.1.moved hal⟩, hI.2.1.F ht⟩
  by_cases hhh : (P.2.1 mid).2.2.2.2 = []
  · refine vx_ofW (cc := (P.2.1 mid).2.1) (maxL := (P.2.1 mid).2.2.1) (ret := (P.2.1 mid).2.2.2.1) hmf.1 (by rw [xcw_nil hhh]) ?_
    intro p e s m args below meth c s₁ BB hml htab hv
    refine body p e s m args below meth c s₁ BB hml ?_ hv
    rw [hhh]
    exact List.eq_nil_iff_forall_not_mem.mpr htab
  · refine vx_ofWH (cc := (P.2.1 mid).2.1) (maxL := (P.2.1 mid).2.2.1) (ret := (P.2.1 mid).2.2.2.1) (hh := (P.2.1 mid).2.2.2.2) hmf.1 (by rw [xcw_with hhh]) ?_
    intro p e s m args below meth c s₁ BB hml hv
    have hts := atoms_spec (ws := xcw (P.2.1 mid) :: TS) BB.pre
    exact body p e s m args below meth c s₁ BB hml (vx_table (x := (P.2.1 mid).1) BB (by rw [← xcw_with hhh]; exact hts _ List.mem_cons_self)) hv
end XMETOF
end
section
set_option maxRecDepth 20000
section XSOUND
variable {l0 : Launch} {cl : List vw_C} {TS : List Cond} {SL : xSL} {P : xPr}
theorem xdrop {st rest : List xV} {n : Nat} {v : xV} (h : st.drop n = v :: rest) : st = ((st.take n).reverse).reverse ++ v :: rest ∧ ((st.take n).reverse).length = n := by
  have h1 : n ≤ st.length := by
    rcases Nat.le_total n st.length with q | q
    · exact q
    · rw [List.drop_of_length_le q] at h
      cases h
  refine ⟨?_, ?_⟩
  · rw [List.reverse_reverse, ← h, List.take_append_drop]
  · rw [List.length_reverse, List.length_take]
    omega
/-- what a call finds -/
theorem xinv_ok {i : Instr} {ops : List Nat} {st : List xV} {h : xH} {mid2 : Nat} {as rest : List xV} (e : xinv i ops st h = some (mid2, as, rest)) :
    (∃ (idx n : Nat) (tb : List Nat) (q : Nat × Nat) (ci : Nat) (fs as2 : List xV), i = .invokevirtual idx ∧ ops = n :: tb ∧ as = .inr q :: as2 ∧ as2.length = n ∧ st = as2.reverse ++ .inr q :: rest ∧ h q = some (.inl (ci, fs)) ∧ xpick ci tb = some mid2) ∨
    (∃ (idx n : Nat) (q : Nat × Nat) (as2 : List xV), i = .invokespecial idx ∧ ops = [n, mid2] ∧ as = .inr q :: as2 ∧ as2.length = n ∧ st = as2.reverse ++ .inr q :: rest) ∨
    ∃ (idx n : Nat), i = .invokestatic idx ∧ ops = [n, mid2] ∧ as.length = n ∧ st = as.reverse ++ rest := by
  unfold xinv at e
  split at e
  next idx =>
    split at e
    next n tb =>
      split at e
      next q r2 hd =>
        split at e
        next ci fs hq =>
          split at e
          next mid3 hp =>
            cases e
            obtain ⟨h1, h2⟩ := xdrop hd
            exact Or.inl ⟨idx, n, tb, q, ci, fs, _, rfl, rfl, rfl, h2, h1, hq, hp⟩
          next => cases e
        next => cases e
      next => cases e
    next => cases e
  next idx =>
    split at e
    next n mid3 =>
      split at e
      next q r2 hd =>
        cases e
        obtain ⟨h1, h2⟩ := xdrop hd
        exact Or.inr (Or.inl ⟨idx, n, q, _, rfl, rfl, rfl, h2, h1⟩)
      next => cases e
    next => cases e
  next idx =>
    split at e
    next n mid3 =>
      split at e
      next hle =>
        cases e
        refine Or.inr (Or.inr ⟨idx, n, rfl, rfl, ?_, ?_⟩)
        · rw [List.length_reverse, List.length_take]
          omega
        · rw [List.reverse_reverse, List.take_append_drop]
      next => cases e
    next => cases e
  next => cases e
set_option maxHeartbeats 8000000 in
/-- THE SMALL MACHINE IS THE MACHINE'S OWN: what it comes to, the machine comes to -/
theorem xrun_ok (G : xG P cl TS SL) (hflag : l0.stackTraces = false) {ct : Nat → Nat → List xV → xA → Option (xR × xA)} (hct : ∀ (d mid : Nat) (as : List xV) (A : xA) (res : xR) (A2 : xA), ct d mid as A = some (res, A2) → xMet l0 P cl TS SL d mid as A res A2) :
    ∀ (n d mid pc : Nat) (l : xL) (st : List xV) (A : xA) (res : xR) (A2 : xA), xrun P ct n d mid pc l st A = some (res, A2) → xSim l0 P cl TS SL d mid pc l st A res A2 := by
  intro n
  induction n with
  | zero =>
    intro d mid pc l st A res A2 h
    cases h
  | succ n ih =>
    intro d mid pc l st A res A2 h
    unfold xrun at h
    split at h
    next => cases h
    next i ops hP =>
      obtain ⟨⟨n1, hd, hn⟩, hT, hTc⟩ := G.2.2.1 mid pc i ops hP
      split at h
      next v hv =>
        cases h
        refine ⟨⟨Nat.le_refl _, Nat.le_refl _⟩, ?_⟩
        intro p e R s m args below meth c H locs cells slots Q ls ad D B X hml htab hl hk hI hE hZ hR hbud hfin
        exact hfin.1 pc i ops v ad H locs ls l st cells slots hP hv rfl xAg.rf hI hl hk ⟨by omega, by omega⟩
      next hv =>
        split at h
        next E hE9 =>
          split at h
          next hg =>
            cases h
            refine ⟨⟨Nat.le_succ _, Nat.le_add_right _ _⟩, ?_⟩
            intro p e R s m args below meth c H locs cells slots Q ls ad D B X hml htab hl hk hI hE hZ hR hbud hfin
            refine hfin.2.1 pc E ad H locs ls l st cells slots hE9 rfl xAg.rf hI hl hk ⟨?_, ?_⟩ hg.1 hg.2
            · have := hbud.1
              dsimp only at this
              omega
            · have := hbud.2
              dsimp only at this
              omega
          next => cases h
        next =>
          split at h
          next z hz =>
            obtain ⟨pc3, l3, st3, A3⟩ := z
            have hs := ih _ _ _ _ _ _ _ _ h
            have hmo := xs_mono hz
            obtain ⟨hs1, hs2⟩ := hs
            dsimp only at hmo hs1 hs2 hz
            refine ⟨⟨Nat.le_trans hmo.1 hs1.1, Nat.le_trans hmo.2 hs1.2⟩, ?_⟩
            intro p e R s m args below meth c H locs cells slots Q ls ad D B X hml htab hl hk hI hE hZ hR hbud hfin
            refine xs_ok (P := P) X hml hd hn hT hTc ⟨by omega, by omega⟩ hl hk hI hE hz ⟨by omega, by omega⟩ ?_
            intro ad2 H2 locs2 ls2 cells2 slots2 hg1 hg2 hI2 hl2 hk2 hc2 hs22
            have hg : xAg ad ad2 A.2.2.2 A3.2.2.2 := ⟨hg1, hg2⟩
            exact hs2 p e R s m args below meth c H2 locs2 cells2 slots2 Q ls2 ad2 D B X hml htab hl2 hk2 hI2 (hE.ag hg) hZ hR ⟨by omega, by omega⟩ (hfin.go hg)
          next hz =>
            split at h
            next mid2 as rest d2 hinv =>
              split at h
              next hw =>
                -- the callee
                have callee : ∀ (n2 : Nat), xMF P TS mid2 n2 → ∀ (r3 : xR) (A3 : xA), (match ct d2 mid2 as A with
                    | some z => some z
                    | none => xrun P ct n d2 mid2 0 (xar 0 as) [] A) = some (r3, A3) → xMet l0 P cl TS SL d2 mid2 as A r3 A3 := by
                  intro n2 hmf r3 A3 hm
                  split at hm
                  next z hc =>
                    cases hm
                    exact hct _ _ _ _ _ _ hc
                  next => exact xMet_of G hflag hmf hw.1 (ih _ _ _ _ _ _ _ _ hm)
                have calls : ∀ (r3 : xR) (A3 : xA), (match ct d2 mid2 as A with
                    | some z => some z
                    | none => xrun P ct n d2 mid2 0 (xar 0 as) [] A) = some (r3, A3) → (A.2.1 ≤ A3.2.1 ∧ A.2.2.1 ≤ A3.2.2.1) ∧ ∀ (p : Program) (e : Env) (R : Room) (s : State) (m : MethodId) (args : Array Value) (below : List Frame) (meth : Method) (c : Code) (H : Heap) (locs : List Loc) (cells slots : Nat) (ls : Array Slot) (ad : xN) (D : va_G) (B : Nat),
                      xCx p s m args meth c D cl TS (P.2.1 mid).1.cls (P.2.1 mid).1.name (P.2.1 mid).2.1 → c.maxLocals = ls.size → xok (xlv A.2.2.2) l st → xI s D cl B ad A.2.2.2 H locs → xE s B ad A.2.2.2 → xZ s B SL → (d2 + 2 ≤ R.frames ∧ 40 * (d2 + 2) ≤ R.locals) → (cells + (A3.2.1 - A.2.1) ≤ R.cells ∧ slots + (A3.2.2.1 - A.2.2.1) ≤ R.slots) →
                      ∃ a, vx_Run p l0 e R s m args below meth c H locs cells slots (A3.2.1 - A.2.1) (A3.2.2.1 - A.2.2.1) (F0 m pc ls (st.map (xc ad))) (rest.map (xc ad)) (xQc cl D B ad A A3 r3 a) (xXc cl D B ad A A3 r3) (fun q => B ≤ q) := by
                  intro r3 A3 hm
                  rcases xinv_ok hinv with ⟨idx, n2, tb, q, ci, fs, as2, rfl, rfl, rfl, hlen, rfl, hq, hpk⟩ | ⟨idx, n2, q, as2, rfl, rfl, rfl, hlen, rfl⟩ | ⟨idx, n2, rfl, rfl, hlen, rfl⟩
                  · have hs : xsV P TS cl (P.2.1 mid).1.cls idx n2 ci mid2 := hTc ci mid2 hpk
                    have hM := callee n2 hs.1 r3 A3 hm
                    refine ⟨hM.1, ?_⟩
                    intro p e R s m args below meth c H locs cells slots ls ad D B X hml hk hI hE hZ hR hf
                    cases hn
                    have hlv : ∀ v ∈ (.inr q :: as2 : List xV), xlv A.2.2.2 v := by
                      intro v hv
                      refine hk.2 v ?_
                      rcases List.mem_cons.mp hv with rfl | hv
                      · exact List.mem_append_right _ List.mem_cons_self
                      · exact List.mem_append_left _ (List.mem_reverse.mpr hv)
                    refine ⟨((.inr q :: as2 : List xV).map (xc ad)).toArray, ?_⟩
                    rw [List.map_append, List.map_reverse, List.map_cons]
                    exact xrunV X hml G.1 hM hs hq hlen hI hE hZ hlv hR (by rw [xsum_c]; exact hw.2) hd hf
                  · have hs : xsI P TS (P.2.1 mid).1.cls idx n2 mid2 := hTc
                    have hM := callee n2 hs.1 r3 A3 hm
                    refine ⟨hM.1, ?_⟩
                    intro p e R s m args below meth c H locs cells slots ls ad D B X hml hk hI hE hZ hR hf
                    cases hn
                    have hlv : ∀ v ∈ (.inr q :: as2 : List xV), xlv A.2.2.2 v := by
                      intro v hv
                      refine hk.2 v ?_
                      rcases List.mem_cons.mp hv with rfl | hv
                      · exact List.mem_append_right _ List.mem_cons_self
                      · exact List.mem_append_left _ (List.mem_reverse.mpr hv)
                    refine ⟨((.inr q :: as2 : List xV).map (xc ad)).toArray, ?_⟩
                    rw [List.map_append, List.map_reverse, List.map_cons]
                    exact xrunI X hml G.1 hM hs hlen hI hE hZ hlv hR (by rw [xsum_c]; exact hw.2) hd hf
                  · have hs : xsS P TS (P.2.1 mid).1.cls idx n2 mid2 := hTc
                    have hM := callee n2 hs.1 r3 A3 hm
                    refine ⟨hM.1, ?_⟩
                    intro p e R s m args below meth c H locs cells slots ls ad D B X hml hk hI hE hZ hR hf
                    cases hn
                    have hlv : ∀ v ∈ as, xlv A.2.2.2 v := fun v hv => hk.2 v (List.mem_append_left _ (List.mem_reverse.mpr hv))
                    refine ⟨(as.map (xc ad)).toArray, ?_⟩
                    rw [List.map_append, List.map_reverse]
                    exact xrunS X hml G.1 hM hs hlen hI hE hZ hlv hR (by rw [xsum_c]; exact hw.2) hd hf
                have hrest : ∀ v ∈ rest, v ∈ st := by
                  intro v hmem
                  rcases xinv_ok hinv with ⟨idx, n2, tb, q, ci, fs, as2, rfl, rfl, rfl, hlen, rfl, hq, hpk⟩ | ⟨idx, n2, q, as2, rfl, rfl, rfl, hlen, rfl⟩ | ⟨idx, n2, rfl, rfl, hlen, rfl⟩
                  · exact List.mem_append_right _ (List.mem_cons_of_mem _ hmem)
                  · exact List.mem_append_right _ (List.mem_cons_of_mem _ hmem)
                  · exact List.mem_append_right _ hmem
                split at h
                next v A3 hm =>
                  obtain ⟨hm1, hcalls⟩ := calls _ _ hm
                  have hs := ih _ _ _ _ _ _ _ _ h
                  obtain ⟨hs1, hs2⟩ := hs
                  refine ⟨⟨Nat.le_trans hm1.1 hs1.1, Nat.le_trans hm1.2 hs1.2⟩, ?_⟩
                  intro p e R s m args below meth c H locs cells slots Q ls ad D B X hml htab hl hk hI hE hZ hR hbud hfin
                  obtain ⟨a, hr⟩ := hcalls p e R s m args below meth c H locs cells slots ls ad D B X (hml.trans hl.1.symm) hk hI hE hZ hR ⟨by omega, by omega⟩
                  refine xgo hr hI (fun v2 ad2 H1 locs1 hres hg hI1 hlv1 => ?_) (fun E ce q9 ad2 H1 locs1 hres => by cases hres)
                  cases hres
                  have hst : (v.map (xc ad2)).toList ++ rest.map (xc ad) = (v.toList ++ rest).map (xc ad2) := by
                    rw [List.map_append, hg.st (fun u hu => hk.2 u (hrest u hu))]
                    cases v <;> rfl
                  rw [hst]
                  refine hs2 p e R s m args below meth c H1 locs1 _ _ Q ls ad2 D B X hml htab (by rw [hg.lm hk.1]; exact hl) ?_ hI1 (hE.ag hg) hZ hR ⟨by omega, by omega⟩ (hfin.go hg)
                  refine ⟨fun z hz => (hg.1 _ (hk.1 z hz)).1, fun u hu => ?_⟩
                  rcases List.mem_append.mp hu with hu | hu
                  · cases v with
                    | none => cases hu
                    | some y => exact hlv1 u (by rw [List.mem_singleton.mp hu])
                  · exact (hg.1 u (hk.2 u (hrest u hu))).1
                next E A3 hm =>
                  obtain ⟨hm1, hcalls⟩ := calls _ _ hm
                  split at h
                  next hpc ln k hh =>
                    have hs := ih _ _ _ _ _ _ _ _ h
                    obtain ⟨hs1, hs2⟩ := hs
                    refine ⟨⟨Nat.le_trans hm1.1 hs1.1, Nat.le_trans hm1.2 hs1.2⟩, ?_⟩
                    intro p e R s m args below meth c H locs cells slots Q ls ad D B X hml htab hl hk hI hE hZ hR hbud hfin
                    obtain ⟨a, hr⟩ := hcalls p e R s m args below meth c H locs cells slots ls ad D B X (hml.trans hl.1.symm) hk hI hE hZ hR ⟨by omega, by omega⟩
                    refine xgo hr hI (fun v2 ad2 H1 locs1 hres => by cases hres) (fun E2 ce q9 ad2 H1 locs1 hres hg hI1 hcell hvm hcls => ?_)
                    cases hres
                    obtain ⟨hx, hb, hown, hts, hnm, hK, hcl9⟩ := id X
                    obtain ⟨pre, suf, x, name, hsplit, hpass, hcov, hct0, hlk, hca, hpc9, hkL, hdec⟩ := G.2.2.2.2 mid pc E hpc ln k hh
                    refine vx_catch hown pre x suf (htab.trans hsplit) (fun z hz => ?_) hcov hct0 (hts _ hlk) (hts _ hca) hcell hvm hcls ?_
                    · rcases hpass z hz with h1 | ⟨h1, nm2, h2, h3⟩
                      · exact Or.inl h1
                      · exact Or.inr ⟨h1, nm2, hts _ h2, hZ.2.2.2 _ h3⟩
                    · rw [hpc9]
                      have hl1 : lv_has ls (P.2.1 mid).2.2.1 (xlm ad2 l) := by rw [hg.lm hk.1]; exact hl
                      have go : ∀ (ls2 : Array Slot) (lv2 : List (Nat × Value)), (k, Value.ref q9) :: (xlm ad2 l).filter (fun q => !(q.1 == k) && !(q.1 + 1 == k && q.2.category == 2)) = lv2 → lv_has ls2 (P.2.1 mid).2.2.1 lv2 → W p l0 e R s m args below meth c H1 locs1 (cells + (A3.2.1 - A.2.1)) (slots + (A3.2.2.1 - A.2.2.1)) Q (F0 m (hpc + ln) ls2 []) := by
                        intro ls2 lv2 e2 hl2
                        have hl3 : lv_has ls2 (P.2.1 mid).2.2.1 (xlm ad2 (xrm l k)) := by
                          refine ⟨hl2.1, hl2.2.1, fun q hq => hl2.2.2 q ?_⟩
                          rw [← e2]
                          refine List.mem_cons_of_mem _ ?_
                          obtain ⟨z, hz, rfl⟩ := List.mem_map.mp hq
                          obtain ⟨hz1, hz2⟩ := List.mem_filter.mp hz
                          refine List.mem_filter.mpr ⟨List.mem_map.mpr ⟨z, hz1, rfl⟩, ?_⟩
                          dsimp only
                          rw [xc_cat]
                          exact hz2
                        refine hs2 p e R s m args below meth c H1 locs1 _ _ Q ls2 ad2 D B X hml htab hl3 ⟨fun z hz => (hg.1 _ (hk.1 z (List.mem_filter.mp hz).1)).1, fun u hu => by cases hu⟩ hI1 (hE.ag hg) hZ hR ⟨by omega, by omega⟩ (hfin.go hg)
                      rcases hdec with ⟨f, hf, rfl, hdd⟩ | ⟨rfl, hdd⟩
                      · exact lv_astore_n hx hb hdd hf hl1 hkL rfl (fun ls2 hl2 => go ls2 _ rfl hl2)
                      · exact lv_astore hx hb hdd hl1 hkL rfl (fun ls2 hl2 => go ls2 _ rfl hl2)
                  next hh =>
                    split at h
                    next hnil =>
                      cases h
                      refine ⟨hm1, ?_⟩
                      intro p e R s m args below meth c H locs cells slots Q ls ad D B X hml htab hl hk hI hE hZ hR hbud hfin
                      obtain ⟨a, hr⟩ := hcalls p e R s m args below meth c H locs cells slots ls ad D B X (hml.trans hl.1.symm) hk hI hE hZ hR ⟨by omega, by omega⟩
                      refine xgo hr hI (fun v2 ad2 H1 locs1 hres => by cases hres) (fun E2 ce q9 ad2 H1 locs1 hres hg hI1 hcell hvm hcls => ?_)
                      exact hfin.2.2 pc E2 ce q9 ad2 H1 locs1 ls _ _ _ hres hnil hg hI1 hcell hvm hcls ⟨by omega, by omega⟩
                    next => cases h
                next => cases h
              next => cases h
            next => cases h
end XSOUND
end
section
set_option maxRecDepth 20000
section XTABS
/-- an instruction of a table: place, length, itself, operands -/
abbrev xEn : Type := Nat × Nat × Instr × List Nat
/-- a method of a table: itself, its instructions in pieces of 32 places, where it throws, where it catches -/
abbrev xEl : Type := xM × List (List xEn) × List (Nat × String) × List (Nat × String × Nat × Nat × Nat)
def xgt : List (List xEl) → Nat → Option xEl := fun LL k => match LL[k / 16]? with
  | some L => L[k % 16]?
  | none => none
def xfe : List xEn → Nat → Option (Instr × List Nat)
  | [], _ => none
  | e :: r, pc => match Nat.beq e.1 pc with
    | true => some e.2.2
    | false => xfe r pc
def xft : List (Nat × String) → Nat → Option String
  | [], _ => none
  | e :: r, pc => match Nat.beq e.1 pc with
    | true => some e.2
    | false => xft r pc
def xfh : List (Nat × String × Nat × Nat × Nat) → Nat → String → Option (Nat × Nat × Nat)
  | [], _, _ => none
  | e :: r, pc, E => match Nat.beq e.1 pc with
    | true => if e.2.1 = E then some e.2.2 else xfh r pc E
    | false => xfh r pc E
def xcode (T : List (List xEl)) (mid pc : Nat) : Option (Instr × List Nat) := match xgt T mid with
  | some el => match el.2.1[pc / 32]? with
    | some L => xfe L pc
    | none => none
  | none => none
def xM0 : xM := (⟨"", "", ""⟩, ⟨#[]⟩, 0, none, [])
def xMk (T : List (List xEl)) : xPr := (xcode T, fun mid => match xgt T mid with
  | some el => el.1
  | none => xM0, fun mid pc => match xgt T mid with
  | some el => xft el.2.2.1 pc
  | none => none, fun mid pc E => match xgt T mid with
  | some el => xfh el.2.2.2 pc E
  | none => none)
theorem xfe_mem {L : List xEn} {pc : Nat} {i : Instr} {ops : List Nat} (h : xfe L pc = some (i, ops)) : ∃ n, (pc, n, i, ops) ∈ L := by
  induction L with
  | nil => cases h
  | cons e r ih =>
    unfold xfe at h
    split at h
    next hb =>
      obtain ⟨a, n, j, o⟩ := e
      have ha : a = pc := Nat.eq_of_beq_eq_true hb
      subst ha
      cases h
      exact ⟨n, List.mem_cons_self⟩
    next =>
      obtain ⟨n, hn⟩ := ih h
      exact ⟨n, List.mem_cons_of_mem _ hn⟩
theorem xft_mem {L : List (Nat × String)} {pc : Nat} {E : String} (h : xft L pc = some E) : (pc, E) ∈ L := by
  induction L with
  | nil => cases h
  | cons e r ih =>
    unfold xft at h
    split at h
    next hb =>
      obtain ⟨a, n⟩ := e
      have ha : a = pc := Nat.eq_of_beq_eq_true hb
      subst ha
      cases h
      exact List.mem_cons_self
    next => exact List.mem_cons_of_mem _ (ih h)
theorem xfh_mem {L : List (Nat × String × Nat × Nat × Nat)} {pc : Nat} {E : String} {z : Nat × Nat × Nat} (h : xfh L pc E = some z) : (pc, E, z) ∈ L := by
  induction L with
  | nil => cases h
  | cons e r ih =>
    unfold xfh at h
    split at h
    next hb =>
      obtain ⟨a, n, y⟩ := e
      have ha : a = pc := Nat.eq_of_beq_eq_true hb
      subst ha
      split at h
      next hE =>
        dsimp only at hE
        subst hE
        cases h
        exact List.mem_cons_self
      next => exact List.mem_cons_of_mem _ (ih h)
    next => exact List.mem_cons_of_mem _ (ih h)
theorem xgt_mem {T : List (List xEl)} {k : Nat} {el : xEl} (h : xgt T k = some el) : ∃ L ∈ T, el ∈ L := by
  unfold xgt at h
  split at h
  next L hL => exact ⟨L, List.mem_of_getElem? hL, List.mem_of_getElem? h⟩
  next => cases h
/-- a program of one method: to say of a method what the tables say of a place -/
def xOne (m : xM) : xPr := (fun _ _ => none, fun _ => m, fun _ _ => none, fun _ _ _ => none)
def xdkb (i : Instr) (n : Nat) : Bool := match i with
  | .tableswitch _ _ _ _ => true
  | i => Nat.beq n (xln i)
theorem xdkb_ok {i : Instr} {n : Nat} (h : xdkb i n = true) : xdok i n := by
  unfold xdkb at h
  unfold xdok
  split at h
  next => trivial
  next hne =>
    split
    next => trivial
    next => exact Nat.eq_of_beq_eq_true h
/-- an instruction's decoding -/
def xdk (cc : ByteArray) (e : xEn) : Bool := decide (decode cc e.1 = .ok (e.2.2.1, e.2.1)) && xdkb e.2.2.1 e.2.1
/-- what the words say of an instruction -/
def xFo (P : xPr) (TS : List Cond) (cl : List vw_C) (m : xM) (e : xEn) : Prop := xT TS cl m.1.cls m.1.name e.2.2.1 e.2.2.2 ∧ xTc P TS cl m.1.cls e.2.2.1 e.2.2.2
/-- what must be shown of a method -/
def xFm (P : xPr) (TS : List Cond) (cl : List vw_C) (SL : xSL) (el : xEl) : Prop :=
  (∀ L ∈ el.2.1, L.all (xdk el.1.2.1) = true ∧ ∀ e ∈ L, xFo P TS cl el.1 e) ∧ (∀ t ∈ el.2.2.1, xthr (xOne el.1) TS SL 0 t.1 t.2) ∧ ∀ t ∈ el.2.2.2, xhdl (xOne el.1) TS SL 0 t.1 t.2.1 t.2.2.1 t.2.2.2.1 t.2.2.2.2
theorem xG_of {T : List (List xEl)} {cl : List vw_C} {TS : List Cond} {SL : xSL} (h1 : ∀ w ∈ TS, xkp w = true) (h2 : ∀ r ∈ cl, xcls TS r) (h3 : ∀ L ∈ T, ∀ el ∈ L, xFm (xMk T) TS cl SL el) : xG (xMk T) cl TS SL := by
  refine ⟨h1, fun ci r hr => h2 r (List.mem_of_getElem? hr), fun mid pc i ops h => ?_, fun mid pc E h => ?_, fun mid pc E hpc ln k h => ?_⟩
  · show (∃ n, decode ((xMk T).2.1 mid).2.1 pc = .ok (i, n) ∧ xdok i n) ∧ _
    have h : xcode T mid pc = some (i, ops) := h
    unfold xcode at h
    split at h
    next el hel =>
      have hm : (xMk T).2.1 mid = el.1 := by
        show (match xgt T mid with | some el => el.1 | none => xM0) = el.1
        rw [hel]
      rw [hm]
      split at h
      next L hL =>
        obtain ⟨n, hn⟩ := xfe_mem h
        obtain ⟨LL, hLL, hel2⟩ := xgt_mem hel
        obtain ⟨hd, hf⟩ := (h3 LL hLL el hel2).1 L (List.mem_of_getElem? hL)
        have hd := List.all_eq_true.mp hd _ hn
        unfold xdk at hd
        rw [Bool.and_eq_true] at hd
        exact ⟨⟨n, of_decide_eq_true hd.1, xdkb_ok hd.2⟩, hf _ hn⟩
      next => cases h
    next => cases h
  · have h : (match xgt T mid with | some el => xft el.2.2.1 pc | none => none) = some E := h
    split at h
    next el hel =>
      have hm : (xMk T).2.1 mid = el.1 := by
        show (match xgt T mid with | some el => el.1 | none => xM0) = el.1
        rw [hel]
      obtain ⟨LL, hLL, hel2⟩ := xgt_mem hel
      have := (h3 LL hLL el hel2).2.1 _ (xft_mem h)
      unfold xthr at this ⊢
      rw [hm]
      exact this
    next => cases h
  · have h : (match xgt T mid with | some el => xfh el.2.2.2 pc E | none => none) = some (hpc, ln, k) := h
    split at h
    next el hel =>
      have hm : (xMk T).2.1 mid = el.1 := by
        show (match xgt T mid with | some el => el.1 | none => xM0) = el.1
        rw [hel]
      obtain ⟨LL, hLL, hel2⟩ := xgt_mem hel
      have := (h3 LL hLL el hel2).2.2 _ (xfh_mem h)
      unfold xhdl at this ⊢
      rw [hm]
      exact this
    next => cases h
theorem xlt_0 {p : Nat → Prop} : ∀ j, j < 0 → p j := fun j h => absurd h (Nat.not_lt_zero j)
theorem xlt_s {p : Nat → Prop} (n : Nat) (h : ∀ j, j < n → p j) (h1 : p n) : ∀ j, j < n + 1 → p j := fun j hj => by
  rcases Nat.lt_succ_iff_lt_or_eq.mp hj with h2 | rfl
  · exact h j h2
  · exact h1
theorem xpk_0 {p : Nat → Nat → Prop} : ∀ ci mid, xpick ci [] = some mid → p ci mid := fun _ _ h => by cases h
theorem xpk_s {p : Nat → Nat → Prop} {a b : Nat} {r : List Nat} (h : p a b) (hr : ∀ ci mid, xpick ci r = some mid → p ci mid) : ∀ ci mid, xpick ci (a :: b :: r) = some mid → p ci mid := fun ci mid hp => by
  unfold xpick at hp
  split at hp
  next e =>
    subst e
    cases hp
    exact h
  next => exact hr ci mid hp
theorem xuws {C : String} {T : u_T} {TS : List Cond} (N : Nat) (h : ∀ j, j < N → u_lay C T j ∈ TS) : ∀ w ∈ u_ws C T N, w ∈ TS := by
  intro w hw
  obtain ⟨j, hj, rfl⟩ := List.mem_map.mp hw
  exact h j (List.mem_range.mp hj)
/-- words by their places -/
theorem xplaces {big ws : List Cond} (ps : List Nat) (h : ws = ps.filterMap (fun i => big[i]?)) (hk : ws.all xkp = true) : ∀ w ∈ ws, w ∈ big.filter xkp := by
  intro w hw
  have h1 := List.all_eq_true.mp hk w hw
  rw [h] at hw
  obtain ⟨i, -, hi⟩ := List.mem_filterMap.mp hw
  exact List.mem_filter.mpr ⟨List.mem_of_getElem? hi, h1⟩
theorem xw {big : List Cond} {w : Cond} (i : Nat) (h : big[i]? = some w) (hk : xkp w = true) : w ∈ big.filter xkp := List.mem_filter.mpr ⟨List.mem_of_getElem? h, hk⟩
def xMFm (m : xM) (TS : List Cond) (n : Nat) : Prop := plainName m.1.cls = true ∧ (m.1.cls ≠ "java/lang/invoke/MethodHandle" ∧ m.1.cls ≠ "java/lang/invoke/VarHandle") ∧ (parseMethodDescriptor m.1.desc).map (fun d => d.parameters.length) = some n ∧ m.2.2.1 ≤ 21 ∧ xcw m ∈ TS ∧ Cond.initialized m.1.cls ∈ TS
theorem xMFm_ok {P : xPr} {TS : List Cond} {mid n : Nat} {m : xM} (e : P.2.1 mid = m) (h : xMFm m TS n) : xMF P TS mid n := by
  unfold xMF
  rw [e]
  exact h
theorem xMF_of {P : xPr} {TS : List Cond} {mid n : Nat} {m : xM} (e : P.2.1 mid = m) (h : xMF (xOne m) TS 0 n) : xMF P TS mid n := by
  unfold xMF at h ⊢
  rw [e]
  exact h
theorem xsV_of {P : xPr} {TS : List Cond} {cl : List vw_C} {own : String} {idx n ci mid : Nat} {m : xM} (e : P.2.1 mid = m) (h : xsV (xOne m) TS cl own idx n ci 0) : xsV P TS cl own idx n ci mid := by
  unfold xsV xMF at h ⊢
  rw [e]
  exact h
theorem xsI_of {P : xPr} {TS : List Cond} {own : String} {idx n mid : Nat} {m : xM} (e : P.2.1 mid = m) (h : xsI (xOne m) TS own idx n 0) : xsI P TS own idx n mid := by
  unfold xsI xMF at h ⊢
  rw [e]
  exact h
theorem xsS_of {P : xPr} {TS : List Cond} {own : String} {idx n mid : Nat} {m : xM} (e : P.2.1 mid = m) (h : xsS (xOne m) TS own idx n 0) : xsS P TS own idx n mid := by
  unfold xsS xMF at h ⊢
  rw [e]
  exact h
end XTABS
end
section
-- ===== PART A: goes FIRST, ahead of the names: the tables' words, and 'selects' of the private methods out of them =====
/-- a private method of a class that the tables say can be made, by its rows of tables_1 -/
def lw_okq (q : MethodName × Nat) : Prop := (q.1.cls ≠ "java/lang/invoke/MethodHandle" ∧ q.1.cls ≠ "java/lang/invoke/VarHandle") ∧ Cond.instantiable q.1.cls q.2 ∈ tables_1 ∧ Cond.privateMethod q.1 ∈ tables_1 ∧ Cond.instanceMethod q.1 ∈ tables_1
theorem lw_p0 : lw_okq (⟨"java/util/ArrayList", "add", "(Ljava/lang/Object;[Ljava/lang/Object;I)V"⟩, 3) := ⟨⟨by decide +kernel, by decide +kernel⟩, List.mem_of_getElem? (i := 44) (by decide +kernel), List.mem_of_getElem? (i := 115) (by decide +kernel), List.mem_of_getElem? (i := 116) (by decide +kernel)⟩
theorem lw_p1 : lw_okq (⟨"java/util/ArrayList", "grow", "()[Ljava/lang/Object;"⟩, 3) := ⟨⟨by decide +kernel, by decide +kernel⟩, List.mem_of_getElem? (i := 44) (by decide +kernel), List.mem_of_getElem? (i := 119) (by decide +kernel), List.mem_of_getElem? (i := 120) (by decide +kernel)⟩
theorem lw_p2 : lw_okq (⟨"java/util/ArrayList", "grow", "(I)[Ljava/lang/Object;"⟩, 3) := ⟨⟨by decide +kernel, by decide +kernel⟩, List.mem_of_getElem? (i := 44) (by decide +kernel), List.mem_of_getElem? (i := 123) (by decide +kernel), List.mem_of_getElem? (i := 124) (by decide +kernel)⟩
theorem lw_p3 : lw_okq (⟨"ViewFoundry", "leastMark", "()I"⟩, 13) := ⟨⟨by decide +kernel, by decide +kernel⟩, List.mem_of_getElem? (i := 36) (by decide +kernel), List.mem_of_getElem? (i := 220) (by decide +kernel), List.mem_of_getElem? (i := 221) (by decide +kernel)⟩
theorem lw_p4 : lw_okq (⟨"ViewFoundry", "waitingFrom", "()I"⟩, 13) := ⟨⟨by decide +kernel, by decide +kernel⟩, List.mem_of_getElem? (i := 36) (by decide +kernel), List.mem_of_getElem? (i := 247) (by decide +kernel), List.mem_of_getElem? (i := 248) (by decide +kernel)⟩
theorem lw_p5 : lw_okq (⟨"ViewFoundry", "emptyBehind", "(I)V"⟩, 13) := ⟨⟨by decide +kernel, by decide +kernel⟩, List.mem_of_getElem? (i := 36) (by decide +kernel), List.mem_of_getElem? (i := 255) (by decide +kernel), List.mem_of_getElem? (i := 256) (by decide +kernel)⟩
theorem lw_p6 : lw_okq (⟨"java/util/ArrayList", "fastRemove", "([Ljava/lang/Object;I)V"⟩, 3) := ⟨⟨by decide +kernel, by decide +kernel⟩, List.mem_of_getElem? (i := 44) (by decide +kernel), List.mem_of_getElem? (i := 263) (by decide +kernel), List.mem_of_getElem? (i := 264) (by decide +kernel)⟩
theorem lw_p7 : lw_okq (⟨"ViewFoundry", "apply", "(LViewFoundry$Entry;)V"⟩, 13) := ⟨⟨by decide +kernel, by decide +kernel⟩, List.mem_of_getElem? (i := 36) (by decide +kernel), List.mem_of_getElem? (i := 314) (by decide +kernel), List.mem_of_getElem? (i := 315) (by decide +kernel)⟩
theorem lw_p8 : lw_okq (⟨"ViewFoundry", "partOf", "(I)LViewFoundry$Part;"⟩, 13) := ⟨⟨by decide +kernel, by decide +kernel⟩, List.mem_of_getElem? (i := 36) (by decide +kernel), List.mem_of_getElem? (i := 574) (by decide +kernel), List.mem_of_getElem? (i := 575) (by decide +kernel)⟩
theorem lw_p9 : lw_okq (⟨"java/lang/Throwable", "fillInStackTrace", "(I)Ljava/lang/Throwable;"⟩, 6) := ⟨⟨by decide +kernel, by decide +kernel⟩, List.mem_of_getElem? (i := 617) (by decide +kernel), List.mem_of_getElem? (i := 615) (by decide +kernel), List.mem_of_getElem? (i := 616) (by decide +kernel)⟩
theorem lw_p10 : lw_okq (⟨"ViewFoundry", "needKey", "(I)V"⟩, 13) := ⟨⟨by decide +kernel, by decide +kernel⟩, List.mem_of_getElem? (i := 36) (by decide +kernel), List.mem_of_getElem? (i := 772) (by decide +kernel), List.mem_of_getElem? (i := 773) (by decide +kernel)⟩
theorem lw_p11 : lw_okq (⟨"ViewFoundry", "needTime", "(I)V"⟩, 13) := ⟨⟨by decide +kernel, by decide +kernel⟩, List.mem_of_getElem? (i := 36) (by decide +kernel), List.mem_of_getElem? (i := 777) (by decide +kernel), List.mem_of_getElem? (i := 778) (by decide +kernel)⟩
theorem lw_p12 : lw_okq (⟨"ViewFoundry", "append", "(LViewFoundry$Part;LViewFoundry$Entry;)I"⟩, 13) := ⟨⟨by decide +kernel, by decide +kernel⟩, List.mem_of_getElem? (i := 36) (by decide +kernel), List.mem_of_getElem? (i := 842) (by decide +kernel), List.mem_of_getElem? (i := 843) (by decide +kernel)⟩
theorem lw_p13 : lw_okq (⟨"ViewFoundry", "viewOf", "(I)LViewFoundry$View;"⟩, 13) := ⟨⟨by decide +kernel, by decide +kernel⟩, List.mem_of_getElem? (i := 36) (by decide +kernel), List.mem_of_getElem? (i := 1160) (by decide +kernel), List.mem_of_getElem? (i := 1161) (by decide +kernel)⟩
theorem lw_p14 : lw_okq (⟨"ViewFoundry", "countPromised", "(II)V"⟩, 13) := ⟨⟨by decide +kernel, by decide +kernel⟩, List.mem_of_getElem? (i := 36) (by decide +kernel), List.mem_of_getElem? (i := 1293) (by decide +kernel), List.mem_of_getElem? (i := 1294) (by decide +kernel)⟩
theorem lw_p15 : lw_okq (⟨"ViewFoundry", "detailAt", "(II)I"⟩, 13) := ⟨⟨by decide +kernel, by decide +kernel⟩, List.mem_of_getElem? (i := 36) (by decide +kernel), List.mem_of_getElem? (i := 1316) (by decide +kernel), List.mem_of_getElem? (i := 1317) (by decide +kernel)⟩
def lw_privs_1 : List (MethodName × Nat) := [(⟨"java/util/ArrayList", "add", "(Ljava/lang/Object;[Ljava/lang/Object;I)V"⟩, 3), (⟨"java/util/ArrayList", "grow", "()[Ljava/lang/Object;"⟩, 3), (⟨"java/util/ArrayList", "grow", "(I)[Ljava/lang/Object;"⟩, 3), (⟨"ViewFoundry", "leastMark", "()I"⟩, 13), (⟨"ViewFoundry", "waitingFrom", "()I"⟩, 13), (⟨"ViewFoundry", "emptyBehind", "(I)V"⟩, 13), (⟨"java/util/ArrayList", "fastRemove", "([Ljava/lang/Object;I)V"⟩, 3), (⟨"ViewFoundry", "apply", "(LViewFoundry$Entry;)V"⟩, 13), (⟨"ViewFoundry", "partOf", "(I)LViewFoundry$Part;"⟩, 13), (⟨"java/lang/Throwable", "fillInStackTrace", "(I)Ljava/lang/Throwable;"⟩, 6), (⟨"ViewFoundry", "needKey", "(I)V"⟩, 13), (⟨"ViewFoundry", "needTime", "(I)V"⟩, 13), (⟨"ViewFoundry", "append", "(LViewFoundry$Part;LViewFoundry$Entry;)I"⟩, 13), (⟨"ViewFoundry", "viewOf", "(I)LViewFoundry$View;"⟩, 13), (⟨"ViewFoundry", "countPromised", "(II)V"⟩, 13), (⟨"ViewFoundry", "detailAt", "(II)I"⟩, 13)]
theorem lw_r1 : ∀ q ∈ lw_privs_1, lw_okq q := List.forall_mem_cons.mpr ⟨lw_p0, List.forall_mem_cons.mpr ⟨lw_p1, List.forall_mem_cons.mpr ⟨lw_p2, List.forall_mem_cons.mpr ⟨lw_p3, List.forall_mem_cons.mpr ⟨lw_p4, List.forall_mem_cons.mpr ⟨lw_p5, List.forall_mem_cons.mpr ⟨lw_p6, List.forall_mem_cons.mpr ⟨lw_p7, List.forall_mem_cons.mpr ⟨lw_p8, List.forall_mem_cons.mpr ⟨lw_p9, List.forall_mem_cons.mpr ⟨lw_p10, List.forall_mem_cons.mpr ⟨lw_p11, List.forall_mem_cons.mpr ⟨lw_p12, List.forall_mem_cons.mpr ⟨lw_p13, List.forall_mem_cons.mpr ⟨lw_p14, List.forall_mem_cons.mpr ⟨lw_p15, fun _ h => absurd h List.not_mem_nil⟩⟩⟩⟩⟩⟩⟩⟩⟩⟩⟩⟩⟩⟩⟩⟩
theorem lw_p16 : lw_okq (⟨"ViewFoundry", "needWorker", "(I)V"⟩, 13) := ⟨⟨by decide +kernel, by decide +kernel⟩, List.mem_of_getElem? (i := 36) (by decide +kernel), List.mem_of_getElem? (i := 1351) (by decide +kernel), List.mem_of_getElem? (i := 1352) (by decide +kernel)⟩
theorem lw_p17 : lw_okq (⟨"ViewFoundry", "heldOfKey", "(I)I"⟩, 13) := ⟨⟨by decide +kernel, by decide +kernel⟩, List.mem_of_getElem? (i := 36) (by decide +kernel), List.mem_of_getElem? (i := 1356) (by decide +kernel), List.mem_of_getElem? (i := 1357) (by decide +kernel)⟩
theorem lw_p18 : lw_okq (⟨"ViewFoundryModel", "puts", "(IIII)I"⟩, 22) := ⟨⟨by decide +kernel, by decide +kernel⟩, List.mem_of_getElem? (i := 1417) (by decide +kernel), List.mem_of_getElem? (i := 1548) (by decide +kernel), List.mem_of_getElem? (i := 1549) (by decide +kernel)⟩
theorem lw_p19 : lw_okq (⟨"ViewFoundryModel", "fails", "(I)I"⟩, 22) := ⟨⟨by decide +kernel, by decide +kernel⟩, List.mem_of_getElem? (i := 1417) (by decide +kernel), List.mem_of_getElem? (i := 1552) (by decide +kernel), List.mem_of_getElem? (i := 1553) (by decide +kernel)⟩
theorem lw_p20 : lw_okq (⟨"ViewFoundryModel", "markNow", "()I"⟩, 22) := ⟨⟨by decide +kernel, by decide +kernel⟩, List.mem_of_getElem? (i := 1417) (by decide +kernel), List.mem_of_getElem? (i := 1576) (by decide +kernel), List.mem_of_getElem? (i := 1577) (by decide +kernel)⟩
theorem lw_p21 : lw_okq (⟨"ViewFoundryModel", "letsIn", "(III)Z"⟩, 22) := ⟨⟨by decide +kernel, by decide +kernel⟩, List.mem_of_getElem? (i := 1417) (by decide +kernel), List.mem_of_getElem? (i := 1581) (by decide +kernel), List.mem_of_getElem? (i := 1582) (by decide +kernel)⟩
theorem lw_p22 : lw_okq (⟨"ViewFoundryModel", "takes", "(IIIIII)V"⟩, 22) := ⟨⟨by decide +kernel, by decide +kernel⟩, List.mem_of_getElem? (i := 1417) (by decide +kernel), List.mem_of_getElem? (i := 1585) (by decide +kernel), List.mem_of_getElem? (i := 1586) (by decide +kernel)⟩
theorem lw_p23 : lw_okq (⟨"ViewFoundryModel", "takesWindows", "(IIIII)V"⟩, 22) := ⟨⟨by decide +kernel, by decide +kernel⟩, List.mem_of_getElem? (i := 1417) (by decide +kernel), List.mem_of_getElem? (i := 1589) (by decide +kernel), List.mem_of_getElem? (i := 1590) (by decide +kernel)⟩
theorem lw_p24 : lw_okq (⟨"ViewFoundryModel", "window", "(III)I"⟩, 22) := ⟨⟨by decide +kernel, by decide +kernel⟩, List.mem_of_getElem? (i := 1417) (by decide +kernel), List.mem_of_getElem? (i := 1593) (by decide +kernel), List.mem_of_getElem? (i := 1594) (by decide +kernel)⟩
theorem lw_p25 : lw_okq (⟨"ViewFoundryModel", "measure", "(II)I"⟩, 22) := ⟨⟨by decide +kernel, by decide +kernel⟩, List.mem_of_getElem? (i := 1417) (by decide +kernel), List.mem_of_getElem? (i := 1606) (by decide +kernel), List.mem_of_getElem? (i := 1607) (by decide +kernel)⟩
theorem lw_p26 : lw_okq (⟨"ViewFoundryModel", "anew", "(IIIII)V"⟩, 22) := ⟨⟨by decide +kernel, by decide +kernel⟩, List.mem_of_getElem? (i := 1417) (by decide +kernel), List.mem_of_getElem? (i := 1616) (by decide +kernel), List.mem_of_getElem? (i := 1617) (by decide +kernel)⟩
theorem lw_p27 : lw_okq (⟨"ViewFoundryModel", "takesBack", "(IIIII)V"⟩, 22) := ⟨⟨by decide +kernel, by decide +kernel⟩, List.mem_of_getElem? (i := 1417) (by decide +kernel), List.mem_of_getElem? (i := 1620) (by decide +kernel), List.mem_of_getElem? (i := 1621) (by decide +kernel)⟩
theorem lw_p28 : lw_okq (⟨"ViewFoundryModel", "tells", "(IIIII)V"⟩, 22) := ⟨⟨by decide +kernel, by decide +kernel⟩, List.mem_of_getElem? (i := 1417) (by decide +kernel), List.mem_of_getElem? (i := 1632) (by decide +kernel), List.mem_of_getElem? (i := 1633) (by decide +kernel)⟩
theorem lw_p29 : lw_okq (⟨"ViewFoundryModel", "takesSessions", "(IIIII)V"⟩, 22) := ⟨⟨by decide +kernel, by decide +kernel⟩, List.mem_of_getElem? (i := 1417) (by decide +kernel), List.mem_of_getElem? (i := 1640) (by decide +kernel), List.mem_of_getElem? (i := 1641) (by decide +kernel)⟩
theorem lw_p30 : lw_okq (⟨"ViewFoundryModel", "takesBackJoined", "(II)V"⟩, 22) := ⟨⟨by decide +kernel, by decide +kernel⟩, List.mem_of_getElem? (i := 1417) (by decide +kernel), List.mem_of_getElem? (i := 1647) (by decide +kernel), List.mem_of_getElem? (i := 1648) (by decide +kernel)⟩
theorem lw_p31 : lw_okq (⟨"ViewFoundryModel", "next", "(II)I"⟩, 22) := ⟨⟨by decide +kernel, by decide +kernel⟩, List.mem_of_getElem? (i := 1417) (by decide +kernel), List.mem_of_getElem? (i := 1651) (by decide +kernel), List.mem_of_getElem? (i := 1652) (by decide +kernel)⟩
def lw_privs_2 : List (MethodName × Nat) := [(⟨"ViewFoundry", "needWorker", "(I)V"⟩, 13), (⟨"ViewFoundry", "heldOfKey", "(I)I"⟩, 13), (⟨"ViewFoundryModel", "puts", "(IIII)I"⟩, 22), (⟨"ViewFoundryModel", "fails", "(I)I"⟩, 22), (⟨"ViewFoundryModel", "markNow", "()I"⟩, 22), (⟨"ViewFoundryModel", "letsIn", "(III)Z"⟩, 22), (⟨"ViewFoundryModel", "takes", "(IIIIII)V"⟩, 22), (⟨"ViewFoundryModel", "takesWindows", "(IIIII)V"⟩, 22), (⟨"ViewFoundryModel", "window", "(III)I"⟩, 22), (⟨"ViewFoundryModel", "measure", "(II)I"⟩, 22), (⟨"ViewFoundryModel", "anew", "(IIIII)V"⟩, 22), (⟨"ViewFoundryModel", "takesBack", "(IIIII)V"⟩, 22), (⟨"ViewFoundryModel", "tells", "(IIIII)V"⟩, 22), (⟨"ViewFoundryModel", "takesSessions", "(IIIII)V"⟩, 22), (⟨"ViewFoundryModel", "takesBackJoined", "(II)V"⟩, 22), (⟨"ViewFoundryModel", "next", "(II)I"⟩, 22)]
theorem lw_r2 : ∀ q ∈ lw_privs_2, lw_okq q := List.forall_mem_cons.mpr ⟨lw_p16, List.forall_mem_cons.mpr ⟨lw_p17, List.forall_mem_cons.mpr ⟨lw_p18, List.forall_mem_cons.mpr ⟨lw_p19, List.forall_mem_cons.mpr ⟨lw_p20, List.forall_mem_cons.mpr ⟨lw_p21, List.forall_mem_cons.mpr ⟨lw_p22, List.forall_mem_cons.mpr ⟨lw_p23, List.forall_mem_cons.mpr ⟨lw_p24, List.forall_mem_cons.mpr ⟨lw_p25, List.forall_mem_cons.mpr ⟨lw_p26, List.forall_mem_cons.mpr ⟨lw_p27, List.forall_mem_cons.mpr ⟨lw_p28, List.forall_mem_cons.mpr ⟨lw_p29, List.forall_mem_cons.mpr ⟨lw_p30, List.forall_mem_cons.mpr ⟨lw_p31, fun _ h => absurd h List.not_mem_nil⟩⟩⟩⟩⟩⟩⟩⟩⟩⟩⟩⟩⟩⟩⟩⟩
theorem lw_p32 : lw_okq (⟨"ViewFoundryModel", "takesJoins", "(IZIIII)V"⟩, 22) := ⟨⟨by decide +kernel, by decide +kernel⟩, List.mem_of_getElem? (i := 1417) (by decide +kernel), List.mem_of_getElem? (i := 1659) (by decide +kernel), List.mem_of_getElem? (i := 1660) (by decide +kernel)⟩
theorem lw_p33 : lw_okq (⟨"ViewFoundryModel", "takesVersions", "(IZIIII)V"⟩, 22) := ⟨⟨by decide +kernel, by decide +kernel⟩, List.mem_of_getElem? (i := 1417) (by decide +kernel), List.mem_of_getElem? (i := 1664) (by decide +kernel), List.mem_of_getElem? (i := 1665) (by decide +kernel)⟩
theorem lw_p34 : lw_okq (⟨"ViewFoundryModel", "tellsLeft", "(II)V"⟩, 22) := ⟨⟨by decide +kernel, by decide +kernel⟩, List.mem_of_getElem? (i := 1417) (by decide +kernel), List.mem_of_getElem? (i := 1668) (by decide +kernel), List.mem_of_getElem? (i := 1669) (by decide +kernel)⟩
theorem lw_p35 : lw_okq (⟨"ViewFoundryModel", "version", "(III)I"⟩, 22) := ⟨⟨by decide +kernel, by decide +kernel⟩, List.mem_of_getElem? (i := 1417) (by decide +kernel), List.mem_of_getElem? (i := 1672) (by decide +kernel), List.mem_of_getElem? (i := 1673) (by decide +kernel)⟩
theorem lw_p36 : lw_okq (⟨"ViewFoundryModel", "tellsDue", "(II)V"⟩, 22) := ⟨⟨by decide +kernel, by decide +kernel⟩, List.mem_of_getElem? (i := 1417) (by decide +kernel), List.mem_of_getElem? (i := 1676) (by decide +kernel), List.mem_of_getElem? (i := 1677) (by decide +kernel)⟩
theorem lw_p37 : lw_okq (⟨"ViewFoundryModel", "isDue", "(III)Z"⟩, 22) := ⟨⟨by decide +kernel, by decide +kernel⟩, List.mem_of_getElem? (i := 1417) (by decide +kernel), List.mem_of_getElem? (i := 1680) (by decide +kernel), List.mem_of_getElem? (i := 1681) (by decide +kernel)⟩
theorem lw_p38 : lw_okq (⟨"ViewFoundryModel", "rank", "(II)I"⟩, 22) := ⟨⟨by decide +kernel, by decide +kernel⟩, List.mem_of_getElem? (i := 1417) (by decide +kernel), List.mem_of_getElem? (i := 1684) (by decide +kernel), List.mem_of_getElem? (i := 1685) (by decide +kernel)⟩
theorem lw_p39 : lw_okq (⟨"ViewFoundryModel", "letsGo", "(II)V"⟩, 22) := ⟨⟨by decide +kernel, by decide +kernel⟩, List.mem_of_getElem? (i := 1417) (by decide +kernel), List.mem_of_getElem? (i := 1688) (by decide +kernel), List.mem_of_getElem? (i := 1689) (by decide +kernel)⟩
theorem lw_p40 : lw_okq (⟨"ViewFoundryModel", "isGone", "(III)Z"⟩, 22) := ⟨⟨by decide +kernel, by decide +kernel⟩, List.mem_of_getElem? (i := 1417) (by decide +kernel), List.mem_of_getElem? (i := 1692) (by decide +kernel), List.mem_of_getElem? (i := 1693) (by decide +kernel)⟩
theorem lw_p41 : lw_okq (⟨"ViewFoundryModel", "isOld", "(III)Z"⟩, 22) := ⟨⟨by decide +kernel, by decide +kernel⟩, List.mem_of_getElem? (i := 1417) (by decide +kernel), List.mem_of_getElem? (i := 1696) (by decide +kernel), List.mem_of_getElem? (i := 1697) (by decide +kernel)⟩
theorem lw_p42 : lw_okq (⟨"ViewFoundryModel", "isView", "(I)Z"⟩, 22) := ⟨⟨by decide +kernel, by decide +kernel⟩, List.mem_of_getElem? (i := 1417) (by decide +kernel), List.mem_of_getElem? (i := 1716) (by decide +kernel), List.mem_of_getElem? (i := 1717) (by decide +kernel)⟩
theorem lw_p43 : lw_okq (⟨"ViewFoundryModel", "toldOf", "(II)I"⟩, 22) := ⟨⟨by decide +kernel, by decide +kernel⟩, List.mem_of_getElem? (i := 1417) (by decide +kernel), List.mem_of_getElem? (i := 1733) (by decide +kernel), List.mem_of_getElem? (i := 1734) (by decide +kernel)⟩
theorem lw_p44 : lw_okq (⟨"ViewFoundryModel", "copies", "(II)V"⟩, 22) := ⟨⟨by decide +kernel, by decide +kernel⟩, List.mem_of_getElem? (i := 1417) (by decide +kernel), List.mem_of_getElem? (i := 1753) (by decide +kernel), List.mem_of_getElem? (i := 1754) (by decide +kernel)⟩
theorem lw_p45 : lw_okq (⟨"ViewFoundryModel", "output", "(LViewFoundryModel$Outputs;II)I"⟩, 22) := ⟨⟨by decide +kernel, by decide +kernel⟩, List.mem_of_getElem? (i := 1417) (by decide +kernel), List.mem_of_getElem? (i := 1782) (by decide +kernel), List.mem_of_getElem? (i := 1783) (by decide +kernel)⟩
theorem lw_p46 : lw_okq (⟨"ViewFoundryModel", "heldOf", "(I)I"⟩, 22) := ⟨⟨by decide +kernel, by decide +kernel⟩, List.mem_of_getElem? (i := 1417) (by decide +kernel), List.mem_of_getElem? (i := 1798) (by decide +kernel), List.mem_of_getElem? (i := 1799) (by decide +kernel)⟩
theorem lw_p47 : lw_okq (⟨"ViewFoundryModel", "mean", "(II)F"⟩, 22) := ⟨⟨by decide +kernel, by decide +kernel⟩, List.mem_of_getElem? (i := 1417) (by decide +kernel), List.mem_of_getElem? (i := 1814) (by decide +kernel), List.mem_of_getElem? (i := 1815) (by decide +kernel)⟩
def lw_privs_3 : List (MethodName × Nat) := [(⟨"ViewFoundryModel", "takesJoins", "(IZIIII)V"⟩, 22), (⟨"ViewFoundryModel", "takesVersions", "(IZIIII)V"⟩, 22), (⟨"ViewFoundryModel", "tellsLeft", "(II)V"⟩, 22), (⟨"ViewFoundryModel", "version", "(III)I"⟩, 22), (⟨"ViewFoundryModel", "tellsDue", "(II)V"⟩, 22), (⟨"ViewFoundryModel", "isDue", "(III)Z"⟩, 22), (⟨"ViewFoundryModel", "rank", "(II)I"⟩, 22), (⟨"ViewFoundryModel", "letsGo", "(II)V"⟩, 22), (⟨"ViewFoundryModel", "isGone", "(III)Z"⟩, 22), (⟨"ViewFoundryModel", "isOld", "(III)Z"⟩, 22), (⟨"ViewFoundryModel", "isView", "(I)Z"⟩, 22), (⟨"ViewFoundryModel", "toldOf", "(II)I"⟩, 22), (⟨"ViewFoundryModel", "copies", "(II)V"⟩, 22), (⟨"ViewFoundryModel", "output", "(LViewFoundryModel$Outputs;II)I"⟩, 22), (⟨"ViewFoundryModel", "heldOf", "(I)I"⟩, 22), (⟨"ViewFoundryModel", "mean", "(II)F"⟩, 22)]
theorem lw_r3 : ∀ q ∈ lw_privs_3, lw_okq q := List.forall_mem_cons.mpr ⟨lw_p32, List.forall_mem_cons.mpr ⟨lw_p33, List.forall_mem_cons.mpr ⟨lw_p34, List.forall_mem_cons.mpr ⟨lw_p35, List.forall_mem_cons.mpr ⟨lw_p36, List.forall_mem_cons.mpr ⟨lw_p37, List.forall_mem_cons.mpr ⟨lw_p38, List.forall_mem_cons.mpr ⟨lw_p39, List.forall_mem_cons.mpr ⟨lw_p40, List.forall_mem_cons.mpr ⟨lw_p41, List.forall_mem_cons.mpr ⟨lw_p42, List.forall_mem_cons.mpr ⟨lw_p43, List.forall_mem_cons.mpr ⟨lw_p44, List.forall_mem_cons.mpr ⟨lw_p45, List.forall_mem_cons.mpr ⟨lw_p46, List.forall_mem_cons.mpr ⟨lw_p47, fun _ h => absurd h List.not_mem_nil⟩⟩⟩⟩⟩⟩⟩⟩⟩⟩⟩⟩⟩⟩⟩⟩
def lw_privs : List (MethodName × Nat) := lw_privs_1 ++ (lw_privs_2 ++ (lw_privs_3))
def lw_tbl : List Cond := k2_sels lw_privs ++ tables_1
theorem lw_privs_ok : ∀ q ∈ lw_privs, lw_okq q := by
  show ∀ q ∈ lw_privs_1 ++ (lw_privs_2 ++ (lw_privs_3)), lw_okq q
  exact List.forall_mem_append.mpr ⟨lw_r1, List.forall_mem_append.mpr ⟨lw_r2, lw_r3⟩⟩
/-- the streams that the claim lets the run draw from -/
abbrev lw_cs : List Choice := [Jvm.Choice.named "NaN.bits", Jvm.Choice.named "NaN.copy"]
theorem lw_bits : nanBits ∈ lw_cs := by first | decide | exact List.mem_cons_self | simp [lw_cs, nanBits]
end
section
set_option maxRecDepth 100000
set_option maxHeartbeats 4000000
section XDATA
def xT_0 : u_T := fun k => match k with | 0 => ("java/util/AbstractList", "modCount", "I", false) | 1 => ("java/util/ArrayList", "elementData", "[Ljava/lang/Object;", false) | _ => ("java/util/ArrayList", "size", "I", false)
def xT_1 : u_T := fun k => match k with | 0 => ("ViewFoundry$Entry", "part", "I", true) | 1 => ("ViewFoundry$Entry", "isRow", "Z", true) | 2 => ("ViewFoundry$Entry", "isLeft", "Z", true) | 3 => ("ViewFoundry$Entry", "key", "I", true) | 4 => ("ViewFoundry$Entry", "time", "I", true) | 5 => ("ViewFoundry$Entry", "value", "I", true) | 6 => ("ViewFoundry$Entry", "order", "I", false) | 7 => ("ViewFoundry$Entry", "ahead", "I", false) | _ => ("ViewFoundry$Entry", "bid", "I", false)
def xT_2 : u_T := fun k => match k with | 0 => ("ViewFoundry$View", "number", "I", true) | 1 => ("ViewFoundry$View", "bothSides", "Z", true) | 2 => ("ViewFoundry$View", "filter", "C", true) | 3 => ("ViewFoundry$View", "size", "I", true) | 4 => ("ViewFoundry$View", "grace", "I", true) | 5 => ("ViewFoundry$View", "outputs", "LViewFoundry$Outputs;", true) | 6 => ("ViewFoundry$View", "told", "LViewFoundry$Results;", true) | 7 => ("ViewFoundry$View", "found", "LViewFoundry$Results;", true) | 8 => ("ViewFoundry$View", "holdings", "[I", true) | 9 => ("ViewFoundry$View", "drops", "I", false) | _ => ("ViewFoundry$JoinView", "kept", "Ljava/util/ArrayList;", true)
def xT_3 : u_T := fun k => match k with | 0 => ("ViewFoundry$Outputs", "list", "[J", false) | _ => ("ViewFoundry$Outputs", "size", "I", false)
def xT_4 : u_T := fun k => match k with | 0 => ("ViewFoundry$Part", "log", "Ljava/util/ArrayList;", true) | 1 => ("ViewFoundry$Part", "place", "I", false) | 2 => ("ViewFoundry$Part", "mark", "I", false) | _ => ("ViewFoundry$Part", "slack", "I", false)
def xT_5 : u_T := fun k => match k with | 0 => ("ViewFoundry$Results", "slots", "[J", true) | _ => ("ViewFoundry$Results", "filled", "I", false)
def xT_6 : u_T := fun k => match k with | 0 => ("ViewFoundry$View", "number", "I", true) | 1 => ("ViewFoundry$View", "bothSides", "Z", true) | 2 => ("ViewFoundry$View", "filter", "C", true) | 3 => ("ViewFoundry$View", "size", "I", true) | 4 => ("ViewFoundry$View", "grace", "I", true) | 5 => ("ViewFoundry$View", "outputs", "LViewFoundry$Outputs;", true) | 6 => ("ViewFoundry$View", "told", "LViewFoundry$Results;", true) | 7 => ("ViewFoundry$View", "found", "LViewFoundry$Results;", true) | 8 => ("ViewFoundry$View", "holdings", "[I", true) | 9 => ("ViewFoundry$View", "drops", "I", false) | 10 => ("ViewFoundry$SessionView", "measure", "C", true) | 11 => ("ViewFoundry$SessionView", "sessions", "LViewFoundry$Tally;", true) | 12 => ("ViewFoundry$SessionView", "again", "LViewFoundry$Tally;", true) | 13 => ("ViewFoundry$SessionView", "firsts", "[I", true) | _ => ("ViewFoundry$SessionView", "joined", "[I", true)
def xT_7 : u_T := fun k => match k with | 0 => ("ViewFoundry$Tally", "numbers", "[I", true) | 1 => ("ViewFoundry$Tally", "sums", "[I", true) | _ => ("ViewFoundry$Tally", "greatest", "[I", true)
def xT_8 : u_T := fun k => match k with | 0 => ("ViewFoundry$View", "number", "I", true) | 1 => ("ViewFoundry$View", "bothSides", "Z", true) | 2 => ("ViewFoundry$View", "filter", "C", true) | 3 => ("ViewFoundry$View", "size", "I", true) | 4 => ("ViewFoundry$View", "grace", "I", true) | 5 => ("ViewFoundry$View", "outputs", "LViewFoundry$Outputs;", true) | 6 => ("ViewFoundry$View", "told", "LViewFoundry$Results;", true) | 7 => ("ViewFoundry$View", "found", "LViewFoundry$Results;", true) | 8 => ("ViewFoundry$View", "holdings", "[I", true) | 9 => ("ViewFoundry$View", "drops", "I", false) | 10 => ("ViewFoundry$VersionView", "lefts", "Ljava/util/ArrayList;", true) | 11 => ("ViewFoundry$VersionView", "versions", "Ljava/util/ArrayList;", true) | _ => ("ViewFoundry$VersionView", "again", "Ljava/util/ArrayList;", true)
def xT_9 : u_T := fun k => match k with | 0 => ("ViewFoundry$View", "number", "I", true) | 1 => ("ViewFoundry$View", "bothSides", "Z", true) | 2 => ("ViewFoundry$View", "filter", "C", true) | 3 => ("ViewFoundry$View", "size", "I", true) | 4 => ("ViewFoundry$View", "grace", "I", true) | 5 => ("ViewFoundry$View", "outputs", "LViewFoundry$Outputs;", true) | 6 => ("ViewFoundry$View", "told", "LViewFoundry$Results;", true) | 7 => ("ViewFoundry$View", "found", "LViewFoundry$Results;", true) | 8 => ("ViewFoundry$View", "holdings", "[I", true) | 9 => ("ViewFoundry$View", "drops", "I", false) | 10 => ("ViewFoundry$WindowView", "measure", "C", true) | 11 => ("ViewFoundry$WindowView", "step", "I", true) | 12 => ("ViewFoundry$WindowView", "windows", "I", true) | 13 => ("ViewFoundry$WindowView", "rows", "LViewFoundry$Tally;", true) | _ => ("ViewFoundry$WindowView", "again", "LViewFoundry$Tally;", true)
def xT_10 : u_T := fun k => match k with | 0 => ("ViewFoundry", "parts", "Ljava/util/ArrayList;", true) | 1 => ("ViewFoundry", "views", "Ljava/util/ArrayList;", true) | 2 => ("ViewFoundry", "journal", "Ljava/util/ArrayList;", true) | 3 => ("ViewFoundry", "outputs", "LViewFoundry$Outputs;", true) | 4 => ("ViewFoundry", "workers", "[I", true) | 5 => ("ViewFoundry", "promisedSums", "[I", true) | 6 => ("ViewFoundry", "everRead", "Z", false) | 7 => ("ViewFoundry", "everCut", "Z", false) | 8 => ("ViewFoundry", "cutOpen", "Z", false) | 9 => ("ViewFoundry", "promisedOutputs", "I", false) | 10 => ("ViewFoundry", "cutOutputs", "I", false) | 11 => ("ViewFoundry", "promisedReads", "I", false) | _ => ("ViewFoundry", "cutReads", "I", false)
def xT_11 : u_T := fun k => match k with | 0 => ("ViewFoundryModel$Held", "things", "I", false) | 1 => ("ViewFoundryModel$Held", "thing", "[I", false) | 2 => ("ViewFoundryModel$Held", "results", "I", false) | 3 => ("ViewFoundryModel$Held", "result", "[I", false) | _ => ("ViewFoundryModel$Held", "dropped", "I", false)
def xT_12 : u_T := fun k => match k with | 0 => ("ViewFoundryModel$Outputs", "many", "I", false) | _ => ("ViewFoundryModel$Outputs", "row", "[I", false)
def xT_13 : u_T := fun k => match k with | 0 => ("ViewFoundryModel", "code", "I", false) | 1 => ("ViewFoundryModel", "entries", "[I", true) | 2 => ("ViewFoundryModel", "entryKey", "[I", true) | 3 => ("ViewFoundryModel", "entryTime", "[I", true) | 4 => ("ViewFoundryModel", "entryValue", "[I", true) | 5 => ("ViewFoundryModel", "slacks", "[I", true) | 6 => ("ViewFoundryModel", "workers", "[I", true) | 7 => ("ViewFoundryModel", "views", "I", false) | 8 => ("ViewFoundryModel", "kinds", "[C", true) | 9 => ("ViewFoundryModel", "measures", "[C", true) | 10 => ("ViewFoundryModel", "filters", "[C", true) | 11 => ("ViewFoundryModel", "sizes", "[I", true) | 12 => ("ViewFoundryModel", "steps", "[I", true) | 13 => ("ViewFoundryModel", "graces", "[I", true) | 14 => ("ViewFoundryModel", "wasRead", "Z", false) | 15 => ("ViewFoundryModel", "isOpen", "Z", false) | 16 => ("ViewFoundryModel", "places", "[I", true) | 17 => ("ViewFoundryModel", "marks", "[I", true) | 18 => ("ViewFoundryModel", "held", "[LViewFoundryModel$Held;", true) | 19 => ("ViewFoundryModel", "waiting", "LViewFoundryModel$Outputs;", true) | 20 => ("ViewFoundryModel", "prepared", "LViewFoundryModel$Outputs;", true) | _ => ("ViewFoundryModel", "promised", "LViewFoundryModel$Outputs;", true)
def xcl : List vw_C := [("java/util/ArrayList", xT_0, 3), ("ViewFoundry$Entry", xT_1, 9), ("ViewFoundry$JoinView", xT_2, 11), ("ViewFoundry$Outputs", xT_3, 2), ("ViewFoundry$Part", xT_4, 4), ("ViewFoundry$Results", xT_5, 2), ("ViewFoundry$SessionView", xT_6, 15), ("ViewFoundry$Tally", xT_7, 3), ("ViewFoundry$VersionView", xT_8, 13), ("ViewFoundry$WindowView", xT_9, 15), ("ViewFoundry", xT_10, 13), ("ViewFoundryModel$Held", xT_11, 5), ("ViewFoundryModel$Outputs", xT_12, 2), ("ViewFoundryModel", xT_13, 22)]
def xSLv : xSL := ([("ViewFoundry", 301, "no such part"), ("ViewFoundry", 303, "no such key"), ("ViewFoundry", 305, "the time is out of range"), ("ViewFoundry", 56, "the value is out of range"), ("ViewFoundry", 309, "the log is full"), ("ViewFoundry", 70, "the slack is out of range"), ("ViewFoundry", 78, "there are views"), ("ViewFoundry", 95, "no such kind, measure or filter"), ("ViewFoundry", 97, "the size or the grace is out of range"), ("ViewFoundry", 99, "the step is out of range"), ("ViewFoundry", 112, "no view can be added any more"), ("ViewFoundry", 135, "the number is out of range"), ("ViewFoundry", 261, "no such view"), ("ViewFoundry", 190, "no such result is told"), ("ViewFoundry", 204, "no such result is found"), ("ViewFoundry", 210, "nothing is told of the key"), ("ViewFoundry", 229, "a cut is open"), ("ViewFoundry", 240, "no cut is open"), ("ViewFoundry", 254, "no such output"), ("ViewFoundry", 351, "nothing of that is in an output"), ("ViewFoundry", 307, "no such worker"), ("ViewFoundry", 277, "the divisor is 0"), ("ViewFoundry", 295, "no row was read")], [("ViewFoundry", "java/lang/IllegalArgumentException"), ("java/util/ArrayList", "java/lang/IllegalArgumentException"), ("ViewFoundry$Outputs", "java/lang/IllegalArgumentException"), ("ViewFoundry$Part", "java/lang/IllegalArgumentException"), ("ViewFoundryModel", "java/lang/IllegalArgumentException"), ("ViewFoundryModel$Outputs", "java/lang/IllegalArgumentException"), ("ViewFoundryModel$Held", "java/lang/IllegalArgumentException"), ("ViewFoundry$Entry", "java/lang/IllegalArgumentException"), ("java/lang/IllegalStateException", "java/lang/IllegalArgumentException"), ("ViewFoundry$WindowView", "java/lang/IllegalArgumentException"), ("ViewFoundry$Results", "java/lang/IllegalArgumentException"), ("ViewFoundry$Tally", "java/lang/IllegalArgumentException"), ("ViewFoundry$SessionView", "java/lang/IllegalArgumentException"), ("ViewFoundry$JoinView", "java/lang/IllegalArgumentException"), ("ViewFoundry$VersionView", "java/lang/IllegalArgumentException"), ("java/lang/IndexOutOfBoundsException", "java/lang/IllegalArgumentException"), ("java/util/NoSuchElementException", "java/lang/IllegalArgumentException"), ("ViewFoundry", "java/lang/IllegalStateException"), ("java/util/ArrayList", "java/lang/IllegalStateException"), ("ViewFoundry$Outputs", "java/lang/IllegalStateException"), ("ViewFoundry$Part", "java/lang/IllegalStateException"), ("ViewFoundryModel", "java/lang/IllegalStateException"), ("ViewFoundryModel$Outputs", "java/lang/IllegalStateException"), ("ViewFoundryModel$Held", "java/lang/IllegalStateException"), ("java/lang/IllegalArgumentException", "java/lang/IllegalStateException"), ("ViewFoundry$Entry", "java/lang/IllegalStateException"), ("ViewFoundry$WindowView", "java/lang/IllegalStateException"), ("ViewFoundry$Results", "java/lang/IllegalStateException"), ("ViewFoundry$Tally", "java/lang/IllegalStateException"), ("ViewFoundry$SessionView", "java/lang/IllegalStateException"), ("ViewFoundry$JoinView", "java/lang/IllegalStateException"), ("ViewFoundry$VersionView", "java/lang/IllegalStateException"), ("java/lang/IndexOutOfBoundsException", "java/lang/IllegalStateException"), ("java/util/NoSuchElementException", "java/lang/IllegalStateException"), ("ViewFoundry", "java/lang/IndexOutOfBoundsException"), ("java/util/ArrayList", "java/lang/IndexOutOfBoundsException"), ("ViewFoundry$Outputs", "java/lang/IndexOutOfBoundsException"), ("ViewFoundry$Part", "java/lang/IndexOutOfBoundsException"), ("ViewFoundryModel", "java/lang/IndexOutOfBoundsException"), ("ViewFoundryModel$Outputs", "java/lang/IndexOutOfBoundsException"), ("ViewFoundryModel$Held", "java/lang/IndexOutOfBoundsException"), ("java/lang/IllegalArgumentException", "java/lang/IndexOutOfBoundsException"), ("ViewFoundry$Entry", "java/lang/IndexOutOfBoundsException"), ("java/lang/IllegalStateException", "java/lang/IndexOutOfBoundsException"), ("ViewFoundry$WindowView", "java/lang/IndexOutOfBoundsException"), ("ViewFoundry$Results", "java/lang/IndexOutOfBoundsException"), ("ViewFoundry$Tally", "java/lang/IndexOutOfBoundsException"), ("ViewFoundry$SessionView", "java/lang/IndexOutOfBoundsException"), ("ViewFoundry$JoinView", "java/lang/IndexOutOfBoundsException"), ("ViewFoundry$VersionView", "java/lang/IndexOutOfBoundsException"), ("java/util/NoSuchElementException", "java/lang/IndexOutOfBoundsException"), ("ViewFoundry", "java/util/NoSuchElementException"), ("java/util/ArrayList", "java/util/NoSuchElementException"), ("ViewFoundry$Outputs", "java/util/NoSuchElementException"), ("ViewFoundry$Part", "java/util/NoSuchElementException"), ("ViewFoundryModel", "java/util/NoSuchElementException"), ("ViewFoundryModel$Outputs", "java/util/NoSuchElementException"), ("ViewFoundryModel$Held", "java/util/NoSuchElementException"), ("java/lang/IllegalArgumentException", "java/util/NoSuchElementException"), ("ViewFoundry$Entry", "java/util/NoSuchElementException"), ("java/lang/IllegalStateException", "java/util/NoSuchElementException"), ("ViewFoundry$WindowView", "java/util/NoSuchElementException"), ("ViewFoundry$Results", "java/util/NoSuchElementException"), ("ViewFoundry$Tally", "java/util/NoSuchElementException"), ("ViewFoundry$SessionView", "java/util/NoSuchElementException"), ("ViewFoundry$JoinView", "java/util/NoSuchElementException"), ("ViewFoundry$VersionView", "java/util/NoSuchElementException"), ("java/lang/IndexOutOfBoundsException", "java/util/NoSuchElementException"), ("ViewFoundry", "ViewFoundryModel$Held"), ("java/util/ArrayList", "ViewFoundryModel$Held"), ("ViewFoundry$Outputs", "ViewFoundryModel$Held"), ("ViewFoundry$Part", "ViewFoundryModel$Held"), ("ViewFoundryModel", "ViewFoundryModel$Held"), ("ViewFoundryModel$Outputs", "ViewFoundryModel$Held"), ("java/lang/IllegalArgumentException", "ViewFoundryModel$Held"), ("ViewFoundry$Entry", "ViewFoundryModel$Held"), ("java/lang/IllegalStateException", "ViewFoundryModel$Held"), ("ViewFoundry$WindowView", "ViewFoundryModel$Held"), ("ViewFoundry$Results", "ViewFoundryModel$Held"), ("ViewFoundry$Tally", "ViewFoundryModel$Held"), ("ViewFoundry$SessionView", "ViewFoundryModel$Held"), ("ViewFoundry$JoinView", "ViewFoundryModel$Held"), ("ViewFoundry$VersionView", "ViewFoundryModel$Held"), ("java/lang/IndexOutOfBoundsException", "ViewFoundryModel$Held"), ("java/util/NoSuchElementException", "ViewFoundryModel$Held"), ("java/lang/Throwable", "ViewFoundryModel$Held"), ("java/lang/String", "ViewFoundryModel$Held")])
def xNm : List String := ["java/lang/RuntimeException", "java/lang/Exception"]
def xm_0 : xM := (⟨"ViewFoundry$Entry", "<init>", "(IZIII)V"⟩, prog_2_method_1_code, 6, (Option.none : Option Jvm.ClassFile.FieldType), [])
def xk_0_0 : List xEn := [(0, 1, .aload_n 0, []), (1, 3, .invokespecial 3, []), (4, 1, .aload_n 0, []), (5, 1, .iload_n 1, []), (6, 3, .putfield 9, [0, 0, 1]), (9, 1, .aload_n 0, []), (10, 1, .iload_n 2, []), (11, 3, .putfield 15, [1, 3, 1]), (14, 1, .aload_n 0, []), (15, 1, .iload_n 1, []), (16, 1, .iconst 2, []), (17, 3, .if_icmp .eq 7, []), (20, 1, .iconst 1, []), (21, 3, .goto 4, []), (24, 1, .iconst 0, []), (25, 3, .putfield 19, [2, 3, 1]), (28, 1, .aload_n 0, []), (29, 1, .iload_n 3, []), (30, 3, .putfield 22, [3, 0, 1])]
def xk_0_1 : List xEn := [(33, 1, .aload_n 0, []), (34, 2, .iload 4, []), (36, 3, .putfield 25, [4, 0, 1]), (39, 1, .aload_n 0, []), (40, 2, .iload 5, []), (42, 3, .putfield 28, [5, 0, 1]), (45, 1, .return_, [])]
def xe_0 : xEl := (xm_0, [xk_0_0, xk_0_1], [], [])
def xm_1 : xM := (⟨"ViewFoundry$Entry", "isPartnerOf", "(LViewFoundry$Entry;I)Z"⟩, prog_2_method_2_code, 3, (Option.some Jvm.ClassFile.FieldType.boolean), [])
def xk_1_0 : List xEn := [(0, 1, .aload_n 0, []), (1, 3, .getfield 19, [2, 1]), (4, 1, .aload_n 1, []), (5, 3, .getfield 19, [2, 1]), (8, 3, .if_icmp .eq 34, []), (11, 1, .aload_n 0, []), (12, 3, .getfield 22, [3, 1]), (15, 1, .aload_n 1, []), (16, 3, .getfield 22, [3, 1]), (19, 3, .if_icmp .ne 23, []), (22, 1, .aload_n 0, []), (23, 3, .getfield 25, [4, 1]), (26, 1, .aload_n 1, []), (27, 3, .getfield 25, [4, 1]), (30, 1, .isub, []), (31, 3, .invokestatic 31, [1, 223])]
def xk_1_1 : List xEn := [(34, 1, .iload_n 2, []), (35, 3, .if_icmp .gt 7, []), (38, 1, .iconst 1, []), (39, 3, .goto 4, []), (42, 1, .iconst 0, []), (43, 1, .ireturn, [])]
def xe_1 : xEl := (xm_1, [xk_1_0, xk_1_1], [], [])
def xm_2 : xM := (⟨"ViewFoundry$JoinView", "<init>", "(ICIILViewFoundry$Outputs;)V"⟩, prog_3_method_1_code, 6, (Option.none : Option Jvm.ClassFile.FieldType), [])
def xk_2_0 : List xEn := [(0, 1, .aload_n 0, []), (1, 1, .iload_n 1, []), (2, 1, .iconst 1, []), (3, 1, .iload_n 2, []), (4, 1, .iload_n 3, []), (5, 2, .iload 4, []), (7, 2, .aload 5, []), (9, 3, .sipush 12800, []), (12, 3, .invokespecial 3, [7, 74]), (15, 1, .aload_n 0, []), (16, 3, .new 9, [0, 0, 2, 0]), (19, 1, .dup, []), (20, 3, .invokespecial 11, [0, 232]), (23, 3, .putfield 14, [10, 2, 2]), (26, 1, .return_, [])]
def xe_2 : xEl := (xm_2, [xk_2_0], [], [])
def xm_3 : xM := (⟨"ViewFoundry$JoinView", "resultOf", "(LViewFoundry$Entry;LViewFoundry$Entry;)J"⟩, prog_3_method_2_code, 5, (Option.some Jvm.ClassFile.FieldType.long), [])
def xk_3_0 : List xEn := [(0, 1, .aload_n 1, []), (1, 3, .getfield 20, [2, 1]), (4, 3, .ifCond .eq 7, []), (7, 1, .aload_n 1, []), (8, 3, .goto 4, []), (11, 1, .aload_n 2, []), (12, 1, .astore_n 3, []), (13, 1, .aload_n 1, []), (14, 3, .getfield 20, [2, 1]), (17, 3, .ifCond .eq 7, []), (20, 1, .aload_n 2, []), (21, 3, .goto 4, []), (24, 1, .aload_n 1, []), (25, 2, .astore 4, []), (27, 1, .aload_n 0, []), (28, 3, .getfield 26, [0, 2, 6, 8, 9]), (31, 1, .aload_n 1, [])]
def xk_3_1 : List xEn := [(32, 3, .getfield 30, [3, 1]), (35, 1, .aload_n 3, []), (36, 3, .getfield 33, [4, 1]), (39, 2, .aload 4, []), (41, 3, .getfield 33, [4, 1]), (44, 1, .aload_n 3, []), (45, 3, .getfield 36, [5, 1]), (48, 2, .aload 4, []), (50, 3, .getfield 36, [5, 1]), (53, 1, .iadd, []), (54, 3, .invokestatic 39, [5, 14]), (57, 1, .lreturn, [])]
def xe_3 : xEl := (xm_3, [xk_3_0, xk_3_1], [], [])
def xm_4 : xM := (⟨"ViewFoundry$JoinView", "take", "(LViewFoundry$Entry;)V"⟩, prog_3_method_3_code, 4, (Option.none : Option Jvm.ClassFile.FieldType), [])
def xk_4_0 : List xEn := [(0, 1, .aload_n 0, []), (1, 1, .aload_n 1, []), (2, 3, .invokevirtual 45, [1, 2, 84]), (5, 3, .ifCond .eq 14, []), (8, 1, .aload_n 0, []), (9, 1, .dup, []), (10, 3, .getfield 49, [9, 2, 6, 8, 9]), (13, 1, .iconst 1, []), (14, 1, .iadd, []), (15, 3, .putfield 49, [9, 0, 2, 6, 8, 9]), (18, 1, .return_, []), (19, 1, .iconst 0, []), (20, 1, .istore_n 2, []), (21, 1, .iload_n 2, []), (22, 1, .aload_n 0, []), (23, 3, .getfield 14, [10, 2]), (26, 3, .invokevirtual 52, [0, 0, 235]), (29, 3, .if_icmp .ge 50, [])]
def xk_4_1 : List xEn := [(32, 1, .aload_n 0, []), (33, 3, .getfield 14, [10, 2]), (36, 1, .iload_n 2, []), (37, 3, .invokevirtual 56, [1, 0, 238]), (40, 3, .checkcast 21, [1]), (43, 1, .astore_n 3, []), (44, 1, .aload_n 1, []), (45, 1, .aload_n 3, []), (46, 1, .aload_n 0, []), (47, 3, .getfield 60, [3, 2, 6, 8, 9]), (50, 3, .invokevirtual 62, [2, 1, 1]), (53, 3, .ifCond .eq 20, []), (56, 1, .aload_n 0, []), (57, 1, .aload_n 0, []), (58, 3, .getfield 66, [6, 2, 6, 8, 9]), (61, 3, .getfield 70, [1, 5])]
def xk_4_2 : List xEn := [(64, 1, .aload_n 0, []), (65, 1, .aload_n 1, []), (66, 1, .aload_n 3, []), (67, 3, .invokevirtual 75, [2, 2, 3]), (70, 3, .invokevirtual 79, [2, 2, 78]), (73, 3, .iinc 2 1, []), (76, 3, .goto (-55), []), (79, 1, .aload_n 0, []), (80, 3, .getfield 14, [10, 2]), (83, 1, .aload_n 1, []), (84, 3, .invokevirtual 83, [1, 0, 240]), (87, 1, .pop, []), (88, 1, .aload_n 0, []), (89, 1, .aload_n 1, []), (90, 3, .getfield 30, [3, 1]), (93, 1, .iconst 1, []), (94, 3, .invokevirtual 87, [2, 2, 81])]
def xk_4_3 : List xEn := [(97, 1, .return_, [])]
def xe_4 : xEl := (xm_4, [xk_4_0, xk_4_1, xk_4_2, xk_4_3], [], [])
def xm_5 : xM := (⟨"ViewFoundry$JoinView", "tellDue", "(II)V"⟩, prog_3_method_4_code, 3, (Option.none : Option Jvm.ClassFile.FieldType), [])
def xk_5_0 : List xEn := [(0, 1, .return_, [])]
def xe_5 : xEl := (xm_5, [xk_5_0], [], [])
def xm_6 : xM := (⟨"ViewFoundry$JoinView", "letGo", "(II)V"⟩, prog_3_method_5_code, 5, (Option.none : Option Jvm.ClassFile.FieldType), [])
def xk_6_0 : List xEn := [(0, 1, .aload_n 0, []), (1, 3, .getfield 14, [10, 2]), (4, 3, .invokevirtual 52, [0, 0, 235]), (7, 1, .iconst 1, []), (8, 1, .isub, []), (9, 1, .istore_n 3, []), (10, 1, .iload_n 3, []), (11, 3, .ifCond .lt 62, []), (14, 1, .aload_n 0, []), (15, 3, .getfield 14, [10, 2]), (18, 1, .iload_n 3, []), (19, 3, .invokevirtual 56, [1, 0, 238]), (22, 3, .checkcast 21, [1]), (25, 2, .astore 4, []), (27, 1, .iload_n 2, []), (28, 2, .aload 4, []), (30, 3, .getfield 33, [4, 1])]
def xk_6_1 : List xEn := [(33, 1, .iconst 2, []), (34, 1, .aload_n 0, []), (35, 3, .getfield 60, [3, 2, 6, 8, 9]), (38, 1, .imul, []), (39, 1, .iadd, []), (40, 1, .aload_n 0, []), (41, 3, .getfield 91, [4, 2, 6, 8, 9]), (44, 1, .iadd, []), (45, 3, .if_icmp .le 22, []), (48, 1, .aload_n 0, []), (49, 3, .getfield 14, [10, 2]), (52, 1, .iload_n 3, []), (53, 3, .invokevirtual 94, [1, 0, 241]), (56, 1, .pop, []), (57, 1, .aload_n 0, []), (58, 2, .aload 4, []), (60, 3, .getfield 30, [3, 1]), (63, 1, .iconst (-1), [])]
def xk_6_2 : List xEn := [(64, 3, .invokevirtual 87, [2, 2, 81]), (67, 3, .iinc 3 (-1), []), (70, 3, .goto (-60), []), (73, 1, .return_, [])]
def xe_6 : xEl := (xm_6, [xk_6_0, xk_6_1, xk_6_2], [], [])
def xm_7 : xM := (⟨"ViewFoundry$JoinView", "find", "(Ljava/util/ArrayList;I)V"⟩, prog_3_method_6_code, 5, (Option.none : Option Jvm.ClassFile.FieldType), [])
def xk_7_0 : List xEn := [(0, 1, .iconst 0, []), (1, 1, .istore_n 3, []), (2, 1, .iload_n 3, []), (3, 1, .aload_n 1, []), (4, 3, .invokevirtual 52, [0, 0, 235]), (7, 3, .if_icmp .ge 45, []), (10, 1, .aload_n 1, []), (11, 1, .iload_n 3, []), (12, 3, .invokevirtual 56, [1, 0, 238]), (15, 3, .checkcast 21, [1]), (18, 2, .astore 4, []), (20, 1, .aload_n 0, []), (21, 2, .aload 4, []), (23, 3, .invokevirtual 97, [1, 2, 75]), (26, 3, .ifCond .eq 20, []), (29, 1, .aload_n 0, []), (30, 2, .aload 4, [])]
def xk_7_1 : List xEn := [(32, 3, .invokevirtual 45, [1, 2, 84]), (35, 3, .ifCond .ne 11, []), (38, 1, .aload_n 0, []), (39, 1, .aload_n 1, []), (40, 1, .iload_n 3, []), (41, 2, .aload 4, []), (43, 3, .invokevirtual 100, [3, 2, 8]), (46, 3, .iinc 3 1, []), (49, 3, .goto (-47), []), (52, 1, .return_, [])]
def xe_7 : xEl := (xm_7, [xk_7_0, xk_7_1], [], [])
def xm_8 : xM := (⟨"ViewFoundry$JoinView", "findAhead", "(Ljava/util/ArrayList;ILViewFoundry$Entry;)V"⟩, prog_3_method_7_code, 6, (Option.none : Option Jvm.ClassFile.FieldType), [])
def xk_8_0 : List xEn := [(0, 1, .iconst 0, []), (1, 2, .istore 4, []), (3, 2, .iload 4, []), (5, 1, .iload_n 2, []), (6, 3, .if_icmp .ge 81, []), (9, 2, .iload 4, []), (11, 1, .aload_n 1, []), (12, 3, .invokevirtual 52, [0, 0, 235]), (15, 3, .if_icmp .ge 72, []), (18, 1, .aload_n 1, []), (19, 2, .iload 4, []), (21, 3, .invokevirtual 56, [1, 0, 238]), (24, 3, .checkcast 21, [1]), (27, 2, .astore 5, []), (29, 1, .aload_n 3, []), (30, 2, .aload 5, [])]
def xk_8_1 : List xEn := [(32, 1, .aload_n 0, []), (33, 3, .getfield 60, [3, 2, 6, 8, 9]), (36, 3, .invokevirtual 62, [2, 1, 1]), (39, 3, .ifCond .eq 42, []), (42, 1, .aload_n 0, []), (43, 2, .aload 5, []), (45, 3, .invokevirtual 97, [1, 2, 75]), (48, 3, .ifCond .eq 33, []), (51, 1, .aload_n 0, []), (52, 2, .aload 5, []), (54, 3, .invokevirtual 45, [1, 2, 84]), (57, 3, .ifCond .ne 24, []), (60, 1, .aload_n 0, []), (61, 3, .getfield 104, [7, 2, 6, 8, 9])]
def xk_8_2 : List xEn := [(64, 1, .aload_n 0, []), (65, 3, .getfield 104, [7, 2, 6, 8, 9]), (68, 3, .getfield 70, [1, 5]), (71, 1, .aload_n 0, []), (72, 1, .aload_n 3, []), (73, 2, .aload 5, []), (75, 3, .invokevirtual 75, [2, 2, 3]), (78, 3, .invokevirtual 107, [2, 5, 24]), (81, 3, .iinc 4 1, []), (84, 3, .goto (-81), []), (87, 1, .return_, [])]
def xe_8 : xEl := (xm_8, [xk_8_0, xk_8_1, xk_8_2], [], [])
def xm_9 : xM := (⟨"ViewFoundry$JoinView", "emptyOwn", "()V"⟩, prog_3_method_8_code, 1, (Option.none : Option Jvm.ClassFile.FieldType), [])
def xk_9_0 : List xEn := [(0, 1, .aload_n 0, []), (1, 3, .getfield 14, [10, 2]), (4, 3, .invokevirtual 110, [0, 0, 243]), (7, 1, .return_, [])]
def xe_9 : xEl := (xm_9, [xk_9_0], [], [])
def xm_10 : xM := (⟨"ViewFoundry$Outputs", "<init>", "()V"⟩, prog_4_method_1_code, 1, (Option.none : Option Jvm.ClassFile.FieldType), [])
def xk_10_0 : List xEn := [(0, 1, .aload_n 0, []), (1, 3, .invokespecial 3, []), (4, 1, .aload_n 0, []), (5, 2, .bipush 64, []), (7, 2, .newarray .long, [1]), (9, 3, .putfield 9, [0, 2, 3]), (12, 1, .aload_n 0, []), (13, 1, .iconst 0, []), (14, 3, .putfield 15, [1, 0, 3]), (17, 1, .return_, [])]
def xe_10 : xEl := (xm_10, [xk_10_0], [], [])
def xm_11 : xM := (⟨"ViewFoundry$Outputs", "add", "(J)V"⟩, prog_4_method_2_code, 3, (Option.none : Option Jvm.ClassFile.FieldType), [])
def xk_11_0 : List xEn := [(0, 1, .aload_n 0, []), (1, 3, .getfield 15, [1, 3]), (4, 1, .aload_n 0, []), (5, 3, .getfield 9, [0, 3]), (8, 1, .arraylength, []), (9, 3, .if_icmp .lt 35, []), (12, 1, .aload_n 0, []), (13, 3, .getfield 15, [1, 3]), (16, 2, .ldc 19, [0, 320000]), (18, 3, .if_icmp .ge 26, []), (21, 1, .aload_n 0, []), (22, 1, .aload_n 0, []), (23, 3, .getfield 9, [0, 3]), (26, 1, .aload_n 0, []), (27, 3, .getfield 9, [0, 3]), (30, 1, .arraylength, []), (31, 1, .iconst 2, [])]
def xk_11_1 : List xEn := [(32, 1, .imul, []), (33, 2, .ldc 19, [0, 320000]), (35, 3, .invokestatic 20, [2, 226]), (38, 3, .invokestatic 26, [2, 248]), (41, 3, .putfield 9, [0, 2, 3]), (44, 1, .aload_n 0, []), (45, 3, .getfield 15, [1, 3]), (48, 3, .ifCond .lt 35, []), (51, 1, .aload_n 0, []), (52, 3, .getfield 15, [1, 3]), (55, 1, .aload_n 0, []), (56, 3, .getfield 9, [0, 3]), (59, 1, .arraylength, []), (60, 3, .if_icmp .ge 23, []), (63, 1, .aload_n 0, [])]
def xk_11_2 : List xEn := [(64, 3, .getfield 9, [0, 3]), (67, 1, .aload_n 0, []), (68, 3, .getfield 15, [1, 3]), (71, 1, .lload_n 1, []), (72, 1, .lastore, []), (73, 1, .aload_n 0, []), (74, 1, .dup, []), (75, 3, .getfield 15, [1, 3]), (78, 1, .iconst 1, []), (79, 1, .iadd, []), (80, 3, .putfield 15, [1, 0, 3]), (83, 1, .return_, [])]
def xe_11 : xEl := (xm_11, [xk_11_0, xk_11_1, xk_11_2], [], [])
def xm_12 : xM := (⟨"ViewFoundry$Outputs", "at", "(I)J"⟩, prog_4_method_3_code, 2, (Option.some Jvm.ClassFile.FieldType.long), [])
def xk_12_0 : List xEn := [(0, 1, .iload_n 1, []), (1, 3, .ifCond .lt 21, []), (4, 1, .iload_n 1, []), (5, 1, .aload_n 0, []), (6, 3, .getfield 9, [0, 3]), (9, 1, .arraylength, []), (10, 3, .if_icmp .ge 12, []), (13, 1, .aload_n 0, []), (14, 3, .getfield 9, [0, 3]), (17, 1, .iload_n 1, []), (18, 1, .laload, []), (19, 3, .goto 4, []), (22, 1, .lconst 0, []), (23, 1, .lreturn, [])]
def xe_12 : xEl := (xm_12, [xk_12_0], [], [])
def xm_13 : xM := (⟨"ViewFoundry$Part", "<init>", "()V"⟩, prog_5_method_1_code, 1, (Option.none : Option Jvm.ClassFile.FieldType), [])
def xk_13_0 : List xEn := [(0, 1, .aload_n 0, []), (1, 3, .invokespecial 3, []), (4, 1, .aload_n 0, []), (5, 3, .new 9, [0, 0, 2, 0]), (8, 1, .dup, []), (9, 3, .invokespecial 11, [0, 232]), (12, 3, .putfield 12, [0, 2, 4]), (15, 1, .aload_n 0, []), (16, 1, .iconst 0, []), (17, 3, .putfield 18, [1, 0, 4]), (20, 1, .aload_n 0, []), (21, 1, .iconst (-1), []), (22, 3, .putfield 22, [2, 0, 4]), (25, 1, .aload_n 0, []), (26, 1, .iconst 0, []), (27, 3, .putfield 25, [3, 0, 4]), (30, 1, .return_, [])]
def xe_13 : xEl := (xm_13, [xk_13_0], [], [])
def xm_14 : xM := (⟨"ViewFoundry$Result", "of", "(IIIII)J"⟩, prog_6_method_2_code, 5, (Option.some Jvm.ClassFile.FieldType.long), [])
def xk_14_0 : List xEn := [(0, 3, .ldc2_w 9, [1, 576460752303423488]), (3, 1, .iload_n 0, []), (4, 2, .bipush 7, []), (6, 1, .iand, []), (7, 1, .i2l, []), (8, 2, .bipush 56, []), (10, 1, .lshl, []), (11, 1, .lor, []), (12, 1, .iload_n 1, []), (13, 2, .bipush 7, []), (15, 1, .iand, []), (16, 1, .i2l, []), (17, 2, .bipush 53, []), (19, 1, .lshl, []), (20, 1, .lor, []), (21, 1, .iload_n 2, []), (22, 3, .sipush 1023, []), (25, 1, .iand, []), (26, 1, .i2l, []), (27, 2, .bipush 43, []), (29, 1, .lshl, []), (30, 1, .lor, []), (31, 1, .iload_n 3, [])]
def xk_14_1 : List xEn := [(32, 1, .iconst 1, []), (33, 1, .iadd, []), (34, 3, .sipush 2047, []), (37, 1, .iand, []), (38, 1, .i2l, []), (39, 2, .bipush 32, []), (41, 1, .lshl, []), (42, 1, .lor, []), (43, 2, .iload 4, []), (45, 1, .i2l, []), (46, 3, .ldc2_w 11, [1, 4294967295]), (49, 1, .land, []), (50, 1, .lor, []), (51, 1, .lreturn, [])]
def xe_14 : xEl := (xm_14, [xk_14_0, xk_14_1], [], [])
def xm_15 : xM := (⟨"ViewFoundry$Result", "viewIn", "(J)I"⟩, prog_6_method_3_code, 2, (Option.some Jvm.ClassFile.FieldType.int), [])
def xk_15_0 : List xEn := [(0, 1, .lload_n 0, []), (1, 2, .bipush 56, []), (3, 1, .lushr, []), (4, 1, .l2i, []), (5, 2, .bipush 7, []), (7, 1, .iand, []), (8, 1, .ireturn, [])]
def xe_15 : xEl := (xm_15, [xk_15_0], [], [])
def xm_16 : xM := (⟨"ViewFoundry$Result", "keyIn", "(J)I"⟩, prog_6_method_4_code, 2, (Option.some Jvm.ClassFile.FieldType.int), [])
def xk_16_0 : List xEn := [(0, 1, .lload_n 0, []), (1, 2, .bipush 53, []), (3, 1, .lushr, []), (4, 1, .l2i, []), (5, 2, .bipush 7, []), (7, 1, .iand, []), (8, 1, .ireturn, [])]
def xe_16 : xEl := (xm_16, [xk_16_0], [], [])
def xm_17 : xM := (⟨"ViewFoundry$Result", "fromIn", "(J)I"⟩, prog_6_method_5_code, 2, (Option.some Jvm.ClassFile.FieldType.int), [])
def xk_17_0 : List xEn := [(0, 1, .lload_n 0, []), (1, 2, .bipush 43, []), (3, 1, .lushr, []), (4, 1, .l2i, []), (5, 3, .sipush 1023, []), (8, 1, .iand, []), (9, 1, .ireturn, [])]
def xe_17 : xEl := (xm_17, [xk_17_0], [], [])
def xm_18 : xM := (⟨"ViewFoundry$Result", "toIn", "(J)I"⟩, prog_6_method_6_code, 2, (Option.some Jvm.ClassFile.FieldType.int), [])
def xk_18_0 : List xEn := [(0, 1, .lload_n 0, []), (1, 2, .bipush 32, []), (3, 1, .lushr, []), (4, 1, .l2i, []), (5, 3, .sipush 2047, []), (8, 1, .iand, []), (9, 1, .iconst 1, []), (10, 1, .isub, []), (11, 1, .ireturn, [])]
def xe_18 : xEl := (xm_18, [xk_18_0], [], [])
def xm_19 : xM := (⟨"ViewFoundry$Result", "valueIn", "(J)I"⟩, prog_6_method_7_code, 2, (Option.some Jvm.ClassFile.FieldType.int), [])
def xk_19_0 : List xEn := [(0, 1, .lload_n 0, []), (1, 1, .l2i, []), (2, 1, .ireturn, [])]
def xe_19 : xEl := (xm_19, [xk_19_0], [], [])
def xm_20 : xM := (⟨"ViewFoundry$Result", "signIn", "(J)I"⟩, prog_6_method_8_code, 2, (Option.some Jvm.ClassFile.FieldType.int), [])
def xk_20_0 : List xEn := [(0, 1, .lload_n 0, []), (1, 3, .ldc2_w 13, [1, 1152921504606846976]), (4, 1, .land, []), (5, 1, .lconst 0, []), (6, 1, .lcmp, []), (7, 3, .ifCond .ne 7, []), (10, 1, .iconst 1, []), (11, 3, .goto 4, []), (14, 1, .iconst (-1), []), (15, 1, .ireturn, [])]
def xe_20 : xEl := (xm_20, [xk_20_0], [], [])
def xm_21 : xM := (⟨"ViewFoundry$Result", "detail", "(JI)I"⟩, prog_6_method_9_code, 3, (Option.some Jvm.ClassFile.FieldType.int), [])
def xk_21_0 : List xEn := [(0, 1, .iload_n 2, []), (1, 35, .tableswitch 60 0 4 #[35, 40, 45, 50, 55], [])]
def xk_21_1 : List xEn := [(36, 1, .lload_n 0, []), (37, 3, .invokestatic 15, [1, 15]), (40, 1, .ireturn, []), (41, 1, .lload_n 0, []), (42, 3, .invokestatic 19, [1, 16]), (45, 1, .ireturn, []), (46, 1, .lload_n 0, []), (47, 3, .invokestatic 22, [1, 17]), (50, 1, .ireturn, []), (51, 1, .lload_n 0, []), (52, 3, .invokestatic 25, [1, 18]), (55, 1, .ireturn, []), (56, 1, .lload_n 0, []), (57, 3, .invokestatic 28, [1, 19]), (60, 1, .ireturn, []), (61, 1, .lload_n 0, []), (62, 3, .invokestatic 31, [1, 20])]
def xk_21_2 : List xEn := [(65, 1, .ireturn, [])]
def xe_21 : xEl := (xm_21, [xk_21_0, xk_21_1, xk_21_2], [], [])
def xm_22 : xM := (⟨"ViewFoundry$Results", "<init>", "(I)V"⟩, prog_7_method_1_code, 2, (Option.none : Option Jvm.ClassFile.FieldType), [])
def xk_22_0 : List xEn := [(0, 1, .aload_n 0, []), (1, 3, .invokespecial 3, []), (4, 1, .aload_n 0, []), (5, 1, .iconst 0, []), (6, 3, .putfield 9, [1, 0, 5]), (9, 1, .aload_n 0, []), (10, 1, .iload_n 1, []), (11, 1, .iconst 1, []), (12, 3, .invokestatic 15, [2, 225]), (15, 2, .newarray .long, [1]), (17, 3, .putfield 21, [0, 2, 5]), (20, 1, .return_, [])]
def xe_22 : xEl := (xm_22, [xk_22_0], [], [])
def xm_23 : xM := (⟨"ViewFoundry$Results", "at", "(I)J"⟩, prog_7_method_2_code, 2, (Option.some Jvm.ClassFile.FieldType.long), [])
def xk_23_0 : List xEn := [(0, 1, .iload_n 1, []), (1, 3, .ifCond .lt 21, []), (4, 1, .iload_n 1, []), (5, 1, .aload_n 0, []), (6, 3, .getfield 21, [0, 5]), (9, 1, .arraylength, []), (10, 3, .if_icmp .ge 12, []), (13, 1, .aload_n 0, []), (14, 3, .getfield 21, [0, 5]), (17, 1, .iload_n 1, []), (18, 1, .laload, []), (19, 3, .goto 4, []), (22, 1, .lconst 0, []), (23, 1, .lreturn, [])]
def xe_23 : xEl := (xm_23, [xk_23_0], [], [])
def xm_24 : xM := (⟨"ViewFoundry$Results", "put", "(IJ)V"⟩, prog_7_method_3_code, 4, (Option.none : Option Jvm.ClassFile.FieldType), [])
def xk_24_0 : List xEn := [(0, 1, .iload_n 1, []), (1, 3, .ifCond .lt 44, []), (4, 1, .iload_n 1, []), (5, 1, .aload_n 0, []), (6, 3, .getfield 21, [0, 5]), (9, 1, .arraylength, []), (10, 3, .if_icmp .ge 35, []), (13, 1, .aload_n 0, []), (14, 1, .dup, []), (15, 3, .getfield 9, [1, 5]), (18, 1, .aload_n 0, []), (19, 3, .getfield 21, [0, 5]), (22, 1, .iload_n 1, []), (23, 1, .laload, []), (24, 1, .lconst 0, []), (25, 1, .lcmp, []), (26, 3, .ifCond .ne 7, []), (29, 1, .iconst 1, []), (30, 3, .goto 4, [])]
def xk_24_1 : List xEn := [(33, 1, .iconst 0, []), (34, 1, .iadd, []), (35, 3, .putfield 9, [1, 0, 5]), (38, 1, .aload_n 0, []), (39, 3, .getfield 21, [0, 5]), (42, 1, .iload_n 1, []), (43, 1, .lload_n 2, []), (44, 1, .lastore, []), (45, 1, .return_, [])]
def xe_24 : xEl := (xm_24, [xk_24_0, xk_24_1], [], [])
def xm_25 : xM := (⟨"ViewFoundry$Results", "clear", "(I)V"⟩, prog_7_method_4_code, 2, (Option.none : Option Jvm.ClassFile.FieldType), [])
def xk_25_0 : List xEn := [(0, 1, .iload_n 1, []), (1, 3, .ifCond .lt 44, []), (4, 1, .iload_n 1, []), (5, 1, .aload_n 0, []), (6, 3, .getfield 21, [0, 5]), (9, 1, .arraylength, []), (10, 3, .if_icmp .ge 35, []), (13, 1, .aload_n 0, []), (14, 1, .dup, []), (15, 3, .getfield 9, [1, 5]), (18, 1, .aload_n 0, []), (19, 3, .getfield 21, [0, 5]), (22, 1, .iload_n 1, []), (23, 1, .laload, []), (24, 1, .lconst 0, []), (25, 1, .lcmp, []), (26, 3, .ifCond .ne 7, []), (29, 1, .iconst 0, []), (30, 3, .goto 4, [])]
def xk_25_1 : List xEn := [(33, 1, .iconst 1, []), (34, 1, .isub, []), (35, 3, .putfield 9, [1, 0, 5]), (38, 1, .aload_n 0, []), (39, 3, .getfield 21, [0, 5]), (42, 1, .iload_n 1, []), (43, 1, .lconst 0, []), (44, 1, .lastore, []), (45, 1, .return_, [])]
def xe_25 : xEl := (xm_25, [xk_25_0, xk_25_1], [], [])
def xm_26 : xM := (⟨"ViewFoundry$Results", "clearAll", "()V"⟩, prog_7_method_5_code, 1, (Option.none : Option Jvm.ClassFile.FieldType), [])
def xk_26_0 : List xEn := [(0, 1, .aload_n 0, []), (1, 3, .getfield 21, [0, 5]), (4, 1, .lconst 0, []), (5, 3, .invokestatic 27, [2, 244]), (8, 1, .aload_n 0, []), (9, 1, .iconst 0, []), (10, 3, .putfield 9, [1, 0, 5]), (13, 1, .return_, [])]
def xe_26 : xEl := (xm_26, [xk_26_0], [], [])
def xm_27 : xM := (⟨"ViewFoundry$Results", "contains", "(III)Z"⟩, prog_7_method_6_code, 6, (Option.some Jvm.ClassFile.FieldType.boolean), [])
def xk_27_0 : List xEn := [(0, 1, .iconst 0, []), (1, 2, .istore 4, []), (3, 1, .iconst 0, []), (4, 2, .istore 5, []), (6, 2, .iload 5, []), (8, 1, .aload_n 0, []), (9, 3, .getfield 21, [0, 5]), (12, 1, .arraylength, []), (13, 3, .if_icmp .ge 29, []), (16, 2, .iload 4, []), (18, 3, .ifCond .ne 24, []), (21, 1, .aload_n 0, []), (22, 3, .getfield 21, [0, 5]), (25, 2, .iload 5, []), (27, 1, .laload, []), (28, 1, .iload_n 1, []), (29, 1, .iload_n 2, []), (30, 1, .iload_n 3, []), (31, 3, .invokestatic 33, [4, 34])]
def xk_27_1 : List xEn := [(34, 2, .istore 4, []), (36, 3, .iinc 5 1, []), (39, 3, .goto (-33), []), (42, 2, .iload 4, []), (44, 1, .ireturn, [])]
def xe_27 : xEl := (xm_27, [xk_27_0, xk_27_1], [], [])
def xm_28 : xM := (⟨"ViewFoundry$Results", "sumOf", "(III)I"⟩, prog_7_method_7_code, 6, (Option.some Jvm.ClassFile.FieldType.int), [])
def xk_28_0 : List xEn := [(0, 1, .iconst 0, []), (1, 2, .istore 4, []), (3, 1, .iconst 0, []), (4, 2, .istore 5, []), (6, 2, .iload 5, []), (8, 1, .aload_n 0, []), (9, 3, .getfield 21, [0, 5]), (12, 1, .arraylength, []), (13, 3, .if_icmp .ge 40, []), (16, 1, .aload_n 0, []), (17, 3, .getfield 21, [0, 5]), (20, 2, .iload 5, []), (22, 1, .laload, []), (23, 1, .iload_n 1, []), (24, 1, .iload_n 2, []), (25, 1, .iload_n 3, []), (26, 3, .invokestatic 33, [4, 34]), (29, 3, .ifCond .eq 18, [])]
def xk_28_1 : List xEn := [(32, 2, .iload 4, []), (34, 1, .aload_n 0, []), (35, 3, .getfield 21, [0, 5]), (38, 2, .iload 5, []), (40, 1, .laload, []), (41, 3, .invokestatic 37, [1, 19]), (44, 1, .iadd, []), (45, 2, .istore 4, []), (47, 3, .iinc 5 1, []), (50, 3, .goto (-44), []), (53, 2, .iload 4, []), (55, 1, .ireturn, [])]
def xe_28 : xEl := (xm_28, [xk_28_0, xk_28_1], [], [])
def xm_29 : xM := (⟨"ViewFoundry$Results", "countOf", "(I)I"⟩, prog_7_method_8_code, 4, (Option.some Jvm.ClassFile.FieldType.int), [])
def xk_29_0 : List xEn := [(0, 1, .iconst 0, []), (1, 1, .istore_n 2, []), (2, 1, .iconst 0, []), (3, 1, .istore_n 3, []), (4, 1, .iload_n 3, []), (5, 1, .aload_n 0, []), (6, 3, .getfield 21, [0, 5]), (9, 1, .arraylength, []), (10, 3, .if_icmp .ge 25, []), (13, 1, .aload_n 0, []), (14, 3, .getfield 21, [0, 5]), (17, 1, .iload_n 3, []), (18, 1, .laload, []), (19, 1, .iload_n 1, []), (20, 3, .invokestatic 41, [2, 33]), (23, 3, .ifCond .eq 6, []), (26, 3, .iinc 2 1, []), (29, 3, .iinc 3 1, [])]
def xk_29_1 : List xEn := [(32, 3, .goto (-28), []), (35, 1, .iload_n 2, []), (36, 1, .ireturn, [])]
def xe_29 : xEl := (xm_29, [xk_29_0, xk_29_1], [], [])
def xm_30 : xM := (⟨"ViewFoundry$Results", "totalOf", "(I)J"⟩, prog_7_method_9_code, 5, (Option.some Jvm.ClassFile.FieldType.long), [])
def xk_30_0 : List xEn := [(0, 1, .lconst 0, []), (1, 1, .lstore_n 2, []), (2, 1, .iconst 0, []), (3, 2, .istore 4, []), (5, 2, .iload 4, []), (7, 1, .aload_n 0, []), (8, 3, .getfield 21, [0, 5]), (11, 1, .arraylength, []), (12, 3, .if_icmp .ge 37, []), (15, 1, .aload_n 0, []), (16, 3, .getfield 21, [0, 5]), (19, 2, .iload 4, []), (21, 1, .laload, []), (22, 1, .iload_n 1, []), (23, 3, .invokestatic 41, [2, 33]), (26, 3, .ifCond .eq 17, []), (29, 1, .lload_n 2, []), (30, 1, .aload_n 0, []), (31, 3, .getfield 21, [0, 5])]
def xk_30_1 : List xEn := [(34, 2, .iload 4, []), (36, 1, .laload, []), (37, 3, .invokestatic 37, [1, 19]), (40, 1, .i2l, []), (41, 1, .ladd, []), (42, 1, .lstore_n 2, []), (43, 3, .iinc 4 1, []), (46, 3, .goto (-41), []), (49, 1, .lload_n 2, []), (50, 1, .lreturn, [])]
def xe_30 : xEl := (xm_30, [xk_30_0, xk_30_1], [], [])
def xm_31 : xM := (⟨"ViewFoundry$Results", "leastFromOf", "(I)I"⟩, prog_7_method_10_code, 4, (Option.some Jvm.ClassFile.FieldType.int), [])
def xk_31_0 : List xEn := [(0, 3, .sipush 1000, []), (3, 1, .istore_n 2, []), (4, 1, .iconst 0, []), (5, 1, .istore_n 3, []), (6, 1, .iload_n 3, []), (7, 1, .aload_n 0, []), (8, 3, .getfield 21, [0, 5]), (11, 1, .arraylength, []), (12, 3, .if_icmp .ge 36, []), (15, 1, .aload_n 0, []), (16, 3, .getfield 21, [0, 5]), (19, 1, .iload_n 3, []), (20, 1, .laload, []), (21, 1, .iload_n 1, []), (22, 3, .invokestatic 41, [2, 33]), (25, 3, .ifCond .eq 17, []), (28, 1, .iload_n 2, []), (29, 1, .aload_n 0, []), (30, 3, .getfield 21, [0, 5])]
def xk_31_1 : List xEn := [(33, 1, .iload_n 3, []), (34, 1, .laload, []), (35, 3, .invokestatic 45, [1, 17]), (38, 3, .invokestatic 48, [2, 226]), (41, 1, .istore_n 2, []), (42, 3, .iinc 3 1, []), (45, 3, .goto (-39), []), (48, 1, .iload_n 2, []), (49, 1, .ireturn, [])]
def xe_31 : xEl := (xm_31, [xk_31_0, xk_31_1], [], [])
def xm_32 : xM := (⟨"ViewFoundry$Results", "isSameAs", "(LViewFoundry$Results;)Z"⟩, prog_7_method_11_code, 4, (Option.some Jvm.ClassFile.FieldType.boolean), [])
def xk_32_0 : List xEn := [(0, 1, .aload_n 0, []), (1, 3, .getfield 9, [1, 5]), (4, 1, .aload_n 1, []), (5, 3, .getfield 9, [1, 5]), (8, 3, .if_icmp .ne 20, []), (11, 1, .aload_n 0, []), (12, 3, .getfield 21, [0, 5]), (15, 1, .arraylength, []), (16, 1, .aload_n 1, []), (17, 3, .getfield 21, [0, 5]), (20, 1, .arraylength, []), (21, 3, .if_icmp .ne 7, []), (24, 1, .iconst 1, []), (25, 3, .goto 4, []), (28, 1, .iconst 0, []), (29, 1, .istore_n 2, []), (30, 1, .iconst 0, []), (31, 1, .istore_n 3, [])]
def xk_32_1 : List xEn := [(32, 1, .iload_n 3, []), (33, 1, .aload_n 0, []), (34, 3, .getfield 21, [0, 5]), (37, 1, .arraylength, []), (38, 3, .if_icmp .ge 34, []), (41, 1, .iload_n 2, []), (42, 3, .ifCond .eq 30, []), (45, 1, .aload_n 0, []), (46, 3, .getfield 21, [0, 5]), (49, 1, .iload_n 3, []), (50, 1, .laload, []), (51, 1, .aload_n 1, []), (52, 1, .iload_n 3, []), (53, 3, .invokevirtual 51, [1, 5, 23]), (56, 1, .lcmp, []), (57, 3, .ifCond .ne 7, []), (60, 1, .iconst 1, []), (61, 3, .goto 4, [])]
def xk_32_2 : List xEn := [(64, 1, .iconst 0, []), (65, 1, .istore_n 2, []), (66, 3, .iinc 3 1, []), (69, 3, .goto (-37), []), (72, 1, .iload_n 2, []), (73, 1, .ireturn, [])]
def xe_32 : xEl := (xm_32, [xk_32_0, xk_32_1, xk_32_2], [], [])
def xm_33 : xM := (⟨"ViewFoundry$Results", "hasKey", "(JI)Z"⟩, prog_7_method_12_code, 3, (Option.some Jvm.ClassFile.FieldType.boolean), [])
def xk_33_0 : List xEn := [(0, 1, .lload_n 0, []), (1, 1, .lconst 0, []), (2, 1, .lcmp, []), (3, 3, .ifCond .eq 15, []), (6, 1, .lload_n 0, []), (7, 3, .invokestatic 55, [1, 16]), (10, 1, .iload_n 2, []), (11, 3, .if_icmp .ne 7, []), (14, 1, .iconst 1, []), (15, 3, .goto 4, []), (18, 1, .iconst 0, []), (19, 1, .ireturn, [])]
def xe_33 : xEl := (xm_33, [xk_33_0], [], [])
def xm_34 : xM := (⟨"ViewFoundry$Results", "isOf", "(JIII)Z"⟩, prog_7_method_13_code, 5, (Option.some Jvm.ClassFile.FieldType.boolean), [])
def xk_34_0 : List xEn := [(0, 1, .lload_n 0, []), (1, 1, .iload_n 2, []), (2, 3, .invokestatic 41, [2, 33]), (5, 3, .ifCond .eq 24, []), (8, 1, .lload_n 0, []), (9, 3, .invokestatic 45, [1, 17]), (12, 1, .iload_n 3, []), (13, 3, .if_icmp .ne 16, []), (16, 1, .lload_n 0, []), (17, 3, .invokestatic 58, [1, 18]), (20, 2, .iload 4, []), (22, 3, .if_icmp .ne 7, []), (25, 1, .iconst 1, []), (26, 3, .goto 4, []), (29, 1, .iconst 0, []), (30, 1, .ireturn, [])]
def xe_34 : xEl := (xm_34, [xk_34_0], [], [])
def xm_35 : xM := (⟨"ViewFoundry$SessionView", "<init>", "(ICCIILViewFoundry$Outputs;)V"⟩, prog_8_method_1_code, 7, (Option.none : Option Jvm.ClassFile.FieldType), [])
def xk_35_0 : List xEn := [(0, 1, .aload_n 0, []), (1, 1, .iload_n 1, []), (2, 1, .iconst 0, []), (3, 1, .iload_n 3, []), (4, 2, .iload 4, []), (6, 2, .iload 5, []), (8, 2, .aload 6, []), (10, 3, .sipush 8000, []), (13, 3, .invokespecial 5, [7, 74]), (16, 1, .aload_n 0, []), (17, 3, .new 11, [7, 2, 2, 2]), (20, 1, .dup, []), (21, 3, .sipush 8001, []), (24, 3, .invokespecial 13, [1, 51]), (27, 3, .putfield 16, [11, 2, 6]), (30, 1, .aload_n 0, []), (31, 3, .new 11, [7, 2, 2, 2])]
def xk_35_1 : List xEn := [(34, 1, .dup, []), (35, 3, .sipush 8000, []), (38, 3, .invokespecial 13, [1, 51]), (41, 3, .putfield 20, [12, 2, 6]), (44, 1, .aload_n 0, []), (45, 3, .sipush 8000, []), (48, 2, .newarray .int, [0]), (50, 3, .putfield 23, [13, 2, 6]), (53, 1, .aload_n 0, []), (54, 1, .iconst 2, []), (55, 2, .newarray .int, [0]), (57, 3, .putfield 27, [14, 2, 6]), (60, 1, .aload_n 0, []), (61, 1, .iload_n 2, []), (62, 3, .putfield 30, [10, 4, 6])]
def xk_35_2 : List xEn := [(65, 1, .return_, [])]
def xe_35 : xEl := (xm_35, [xk_35_0, xk_35_1, xk_35_2], [], [])
def xm_36 : xM := (⟨"ViewFoundry$SessionView", "slotOf", "(II)I"⟩, prog_8_method_2_code, 2, (Option.some Jvm.ClassFile.FieldType.int), [])
def xk_36_0 : List xEn := [(0, 1, .iload_n 0, []), (1, 2, .bipush 8, []), (3, 1, .imul, []), (4, 1, .iload_n 1, []), (5, 1, .iadd, []), (6, 1, .ireturn, [])]
def xe_36 : xEl := (xm_36, [xk_36_0], [], [])
def xm_37 : xM := (⟨"ViewFoundry$SessionView", "lastOf", "(I)I"⟩, prog_8_method_3_code, 1, (Option.some Jvm.ClassFile.FieldType.int), [])
def xk_37_0 : List xEn := [(0, 1, .iload_n 0, []), (1, 2, .bipush 8, []), (3, 1, .idiv, []), (4, 1, .ireturn, [])]
def xe_37 : xEl := (xm_37, [xk_37_0], [], [])
def xm_38 : xM := (⟨"ViewFoundry$SessionView", "firstOf", "(I)I"⟩, prog_8_method_4_code, 2, (Option.some Jvm.ClassFile.FieldType.int), [])
def xk_38_0 : List xEn := [(0, 1, .iload_n 1, []), (1, 3, .ifCond .lt 21, []), (4, 1, .iload_n 1, []), (5, 1, .aload_n 0, []), (6, 3, .getfield 23, [13, 6]), (9, 1, .arraylength, []), (10, 3, .if_icmp .ge 12, []), (13, 1, .aload_n 0, []), (14, 3, .getfield 23, [13, 6]), (17, 1, .iload_n 1, []), (18, 1, .iaload, []), (19, 3, .goto 4, []), (22, 1, .iconst 0, []), (23, 1, .ireturn, [])]
def xe_38 : xEl := (xm_38, [xk_38_0], [], [])
def xm_39 : xM := (⟨"ViewFoundry$SessionView", "isReached", "(II)Z"⟩, prog_8_method_5_code, 3, (Option.some Jvm.ClassFile.FieldType.boolean), [])
def xk_39_0 : List xEn := [(0, 1, .aload_n 0, []), (1, 3, .getfield 16, [11, 6]), (4, 1, .iload_n 1, []), (5, 3, .invokevirtual 34, [1, 7, 53]), (8, 3, .ifCond .eq 34, []), (11, 1, .aload_n 0, []), (12, 1, .iload_n 1, []), (13, 3, .invokevirtual 38, [1, 6, 38]), (16, 1, .aload_n 0, []), (17, 3, .getfield 42, [3, 2, 6, 8, 9]), (20, 1, .isub, []), (21, 1, .iload_n 2, []), (22, 3, .if_icmp .gt 20, []), (25, 1, .iload_n 1, []), (26, 3, .invokestatic 46, [1, 37]), (29, 1, .aload_n 0, []), (30, 3, .getfield 42, [3, 2, 6, 8, 9])]
def xk_39_1 : List xEn := [(33, 1, .iadd, []), (34, 1, .iload_n 2, []), (35, 3, .if_icmp .lt 7, []), (38, 1, .iconst 1, []), (39, 3, .goto 4, []), (42, 1, .iconst 0, []), (43, 1, .ireturn, [])]
def xe_39 : xEl := (xm_39, [xk_39_0, xk_39_1], [], [])
def xm_40 : xM := (⟨"ViewFoundry$SessionView", "resultOf", "(I)J"⟩, prog_8_method_6_code, 3, (Option.some Jvm.ClassFile.FieldType.long), [])
def xk_40_0 : List xEn := [(0, 1, .iload_n 1, []), (1, 2, .bipush 8, []), (3, 1, .irem, []), (4, 1, .istore_n 2, []), (5, 1, .aload_n 0, []), (6, 3, .getfield 49, [0, 2, 6, 8, 9]), (9, 1, .iload_n 2, []), (10, 1, .aload_n 0, []), (11, 1, .iload_n 1, []), (12, 3, .invokevirtual 38, [1, 6, 38]), (15, 1, .iload_n 1, []), (16, 3, .invokestatic 46, [1, 37]), (19, 1, .aload_n 0, []), (20, 3, .getfield 16, [11, 6]), (23, 1, .iload_n 1, []), (24, 1, .aload_n 0, []), (25, 3, .getfield 30, [10, 6]), (28, 3, .invokevirtual 52, [2, 7, 58]), (31, 3, .invokestatic 56, [5, 14])]
def xk_40_1 : List xEn := [(34, 1, .lreturn, [])]
def xe_40 : xEl := (xm_40, [xk_40_0, xk_40_1], [], [])
def xm_41 : xM := (⟨"ViewFoundry$SessionView", "take", "(LViewFoundry$Entry;)V"⟩, prog_8_method_7_code, 4, (Option.none : Option Jvm.ClassFile.FieldType), [])
def xk_41_0 : List xEn := [(0, 1, .aload_n 0, []), (1, 1, .aload_n 1, []), (2, 3, .invokevirtual 62, [1, 6, 84]), (5, 3, .ifCond .eq 14, []), (8, 1, .aload_n 0, []), (9, 1, .dup, []), (10, 3, .getfield 66, [9, 2, 6, 8, 9]), (13, 1, .iconst 1, []), (14, 1, .iadd, []), (15, 3, .putfield 66, [9, 0, 2, 6, 8, 9]), (18, 1, .return_, []), (19, 1, .aload_n 0, []), (20, 1, .aload_n 1, []), (21, 3, .invokevirtual 69, [1, 6, 42]), (24, 1, .istore_n 2, []), (25, 1, .aload_n 0, []), (26, 1, .aload_n 1, []), (27, 1, .iload_n 2, []), (28, 3, .invokevirtual 73, [2, 6, 43]), (31, 1, .istore_n 3, [])]
def xk_41_1 : List xEn := [(32, 1, .aload_n 0, []), (33, 1, .aload_n 1, []), (34, 3, .getfield 77, [3, 1]), (37, 1, .iconst 1, []), (38, 1, .iload_n 2, []), (39, 1, .isub, []), (40, 3, .invokevirtual 82, [2, 6, 81]), (43, 1, .aload_n 0, []), (44, 1, .aload_n 1, []), (45, 1, .iload_n 2, []), (46, 1, .iload_n 3, []), (47, 3, .invokevirtual 86, [3, 6, 44]), (50, 1, .return_, [])]
def xe_41 : xEl := (xm_41, [xk_41_0, xk_41_1], [], [])
def xm_42 : xM := (⟨"ViewFoundry$SessionView", "lookForJoined", "(LViewFoundry$Entry;)I"⟩, prog_8_method_8_code, 5, (Option.some Jvm.ClassFile.FieldType.int), [])
def xk_42_0 : List xEn := [(0, 1, .iconst 0, []), (1, 1, .istore_n 2, []), (2, 1, .iconst 0, []), (3, 1, .aload_n 1, []), (4, 3, .getfield 90, [4, 1]), (7, 1, .aload_n 0, []), (8, 3, .getfield 42, [3, 2, 6, 8, 9]), (11, 1, .isub, []), (12, 3, .invokestatic 93, [2, 225]), (15, 1, .istore_n 3, []), (16, 1, .iload_n 3, []), (17, 3, .sipush 1000, []), (20, 3, .if_icmp .ge 52, []), (23, 1, .iload_n 2, []), (24, 1, .aload_n 0, []), (25, 3, .getfield 27, [14, 6]), (28, 1, .arraylength, []), (29, 3, .if_icmp .ge 43, [])]
def xk_42_1 : List xEn := [(32, 1, .iload_n 3, []), (33, 1, .aload_n 1, []), (34, 3, .getfield 77, [3, 1]), (37, 3, .invokestatic 99, [2, 36]), (40, 2, .istore 4, []), (42, 1, .aload_n 0, []), (43, 2, .iload 4, []), (45, 1, .aload_n 1, []), (46, 3, .getfield 90, [4, 1]), (49, 3, .invokevirtual 102, [2, 6, 39]), (52, 3, .ifCond .eq 14, []), (55, 1, .aload_n 0, []), (56, 3, .getfield 27, [14, 6]), (59, 1, .iload_n 2, []), (60, 2, .iload 4, []), (62, 1, .iastore, []), (63, 3, .iinc 2 1, [])]
def xk_42_2 : List xEn := [(66, 3, .iinc 3 1, []), (69, 3, .goto (-53), []), (72, 1, .iload_n 2, []), (73, 1, .ireturn, [])]
def xe_42 : xEl := (xm_42, [xk_42_0, xk_42_1, xk_42_2], [], [])
def xm_43 : xM := (⟨"ViewFoundry$SessionView", "join", "(LViewFoundry$Entry;I)I"⟩, prog_8_method_9_code, 6, (Option.some Jvm.ClassFile.FieldType.int), [])
def xk_43_0 : List xEn := [(0, 1, .aload_n 1, []), (1, 3, .getfield 90, [4, 1]), (4, 1, .istore_n 3, []), (5, 1, .aload_n 1, []), (6, 3, .getfield 90, [4, 1]), (9, 2, .istore 4, []), (11, 1, .aload_n 0, []), (12, 3, .getfield 16, [11, 6]), (15, 3, .sipush 8000, []), (18, 3, .invokevirtual 106, [1, 7, 56]), (21, 1, .aload_n 0, []), (22, 3, .getfield 16, [11, 6]), (25, 3, .sipush 8000, []), (28, 1, .aload_n 1, []), (29, 3, .getfield 109, [5, 1])]
def xk_43_1 : List xEn := [(32, 3, .invokevirtual 112, [2, 7, 54]), (35, 1, .iconst 0, []), (36, 2, .istore 5, []), (38, 2, .iload 5, []), (40, 1, .iload_n 2, []), (41, 3, .if_icmp .ge 83, []), (44, 2, .iload 5, []), (46, 1, .aload_n 0, []), (47, 3, .getfield 27, [14, 6]), (50, 1, .arraylength, []), (51, 3, .if_icmp .ge 73, []), (54, 1, .iload_n 3, []), (55, 1, .aload_n 0, []), (56, 1, .aload_n 0, []), (57, 3, .getfield 27, [14, 6]), (60, 2, .iload 5, []), (62, 1, .iaload, []), (63, 3, .invokevirtual 38, [1, 6, 38])]
def xk_43_2 : List xEn := [(66, 3, .invokestatic 115, [2, 226]), (69, 1, .istore_n 3, []), (70, 2, .iload 4, []), (72, 1, .aload_n 0, []), (73, 3, .getfield 27, [14, 6]), (76, 2, .iload 5, []), (78, 1, .iaload, []), (79, 3, .invokestatic 46, [1, 37]), (82, 3, .invokestatic 93, [2, 225]), (85, 2, .istore 4, []), (87, 1, .aload_n 0, []), (88, 3, .getfield 16, [11, 6]), (91, 3, .sipush 8000, []), (94, 1, .aload_n 0, []), (95, 3, .getfield 27, [14, 6])]
def xk_43_3 : List xEn := [(98, 2, .iload 5, []), (100, 1, .iaload, []), (101, 3, .invokevirtual 118, [2, 7, 55]), (104, 1, .aload_n 0, []), (105, 3, .getfield 16, [11, 6]), (108, 1, .aload_n 0, []), (109, 3, .getfield 27, [14, 6]), (112, 2, .iload 5, []), (114, 1, .iaload, []), (115, 3, .invokevirtual 106, [1, 7, 56]), (118, 3, .iinc 5 1, []), (121, 3, .goto (-83), []), (124, 2, .iload 4, []), (126, 1, .aload_n 1, []), (127, 3, .getfield 77, [3, 1])]
def xk_43_4 : List xEn := [(130, 3, .invokestatic 99, [2, 36]), (133, 2, .istore 5, []), (135, 1, .aload_n 0, []), (136, 3, .getfield 16, [11, 6]), (139, 2, .iload 5, []), (141, 3, .sipush 8000, []), (144, 3, .invokevirtual 118, [2, 7, 55]), (147, 2, .iload 5, []), (149, 3, .ifCond .lt 21, []), (152, 2, .iload 5, []), (154, 1, .aload_n 0, []), (155, 3, .getfield 23, [13, 6]), (158, 1, .arraylength, []), (159, 3, .if_icmp .ge 11, [])]
def xk_43_5 : List xEn := [(162, 1, .aload_n 0, []), (163, 3, .getfield 23, [13, 6]), (166, 2, .iload 5, []), (168, 1, .iload_n 3, []), (169, 1, .iastore, []), (170, 2, .iload 5, []), (172, 1, .ireturn, [])]
def xe_43 : xEl := (xm_43, [xk_43_0, xk_43_1, xk_43_2, xk_43_3, xk_43_4, xk_43_5], [], [])
def xm_44 : xM := (⟨"ViewFoundry$SessionView", "tellJoined", "(LViewFoundry$Entry;II)V"⟩, prog_8_method_10_code, 6, (Option.none : Option Jvm.ClassFile.FieldType), [])
def xk_44_0 : List xEn := [(0, 1, .aload_n 1, []), (1, 3, .getfield 121, [7, 1]), (4, 1, .iload_n 3, []), (5, 3, .invokestatic 46, [1, 37]), (8, 1, .aload_n 0, []), (9, 3, .getfield 42, [3, 2, 6, 8, 9]), (12, 1, .iadd, []), (13, 3, .if_icmp .le 7, []), (16, 1, .iconst 1, []), (17, 3, .goto 4, []), (20, 1, .iconst 0, []), (21, 2, .istore 4, []), (23, 1, .iload_n 2, []), (24, 1, .iconst 1, []), (25, 3, .if_icmp .ne 43, []), (28, 2, .iload 4, []), (30, 3, .ifCond .eq 38, [])]
def xk_44_1 : List xEn := [(33, 1, .aload_n 0, []), (34, 3, .getfield 124, [6, 2, 6, 8, 9]), (37, 1, .aload_n 0, []), (38, 3, .getfield 27, [14, 6]), (41, 1, .iconst 0, []), (42, 1, .iaload, []), (43, 3, .invokevirtual 128, [1, 5, 23]), (46, 1, .lconst 0, []), (47, 1, .lcmp, []), (48, 3, .ifCond .eq 20, []), (51, 1, .aload_n 0, []), (52, 1, .aload_n 0, []), (53, 3, .getfield 27, [14, 6]), (56, 1, .iconst 0, []), (57, 1, .iaload, []), (58, 1, .iload_n 3, []), (59, 1, .aload_n 0, []), (60, 1, .iload_n 3, []), (61, 3, .invokevirtual 134, [1, 6, 40])]
def xk_44_2 : List xEn := [(64, 3, .invokevirtual 137, [3, 6, 80]), (67, 1, .return_, []), (68, 1, .iconst 0, []), (69, 2, .istore 5, []), (71, 2, .iload 5, []), (73, 1, .iload_n 2, []), (74, 3, .if_icmp .ge 30, []), (77, 2, .iload 5, []), (79, 1, .aload_n 0, []), (80, 3, .getfield 27, [14, 6]), (83, 1, .arraylength, []), (84, 3, .if_icmp .ge 20, []), (87, 1, .aload_n 0, []), (88, 1, .aload_n 0, []), (89, 3, .getfield 27, [14, 6]), (92, 2, .iload 5, []), (94, 1, .iaload, []), (95, 3, .invokevirtual 141, [1, 6, 79])]
def xk_44_3 : List xEn := [(98, 3, .iinc 5 1, []), (101, 3, .goto (-30), []), (104, 2, .iload 4, []), (106, 3, .ifCond .eq 13, []), (109, 1, .aload_n 0, []), (110, 1, .iload_n 3, []), (111, 1, .aload_n 0, []), (112, 1, .iload_n 3, []), (113, 3, .invokevirtual 134, [1, 6, 40]), (116, 3, .invokevirtual 144, [2, 6, 78]), (119, 1, .return_, [])]
def xe_44 : xEl := (xm_44, [xk_44_0, xk_44_1, xk_44_2, xk_44_3], [], [])
def xm_45 : xM := (⟨"ViewFoundry$SessionView", "tellDue", "(II)V"⟩, prog_8_method_11_code, 6, (Option.none : Option Jvm.ClassFile.FieldType), [])
def xk_45_0 : List xEn := [(0, 1, .iconst 0, []), (1, 1, .iload_n 1, []), (2, 1, .aload_n 0, []), (3, 3, .getfield 42, [3, 2, 6, 8, 9]), (6, 1, .isub, []), (7, 3, .invokestatic 93, [2, 225]), (10, 1, .istore_n 3, []), (11, 1, .iload_n 3, []), (12, 3, .sipush 1000, []), (15, 3, .if_icmp .ge 69, []), (18, 1, .iload_n 3, []), (19, 1, .iload_n 2, []), (20, 1, .aload_n 0, []), (21, 3, .getfield 42, [3, 2, 6, 8, 9]), (24, 1, .isub, []), (25, 3, .if_icmp .ge 59, []), (28, 1, .iconst 0, []), (29, 2, .istore 4, []), (31, 2, .iload 4, [])]
def xk_45_1 : List xEn := [(33, 2, .bipush 8, []), (35, 3, .if_icmp .ge 43, []), (38, 1, .iload_n 3, []), (39, 2, .iload 4, []), (41, 3, .invokestatic 99, [2, 36]), (44, 2, .istore 5, []), (46, 1, .aload_n 0, []), (47, 3, .getfield 16, [11, 6]), (50, 2, .iload 5, []), (52, 3, .invokevirtual 34, [1, 7, 53]), (55, 3, .ifCond .eq 17, []), (58, 1, .aload_n 0, []), (59, 2, .iload 5, []), (61, 2, .iload 5, []), (63, 1, .aload_n 0, [])]
def xk_45_2 : List xEn := [(64, 2, .iload 5, []), (66, 3, .invokevirtual 134, [1, 6, 40]), (69, 3, .invokevirtual 137, [3, 6, 80]), (72, 3, .iinc 4 1, []), (75, 3, .goto (-44), []), (78, 3, .iinc 3 1, []), (81, 3, .goto (-70), []), (84, 1, .return_, [])]
def xe_45 : xEl := (xm_45, [xk_45_0, xk_45_1, xk_45_2], [], [])
def xm_46 : xM := (⟨"ViewFoundry$SessionView", "letGo", "(II)V"⟩, prog_8_method_12_code, 7, (Option.none : Option Jvm.ClassFile.FieldType), [])
def xk_46_0 : List xEn := [(0, 1, .iconst 2, []), (1, 1, .aload_n 0, []), (2, 3, .getfield 42, [3, 2, 6, 8, 9]), (5, 1, .imul, []), (6, 1, .aload_n 0, []), (7, 3, .getfield 148, [4, 2, 6, 8, 9]), (10, 1, .iadd, []), (11, 1, .istore_n 3, []), (12, 1, .iconst 0, []), (13, 1, .iload_n 1, []), (14, 1, .iload_n 3, []), (15, 1, .isub, []), (16, 3, .invokestatic 93, [2, 225]), (19, 2, .istore 4, []), (21, 2, .iload 4, []), (23, 3, .sipush 1000, []), (26, 3, .if_icmp .ge 70, []), (29, 2, .iload 4, []), (31, 1, .iload_n 2, [])]
def xk_46_1 : List xEn := [(32, 1, .iload_n 3, []), (33, 1, .isub, []), (34, 3, .if_icmp .ge 62, []), (37, 1, .iconst 0, []), (38, 2, .istore 5, []), (40, 2, .iload 5, []), (42, 2, .bipush 8, []), (44, 3, .if_icmp .ge 46, []), (47, 2, .iload 4, []), (49, 2, .iload 5, []), (51, 3, .invokestatic 99, [2, 36]), (54, 2, .istore 6, []), (56, 1, .aload_n 0, []), (57, 3, .getfield 16, [11, 6]), (60, 2, .iload 6, []), (62, 3, .invokevirtual 34, [1, 7, 53])]
def xk_46_2 : List xEn := [(65, 3, .ifCond .eq 19, []), (68, 1, .aload_n 0, []), (69, 3, .getfield 16, [11, 6]), (72, 2, .iload 6, []), (74, 3, .invokevirtual 106, [1, 7, 56]), (77, 1, .aload_n 0, []), (78, 2, .iload 5, []), (80, 1, .iconst (-1), []), (81, 3, .invokevirtual 82, [2, 6, 81]), (84, 3, .iinc 5 1, []), (87, 3, .goto (-47), []), (90, 3, .iinc 4 1, []), (93, 3, .goto (-72), [])]
def xk_46_3 : List xEn := [(96, 1, .return_, [])]
def xe_46 : xEl := (xm_46, [xk_46_0, xk_46_1, xk_46_2, xk_46_3], [], [])
def xm_47 : xM := (⟨"ViewFoundry$SessionView", "find", "(Ljava/util/ArrayList;I)V"⟩, prog_8_method_13_code, 5, (Option.none : Option Jvm.ClassFile.FieldType), [])
def xk_47_0 : List xEn := [(0, 1, .aload_n 0, []), (1, 3, .getfield 20, [12, 6]), (4, 3, .invokevirtual 151, [0, 7, 57]), (7, 1, .iconst 0, []), (8, 1, .istore_n 3, []), (9, 1, .iload_n 3, []), (10, 1, .aload_n 1, []), (11, 3, .invokevirtual 155, [0, 0, 235]), (14, 3, .if_icmp .ge 62, []), (17, 1, .aload_n 1, []), (18, 1, .iload_n 3, []), (19, 3, .invokevirtual 160, [1, 0, 238]), (22, 3, .checkcast 78, [1]), (25, 2, .astore 4, []), (27, 1, .aload_n 0, []), (28, 2, .aload 4, []), (30, 3, .invokevirtual 164, [1, 6, 75])]
def xk_47_1 : List xEn := [(33, 3, .ifCond .eq 37, []), (36, 1, .aload_n 0, []), (37, 2, .aload 4, []), (39, 3, .invokevirtual 62, [1, 6, 84]), (42, 3, .ifCond .ne 28, []), (45, 1, .aload_n 0, []), (46, 3, .getfield 20, [12, 6]), (49, 2, .aload 4, []), (51, 3, .getfield 90, [4, 1]), (54, 2, .aload 4, []), (56, 3, .getfield 77, [3, 1]), (59, 3, .invokestatic 99, [2, 36]), (62, 2, .aload 4, [])]
def xk_47_2 : List xEn := [(64, 3, .getfield 109, [5, 1]), (67, 3, .invokevirtual 112, [2, 7, 54]), (70, 3, .iinc 3 1, []), (73, 3, .goto (-64), []), (76, 1, .iconst 0, []), (77, 1, .istore_n 3, []), (78, 1, .iload_n 3, []), (79, 2, .bipush 8, []), (81, 3, .if_icmp .ge 15, []), (84, 1, .aload_n 0, []), (85, 1, .iload_n 3, []), (86, 1, .iload_n 2, []), (87, 3, .invokevirtual 167, [2, 6, 48]), (90, 3, .iinc 3 1, []), (93, 3, .goto (-15), [])]
def xk_47_3 : List xEn := [(96, 1, .return_, [])]
def xe_47 : xEl := (xm_47, [xk_47_0, xk_47_1, xk_47_2, xk_47_3], [], [])
def xm_48 : xM := (⟨"ViewFoundry$SessionView", "findOf", "(II)V"⟩, prog_8_method_14_code, 7, (Option.none : Option Jvm.ClassFile.FieldType), [])
def xk_48_0 : List xEn := [(0, 1, .iconst 0, []), (1, 1, .istore_n 3, []), (2, 1, .iconst (-1), []), (3, 2, .istore 4, []), (5, 1, .iconst 0, []), (6, 2, .istore 5, []), (8, 2, .iload 5, []), (10, 3, .sipush 1000, []), (13, 3, .if_icmp .ge 80, []), (16, 2, .iload 5, []), (18, 1, .iload_n 1, []), (19, 3, .invokestatic 99, [2, 36]), (22, 2, .istore 6, []), (24, 1, .aload_n 0, []), (25, 3, .getfield 20, [12, 6]), (28, 2, .iload 6, []), (30, 3, .invokevirtual 34, [1, 7, 53])]
def xk_48_1 : List xEn := [(33, 3, .ifCond .eq 54, []), (36, 2, .iload 4, []), (38, 3, .ifCond .lt 33, []), (41, 2, .iload 5, []), (43, 2, .iload 4, []), (45, 1, .isub, []), (46, 1, .aload_n 0, []), (47, 3, .getfield 42, [3, 2, 6, 8, 9]), (50, 3, .if_icmp .gt 21, []), (53, 1, .aload_n 0, []), (54, 3, .getfield 20, [12, 6]), (57, 2, .iload 6, []), (59, 2, .iload 4, []), (61, 1, .iload_n 1, []), (62, 3, .invokestatic 99, [2, 36])]
def xk_48_2 : List xEn := [(65, 3, .invokevirtual 118, [2, 7, 55]), (68, 3, .goto 15, []), (71, 1, .aload_n 0, []), (72, 1, .iload_n 1, []), (73, 1, .iload_n 3, []), (74, 2, .iload 4, []), (76, 1, .iload_n 2, []), (77, 3, .invokevirtual 170, [4, 6, 49]), (80, 2, .iload 5, []), (82, 1, .istore_n 3, []), (83, 2, .iload 5, []), (85, 2, .istore 4, []), (87, 3, .iinc 5 1, []), (90, 3, .goto (-82), []), (93, 1, .aload_n 0, []), (94, 1, .iload_n 1, []), (95, 1, .iload_n 3, [])]
def xk_48_3 : List xEn := [(96, 2, .iload 4, []), (98, 1, .iload_n 2, []), (99, 3, .invokevirtual 170, [4, 6, 49]), (102, 1, .return_, [])]
def xe_48 : xEl := (xm_48, [xk_48_0, xk_48_1, xk_48_2, xk_48_3], [], [])
def xm_49 : xM := (⟨"ViewFoundry$SessionView", "findOne", "(IIII)V"⟩, prog_8_method_15_code, 6, (Option.none : Option Jvm.ClassFile.FieldType), [])
def xk_49_0 : List xEn := [(0, 1, .iload_n 3, []), (1, 3, .ifCond .lt 53, []), (4, 2, .iload 4, []), (6, 1, .iload_n 3, []), (7, 1, .aload_n 0, []), (8, 3, .getfield 42, [3, 2, 6, 8, 9]), (11, 1, .iadd, []), (12, 3, .if_icmp .le 42, []), (15, 1, .iload_n 3, []), (16, 1, .iload_n 1, []), (17, 3, .invokestatic 99, [2, 36]), (20, 2, .istore 5, []), (22, 1, .aload_n 0, []), (23, 3, .getfield 174, [7, 2, 6, 8, 9]), (26, 2, .iload 5, []), (28, 1, .aload_n 0, []), (29, 3, .getfield 49, [0, 2, 6, 8, 9])]
def xk_49_1 : List xEn := [(32, 1, .iload_n 1, []), (33, 1, .iload_n 2, []), (34, 1, .iload_n 3, []), (35, 1, .aload_n 0, []), (36, 3, .getfield 20, [12, 6]), (39, 2, .iload 5, []), (41, 1, .aload_n 0, []), (42, 3, .getfield 30, [10, 6]), (45, 3, .invokevirtual 52, [2, 7, 58]), (48, 3, .invokestatic 56, [5, 14]), (51, 3, .invokevirtual 177, [2, 5, 24]), (54, 1, .return_, [])]
def xe_49 : xEl := (xm_49, [xk_49_0, xk_49_1], [], [])
def xm_50 : xM := (⟨"ViewFoundry$SessionView", "emptyOwn", "()V"⟩, prog_8_method_16_code, 1, (Option.none : Option Jvm.ClassFile.FieldType), [])
def xk_50_0 : List xEn := [(0, 1, .aload_n 0, []), (1, 3, .getfield 16, [11, 6]), (4, 3, .invokevirtual 151, [0, 7, 57]), (7, 1, .return_, [])]
def xe_50 : xEl := (xm_50, [xk_50_0], [], [])
def xm_51 : xM := (⟨"ViewFoundry$Tally", "<init>", "(I)V"⟩, prog_9_method_1_code, 3, (Option.none : Option Jvm.ClassFile.FieldType), [])
def xk_51_0 : List xEn := [(0, 1, .aload_n 0, []), (1, 3, .invokespecial 3, []), (4, 1, .iload_n 1, []), (5, 1, .iconst 1, []), (6, 3, .invokestatic 9, [2, 225]), (9, 1, .istore_n 2, []), (10, 1, .aload_n 0, []), (11, 1, .iload_n 2, []), (12, 2, .newarray .int, [0]), (14, 3, .putfield 15, [0, 2, 7]), (17, 1, .aload_n 0, []), (18, 1, .iload_n 2, []), (19, 2, .newarray .int, [0]), (21, 3, .putfield 21, [1, 2, 7]), (24, 1, .aload_n 0, []), (25, 1, .iload_n 2, []), (26, 2, .newarray .int, [0]), (28, 3, .putfield 24, [2, 2, 7]), (31, 1, .return_, [])]
def xe_51 : xEl := (xm_51, [xk_51_0], [], [])
def xm_52 : xM := (⟨"ViewFoundry$Tally", "isCell", "(I)Z"⟩, prog_9_method_2_code, 2, (Option.some Jvm.ClassFile.FieldType.boolean), [])
def xk_52_0 : List xEn := [(0, 1, .iload_n 1, []), (1, 3, .ifCond .lt 34, []), (4, 1, .iload_n 1, []), (5, 1, .aload_n 0, []), (6, 3, .getfield 15, [0, 7]), (9, 1, .arraylength, []), (10, 3, .if_icmp .ge 25, []), (13, 1, .iload_n 1, []), (14, 1, .aload_n 0, []), (15, 3, .getfield 21, [1, 7]), (18, 1, .arraylength, []), (19, 3, .if_icmp .ge 16, []), (22, 1, .iload_n 1, []), (23, 1, .aload_n 0, []), (24, 3, .getfield 24, [2, 7]), (27, 1, .arraylength, []), (28, 3, .if_icmp .ge 7, []), (31, 1, .iconst 1, [])]
def xk_52_1 : List xEn := [(32, 3, .goto 4, []), (35, 1, .iconst 0, []), (36, 1, .ireturn, [])]
def xe_52 : xEl := (xm_52, [xk_52_0, xk_52_1], [], [])
def xm_53 : xM := (⟨"ViewFoundry$Tally", "hasRows", "(I)Z"⟩, prog_9_method_3_code, 2, (Option.some Jvm.ClassFile.FieldType.boolean), [])
def xk_53_0 : List xEn := [(0, 1, .aload_n 0, []), (1, 1, .iload_n 1, []), (2, 3, .invokevirtual 27, [1, 7, 52]), (5, 3, .ifCond .eq 16, []), (8, 1, .aload_n 0, []), (9, 3, .getfield 15, [0, 7]), (12, 1, .iload_n 1, []), (13, 1, .iaload, []), (14, 3, .ifCond .le 7, []), (17, 1, .iconst 1, []), (18, 3, .goto 4, []), (21, 1, .iconst 0, []), (22, 1, .ireturn, [])]
def xe_53 : xEl := (xm_53, [xk_53_0], [], [])
def xm_54 : xM := (⟨"ViewFoundry$Tally", "add", "(II)V"⟩, prog_9_method_4_code, 3, (Option.none : Option Jvm.ClassFile.FieldType), [])
def xk_54_0 : List xEn := [(0, 1, .aload_n 0, []), (1, 1, .iload_n 1, []), (2, 3, .invokevirtual 27, [1, 7, 52]), (5, 3, .ifCond .eq 52, []), (8, 1, .aload_n 0, []), (9, 3, .getfield 24, [2, 7]), (12, 1, .iload_n 1, []), (13, 1, .aload_n 0, []), (14, 3, .getfield 15, [0, 7]), (17, 1, .iload_n 1, []), (18, 1, .iaload, []), (19, 3, .ifCond .ne 7, []), (22, 1, .iload_n 2, []), (23, 3, .goto 13, []), (26, 1, .aload_n 0, []), (27, 3, .getfield 24, [2, 7]), (30, 1, .iload_n 1, []), (31, 1, .iaload, [])]
def xk_54_1 : List xEn := [(32, 1, .iload_n 2, []), (33, 3, .invokestatic 9, [2, 225]), (36, 1, .iastore, []), (37, 1, .aload_n 0, []), (38, 3, .getfield 15, [0, 7]), (41, 1, .iload_n 1, []), (42, 1, .dup2, []), (43, 1, .iaload, []), (44, 1, .iconst 1, []), (45, 1, .iadd, []), (46, 1, .iastore, []), (47, 1, .aload_n 0, []), (48, 3, .getfield 21, [1, 7]), (51, 1, .iload_n 1, []), (52, 1, .dup2, []), (53, 1, .iaload, []), (54, 1, .iload_n 2, []), (55, 1, .iadd, []), (56, 1, .iastore, []), (57, 1, .return_, [])]
def xe_54 : xEl := (xm_54, [xk_54_0, xk_54_1], [], [])
def xm_55 : xM := (⟨"ViewFoundry$Tally", "addAll", "(II)V"⟩, prog_9_method_5_code, 3, (Option.none : Option Jvm.ClassFile.FieldType), [])
def xk_55_0 : List xEn := [(0, 1, .aload_n 0, []), (1, 1, .iload_n 1, []), (2, 3, .invokevirtual 27, [1, 7, 52]), (5, 3, .ifCond .eq 80, []), (8, 1, .aload_n 0, []), (9, 1, .iload_n 2, []), (10, 3, .invokevirtual 31, [1, 7, 53]), (13, 3, .ifCond .eq 72, []), (16, 1, .aload_n 0, []), (17, 3, .getfield 24, [2, 7]), (20, 1, .iload_n 1, []), (21, 1, .aload_n 0, []), (22, 3, .getfield 15, [0, 7]), (25, 1, .iload_n 1, []), (26, 1, .iaload, []), (27, 3, .ifCond .ne 12, []), (30, 1, .aload_n 0, []), (31, 3, .getfield 24, [2, 7])]
def xk_55_1 : List xEn := [(34, 1, .iload_n 2, []), (35, 1, .iaload, []), (36, 3, .goto 18, []), (39, 1, .aload_n 0, []), (40, 3, .getfield 24, [2, 7]), (43, 1, .iload_n 1, []), (44, 1, .iaload, []), (45, 1, .aload_n 0, []), (46, 3, .getfield 24, [2, 7]), (49, 1, .iload_n 2, []), (50, 1, .iaload, []), (51, 3, .invokestatic 9, [2, 225]), (54, 1, .iastore, []), (55, 1, .aload_n 0, []), (56, 3, .getfield 15, [0, 7]), (59, 1, .iload_n 1, []), (60, 1, .dup2, []), (61, 1, .iaload, []), (62, 1, .aload_n 0, []), (63, 3, .getfield 15, [0, 7])]
def xk_55_2 : List xEn := [(66, 1, .iload_n 2, []), (67, 1, .iaload, []), (68, 1, .iadd, []), (69, 1, .iastore, []), (70, 1, .aload_n 0, []), (71, 3, .getfield 21, [1, 7]), (74, 1, .iload_n 1, []), (75, 1, .dup2, []), (76, 1, .iaload, []), (77, 1, .aload_n 0, []), (78, 3, .getfield 21, [1, 7]), (81, 1, .iload_n 2, []), (82, 1, .iaload, []), (83, 1, .iadd, []), (84, 1, .iastore, []), (85, 1, .return_, [])]
def xe_55 : xEl := (xm_55, [xk_55_0, xk_55_1, xk_55_2], [], [])
def xm_56 : xM := (⟨"ViewFoundry$Tally", "clear", "(I)V"⟩, prog_9_method_6_code, 2, (Option.none : Option Jvm.ClassFile.FieldType), [])
def xk_56_0 : List xEn := [(0, 1, .aload_n 0, []), (1, 1, .iload_n 1, []), (2, 3, .invokevirtual 27, [1, 7, 52]), (5, 3, .ifCond .eq 24, []), (8, 1, .aload_n 0, []), (9, 3, .getfield 15, [0, 7]), (12, 1, .iload_n 1, []), (13, 1, .iconst 0, []), (14, 1, .iastore, []), (15, 1, .aload_n 0, []), (16, 3, .getfield 21, [1, 7]), (19, 1, .iload_n 1, []), (20, 1, .iconst 0, []), (21, 1, .iastore, []), (22, 1, .aload_n 0, []), (23, 3, .getfield 24, [2, 7]), (26, 1, .iload_n 1, []), (27, 1, .iconst 0, []), (28, 1, .iastore, []), (29, 1, .return_, [])]
def xe_56 : xEl := (xm_56, [xk_56_0], [], [])
def xm_57 : xM := (⟨"ViewFoundry$Tally", "clearAll", "()V"⟩, prog_9_method_7_code, 1, (Option.none : Option Jvm.ClassFile.FieldType), [])
def xk_57_0 : List xEn := [(0, 1, .aload_n 0, []), (1, 3, .getfield 15, [0, 7]), (4, 1, .iconst 0, []), (5, 3, .invokestatic 34, [2, 245]), (8, 1, .aload_n 0, []), (9, 3, .getfield 21, [1, 7]), (12, 1, .iconst 0, []), (13, 3, .invokestatic 34, [2, 245]), (16, 1, .aload_n 0, []), (17, 3, .getfield 24, [2, 7]), (20, 1, .iconst 0, []), (21, 3, .invokestatic 34, [2, 245]), (24, 1, .return_, [])]
def xe_57 : xEl := (xm_57, [xk_57_0], [], [])
def xm_58 : xM := (⟨"ViewFoundry$Tally", "measured", "(IC)I"⟩, prog_9_method_8_code, 3, (Option.some Jvm.ClassFile.FieldType.int), [])
def xk_58_0 : List xEn := [(0, 1, .aload_n 0, []), (1, 1, .iload_n 1, []), (2, 3, .invokevirtual 27, [1, 7, 52]), (5, 3, .ifCond .eq 12, []), (8, 1, .aload_n 0, []), (9, 3, .getfield 15, [0, 7]), (12, 1, .iload_n 1, []), (13, 1, .iaload, []), (14, 3, .ifCond .gt 5, []), (17, 1, .iconst 0, []), (18, 1, .ireturn, []), (19, 1, .iload_n 2, []), (20, 2, .bipush 99, []), (22, 3, .if_icmp .ne 10, []), (25, 1, .aload_n 0, []), (26, 3, .getfield 15, [0, 7]), (29, 1, .iload_n 1, []), (30, 1, .iaload, []), (31, 1, .ireturn, [])]
def xk_58_1 : List xEn := [(32, 1, .iload_n 2, []), (33, 2, .bipush 115, []), (35, 3, .if_icmp .ne 10, []), (38, 1, .aload_n 0, []), (39, 3, .getfield 21, [1, 7]), (42, 1, .iload_n 1, []), (43, 1, .iaload, []), (44, 1, .ireturn, []), (45, 1, .iload_n 2, []), (46, 2, .bipush 120, []), (48, 3, .if_icmp .ne 10, []), (51, 1, .aload_n 0, []), (52, 3, .getfield 24, [2, 7]), (55, 1, .iload_n 1, []), (56, 1, .iaload, []), (57, 1, .ireturn, []), (58, 1, .iload_n 2, []), (59, 2, .bipush 98, []), (61, 3, .if_icmp .ne 11, [])]
def xk_58_2 : List xEn := [(64, 1, .aload_n 0, []), (65, 3, .getfield 21, [1, 7]), (68, 1, .iload_n 1, []), (69, 1, .iaload, []), (70, 1, .i2b, []), (71, 1, .ireturn, []), (72, 1, .aload_n 0, []), (73, 3, .getfield 21, [1, 7]), (76, 1, .iload_n 1, []), (77, 1, .iaload, []), (78, 1, .i2f, []), (79, 1, .aload_n 0, []), (80, 3, .getfield 15, [0, 7]), (83, 1, .iload_n 1, []), (84, 1, .iaload, []), (85, 1, .i2f, []), (86, 1, .fdiv, []), (87, 3, .invokestatic 40, [1, 59]), (90, 1, .ireturn, [])]
def xe_58 : xEl := (xm_58, [xk_58_0, xk_58_1, xk_58_2], [], [])
def xm_59 : xM := (⟨"ViewFoundry$Tally", "bitsOf", "(F)I"⟩, prog_9_method_9_code, 5, (Option.some Jvm.ClassFile.FieldType.int), [])
def xk_59_0 : List xEn := [(0, 1, .fload_n 0, []), (1, 1, .fconst 0, []), (2, 1, .fcmp .l, []), (3, 3, .ifCond .ne 5, []), (6, 1, .iconst 0, []), (7, 1, .ireturn, []), (8, 1, .fload_n 0, []), (9, 1, .fconst 0, []), (10, 1, .fcmp .g, []), (11, 3, .ifCond .ge 8, []), (14, 2, .ldc 44, [0, 2147483648]), (16, 3, .goto 4, []), (19, 1, .iconst 0, []), (20, 1, .istore_n 1, []), (21, 1, .fload_n 0, []), (22, 1, .fconst 0, []), (23, 1, .fcmp .g, []), (24, 3, .ifCond .ge 8, []), (27, 1, .fload_n 0, []), (28, 1, .fneg, []), (29, 3, .goto 4, [])]
def xk_59_1 : List xEn := [(32, 1, .fload_n 0, []), (33, 1, .fstore_n 2, []), (34, 2, .bipush 127, []), (36, 1, .istore_n 3, []), (37, 1, .iconst 0, []), (38, 2, .istore 4, []), (40, 2, .iload 4, []), (42, 3, .sipush 256, []), (45, 3, .if_icmp .ge 22, []), (48, 1, .fload_n 2, []), (49, 1, .fconst 2, []), (50, 1, .fcmp .l, []), (51, 3, .ifCond .lt 16, []), (54, 1, .fload_n 2, []), (55, 1, .fconst 2, []), (56, 1, .fdiv, []), (57, 1, .fstore_n 2, []), (58, 3, .iinc 3 1, []), (61, 3, .iinc 4 1, [])]
def xk_59_2 : List xEn := [(64, 3, .goto (-24), []), (67, 1, .iconst 0, []), (68, 2, .istore 4, []), (70, 2, .iload 4, []), (72, 3, .sipush 256, []), (75, 3, .if_icmp .ge 22, []), (78, 1, .fload_n 2, []), (79, 1, .fconst 1, []), (80, 1, .fcmp .g, []), (81, 3, .ifCond .ge 16, []), (84, 1, .fload_n 2, []), (85, 1, .fconst 2, []), (86, 1, .fmul, []), (87, 1, .fstore_n 2, []), (88, 3, .iinc 3 (-1), []), (91, 3, .iinc 4 1, []), (94, 3, .goto (-24), [])]
def xk_59_3 : List xEn := [(97, 1, .fload_n 2, []), (98, 1, .fconst 1, []), (99, 1, .fsub, []), (100, 2, .ldc 45, [5, 1258291200]), (102, 1, .fmul, []), (103, 1, .f2i, []), (104, 2, .istore 4, []), (106, 1, .iload_n 1, []), (107, 1, .iload_n 3, []), (108, 2, .bipush 23, []), (110, 1, .ishl, []), (111, 1, .ior, []), (112, 2, .iload 4, []), (114, 1, .ior, []), (115, 1, .ireturn, [])]
def xe_59 : xEl := (xm_59, [xk_59_0, xk_59_1, xk_59_2, xk_59_3], [], [])
def xm_60 : xM := (⟨"ViewFoundry$VersionView", "<init>", "(ICIILViewFoundry$Outputs;)V"⟩, prog_10_method_1_code, 6, (Option.none : Option Jvm.ClassFile.FieldType), [])
def xk_60_0 : List xEn := [(0, 1, .aload_n 0, []), (1, 1, .iload_n 1, []), (2, 1, .iconst 1, []), (3, 1, .iload_n 2, []), (4, 1, .iload_n 3, []), (5, 2, .iload 4, []), (7, 2, .aload 5, []), (9, 3, .sipush 240, []), (12, 3, .invokespecial 3, [7, 74]), (15, 1, .aload_n 0, []), (16, 3, .new 9, [0, 0, 2, 0]), (19, 1, .dup, []), (20, 3, .invokespecial 11, [0, 232]), (23, 3, .putfield 14, [10, 2, 8]), (26, 1, .aload_n 0, []), (27, 3, .new 9, [0, 0, 2, 0]), (30, 1, .dup, []), (31, 3, .invokespecial 11, [0, 232])]
def xk_60_1 : List xEn := [(34, 3, .putfield 20, [11, 2, 8]), (37, 1, .aload_n 0, []), (38, 3, .new 9, [0, 0, 2, 0]), (41, 1, .dup, []), (42, 3, .invokespecial 11, [0, 232]), (45, 3, .putfield 23, [12, 2, 8]), (48, 1, .return_, [])]
def xe_60 : xEl := (xm_60, [xk_60_0, xk_60_1], [], [])
def xm_61 : xM := (⟨"ViewFoundry$VersionView", "isPastGrace", "(LViewFoundry$Entry;I)Z"⟩, prog_10_method_2_code, 3, (Option.some Jvm.ClassFile.FieldType.boolean), [])
def xk_61_0 : List xEn := [(0, 1, .iload_n 2, []), (1, 1, .aload_n 1, []), (2, 3, .getfield 26, [4, 1]), (5, 1, .aload_n 0, []), (6, 3, .getfield 32, [4, 2, 6, 8, 9]), (9, 1, .iadd, []), (10, 3, .if_icmp .le 7, []), (13, 1, .iconst 1, []), (14, 3, .goto 4, []), (17, 1, .iconst 0, []), (18, 1, .ireturn, [])]
def xe_61 : xEl := (xm_61, [xk_61_0], [], [])
def xm_62 : xM := (⟨"ViewFoundry$VersionView", "best", "(Ljava/util/ArrayList;II)LViewFoundry$Entry;"⟩, prog_10_method_3_code, 7, (Option.some (Jvm.ClassFile.FieldType.object "ViewFoundry$Entry")), [])
def xk_62_0 : List xEn := [(0, 1, .aconst_null, []), (1, 2, .astore 4, []), (3, 1, .iconst 0, []), (4, 2, .istore 5, []), (6, 2, .iload 5, []), (8, 1, .aload_n 1, []), (9, 3, .invokevirtual 35, [0, 0, 235]), (12, 3, .if_icmp .ge 58, []), (15, 1, .aload_n 1, []), (16, 2, .iload 5, []), (18, 3, .invokevirtual 39, [1, 0, 238]), (21, 3, .checkcast 27, [1]), (24, 2, .astore 6, []), (26, 2, .aload 6, []), (28, 3, .getfield 43, [3, 1]), (31, 1, .iload_n 2, [])]
def xk_62_1 : List xEn := [(32, 3, .if_icmp .ne 32, []), (35, 2, .aload 6, []), (37, 3, .getfield 26, [4, 1]), (40, 1, .iload_n 3, []), (41, 3, .if_icmp .gt 23, []), (44, 2, .aload 4, []), (46, 3, .ifnull 14, []), (49, 1, .aload_n 0, []), (50, 2, .aload 4, []), (52, 2, .aload 6, []), (54, 3, .invokevirtual 46, [2, 8, 63]), (57, 3, .ifCond .ne 7, []), (60, 2, .aload 6, []), (62, 2, .astore 4, [])]
def xk_62_2 : List xEn := [(64, 3, .iinc 5 1, []), (67, 3, .goto (-61), []), (70, 2, .aload 4, []), (72, 1, .areturn, [])]
def xe_62 : xEl := (xm_62, [xk_62_0, xk_62_1, xk_62_2], [], [])
def xm_63 : xM := (⟨"ViewFoundry$VersionView", "isBetter", "(LViewFoundry$Entry;LViewFoundry$Entry;)Z"⟩, prog_10_method_4_code, 3, (Option.some Jvm.ClassFile.FieldType.boolean), [])
def xk_63_0 : List xEn := [(0, 1, .aload_n 1, []), (1, 3, .getfield 26, [4, 1]), (4, 1, .aload_n 2, []), (5, 3, .getfield 26, [4, 1]), (8, 3, .if_icmp .gt 25, []), (11, 1, .aload_n 1, []), (12, 3, .getfield 26, [4, 1]), (15, 1, .aload_n 2, []), (16, 3, .getfield 26, [4, 1]), (19, 3, .if_icmp .ne 18, []), (22, 1, .aload_n 1, []), (23, 3, .getfield 50, [5, 1]), (26, 1, .aload_n 2, []), (27, 3, .getfield 50, [5, 1]), (30, 3, .if_icmp .le 7, [])]
def xk_63_1 : List xEn := [(33, 1, .iconst 1, []), (34, 3, .goto 4, []), (37, 1, .iconst 0, []), (38, 1, .ireturn, [])]
def xe_63 : xEl := (xm_63, [xk_63_0, xk_63_1], [], [])
def xm_64 : xM := (⟨"ViewFoundry$VersionView", "resultOf", "(LViewFoundry$Entry;Ljava/util/ArrayList;)J"⟩, prog_10_method_5_code, 4, (Option.some Jvm.ClassFile.FieldType.long), [])
def xk_64_0 : List xEn := [(0, 1, .aload_n 0, []), (1, 1, .aload_n 2, []), (2, 1, .aload_n 1, []), (3, 3, .getfield 43, [3, 1]), (6, 1, .aload_n 1, []), (7, 3, .getfield 26, [4, 1]), (10, 3, .invokevirtual 53, [3, 8, 62]), (13, 1, .astore_n 3, []), (14, 1, .aload_n 3, []), (15, 3, .ifnonnull 24, []), (18, 1, .aload_n 0, []), (19, 3, .getfield 57, [0, 2, 6, 8, 9]), (22, 1, .aload_n 1, []), (23, 3, .getfield 43, [3, 1]), (26, 1, .aload_n 1, []), (27, 3, .getfield 26, [4, 1]), (30, 1, .iconst (-1), []), (31, 1, .aload_n 1, [])]
def xk_64_1 : List xEn := [(32, 3, .getfield 50, [5, 1]), (35, 3, .invokestatic 60, [5, 14]), (38, 1, .lreturn, []), (39, 1, .aload_n 0, []), (40, 3, .getfield 57, [0, 2, 6, 8, 9]), (43, 1, .aload_n 1, []), (44, 3, .getfield 43, [3, 1]), (47, 1, .aload_n 1, []), (48, 3, .getfield 26, [4, 1]), (51, 1, .aload_n 3, []), (52, 3, .getfield 26, [4, 1]), (55, 1, .aload_n 1, []), (56, 3, .getfield 50, [5, 1]), (59, 1, .aload_n 3, []), (60, 3, .getfield 50, [5, 1]), (63, 1, .iadd, [])]
def xk_64_2 : List xEn := [(64, 3, .invokestatic 60, [5, 14]), (67, 1, .lreturn, [])]
def xe_64 : xEl := (xm_64, [xk_64_0, xk_64_1, xk_64_2], [], [])
def xm_65 : xM := (⟨"ViewFoundry$VersionView", "isTold", "(LViewFoundry$Entry;)Z"⟩, prog_10_method_6_code, 2, (Option.some Jvm.ClassFile.FieldType.boolean), [])
def xk_65_0 : List xEn := [(0, 1, .aload_n 0, []), (1, 3, .getfield 66, [6, 2, 6, 8, 9]), (4, 1, .aload_n 1, []), (5, 3, .getfield 70, [6, 1]), (8, 3, .invokevirtual 73, [1, 5, 23]), (11, 1, .lconst 0, []), (12, 1, .lcmp, []), (13, 3, .ifCond .eq 7, []), (16, 1, .iconst 1, []), (17, 3, .goto 4, []), (20, 1, .iconst 0, []), (21, 1, .ireturn, [])]
def xe_65 : xEl := (xm_65, [xk_65_0], [], [])
def xm_66 : xM := (⟨"ViewFoundry$VersionView", "take", "(LViewFoundry$Entry;)V"⟩, prog_10_method_7_code, 2, (Option.none : Option Jvm.ClassFile.FieldType), [])
def xk_66_0 : List xEn := [(0, 1, .aload_n 0, []), (1, 1, .aload_n 1, []), (2, 1, .aload_n 1, []), (3, 3, .getfield 79, [7, 1]), (6, 3, .invokevirtual 82, [2, 8, 61]), (9, 3, .ifCond .eq 14, []), (12, 1, .aload_n 0, []), (13, 1, .dup, []), (14, 3, .getfield 86, [9, 2, 6, 8, 9]), (17, 1, .iconst 1, []), (18, 1, .iadd, []), (19, 3, .putfield 86, [9, 0, 2, 6, 8, 9]), (22, 1, .return_, []), (23, 1, .aload_n 0, []), (24, 1, .aload_n 1, []), (25, 3, .getfield 43, [3, 1]), (28, 1, .iconst 1, []), (29, 3, .invokevirtual 89, [2, 8, 81])]
def xk_66_1 : List xEn := [(32, 1, .aload_n 1, []), (33, 3, .getfield 93, [2, 1]), (36, 3, .ifCond .eq 43, []), (39, 1, .aload_n 0, []), (40, 3, .getfield 14, [10, 8]), (43, 1, .aload_n 1, []), (44, 3, .invokevirtual 97, [1, 0, 240]), (47, 1, .pop, []), (48, 1, .aload_n 1, []), (49, 3, .getfield 79, [7, 1]), (52, 1, .aload_n 1, []), (53, 3, .getfield 26, [4, 1]), (56, 3, .if_icmp .le 40, []), (59, 1, .aload_n 0, []), (60, 1, .aload_n 1, []), (61, 3, .getfield 70, [6, 1])]
def xk_66_2 : List xEn := [(64, 1, .aload_n 0, []), (65, 1, .aload_n 1, []), (66, 1, .aload_n 0, []), (67, 3, .getfield 20, [11, 8]), (70, 3, .invokevirtual 101, [2, 8, 64]), (73, 3, .invokevirtual 105, [2, 8, 78]), (76, 3, .goto 20, []), (79, 1, .aload_n 0, []), (80, 3, .getfield 20, [11, 8]), (83, 1, .aload_n 1, []), (84, 3, .invokevirtual 97, [1, 0, 240]), (87, 1, .pop, []), (88, 1, .aload_n 0, []), (89, 1, .aload_n 1, []), (90, 3, .getfield 43, [3, 1]), (93, 3, .invokevirtual 109, [1, 8, 67])]
def xk_66_3 : List xEn := [(96, 1, .return_, [])]
def xe_66 : xEl := (xm_66, [xk_66_0, xk_66_1, xk_66_2, xk_66_3], [], [])
def xm_67 : xM := (⟨"ViewFoundry$VersionView", "tellLeftsAnew", "(I)V"⟩, prog_10_method_8_code, 4, (Option.none : Option Jvm.ClassFile.FieldType), [])
def xk_67_0 : List xEn := [(0, 1, .iconst 0, []), (1, 1, .istore_n 2, []), (2, 1, .iload_n 2, []), (3, 1, .aload_n 0, []), (4, 3, .getfield 14, [10, 8]), (7, 3, .invokevirtual 35, [0, 0, 235]), (10, 3, .if_icmp .ge 58, []), (13, 1, .aload_n 0, []), (14, 3, .getfield 14, [10, 8]), (17, 1, .iload_n 2, []), (18, 3, .invokevirtual 39, [1, 0, 238]), (21, 3, .checkcast 27, [1]), (24, 1, .astore_n 3, []), (25, 1, .aload_n 3, []), (26, 3, .getfield 43, [3, 1]), (29, 1, .iload_n 1, []), (30, 3, .if_icmp .ne 32, [])]
def xk_67_1 : List xEn := [(33, 1, .aload_n 0, []), (34, 1, .aload_n 3, []), (35, 3, .invokevirtual 113, [1, 8, 65]), (38, 3, .ifCond .eq 24, []), (41, 1, .aload_n 0, []), (42, 1, .aload_n 3, []), (43, 3, .getfield 70, [6, 1]), (46, 1, .aload_n 3, []), (47, 3, .getfield 70, [6, 1]), (50, 1, .aload_n 0, []), (51, 1, .aload_n 3, []), (52, 1, .aload_n 0, []), (53, 3, .getfield 20, [11, 8]), (56, 3, .invokevirtual 101, [2, 8, 64]), (59, 3, .invokevirtual 117, [3, 8, 80]), (62, 3, .iinc 2 1, [])]
def xk_67_2 : List xEn := [(65, 3, .goto (-63), []), (68, 1, .return_, [])]
def xe_67 : xEl := (xm_67, [xk_67_0, xk_67_1, xk_67_2], [], [])
def xm_68 : xM := (⟨"ViewFoundry$VersionView", "tellDue", "(II)V"⟩, prog_10_method_9_code, 5, (Option.none : Option Jvm.ClassFile.FieldType), [])
def xk_68_0 : List xEn := [(0, 1, .aload_n 0, []), (1, 1, .iload_n 2, []), (2, 3, .invokevirtual 121, [1, 8, 69]), (5, 1, .astore_n 3, []), (6, 1, .iconst 0, []), (7, 2, .istore 4, []), (9, 2, .iload 4, []), (11, 3, .sipush 240, []), (14, 3, .if_icmp .ge 36, []), (17, 1, .aload_n 3, []), (18, 3, .ifnull 32, []), (21, 1, .aload_n 0, []), (22, 1, .aload_n 3, []), (23, 3, .getfield 70, [6, 1]), (26, 1, .aload_n 0, []), (27, 1, .aload_n 3, []), (28, 1, .aload_n 0, []), (29, 3, .getfield 20, [11, 8])]
def xk_68_1 : List xEn := [(32, 3, .invokevirtual 101, [2, 8, 64]), (35, 3, .invokevirtual 105, [2, 8, 78]), (38, 1, .aload_n 0, []), (39, 1, .iload_n 2, []), (40, 3, .invokevirtual 121, [1, 8, 69]), (43, 1, .astore_n 3, []), (44, 3, .iinc 4 1, []), (47, 3, .goto (-38), []), (50, 1, .return_, [])]
def xe_68 : xEl := (xm_68, [xk_68_0, xk_68_1], [], [])
def xm_69 : xM := (⟨"ViewFoundry$VersionView", "nextDue", "(I)LViewFoundry$Entry;"⟩, prog_10_method_10_code, 5, (Option.some (Jvm.ClassFile.FieldType.object "ViewFoundry$Entry")), [])
def xk_69_0 : List xEn := [(0, 1, .aconst_null, []), (1, 1, .astore_n 2, []), (2, 1, .iconst 0, []), (3, 1, .istore_n 3, []), (4, 1, .iload_n 3, []), (5, 1, .aload_n 0, []), (6, 3, .getfield 14, [10, 8]), (9, 3, .invokevirtual 35, [0, 0, 235]), (12, 3, .if_icmp .ge 57, []), (15, 1, .aload_n 0, []), (16, 3, .getfield 14, [10, 8]), (19, 1, .iload_n 3, []), (20, 3, .invokevirtual 39, [1, 0, 238]), (23, 3, .checkcast 27, [1]), (26, 2, .astore 4, []), (28, 1, .iload_n 1, []), (29, 2, .aload 4, []), (31, 3, .getfield 26, [4, 1])]
def xk_69_1 : List xEn := [(34, 3, .if_icmp .le 29, []), (37, 1, .aload_n 0, []), (38, 2, .aload 4, []), (40, 3, .invokevirtual 113, [1, 8, 65]), (43, 3, .ifCond .ne 20, []), (46, 1, .aload_n 2, []), (47, 3, .ifnull 13, []), (50, 1, .aload_n 0, []), (51, 2, .aload 4, []), (53, 1, .aload_n 2, []), (54, 3, .invokevirtual 125, [2, 8, 70]), (57, 3, .ifCond .eq 6, []), (60, 2, .aload 4, []), (62, 1, .astore_n 2, []), (63, 3, .iinc 3 1, [])]
def xk_69_2 : List xEn := [(66, 3, .goto (-62), []), (69, 1, .aload_n 2, []), (70, 1, .areturn, [])]
def xe_69 : xEl := (xm_69, [xk_69_0, xk_69_1, xk_69_2], [], [])
def xm_70 : xM := (⟨"ViewFoundry$VersionView", "isSooner", "(LViewFoundry$Entry;LViewFoundry$Entry;)Z"⟩, prog_10_method_11_code, 3, (Option.some Jvm.ClassFile.FieldType.boolean), [])
def xk_70_0 : List xEn := [(0, 1, .aload_n 1, []), (1, 3, .getfield 26, [4, 1]), (4, 1, .aload_n 2, []), (5, 3, .getfield 26, [4, 1]), (8, 3, .if_icmp .lt 25, []), (11, 1, .aload_n 1, []), (12, 3, .getfield 26, [4, 1]), (15, 1, .aload_n 2, []), (16, 3, .getfield 26, [4, 1]), (19, 3, .if_icmp .ne 18, []), (22, 1, .aload_n 1, []), (23, 3, .getfield 43, [3, 1]), (26, 1, .aload_n 2, []), (27, 3, .getfield 43, [3, 1]), (30, 3, .if_icmp .ge 7, [])]
def xk_70_1 : List xEn := [(33, 1, .iconst 1, []), (34, 3, .goto 4, []), (37, 1, .iconst 0, []), (38, 1, .ireturn, [])]
def xe_70 : xEl := (xm_70, [xk_70_0, xk_70_1], [], [])
def xm_71 : xM := (⟨"ViewFoundry$VersionView", "letGo", "(II)V"⟩, prog_10_method_12_code, 6, (Option.none : Option Jvm.ClassFile.FieldType), [])
def xk_71_0 : List xEn := [(0, 1, .aload_n 0, []), (1, 3, .getfield 14, [10, 8]), (4, 3, .invokevirtual 35, [0, 0, 235]), (7, 1, .iconst 1, []), (8, 1, .isub, []), (9, 1, .istore_n 3, []), (10, 1, .iload_n 3, []), (11, 3, .ifCond .lt 51, []), (14, 1, .aload_n 0, []), (15, 3, .getfield 14, [10, 8]), (18, 1, .iload_n 3, []), (19, 3, .invokevirtual 39, [1, 0, 238]), (22, 3, .checkcast 27, [1]), (25, 2, .astore 4, []), (27, 1, .aload_n 0, []), (28, 2, .aload 4, []), (30, 1, .iload_n 2, []), (31, 3, .invokevirtual 82, [2, 8, 61])]
def xk_71_1 : List xEn := [(34, 3, .ifCond .eq 22, []), (37, 1, .aload_n 0, []), (38, 3, .getfield 14, [10, 8]), (41, 1, .iload_n 3, []), (42, 3, .invokevirtual 128, [1, 0, 241]), (45, 1, .pop, []), (46, 1, .aload_n 0, []), (47, 2, .aload 4, []), (49, 3, .getfield 43, [3, 1]), (52, 1, .iconst (-1), []), (53, 3, .invokevirtual 89, [2, 8, 81]), (56, 3, .iinc 3 (-1), []), (59, 3, .goto (-49), []), (62, 1, .iload_n 2, []), (63, 1, .aload_n 0, [])]
def xk_71_2 : List xEn := [(64, 3, .getfield 32, [4, 2, 6, 8, 9]), (67, 1, .isub, []), (68, 1, .istore_n 3, []), (69, 1, .aload_n 0, []), (70, 3, .getfield 20, [11, 8]), (73, 3, .invokevirtual 35, [0, 0, 235]), (76, 1, .iconst 1, []), (77, 1, .isub, []), (78, 2, .istore 4, []), (80, 2, .iload 4, []), (82, 3, .ifCond .lt 71, []), (85, 1, .aload_n 0, []), (86, 3, .getfield 20, [11, 8]), (89, 2, .iload 4, []), (91, 3, .invokevirtual 39, [1, 0, 238]), (94, 3, .checkcast 27, [1])]
def xk_71_3 : List xEn := [(97, 2, .astore 5, []), (99, 2, .aload 5, []), (101, 3, .getfield 26, [4, 1]), (104, 1, .iload_n 3, []), (105, 3, .if_icmp .gt 42, []), (108, 2, .aload 5, []), (110, 1, .aload_n 0, []), (111, 1, .aload_n 0, []), (112, 3, .getfield 20, [11, 8]), (115, 2, .aload 5, []), (117, 3, .getfield 43, [3, 1]), (120, 1, .iload_n 3, []), (121, 3, .invokevirtual 53, [3, 8, 62]), (124, 3, .if_acmp .eq 23, []), (127, 1, .aload_n 0, [])]
def xk_71_4 : List xEn := [(128, 3, .getfield 20, [11, 8]), (131, 2, .iload 4, []), (133, 3, .invokevirtual 128, [1, 0, 241]), (136, 1, .pop, []), (137, 1, .aload_n 0, []), (138, 2, .aload 5, []), (140, 3, .getfield 43, [3, 1]), (143, 1, .iconst (-1), []), (144, 3, .invokevirtual 89, [2, 8, 81]), (147, 3, .iinc 4 (-1), []), (150, 3, .goto (-70), []), (153, 1, .return_, [])]
def xe_71 : xEl := (xm_71, [xk_71_0, xk_71_1, xk_71_2, xk_71_3, xk_71_4], [], [])
def xm_72 : xM := (⟨"ViewFoundry$VersionView", "find", "(Ljava/util/ArrayList;I)V"⟩, prog_10_method_13_code, 5, (Option.none : Option Jvm.ClassFile.FieldType), [])
def xk_72_0 : List xEn := [(0, 1, .aload_n 0, []), (1, 3, .getfield 23, [12, 8]), (4, 3, .invokevirtual 131, [0, 0, 243]), (7, 1, .iconst 0, []), (8, 1, .istore_n 3, []), (9, 1, .iload_n 3, []), (10, 1, .aload_n 1, []), (11, 3, .invokevirtual 35, [0, 0, 235]), (14, 3, .if_icmp .ge 60, []), (17, 1, .aload_n 1, []), (18, 1, .iload_n 3, []), (19, 3, .invokevirtual 39, [1, 0, 238]), (22, 3, .checkcast 27, [1]), (25, 2, .astore 4, []), (27, 1, .aload_n 0, []), (28, 2, .aload 4, []), (30, 3, .invokevirtual 134, [1, 8, 75])]
def xk_72_1 : List xEn := [(33, 3, .ifCond .eq 35, []), (36, 2, .aload 4, []), (38, 3, .getfield 93, [2, 1]), (41, 3, .ifCond .ne 27, []), (44, 1, .aload_n 0, []), (45, 2, .aload 4, []), (47, 2, .aload 4, []), (49, 3, .getfield 79, [7, 1]), (52, 3, .invokevirtual 82, [2, 8, 61]), (55, 3, .ifCond .ne 13, []), (58, 1, .aload_n 0, []), (59, 3, .getfield 23, [12, 8]), (62, 2, .aload 4, [])]
def xk_72_2 : List xEn := [(64, 3, .invokevirtual 97, [1, 0, 240]), (67, 1, .pop, []), (68, 3, .iinc 3 1, []), (71, 3, .goto (-62), []), (74, 1, .iconst 0, []), (75, 1, .istore_n 3, []), (76, 1, .iload_n 3, []), (77, 1, .aload_n 1, []), (78, 3, .invokevirtual 35, [0, 0, 235]), (81, 3, .if_icmp .ge 81, []), (84, 1, .aload_n 1, []), (85, 1, .iload_n 3, []), (86, 3, .invokevirtual 39, [1, 0, 238]), (89, 3, .checkcast 27, [1]), (92, 2, .astore 4, []), (94, 1, .aload_n 0, []), (95, 2, .aload 4, [])]
def xk_72_3 : List xEn := [(97, 3, .invokevirtual 134, [1, 8, 75]), (100, 3, .ifCond .eq 56, []), (103, 2, .aload 4, []), (105, 3, .getfield 93, [2, 1]), (108, 3, .ifCond .eq 48, []), (111, 1, .aload_n 0, []), (112, 2, .aload 4, []), (114, 2, .aload 4, []), (116, 3, .getfield 79, [7, 1]), (119, 3, .invokevirtual 82, [2, 8, 61]), (122, 3, .ifCond .ne 34, []), (125, 1, .iload_n 2, []), (126, 2, .aload 4, [])]
def xk_72_4 : List xEn := [(128, 3, .getfield 26, [4, 1]), (131, 3, .if_icmp .le 25, []), (134, 1, .aload_n 0, []), (135, 3, .getfield 137, [7, 2, 6, 8, 9]), (138, 2, .aload 4, []), (140, 3, .getfield 70, [6, 1]), (143, 1, .aload_n 0, []), (144, 2, .aload 4, []), (146, 1, .aload_n 0, []), (147, 3, .getfield 23, [12, 8]), (150, 3, .invokevirtual 101, [2, 8, 64]), (153, 3, .invokevirtual 140, [2, 5, 24]), (156, 3, .iinc 3 1, []), (159, 3, .goto (-83), [])]
def xk_72_5 : List xEn := [(162, 1, .return_, [])]
def xe_72 : xEl := (xm_72, [xk_72_0, xk_72_1, xk_72_2, xk_72_3, xk_72_4, xk_72_5], [], [])
def xm_73 : xM := (⟨"ViewFoundry$VersionView", "emptyOwn", "()V"⟩, prog_10_method_14_code, 1, (Option.none : Option Jvm.ClassFile.FieldType), [])
def xk_73_0 : List xEn := [(0, 1, .aload_n 0, []), (1, 3, .getfield 14, [10, 8]), (4, 3, .invokevirtual 131, [0, 0, 243]), (7, 1, .aload_n 0, []), (8, 3, .getfield 20, [11, 8]), (11, 3, .invokevirtual 131, [0, 0, 243]), (14, 1, .return_, [])]
def xe_73 : xEl := (xm_73, [xk_73_0], [], [])
def xm_74 : xM := (⟨"ViewFoundry$View", "<init>", "(IZCIILViewFoundry$Outputs;I)V"⟩, prog_11_method_1_code, 8, (Option.none : Option Jvm.ClassFile.FieldType), [])
def xk_74_0 : List xEn := [(0, 1, .aload_n 0, []), (1, 3, .invokespecial 3, []), (4, 1, .aload_n 0, []), (5, 2, .bipush 8, []), (7, 2, .newarray .int, [0]), (9, 3, .putfield 9, [8, 2, 2, 6, 8, 9]), (12, 1, .aload_n 0, []), (13, 1, .iconst 0, []), (14, 3, .putfield 15, [9, 0, 2, 6, 8, 9]), (17, 1, .aload_n 0, []), (18, 1, .iload_n 1, []), (19, 3, .putfield 19, [0, 0, 2, 6, 8, 9]), (22, 1, .aload_n 0, []), (23, 1, .iload_n 2, []), (24, 3, .putfield 22, [1, 3, 2, 6, 8, 9]), (27, 1, .aload_n 0, []), (28, 1, .iload_n 3, []), (29, 3, .putfield 26, [2, 4, 2, 6, 8, 9])]
def xk_74_1 : List xEn := [(32, 1, .aload_n 0, []), (33, 2, .iload 4, []), (35, 3, .putfield 30, [3, 0, 2, 6, 8, 9]), (38, 1, .aload_n 0, []), (39, 2, .iload 5, []), (41, 3, .putfield 33, [4, 0, 2, 6, 8, 9]), (44, 1, .aload_n 0, []), (45, 2, .aload 6, []), (47, 3, .putfield 36, [5, 2, 2, 6, 8, 9]), (50, 1, .aload_n 0, []), (51, 3, .new 40, [5, 2, 0]), (54, 1, .dup, []), (55, 2, .iload 7, []), (57, 3, .invokespecial 42, [1, 22]), (60, 3, .putfield 45, [6, 2, 2, 6, 8, 9]), (63, 1, .aload_n 0, [])]
def xk_74_2 : List xEn := [(64, 3, .new 40, [5, 2, 0]), (67, 1, .dup, []), (68, 2, .iload 7, []), (70, 3, .invokespecial 42, [1, 22]), (73, 3, .putfield 49, [7, 2, 2, 6, 8, 9]), (76, 1, .return_, [])]
def xe_74 : xEl := (xm_74, [xk_74_0, xk_74_1, xk_74_2], [], [])
def xm_75 : xM := (⟨"ViewFoundry$View", "letsIn", "(LViewFoundry$Entry;)Z"⟩, prog_11_method_7_code, 2, (Option.some Jvm.ClassFile.FieldType.boolean), [])
def xk_75_0 : List xEn := [(0, 1, .aload_n 1, []), (1, 3, .getfield 52, [1, 1]), (4, 3, .ifCond .eq 17, []), (7, 1, .aload_n 1, []), (8, 3, .getfield 57, [2, 1]), (11, 3, .ifCond .ne 12, []), (14, 1, .aload_n 0, []), (15, 3, .getfield 22, [1, 2, 6, 8, 9]), (18, 3, .ifCond .ne 5, []), (21, 1, .iconst 0, []), (22, 1, .ireturn, []), (23, 1, .aload_n 0, []), (24, 3, .getfield 26, [2, 2, 6, 8, 9]), (27, 2, .bipush 101, []), (29, 3, .if_icmp .ne 18, [])]
def xk_75_1 : List xEn := [(32, 1, .aload_n 1, []), (33, 3, .getfield 60, [5, 1]), (36, 1, .iconst 1, []), (37, 1, .iand, []), (38, 3, .ifCond .ne 7, []), (41, 1, .iconst 1, []), (42, 3, .goto 4, []), (45, 1, .iconst 0, []), (46, 1, .ireturn, []), (47, 1, .aload_n 0, []), (48, 3, .getfield 26, [2, 2, 6, 8, 9]), (51, 2, .bipush 112, []), (53, 3, .if_icmp .ne 10, []), (56, 1, .aload_n 1, []), (57, 3, .getfield 60, [5, 1]), (60, 3, .ifCond .le 7, []), (63, 1, .iconst 1, [])]
def xk_75_2 : List xEn := [(64, 3, .goto 4, []), (67, 1, .iconst 0, []), (68, 1, .ireturn, [])]
def xe_75 : xEl := (xm_75, [xk_75_0, xk_75_1, xk_75_2], [], [])
def xm_76 : xM := (⟨"ViewFoundry$View", "beginAnew", "()V"⟩, prog_11_method_8_code, 1, (Option.none : Option Jvm.ClassFile.FieldType), [])
def xk_76_0 : List xEn := [(0, 1, .aload_n 0, []), (1, 3, .getfield 45, [6, 2, 6, 8, 9]), (4, 3, .invokevirtual 63, [0, 5, 26]), (7, 1, .aload_n 0, []), (8, 3, .getfield 9, [8, 2, 6, 8, 9]), (11, 1, .iconst 0, []), (12, 3, .invokestatic 66, [2, 245]), (15, 1, .aload_n 0, []), (16, 1, .iconst 0, []), (17, 3, .putfield 15, [9, 0, 2, 6, 8, 9]), (20, 1, .aload_n 0, []), (21, 3, .invokevirtual 72, [0, 2, 9, 6, 50, 8, 73, 9, 98]), (24, 1, .return_, [])]
def xe_76 : xEl := (xm_76, [xk_76_0], [], [])
def xm_77 : xM := (⟨"ViewFoundry$View", "findAgain", "(Ljava/util/ArrayList;I)V"⟩, prog_11_method_9_code, 3, (Option.none : Option Jvm.ClassFile.FieldType), [])
def xk_77_0 : List xEn := [(0, 1, .aload_n 0, []), (1, 3, .getfield 49, [7, 2, 6, 8, 9]), (4, 3, .invokevirtual 63, [0, 5, 26]), (7, 1, .aload_n 0, []), (8, 1, .aload_n 1, []), (9, 1, .iload_n 2, []), (10, 3, .invokevirtual 75, [2, 2, 7, 6, 47, 8, 72, 9, 96]), (13, 1, .return_, [])]
def xe_77 : xEl := (xm_77, [xk_77_0], [], [])
def xm_78 : xM := (⟨"ViewFoundry$View", "tell", "(IJ)V"⟩, prog_11_method_10_code, 4, (Option.none : Option Jvm.ClassFile.FieldType), [])
def xk_78_0 : List xEn := [(0, 1, .aload_n 0, []), (1, 3, .getfield 45, [6, 2, 6, 8, 9]), (4, 1, .iload_n 1, []), (5, 1, .lload_n 2, []), (6, 3, .invokevirtual 79, [2, 5, 24]), (9, 1, .aload_n 0, []), (10, 3, .getfield 36, [5, 2, 6, 8, 9]), (13, 1, .lload_n 2, []), (14, 3, .invokevirtual 83, [1, 3, 11]), (17, 1, .return_, [])]
def xe_78 : xEl := (xm_78, [xk_78_0], [], [])
def xm_79 : xM := (⟨"ViewFoundry$View", "takeBack", "(I)V"⟩, prog_11_method_11_code, 4, (Option.none : Option Jvm.ClassFile.FieldType), [])
def xk_79_0 : List xEn := [(0, 1, .aload_n 0, []), (1, 3, .getfield 45, [6, 2, 6, 8, 9]), (4, 1, .iload_n 1, []), (5, 3, .invokevirtual 89, [1, 5, 23]), (8, 1, .lstore_n 2, []), (9, 1, .lload_n 2, []), (10, 1, .lconst 0, []), (11, 1, .lcmp, []), (12, 3, .ifCond .eq 23, []), (15, 1, .aload_n 0, []), (16, 3, .getfield 45, [6, 2, 6, 8, 9]), (19, 1, .iload_n 1, []), (20, 3, .invokevirtual 95, [1, 5, 25]), (23, 1, .aload_n 0, []), (24, 3, .getfield 36, [5, 2, 6, 8, 9]), (27, 1, .lload_n 2, []), (28, 3, .ldc2_w 98, [1, 1152921504606846976]), (31, 1, .lor, [])]
def xk_79_1 : List xEn := [(32, 3, .invokevirtual 83, [1, 3, 11]), (35, 1, .return_, [])]
def xe_79 : xEl := (xm_79, [xk_79_0, xk_79_1], [], [])
def xm_80 : xM := (⟨"ViewFoundry$View", "tellAnew", "(IIJ)V"⟩, prog_11_method_12_code, 5, (Option.none : Option Jvm.ClassFile.FieldType), [])
def xk_80_0 : List xEn := [(0, 1, .aload_n 0, []), (1, 3, .getfield 45, [6, 2, 6, 8, 9]), (4, 1, .iload_n 1, []), (5, 3, .invokevirtual 89, [1, 5, 23]), (8, 1, .lload_n 3, []), (9, 1, .lcmp, []), (10, 3, .ifCond .eq 14, []), (13, 1, .aload_n 0, []), (14, 1, .iload_n 1, []), (15, 3, .invokevirtual 100, [1, 2, 79, 6, 79, 8, 79, 9, 79]), (18, 1, .aload_n 0, []), (19, 1, .iload_n 2, []), (20, 1, .lload_n 3, []), (21, 3, .invokevirtual 103, [2, 2, 78, 6, 78, 8, 78, 9, 78]), (24, 1, .return_, [])]
def xe_80 : xEl := (xm_80, [xk_80_0], [], [])
def xm_81 : xM := (⟨"ViewFoundry$View", "hold", "(II)V"⟩, prog_11_method_13_code, 3, (Option.none : Option Jvm.ClassFile.FieldType), [])
def xk_81_0 : List xEn := [(0, 1, .iload_n 1, []), (1, 3, .ifCond .lt 22, []), (4, 1, .iload_n 1, []), (5, 1, .aload_n 0, []), (6, 3, .getfield 9, [8, 2, 6, 8, 9]), (9, 1, .arraylength, []), (10, 3, .if_icmp .ge 13, []), (13, 1, .aload_n 0, []), (14, 3, .getfield 9, [8, 2, 6, 8, 9]), (17, 1, .iload_n 1, []), (18, 1, .dup2, []), (19, 1, .iaload, []), (20, 1, .iload_n 2, []), (21, 1, .iadd, []), (22, 1, .iastore, []), (23, 1, .return_, [])]
def xe_81 : xEl := (xm_81, [xk_81_0], [], [])
def xm_82 : xM := (⟨"ViewFoundry$View", "heldOf", "(I)I"⟩, prog_11_method_14_code, 2, (Option.some Jvm.ClassFile.FieldType.int), [])
def xk_82_0 : List xEn := [(0, 1, .iload_n 1, []), (1, 3, .ifCond .lt 21, []), (4, 1, .iload_n 1, []), (5, 1, .aload_n 0, []), (6, 3, .getfield 9, [8, 2, 6, 8, 9]), (9, 1, .arraylength, []), (10, 3, .if_icmp .ge 12, []), (13, 1, .aload_n 0, []), (14, 3, .getfield 9, [8, 2, 6, 8, 9]), (17, 1, .iload_n 1, []), (18, 1, .iaload, []), (19, 3, .goto 4, []), (22, 1, .iconst 0, []), (23, 1, .ireturn, [])]
def xe_82 : xEl := (xm_82, [xk_82_0], [], [])
def xm_83 : xM := (⟨"ViewFoundry$View", "heldInAll", "()I"⟩, prog_11_method_15_code, 3, (Option.some Jvm.ClassFile.FieldType.int), [])
def xk_83_0 : List xEn := [(0, 1, .iconst 0, []), (1, 1, .istore_n 1, []), (2, 1, .iconst 0, []), (3, 1, .istore_n 2, []), (4, 1, .iload_n 2, []), (5, 1, .aload_n 0, []), (6, 3, .getfield 9, [8, 2, 6, 8, 9]), (9, 1, .arraylength, []), (10, 3, .if_icmp .ge 18, []), (13, 1, .iload_n 1, []), (14, 1, .aload_n 0, []), (15, 3, .getfield 9, [8, 2, 6, 8, 9]), (18, 1, .iload_n 2, []), (19, 1, .iaload, []), (20, 1, .iadd, []), (21, 1, .istore_n 1, []), (22, 3, .iinc 2 1, []), (25, 3, .goto (-21), []), (28, 1, .iload_n 1, []), (29, 1, .ireturn, [])]
def xe_83 : xEl := (xm_83, [xk_83_0], [], [])
def xm_84 : xM := (⟨"ViewFoundry$View", "isTooLate", "(LViewFoundry$Entry;)Z"⟩, prog_11_method_16_code, 2, (Option.some Jvm.ClassFile.FieldType.boolean), [])
def xk_84_0 : List xEn := [(0, 1, .aload_n 1, []), (1, 3, .getfield 106, [7, 1]), (4, 1, .aload_n 1, []), (5, 3, .getfield 109, [4, 1]), (8, 1, .aload_n 0, []), (9, 3, .getfield 30, [3, 2, 6, 8, 9]), (12, 1, .iadd, []), (13, 1, .iconst 1, []), (14, 1, .iadd, []), (15, 1, .aload_n 0, []), (16, 3, .getfield 33, [4, 2, 6, 8, 9]), (19, 1, .iadd, []), (20, 3, .if_icmp .lt 7, []), (23, 1, .iconst 1, []), (24, 3, .goto 4, []), (27, 1, .iconst 0, []), (28, 1, .ireturn, [])]
def xe_84 : xEl := (xm_84, [xk_84_0], [], [])
def xm_85 : xM := (⟨"ViewFoundry$WindowView", "<init>", "(ICCIIILViewFoundry$Outputs;)V"⟩, prog_12_method_1_code, 8, (Option.none : Option Jvm.ClassFile.FieldType), [])
def xk_85_0 : List xEn := [(0, 1, .aload_n 0, []), (1, 1, .iload_n 1, []), (2, 1, .iconst 0, []), (3, 1, .iload_n 3, []), (4, 2, .iload 4, []), (6, 2, .iload 6, []), (8, 2, .aload 7, []), (10, 2, .iload 5, []), (12, 3, .invokestatic 3, [1, 86]), (15, 2, .bipush 8, []), (17, 1, .imul, []), (18, 3, .invokespecial 9, [7, 74]), (21, 1, .aload_n 0, []), (22, 1, .iload_n 2, []), (23, 3, .putfield 15, [10, 4, 9]), (26, 1, .aload_n 0, []), (27, 2, .iload 5, []), (29, 3, .putfield 19, [11, 0, 9])]
def xk_85_1 : List xEn := [(32, 1, .aload_n 0, []), (33, 2, .iload 5, []), (35, 3, .invokestatic 3, [1, 86]), (38, 3, .putfield 23, [12, 0, 9]), (41, 1, .aload_n 0, []), (42, 3, .new 26, [7, 2, 2, 2]), (45, 1, .dup, []), (46, 1, .aload_n 0, []), (47, 3, .getfield 23, [12, 9]), (50, 2, .bipush 8, []), (52, 1, .imul, []), (53, 3, .invokespecial 28, [1, 51]), (56, 3, .putfield 31, [13, 2, 9]), (59, 1, .aload_n 0, []), (60, 3, .new 26, [7, 2, 2, 2]), (63, 1, .dup, [])]
def xk_85_2 : List xEn := [(64, 1, .aload_n 0, []), (65, 3, .getfield 23, [12, 9]), (68, 2, .bipush 8, []), (70, 1, .imul, []), (71, 3, .invokespecial 28, [1, 51]), (74, 3, .putfield 35, [14, 2, 9]), (77, 1, .return_, [])]
def xe_85 : xEl := (xm_85, [xk_85_0, xk_85_1, xk_85_2], [], [])
def xm_86 : xM := (⟨"ViewFoundry$WindowView", "windowsBy", "(I)I"⟩, prog_12_method_2_code, 1, (Option.some Jvm.ClassFile.FieldType.int), [])
def xk_86_0 : List xEn := [(0, 1, .iload_n 0, []), (1, 3, .ifCond .le 13, []), (4, 3, .sipush 999, []), (7, 1, .iload_n 0, []), (8, 1, .idiv, []), (9, 1, .iconst 1, []), (10, 1, .iadd, []), (11, 3, .goto 4, []), (14, 1, .iconst 1, []), (15, 1, .ireturn, [])]
def xe_86 : xEl := (xm_86, [xk_86_0], [], [])
def xm_87 : xM := (⟨"ViewFoundry$WindowView", "endOf", "(I)I"⟩, prog_12_method_3_code, 2, (Option.some Jvm.ClassFile.FieldType.int), [])
def xk_87_0 : List xEn := [(0, 1, .iload_n 1, []), (1, 1, .aload_n 0, []), (2, 3, .getfield 19, [11, 9]), (5, 1, .imul, []), (6, 1, .aload_n 0, []), (7, 3, .getfield 38, [3, 2, 6, 8, 9]), (10, 1, .iadd, []), (11, 1, .ireturn, [])]
def xe_87 : xEl := (xm_87, [xk_87_0], [], [])
def xm_88 : xM := (⟨"ViewFoundry$WindowView", "firstEndingAfter", "(I)I"⟩, prog_12_method_4_code, 2, (Option.some Jvm.ClassFile.FieldType.int), [])
def xk_88_0 : List xEn := [(0, 1, .iload_n 1, []), (1, 1, .aload_n 0, []), (2, 3, .getfield 38, [3, 2, 6, 8, 9]), (5, 3, .if_icmp .lt 10, []), (8, 1, .aload_n 0, []), (9, 3, .getfield 19, [11, 9]), (12, 3, .ifCond .gt 7, []), (15, 1, .iconst 0, []), (16, 3, .goto 16, []), (19, 1, .iload_n 1, []), (20, 1, .aload_n 0, []), (21, 3, .getfield 38, [3, 2, 6, 8, 9]), (24, 1, .isub, []), (25, 1, .aload_n 0, []), (26, 3, .getfield 19, [11, 9]), (29, 1, .idiv, []), (30, 1, .iconst 1, []), (31, 1, .iadd, [])]
def xk_88_1 : List xEn := [(32, 1, .ireturn, [])]
def xe_88 : xEl := (xm_88, [xk_88_0, xk_88_1], [], [])
def xm_89 : xM := (⟨"ViewFoundry$WindowView", "lastBeginningBy", "(I)I"⟩, prog_12_method_5_code, 2, (Option.some Jvm.ClassFile.FieldType.int), [])
def xk_89_0 : List xEn := [(0, 1, .aload_n 0, []), (1, 3, .getfield 19, [11, 9]), (4, 3, .ifCond .le 12, []), (7, 1, .iload_n 1, []), (8, 1, .aload_n 0, []), (9, 3, .getfield 19, [11, 9]), (12, 1, .idiv, []), (13, 3, .goto 4, []), (16, 1, .iconst 0, []), (17, 1, .ireturn, [])]
def xe_89 : xEl := (xm_89, [xk_89_0], [], [])
def xm_90 : xM := (⟨"ViewFoundry$WindowView", "isTooLateFor", "(ILViewFoundry$Entry;)Z"⟩, prog_12_method_6_code, 3, (Option.some Jvm.ClassFile.FieldType.boolean), [])
def xk_90_0 : List xEn := [(0, 1, .aload_n 2, []), (1, 3, .getfield 41, [7, 1]), (4, 1, .aload_n 0, []), (5, 1, .iload_n 1, []), (6, 3, .invokevirtual 46, [1, 9, 87]), (9, 1, .aload_n 0, []), (10, 3, .getfield 49, [4, 2, 6, 8, 9]), (13, 1, .iadd, []), (14, 3, .if_icmp .lt 7, []), (17, 1, .iconst 1, []), (18, 3, .goto 4, []), (21, 1, .iconst 0, []), (22, 1, .ireturn, [])]
def xe_90 : xEl := (xm_90, [xk_90_0], [], [])
def xm_91 : xM := (⟨"ViewFoundry$WindowView", "resultOf", "(IILViewFoundry$Tally;)J"⟩, prog_12_method_7_code, 5, (Option.some Jvm.ClassFile.FieldType.long), [])
def xk_91_0 : List xEn := [(0, 1, .aload_n 3, []), (1, 1, .iload_n 1, []), (2, 2, .bipush 8, []), (4, 1, .imul, []), (5, 1, .iload_n 2, []), (6, 1, .iadd, []), (7, 1, .aload_n 0, []), (8, 3, .getfield 15, [10, 9]), (11, 3, .invokevirtual 52, [2, 7, 58]), (14, 2, .istore 4, []), (16, 1, .aload_n 0, []), (17, 3, .getfield 56, [0, 2, 6, 8, 9]), (20, 1, .iload_n 2, []), (21, 1, .iload_n 1, []), (22, 1, .aload_n 0, []), (23, 3, .getfield 19, [11, 9]), (26, 1, .imul, []), (27, 1, .aload_n 0, []), (28, 1, .iload_n 1, []), (29, 3, .invokevirtual 46, [1, 9, 87])]
def xk_91_1 : List xEn := [(32, 2, .iload 4, []), (34, 3, .invokestatic 59, [5, 14]), (37, 1, .lreturn, [])]
def xe_91 : xEl := (xm_91, [xk_91_0, xk_91_1], [], [])
def xm_92 : xM := (⟨"ViewFoundry$WindowView", "take", "(LViewFoundry$Entry;)V"⟩, prog_12_method_8_code, 4, (Option.none : Option Jvm.ClassFile.FieldType), [])
def xk_92_0 : List xEn := [(0, 1, .aload_n 0, []), (1, 1, .aload_n 1, []), (2, 3, .getfield 65, [4, 1]), (5, 3, .invokevirtual 68, [1, 9, 89]), (8, 1, .istore_n 2, []), (9, 1, .aload_n 0, []), (10, 1, .aload_n 1, []), (11, 3, .getfield 65, [4, 1]), (14, 3, .invokevirtual 71, [1, 9, 88]), (17, 1, .istore_n 3, []), (18, 1, .iload_n 3, []), (19, 1, .iload_n 2, []), (20, 3, .if_icmp .gt 37, []), (23, 1, .aload_n 0, []), (24, 1, .iload_n 3, []), (25, 1, .aload_n 1, []), (26, 3, .invokevirtual 74, [2, 9, 90]), (29, 3, .ifCond .eq 16, [])]
def xk_92_1 : List xEn := [(32, 1, .aload_n 0, []), (33, 1, .dup, []), (34, 3, .getfield 78, [9, 2, 6, 8, 9]), (37, 1, .iconst 1, []), (38, 1, .iadd, []), (39, 3, .putfield 78, [9, 0, 2, 6, 8, 9]), (42, 3, .goto 9, []), (45, 1, .aload_n 0, []), (46, 1, .iload_n 3, []), (47, 1, .aload_n 1, []), (48, 3, .invokevirtual 81, [2, 9, 93]), (51, 3, .iinc 3 1, []), (54, 3, .goto (-36), []), (57, 1, .return_, [])]
def xe_92 : xEl := (xm_92, [xk_92_0, xk_92_1], [], [])
def xm_93 : xM := (⟨"ViewFoundry$WindowView", "takeInto", "(ILViewFoundry$Entry;)V"⟩, prog_12_method_9_code, 4, (Option.none : Option Jvm.ClassFile.FieldType), [])
def xk_93_0 : List xEn := [(0, 1, .iload_n 1, []), (1, 2, .bipush 8, []), (3, 1, .imul, []), (4, 1, .aload_n 2, []), (5, 3, .getfield 85, [3, 1]), (8, 1, .iadd, []), (9, 1, .istore_n 3, []), (10, 1, .aload_n 0, []), (11, 3, .getfield 31, [13, 9]), (14, 1, .iload_n 3, []), (15, 3, .invokevirtual 88, [1, 7, 53]), (18, 3, .ifCond .ne 12, []), (21, 1, .aload_n 0, []), (22, 1, .aload_n 2, []), (23, 3, .getfield 85, [3, 1]), (26, 1, .iconst 1, []), (27, 3, .invokevirtual 92, [2, 9, 81]), (30, 1, .aload_n 0, []), (31, 3, .getfield 31, [13, 9])]
def xk_93_1 : List xEn := [(34, 1, .iload_n 3, []), (35, 1, .aload_n 2, []), (36, 3, .getfield 96, [5, 1]), (39, 3, .invokevirtual 99, [2, 7, 54]), (42, 1, .aload_n 2, []), (43, 3, .getfield 41, [7, 1]), (46, 1, .aload_n 0, []), (47, 1, .iload_n 1, []), (48, 3, .invokevirtual 46, [1, 9, 87]), (51, 3, .if_icmp .lt 22, []), (54, 1, .aload_n 0, []), (55, 1, .iload_n 3, []), (56, 1, .iload_n 3, []), (57, 1, .aload_n 0, []), (58, 1, .iload_n 1, []), (59, 1, .aload_n 2, []), (60, 3, .getfield 85, [3, 1]), (63, 1, .aload_n 0, [])]
def xk_93_2 : List xEn := [(64, 3, .getfield 31, [13, 9]), (67, 3, .invokevirtual 102, [3, 9, 91]), (70, 3, .invokevirtual 106, [3, 9, 80]), (73, 1, .return_, [])]
def xe_93 : xEl := (xm_93, [xk_93_0, xk_93_1, xk_93_2], [], [])
def xm_94 : xM := (⟨"ViewFoundry$WindowView", "tellDue", "(II)V"⟩, prog_12_method_10_code, 6, (Option.none : Option Jvm.ClassFile.FieldType), [])
def xk_94_0 : List xEn := [(0, 1, .aload_n 0, []), (1, 1, .iload_n 1, []), (2, 3, .invokevirtual 71, [1, 9, 88]), (5, 1, .istore_n 3, []), (6, 1, .iload_n 3, []), (7, 1, .aload_n 0, []), (8, 3, .getfield 23, [12, 9]), (11, 3, .if_icmp .ge 74, []), (14, 1, .aload_n 0, []), (15, 1, .iload_n 3, []), (16, 3, .invokevirtual 46, [1, 9, 87]), (19, 1, .iload_n 2, []), (20, 3, .if_icmp .gt 65, []), (23, 1, .iconst 0, []), (24, 2, .istore 4, []), (26, 2, .iload 4, []), (28, 2, .bipush 8, []), (30, 3, .if_icmp .ge 49, [])]
def xk_94_1 : List xEn := [(33, 1, .iload_n 3, []), (34, 2, .bipush 8, []), (36, 1, .imul, []), (37, 2, .iload 4, []), (39, 1, .iadd, []), (40, 2, .istore 5, []), (42, 1, .aload_n 0, []), (43, 3, .getfield 31, [13, 9]), (46, 2, .iload 5, []), (48, 3, .invokevirtual 88, [1, 7, 53]), (51, 3, .ifCond .eq 22, []), (54, 1, .aload_n 0, []), (55, 2, .iload 5, []), (57, 2, .iload 5, []), (59, 1, .aload_n 0, []), (60, 1, .iload_n 3, []), (61, 2, .iload 4, []), (63, 1, .aload_n 0, [])]
def xk_94_2 : List xEn := [(64, 3, .getfield 31, [13, 9]), (67, 3, .invokevirtual 102, [3, 9, 91]), (70, 3, .invokevirtual 106, [3, 9, 80]), (73, 3, .iinc 4 1, []), (76, 3, .goto (-50), []), (79, 3, .iinc 3 1, []), (82, 3, .goto (-76), []), (85, 1, .return_, [])]
def xe_94 : xEl := (xm_94, [xk_94_0, xk_94_1, xk_94_2], [], [])
def xm_95 : xM := (⟨"ViewFoundry$WindowView", "letGo", "(II)V"⟩, prog_12_method_11_code, 6, (Option.none : Option Jvm.ClassFile.FieldType), [])
def xk_95_0 : List xEn := [(0, 1, .aload_n 0, []), (1, 1, .iload_n 1, []), (2, 1, .aload_n 0, []), (3, 3, .getfield 49, [4, 2, 6, 8, 9]), (6, 1, .isub, []), (7, 3, .invokevirtual 71, [1, 9, 88]), (10, 1, .istore_n 3, []), (11, 1, .iload_n 3, []), (12, 2, .istore 4, []), (14, 2, .iload 4, []), (16, 1, .aload_n 0, []), (17, 3, .getfield 23, [12, 9]), (20, 3, .if_icmp .ge 65, []), (23, 1, .aload_n 0, []), (24, 2, .iload 4, []), (26, 3, .invokevirtual 46, [1, 9, 87]), (29, 1, .aload_n 0, []), (30, 3, .getfield 49, [4, 2, 6, 8, 9])]
def xk_95_1 : List xEn := [(33, 1, .iadd, []), (34, 1, .iload_n 2, []), (35, 3, .if_icmp .gt 50, []), (38, 1, .iconst 0, []), (39, 2, .istore 5, []), (41, 2, .iload 5, []), (43, 2, .bipush 8, []), (45, 3, .if_icmp .ge 34, []), (48, 1, .aload_n 0, []), (49, 3, .getfield 31, [13, 9]), (52, 2, .iload 4, []), (54, 2, .bipush 8, []), (56, 1, .imul, []), (57, 2, .iload 5, []), (59, 1, .iadd, []), (60, 3, .invokevirtual 88, [1, 7, 53]), (63, 3, .ifCond .eq 10, [])]
def xk_95_2 : List xEn := [(66, 1, .aload_n 0, []), (67, 2, .iload 5, []), (69, 1, .iconst (-1), []), (70, 3, .invokevirtual 92, [2, 9, 81]), (73, 3, .iinc 5 1, []), (76, 3, .goto (-35), []), (79, 3, .iinc 4 1, []), (82, 3, .goto (-68), []), (85, 1, .return_, [])]
def xe_95 : xEl := (xm_95, [xk_95_0, xk_95_1, xk_95_2], [], [])
def xm_96 : xM := (⟨"ViewFoundry$WindowView", "find", "(Ljava/util/ArrayList;I)V"⟩, prog_12_method_12_code, 6, (Option.none : Option Jvm.ClassFile.FieldType), [])
def xk_96_0 : List xEn := [(0, 1, .aload_n 0, []), (1, 3, .getfield 35, [14, 9]), (4, 3, .invokevirtual 110, [0, 7, 57]), (7, 1, .iconst 0, []), (8, 1, .istore_n 3, []), (9, 1, .iload_n 3, []), (10, 1, .aload_n 1, []), (11, 3, .invokevirtual 114, [0, 0, 235]), (14, 3, .if_icmp .ge 34, []), (17, 1, .aload_n 1, []), (18, 1, .iload_n 3, []), (19, 3, .invokevirtual 119, [1, 0, 238]), (22, 3, .checkcast 42, [1]), (25, 2, .astore 4, []), (27, 1, .aload_n 0, []), (28, 2, .aload 4, []), (30, 3, .invokevirtual 123, [1, 9, 75])]
def xk_96_1 : List xEn := [(33, 3, .ifCond .eq 9, []), (36, 1, .aload_n 0, []), (37, 2, .aload 4, []), (39, 3, .invokevirtual 127, [1, 9, 97]), (42, 3, .iinc 3 1, []), (45, 3, .goto (-36), []), (48, 1, .iconst 0, []), (49, 1, .istore_n 3, []), (50, 1, .iload_n 3, []), (51, 1, .aload_n 0, []), (52, 3, .getfield 23, [12, 9]), (55, 3, .if_icmp .ge 75, []), (58, 1, .aload_n 0, []), (59, 1, .iload_n 3, []), (60, 3, .invokevirtual 46, [1, 9, 87]), (63, 1, .iload_n 2, [])]
def xk_96_2 : List xEn := [(64, 3, .if_icmp .gt 66, []), (67, 1, .iconst 0, []), (68, 2, .istore 4, []), (70, 2, .iload 4, []), (72, 2, .bipush 8, []), (74, 3, .if_icmp .ge 50, []), (77, 1, .iload_n 3, []), (78, 2, .bipush 8, []), (80, 1, .imul, []), (81, 2, .iload 4, []), (83, 1, .iadd, []), (84, 2, .istore 5, []), (86, 1, .aload_n 0, []), (87, 3, .getfield 35, [14, 9]), (90, 2, .iload 5, []), (92, 3, .invokevirtual 88, [1, 7, 53]), (95, 3, .ifCond .eq 23, [])]
def xk_96_3 : List xEn := [(98, 1, .aload_n 0, []), (99, 3, .getfield 131, [7, 2, 6, 8, 9]), (102, 2, .iload 5, []), (104, 1, .aload_n 0, []), (105, 1, .iload_n 3, []), (106, 2, .iload 4, []), (108, 1, .aload_n 0, []), (109, 3, .getfield 35, [14, 9]), (112, 3, .invokevirtual 102, [3, 9, 91]), (115, 3, .invokevirtual 135, [2, 5, 24]), (118, 3, .iinc 4 1, []), (121, 3, .goto (-51), []), (124, 3, .iinc 3 1, []), (127, 3, .goto (-77), [])]
def xk_96_4 : List xEn := [(130, 1, .return_, [])]
def xe_96 : xEl := (xm_96, [xk_96_0, xk_96_1, xk_96_2, xk_96_3, xk_96_4], [], [])
def xm_97 : xM := (⟨"ViewFoundry$WindowView", "addAgain", "(LViewFoundry$Entry;)V"⟩, prog_12_method_13_code, 4, (Option.none : Option Jvm.ClassFile.FieldType), [])
def xk_97_0 : List xEn := [(0, 1, .aload_n 0, []), (1, 1, .aload_n 1, []), (2, 3, .getfield 65, [4, 1]), (5, 3, .invokevirtual 68, [1, 9, 89]), (8, 1, .istore_n 2, []), (9, 1, .aload_n 0, []), (10, 1, .aload_n 1, []), (11, 3, .getfield 65, [4, 1]), (14, 3, .invokevirtual 71, [1, 9, 88]), (17, 1, .istore_n 3, []), (18, 1, .iload_n 3, []), (19, 1, .iload_n 2, []), (20, 3, .if_icmp .gt 38, []), (23, 1, .aload_n 0, []), (24, 1, .iload_n 3, []), (25, 1, .aload_n 1, []), (26, 3, .invokevirtual 74, [2, 9, 90]), (29, 3, .ifCond .ne 23, [])]
def xk_97_1 : List xEn := [(32, 1, .aload_n 0, []), (33, 3, .getfield 35, [14, 9]), (36, 1, .iload_n 3, []), (37, 2, .bipush 8, []), (39, 1, .imul, []), (40, 1, .aload_n 1, []), (41, 3, .getfield 85, [3, 1]), (44, 1, .iadd, []), (45, 1, .aload_n 1, []), (46, 3, .getfield 96, [5, 1]), (49, 3, .invokevirtual 99, [2, 7, 54]), (52, 3, .iinc 3 1, []), (55, 3, .goto (-37), []), (58, 1, .return_, [])]
def xe_97 : xEl := (xm_97, [xk_97_0, xk_97_1], [], [])
def xm_98 : xM := (⟨"ViewFoundry$WindowView", "emptyOwn", "()V"⟩, prog_12_method_14_code, 1, (Option.none : Option Jvm.ClassFile.FieldType), [])
def xk_98_0 : List xEn := [(0, 1, .aload_n 0, []), (1, 3, .getfield 31, [13, 9]), (4, 3, .invokevirtual 110, [0, 7, 57]), (7, 1, .return_, [])]
def xe_98 : xEl := (xm_98, [xk_98_0], [], [])
def xm_99 : xM := (⟨"ViewFoundry", "<init>", "()V"⟩, prog_1_method_1_code, 2, (Option.none : Option Jvm.ClassFile.FieldType), [])
def xk_99_0 : List xEn := [(0, 1, .aload_n 0, []), (1, 3, .invokespecial 1, []), (4, 1, .aload_n 0, []), (5, 3, .new 7, [0, 0, 2, 0]), (8, 1, .dup, []), (9, 3, .invokespecial 9, [0, 232]), (12, 3, .putfield 10, [0, 2, 10]), (15, 1, .aload_n 0, []), (16, 3, .new 7, [0, 0, 2, 0]), (19, 1, .dup, []), (20, 3, .invokespecial 9, [0, 232]), (23, 3, .putfield 16, [1, 2, 10]), (26, 1, .aload_n 0, []), (27, 3, .new 7, [0, 0, 2, 0]), (30, 1, .dup, []), (31, 3, .invokespecial 9, [0, 232])]
def xk_99_1 : List xEn := [(34, 3, .putfield 19, [2, 2, 10]), (37, 1, .aload_n 0, []), (38, 3, .new 22, [3, 2, 0]), (41, 1, .dup, []), (42, 3, .invokespecial 24, [0, 10]), (45, 3, .putfield 25, [3, 2, 10]), (48, 1, .aload_n 0, []), (49, 2, .bipush 8, []), (51, 2, .newarray .int, [0]), (53, 3, .putfield 29, [4, 2, 10]), (56, 1, .aload_n 0, []), (57, 1, .iconst 5, []), (58, 2, .newarray .int, [0]), (60, 3, .putfield 33, [5, 2, 10]), (63, 1, .iconst 0, [])]
def xk_99_2 : List xEn := [(64, 1, .istore_n 1, []), (65, 1, .iload_n 1, []), (66, 1, .iconst 3, []), (67, 3, .if_icmp .ge 24, []), (70, 1, .aload_n 0, []), (71, 3, .getfield 10, [0, 10]), (74, 3, .new 36, [4, 2, 0, 0, 0]), (77, 1, .dup, []), (78, 3, .invokespecial 38, [0, 13]), (81, 3, .invokevirtual 39, [1, 0, 240]), (84, 1, .pop, []), (85, 3, .iinc 1 1, []), (88, 3, .goto (-23), []), (91, 1, .iconst 0, []), (92, 1, .istore_n 1, []), (93, 1, .iload_n 1, []), (94, 1, .aload_n 0, []), (95, 3, .getfield 29, [4, 10])]
def xk_99_3 : List xEn := [(98, 1, .arraylength, []), (99, 3, .if_icmp .ge 18, []), (102, 1, .aload_n 0, []), (103, 3, .getfield 29, [4, 10]), (106, 1, .iload_n 1, []), (107, 1, .iload_n 1, []), (108, 1, .iconst 3, []), (109, 1, .irem, []), (110, 1, .iastore, []), (111, 3, .iinc 1 1, []), (114, 3, .goto (-21), []), (117, 1, .return_, [])]
def xe_99 : xEl := (xm_99, [xk_99_0, xk_99_1, xk_99_2, xk_99_3], [], [])
def xm_100 : xM := (⟨"ViewFoundry", "putRow", "(IIII)I"⟩, prog_1_method_2_code, 6, (Option.some Jvm.ClassFile.FieldType.int), [])
def xk_100_0 : List xEn := [(0, 1, .aload_n 0, []), (1, 1, .iload_n 1, []), (2, 3, .invokevirtual 43, [1, 10, 130]), (5, 2, .astore 5, []), (7, 1, .aload_n 0, []), (8, 1, .iload_n 2, []), (9, 3, .invokevirtual 47, [1, 10, 132]), (12, 1, .aload_n 0, []), (13, 1, .iload_n 3, []), (14, 3, .invokevirtual 51, [1, 10, 133]), (17, 2, .iload 4, []), (19, 2, .bipush (-99), []), (21, 3, .if_icmp .lt 10, []), (24, 2, .iload 4, []), (26, 2, .bipush 99, []), (28, 3, .if_icmp .le 13, []), (31, 3, .new 54, [])]
def xk_100_1 : List xEn := [(41, 1, .aload_n 0, []), (42, 2, .aload 5, []), (44, 3, .new 61, [1, 0, 3, 3, 0, 0, 0, 0, 0, 0]), (47, 1, .dup, []), (48, 1, .iload_n 1, []), (49, 1, .iconst 1, []), (50, 1, .iload_n 2, []), (51, 1, .iload_n 3, []), (52, 2, .iload 4, []), (54, 3, .invokespecial 63, [5, 0]), (57, 3, .invokevirtual 66, [2, 10, 138]), (60, 1, .ireturn, [])]
def xe_100 : xEl := (xm_100, [xk_100_0, xk_100_1], [(31, "java/lang/IllegalArgumentException")], [])
def xm_101 : xM := (⟨"ViewFoundry", "putMark", "(II)I"⟩, prog_1_method_3_code, 4, (Option.some Jvm.ClassFile.FieldType.int), [])
def xk_101_0 : List xEn := [(0, 1, .aload_n 0, []), (1, 1, .iload_n 1, []), (2, 3, .invokevirtual 43, [1, 10, 130]), (5, 1, .astore_n 3, []), (6, 1, .aload_n 0, []), (7, 1, .iload_n 2, []), (8, 3, .invokevirtual 51, [1, 10, 133]), (11, 1, .aload_n 0, []), (12, 1, .aload_n 3, []), (13, 3, .new 61, [1, 0, 3, 3, 0, 0, 0, 0, 0, 0]), (16, 1, .dup, []), (17, 1, .iload_n 1, []), (18, 1, .iconst 0, []), (19, 1, .iconst 0, []), (20, 1, .iload_n 2, []), (21, 1, .iconst 0, []), (22, 3, .invokespecial 63, [5, 0]), (25, 3, .invokevirtual 66, [2, 10, 138]), (28, 1, .ireturn, [])]
def xe_101 : xEl := (xm_101, [xk_101_0], [], [])
def xm_102 : xM := (⟨"ViewFoundry", "setSlack", "(II)I"⟩, prog_1_method_4_code, 5, (Option.some Jvm.ClassFile.FieldType.int), [])
def xk_102_0 : List xEn := [(0, 1, .aload_n 0, []), (1, 1, .iload_n 1, []), (2, 3, .invokevirtual 43, [1, 10, 130]), (5, 1, .astore_n 3, []), (6, 1, .iload_n 2, []), (7, 3, .ifCond .lt 9, []), (10, 1, .iload_n 2, []), (11, 2, .bipush 99, []), (13, 3, .if_icmp .le 13, []), (16, 3, .new 54, []), (26, 1, .aload_n 0, []), (27, 3, .getfield 16, [1, 10]), (30, 3, .invokevirtual 72, [0, 0, 236])]
def xk_102_1 : List xEn := [(33, 3, .ifCond .ne 13, []), (36, 3, .new 76, []), (46, 1, .aload_n 3, []), (47, 3, .getfield 81, [3, 4]), (50, 2, .istore 4, []), (52, 1, .aload_n 3, []), (53, 1, .iload_n 2, []), (54, 3, .putfield 81, [3, 0, 4]), (57, 2, .iload 4, []), (59, 1, .ireturn, [])]
def xe_102 : xEl := (xm_102, [xk_102_0, xk_102_1], [(16, "java/lang/IllegalArgumentException"), (36, "java/lang/IllegalStateException")], [])
def xm_103 : xM := (⟨"ViewFoundry", "addView", "(CCCIII)I"⟩, prog_1_method_5_code, 8, (Option.some Jvm.ClassFile.FieldType.int), [])
def xk_103_0 : List xEn := [(0, 1, .iload_n 1, []), (1, 3, .invokestatic 85, [1, 135]), (4, 3, .ifCond .eq 17, []), (7, 1, .iload_n 2, []), (8, 3, .invokestatic 89, [1, 136]), (11, 3, .ifCond .eq 10, []), (14, 1, .iload_n 3, []), (15, 3, .invokestatic 92, [1, 137]), (18, 3, .ifCond .ne 13, []), (21, 3, .new 54, []), (31, 2, .iload 4, [])]
def xk_103_1 : List xEn := [(33, 1, .iconst 1, []), (34, 3, .if_icmp .lt 24, []), (37, 2, .iload 4, []), (39, 3, .sipush 200, []), (42, 3, .if_icmp .gt 16, []), (45, 2, .iload 6, []), (47, 3, .ifCond .lt 11, []), (50, 2, .iload 6, []), (52, 3, .sipush 200, []), (55, 3, .if_icmp .le 13, []), (58, 3, .new 54, [])]
def xk_103_2 : List xEn := [(68, 1, .iload_n 1, []), (69, 2, .bipush 108, []), (71, 3, .if_icmp .ne 26, []), (74, 2, .iload 5, []), (76, 1, .iconst 1, []), (77, 3, .if_icmp .lt 10, []), (80, 2, .iload 5, []), (82, 2, .iload 4, []), (84, 3, .if_icmp .le 13, []), (87, 3, .new 54, [])]
def xk_103_3 : List xEn := [(97, 1, .aload_n 0, []), (98, 3, .getfield 16, [1, 10]), (101, 3, .invokevirtual 101, [0, 0, 235]), (104, 1, .iconst 5, []), (105, 3, .if_icmp .ge 17, []), (108, 1, .aload_n 0, []), (109, 3, .getfield 105, [6, 10]), (112, 3, .ifCond .ne 10, []), (115, 1, .aload_n 0, []), (116, 3, .getfield 109, [7, 10]), (119, 3, .ifCond .eq 13, []), (122, 3, .new 76, [])]
def xk_103_4 : List xEn := [(132, 1, .aload_n 0, []), (133, 3, .getfield 16, [1, 10]), (136, 3, .invokevirtual 101, [0, 0, 235]), (139, 2, .istore 7, []), (141, 1, .iload_n 1, []), (142, 2, .bipush 116, []), (144, 3, .if_icmp .ne 35, []), (147, 1, .aload_n 0, []), (148, 3, .getfield 16, [1, 10]), (151, 3, .new 114, [9, 0, 3, 4, 0, 0, 2, 2, 2, 2, 0, 4, 0, 0, 2, 2]), (154, 1, .dup, []), (155, 2, .iload 7, []), (157, 1, .iload_n 2, []), (158, 1, .iload_n 3, []), (159, 2, .iload 4, [])]
def xk_103_5 : List xEn := [(161, 2, .iload 4, []), (163, 2, .iload 6, []), (165, 1, .aload_n 0, []), (166, 3, .getfield 25, [3, 10]), (169, 3, .invokespecial 116, [7, 85]), (172, 3, .invokevirtual 39, [1, 0, 240]), (175, 1, .pop, []), (176, 3, .goto 138, []), (179, 1, .iload_n 1, []), (180, 2, .bipush 108, []), (182, 3, .if_icmp .ne 35, []), (185, 1, .aload_n 0, []), (186, 3, .getfield 16, [1, 10]), (189, 3, .new 114, [9, 0, 3, 4, 0, 0, 2, 2, 2, 2, 0, 4, 0, 0, 2, 2])]
def xk_103_6 : List xEn := [(192, 1, .dup, []), (193, 2, .iload 7, []), (195, 1, .iload_n 2, []), (196, 1, .iload_n 3, []), (197, 2, .iload 4, []), (199, 2, .iload 5, []), (201, 2, .iload 6, []), (203, 1, .aload_n 0, []), (204, 3, .getfield 25, [3, 10]), (207, 3, .invokespecial 116, [7, 85]), (210, 3, .invokevirtual 39, [1, 0, 240]), (213, 1, .pop, []), (214, 3, .goto 100, []), (217, 1, .iload_n 1, []), (218, 2, .bipush 115, []), (220, 3, .if_icmp .ne 33, []), (223, 1, .aload_n 0, [])]
def xk_103_7 : List xEn := [(224, 3, .getfield 16, [1, 10]), (227, 3, .new 119, [6, 0, 3, 4, 0, 0, 2, 2, 2, 2, 0, 4, 2, 2, 2, 2]), (230, 1, .dup, []), (231, 2, .iload 7, []), (233, 1, .iload_n 2, []), (234, 1, .iload_n 3, []), (235, 2, .iload 4, []), (237, 2, .iload 6, []), (239, 1, .aload_n 0, []), (240, 3, .getfield 25, [3, 10]), (243, 3, .invokespecial 121, [6, 35]), (246, 3, .invokevirtual 39, [1, 0, 240]), (249, 1, .pop, []), (250, 3, .goto 64, []), (253, 1, .iload_n 1, []), (254, 2, .bipush 106, [])]
def xk_103_8 : List xEn := [(256, 3, .if_icmp .ne 32, []), (259, 1, .aload_n 0, []), (260, 3, .getfield 16, [1, 10]), (263, 3, .new 124, [2, 0, 3, 4, 0, 0, 2, 2, 2, 2, 0, 2]), (266, 1, .dup, []), (267, 2, .iload 7, []), (269, 1, .iload_n 3, []), (270, 2, .iload 4, []), (272, 2, .iload 6, []), (274, 1, .aload_n 0, []), (275, 3, .getfield 25, [3, 10]), (278, 3, .invokespecial 126, [5, 2]), (281, 3, .invokevirtual 39, [1, 0, 240]), (284, 1, .pop, []), (285, 3, .goto 29, [])]
def xk_103_9 : List xEn := [(288, 1, .aload_n 0, []), (289, 3, .getfield 16, [1, 10]), (292, 3, .new 129, [8, 0, 3, 4, 0, 0, 2, 2, 2, 2, 0, 2, 2, 2]), (295, 1, .dup, []), (296, 2, .iload 7, []), (298, 1, .iload_n 3, []), (299, 2, .iload 4, []), (301, 2, .iload 6, []), (303, 1, .aload_n 0, []), (304, 3, .getfield 25, [3, 10]), (307, 3, .invokespecial 131, [5, 60]), (310, 3, .invokevirtual 39, [1, 0, 240]), (313, 1, .pop, []), (314, 2, .iload 7, []), (316, 1, .ireturn, [])]
def xe_103 : xEl := (xm_103, [xk_103_0, xk_103_1, xk_103_2, xk_103_3, xk_103_4, xk_103_5, xk_103_6, xk_103_7, xk_103_8, xk_103_9], [(21, "java/lang/IllegalArgumentException"), (58, "java/lang/IllegalArgumentException"), (87, "java/lang/IllegalArgumentException"), (122, "java/lang/IllegalStateException")], [])
def xm_104 : xM := (⟨"ViewFoundry", "entries", "(I)I"⟩, prog_1_method_6_code, 2, (Option.some Jvm.ClassFile.FieldType.int), [])
def xk_104_0 : List xEn := [(0, 1, .aload_n 0, []), (1, 1, .iload_n 1, []), (2, 3, .invokevirtual 43, [1, 10, 130]), (5, 3, .getfield 132, [0, 4]), (8, 3, .invokevirtual 101, [0, 0, 235]), (11, 1, .ireturn, [])]
def xe_104 : xEl := (xm_104, [xk_104_0], [], [])
def xm_105 : xM := (⟨"ViewFoundry", "read", "(II)I"⟩, prog_1_method_7_code, 6, (Option.some Jvm.ClassFile.FieldType.int), [])
def xk_105_0 : List xEn := [(0, 1, .aload_n 0, []), (1, 1, .iload_n 1, []), (2, 3, .invokevirtual 43, [1, 10, 130]), (5, 1, .astore_n 3, []), (6, 1, .iload_n 2, []), (7, 1, .iconst 1, []), (8, 3, .if_icmp .lt 9, []), (11, 1, .iload_n 2, []), (12, 2, .bipush 20, []), (14, 3, .if_icmp .le 13, []), (17, 3, .new 54, []), (27, 1, .iconst 0, []), (28, 2, .istore 4, []), (30, 2, .iload 4, [])]
def xk_105_1 : List xEn := [(32, 1, .iload_n 2, []), (33, 3, .if_icmp .ge 119, []), (36, 1, .aload_n 3, []), (37, 3, .getfield 137, [1, 4]), (40, 3, .ifCond .lt 112, []), (43, 1, .aload_n 3, []), (44, 3, .getfield 137, [1, 4]), (47, 1, .aload_n 3, []), (48, 3, .getfield 132, [0, 4]), (51, 3, .invokevirtual 101, [0, 0, 235]), (54, 3, .if_icmp .ge 98, []), (57, 1, .aload_n 3, []), (58, 3, .getfield 132, [0, 4]), (61, 1, .aload_n 3, []), (62, 3, .getfield 137, [1, 4])]
def xk_105_2 : List xEn := [(65, 3, .invokevirtual 140, [1, 0, 238]), (68, 3, .checkcast 61, [1]), (71, 2, .astore 5, []), (73, 2, .aload 5, []), (75, 1, .aload_n 0, []), (76, 3, .getfield 19, [2, 10]), (79, 3, .invokevirtual 101, [0, 0, 235]), (82, 3, .putfield 144, [6, 0, 1]), (85, 2, .aload 5, []), (87, 1, .aload_n 0, []), (88, 3, .invokevirtual 147, [0, 10, 139]), (91, 3, .putfield 150, [7, 0, 1]), (94, 2, .aload 5, [])]
def xk_105_3 : List xEn := [(96, 2, .aload 5, []), (98, 3, .getfield 153, [1, 1]), (101, 3, .ifCond .eq 16, []), (104, 2, .aload 5, []), (106, 3, .getfield 156, [4, 1]), (109, 1, .aload_n 3, []), (110, 3, .getfield 81, [3, 4]), (113, 1, .isub, []), (114, 3, .goto 8, []), (117, 2, .aload 5, []), (119, 3, .getfield 156, [4, 1]), (122, 3, .putfield 159, [8, 0, 1]), (125, 1, .aload_n 0, []), (126, 3, .getfield 19, [2, 10])]
def xk_105_4 : List xEn := [(129, 2, .aload 5, []), (131, 3, .invokevirtual 39, [1, 0, 240]), (134, 1, .pop, []), (135, 1, .aload_n 0, []), (136, 1, .iconst 1, []), (137, 3, .putfield 105, [6, 3, 10]), (140, 1, .aload_n 0, []), (141, 2, .aload 5, []), (143, 3, .invokevirtual 162, [1, 10, 140]), (146, 3, .iinc 4 1, []), (149, 3, .goto (-119), []), (152, 2, .iload 4, []), (154, 1, .ireturn, [])]
def xe_105 : xEl := (xm_105, [xk_105_0, xk_105_1, xk_105_2, xk_105_3, xk_105_4], [(17, "java/lang/IllegalArgumentException")], [])
def xm_106 : xM := (⟨"ViewFoundry", "place", "(I)I"⟩, prog_1_method_8_code, 2, (Option.some Jvm.ClassFile.FieldType.int), [])
def xk_106_0 : List xEn := [(0, 1, .aload_n 0, []), (1, 1, .iload_n 1, []), (2, 3, .invokevirtual 43, [1, 10, 130]), (5, 3, .getfield 137, [1, 4]), (8, 1, .ireturn, [])]
def xe_106 : xEl := (xm_106, [xk_106_0], [], [])
def xm_107 : xM := (⟨"ViewFoundry", "markOf", "(I)I"⟩, prog_1_method_9_code, 2, (Option.some Jvm.ClassFile.FieldType.int), [])
def xk_107_0 : List xEn := [(0, 1, .aload_n 0, []), (1, 1, .iload_n 1, []), (2, 3, .invokevirtual 43, [1, 10, 130]), (5, 3, .getfield 166, [2, 4]), (8, 1, .ireturn, [])]
def xe_107 : xEl := (xm_107, [xk_107_0], [], [])
def xm_108 : xM := (⟨"ViewFoundry", "mark", "()I"⟩, prog_1_method_10_code, 1, (Option.some Jvm.ClassFile.FieldType.int), [])
def xk_108_0 : List xEn := [(0, 1, .aload_n 0, []), (1, 3, .invokevirtual 147, [0, 10, 139]), (4, 1, .ireturn, [])]
def xe_108 : xEl := (xm_108, [xk_108_0], [], [])
def xm_109 : xM := (⟨"ViewFoundry", "told", "(I)I"⟩, prog_1_method_11_code, 2, (Option.some Jvm.ClassFile.FieldType.int), [])
def xk_109_0 : List xEn := [(0, 1, .aload_n 0, []), (1, 1, .iload_n 1, []), (2, 3, .invokevirtual 169, [1, 10, 131]), (5, 3, .getfield 173, [6, 2, 6, 8, 9]), (8, 3, .getfield 179, [1, 5]), (11, 1, .ireturn, [])]
def xe_109 : xEl := (xm_109, [xk_109_0], [], [])
def xm_110 : xM := (⟨"ViewFoundry", "valueOf", "(IIII)I"⟩, prog_1_method_12_code, 6, (Option.some Jvm.ClassFile.FieldType.int), [])
def xk_110_0 : List xEn := [(0, 1, .aload_n 0, []), (1, 1, .iload_n 1, []), (2, 3, .invokevirtual 169, [1, 10, 131]), (5, 3, .getfield 173, [6, 2, 6, 8, 9]), (8, 2, .astore 5, []), (10, 2, .aload 5, []), (12, 1, .iload_n 2, []), (13, 1, .iload_n 3, []), (14, 2, .iload 4, []), (16, 3, .invokevirtual 184, [3, 5, 27]), (19, 3, .ifCond .ne 13, []), (22, 3, .new 188, [])]
def xk_110_1 : List xEn := [(32, 2, .aload 5, []), (34, 1, .iload_n 2, []), (35, 1, .iload_n 3, []), (36, 2, .iload 4, []), (38, 3, .invokevirtual 193, [3, 5, 28]), (41, 1, .ireturn, [])]
def xe_110 : xEl := (xm_110, [xk_110_0, xk_110_1], [(22, "java/util/NoSuchElementException")], [])
def xm_111 : xM := (⟨"ViewFoundry", "valueByAll", "(IIII)I"⟩, prog_1_method_13_code, 6, (Option.some Jvm.ClassFile.FieldType.int), [])
def xk_111_0 : List xEn := [(0, 1, .aload_n 0, []), (1, 1, .iload_n 1, []), (2, 3, .invokevirtual 169, [1, 10, 131]), (5, 2, .astore 5, []), (7, 2, .aload 5, []), (9, 1, .aload_n 0, []), (10, 3, .getfield 19, [2, 10]), (13, 1, .aload_n 0, []), (14, 3, .invokevirtual 147, [0, 10, 139]), (17, 3, .invokevirtual 197, [2, 2, 77, 6, 77, 8, 77, 9, 77]), (20, 2, .aload 5, []), (22, 3, .getfield 201, [7, 2, 6, 8, 9]), (25, 1, .iload_n 2, []), (26, 1, .iload_n 3, []), (27, 2, .iload 4, []), (29, 3, .invokevirtual 184, [3, 5, 27])]
def xk_111_1 : List xEn := [(32, 3, .ifCond .ne 13, []), (35, 3, .new 188, []), (45, 2, .aload 5, []), (47, 3, .getfield 201, [7, 2, 6, 8, 9]), (50, 1, .iload_n 2, []), (51, 1, .iload_n 3, []), (52, 2, .iload 4, []), (54, 3, .invokevirtual 193, [3, 5, 28]), (57, 1, .ireturn, [])]
def xe_111 : xEl := (xm_111, [xk_111_0, xk_111_1], [(35, "java/util/NoSuchElementException")], [])
def xm_112 : xM := (⟨"ViewFoundry", "firstFrom", "(II)I"⟩, prog_1_method_14_code, 4, (Option.some Jvm.ClassFile.FieldType.int), [])
def xk_112_0 : List xEn := [(0, 1, .aload_n 0, []), (1, 1, .iload_n 1, []), (2, 3, .invokevirtual 169, [1, 10, 131]), (5, 3, .getfield 173, [6, 2, 6, 8, 9]), (8, 1, .astore_n 3, []), (9, 1, .aload_n 3, []), (10, 1, .iload_n 2, []), (11, 3, .invokevirtual 206, [1, 5, 29]), (14, 3, .ifCond .ne 13, []), (17, 3, .new 188, []), (27, 1, .aload_n 3, []), (28, 1, .iload_n 2, []), (29, 3, .invokevirtual 212, [1, 5, 31])]
def xk_112_1 : List xEn := [(32, 1, .ireturn, [])]
def xe_112 : xEl := (xm_112, [xk_112_0, xk_112_1], [(17, "java/util/NoSuchElementException")], [])
def xm_113 : xM := (⟨"ViewFoundry", "dropped", "(I)I"⟩, prog_1_method_15_code, 2, (Option.some Jvm.ClassFile.FieldType.int), [])
def xk_113_0 : List xEn := [(0, 1, .aload_n 0, []), (1, 1, .iload_n 1, []), (2, 3, .invokevirtual 169, [1, 10, 131]), (5, 3, .getfield 215, [9, 2, 6, 8, 9]), (8, 1, .ireturn, [])]
def xe_113 : xEl := (xm_113, [xk_113_0], [], [])
def xm_114 : xM := (⟨"ViewFoundry", "held", "(I)I"⟩, prog_1_method_16_code, 2, (Option.some Jvm.ClassFile.FieldType.int), [])
def xk_114_0 : List xEn := [(0, 1, .aload_n 0, []), (1, 1, .iload_n 1, []), (2, 3, .invokevirtual 169, [1, 10, 131]), (5, 3, .invokevirtual 218, [0, 2, 83, 6, 83, 8, 83, 9, 83]), (8, 1, .ireturn, [])]
def xe_114 : xEl := (xm_114, [xk_114_0], [], [])
def xm_115 : xM := (⟨"ViewFoundry", "waiting", "()I"⟩, prog_1_method_17_code, 1, (Option.some Jvm.ClassFile.FieldType.int), [])
def xk_115_0 : List xEn := [(0, 1, .aload_n 0, []), (1, 3, .getfield 25, [3, 10]), (4, 3, .getfield 221, [1, 3]), (7, 1, .aload_n 0, []), (8, 3, .invokevirtual 223, [0, 10, 142]), (11, 1, .isub, []), (12, 1, .ireturn, [])]
def xe_115 : xEl := (xm_115, [xk_115_0], [], [])
def xm_116 : xM := (⟨"ViewFoundry", "cut", "()I"⟩, prog_1_method_18_code, 1, (Option.some Jvm.ClassFile.FieldType.int), [])
def xk_116_0 : List xEn := [(0, 1, .aload_n 0, []), (1, 3, .getfield 226, [8, 10]), (4, 3, .ifCond .eq 13, []), (7, 3, .new 76, []), (17, 1, .aload_n 0, []), (18, 1, .iconst 1, []), (19, 3, .putfield 226, [8, 3, 10]), (22, 1, .aload_n 0, []), (23, 1, .iconst 1, []), (24, 3, .putfield 109, [7, 3, 10]), (27, 1, .aload_n 0, []), (28, 1, .aload_n 0, []), (29, 3, .getfield 25, [3, 10])]
def xk_116_1 : List xEn := [(32, 3, .getfield 221, [1, 3]), (35, 3, .putfield 231, [10, 0, 10]), (38, 1, .aload_n 0, []), (39, 1, .aload_n 0, []), (40, 3, .getfield 19, [2, 10]), (43, 3, .invokevirtual 101, [0, 0, 235]), (46, 3, .putfield 234, [12, 0, 10]), (49, 1, .aload_n 0, []), (50, 3, .getfield 231, [10, 10]), (53, 1, .aload_n 0, []), (54, 3, .getfield 237, [9, 10]), (57, 1, .isub, []), (58, 1, .ireturn, [])]
def xe_116 : xEl := (xm_116, [xk_116_0, xk_116_1], [(7, "java/lang/IllegalStateException")], [])
def xm_117 : xM := (⟨"ViewFoundry", "complete", "()I"⟩, prog_1_method_19_code, 1, (Option.some Jvm.ClassFile.FieldType.int), [])
def xk_117_0 : List xEn := [(0, 1, .aload_n 0, []), (1, 3, .getfield 226, [8, 10]), (4, 3, .ifCond .ne 13, []), (7, 3, .new 76, []), (17, 1, .aload_n 0, []), (18, 1, .iconst 0, []), (19, 3, .putfield 226, [8, 3, 10]), (22, 1, .aload_n 0, []), (23, 1, .aload_n 0, []), (24, 3, .getfield 237, [9, 10]), (27, 1, .aload_n 0, []), (28, 3, .getfield 231, [10, 10]), (31, 3, .invokevirtual 242, [2, 10, 143])]
def xk_117_1 : List xEn := [(34, 1, .aload_n 0, []), (35, 1, .aload_n 0, []), (36, 3, .getfield 231, [10, 10]), (39, 3, .putfield 237, [9, 0, 10]), (42, 1, .aload_n 0, []), (43, 1, .aload_n 0, []), (44, 3, .getfield 234, [12, 10]), (47, 3, .putfield 246, [11, 0, 10]), (50, 1, .aload_n 0, []), (51, 3, .getfield 237, [9, 10]), (54, 1, .ireturn, [])]
def xe_117 : xEl := (xm_117, [xk_117_0, xk_117_1], [(7, "java/lang/IllegalStateException")], [])
def xm_118 : xM := (⟨"ViewFoundry", "crash", "()I"⟩, prog_1_method_20_code, 3, (Option.some Jvm.ClassFile.FieldType.int), [])
def xk_118_0 : List xEn := [(0, 1, .aload_n 0, []), (1, 3, .getfield 25, [3, 10]), (4, 3, .getfield 221, [1, 3]), (7, 1, .aload_n 0, []), (8, 3, .getfield 237, [9, 10]), (11, 1, .isub, []), (12, 1, .istore_n 1, []), (13, 1, .aload_n 0, []), (14, 1, .iconst 0, []), (15, 3, .putfield 226, [8, 3, 10]), (18, 1, .aload_n 0, []), (19, 3, .getfield 19, [2, 10]), (22, 3, .invokevirtual 101, [0, 0, 235]), (25, 1, .aload_n 0, []), (26, 3, .getfield 246, [11, 10]), (29, 3, .if_icmp .le 45, [])]
def xk_118_1 : List xEn := [(32, 1, .aload_n 0, []), (33, 1, .aload_n 0, []), (34, 3, .getfield 246, [11, 10]), (37, 3, .invokevirtual 249, [1, 10, 141]), (40, 1, .iconst 0, []), (41, 1, .istore_n 2, []), (42, 1, .iload_n 2, []), (43, 1, .aload_n 0, []), (44, 3, .getfield 19, [2, 10]), (47, 3, .invokevirtual 101, [0, 0, 235]), (50, 3, .if_icmp .ge 24, []), (53, 1, .aload_n 0, []), (54, 1, .aload_n 0, []), (55, 3, .getfield 19, [2, 10]), (58, 1, .iload_n 2, []), (59, 3, .invokevirtual 140, [1, 0, 238]), (62, 3, .checkcast 61, [1])]
def xk_118_2 : List xEn := [(65, 3, .invokevirtual 162, [1, 10, 140]), (68, 3, .iinc 2 1, []), (71, 3, .goto (-29), []), (74, 1, .iload_n 1, []), (75, 1, .ireturn, [])]
def xe_118 : xEl := (xm_118, [xk_118_0, xk_118_1, xk_118_2], [], [])
def xm_119 : xM := (⟨"ViewFoundry", "promised", "()I"⟩, prog_1_method_21_code, 1, (Option.some Jvm.ClassFile.FieldType.int), [])
def xk_119_0 : List xEn := [(0, 1, .aload_n 0, []), (1, 3, .getfield 237, [9, 10]), (4, 1, .ireturn, [])]
def xe_119 : xEl := (xm_119, [xk_119_0], [], [])
def xm_120 : xM := (⟨"ViewFoundry", "outputAt", "(II)I"⟩, prog_1_method_22_code, 3, (Option.some Jvm.ClassFile.FieldType.int), [])
def xk_120_0 : List xEn := [(0, 1, .iload_n 1, []), (1, 3, .ifCond .lt 11, []), (4, 1, .iload_n 1, []), (5, 1, .aload_n 0, []), (6, 3, .getfield 237, [9, 10]), (9, 3, .if_icmp .lt 13, []), (12, 3, .new 252, []), (22, 1, .aload_n 0, []), (23, 1, .iload_n 1, []), (24, 1, .iload_n 2, []), (25, 3, .invokevirtual 257, [2, 10, 144]), (28, 1, .ireturn, [])]
def xe_120 : xEl := (xm_120, [xk_120_0], [(12, "java/lang/IndexOutOfBoundsException")], [])
def xm_121 : xM := (⟨"ViewFoundry", "waitingAt", "(II)I"⟩, prog_1_method_23_code, 4, (Option.some Jvm.ClassFile.FieldType.int), [])
def xk_121_0 : List xEn := [(0, 1, .aload_n 0, []), (1, 3, .invokevirtual 223, [0, 10, 142]), (4, 1, .istore_n 3, []), (5, 1, .iload_n 1, []), (6, 3, .ifCond .lt 16, []), (9, 1, .iload_n 1, []), (10, 1, .aload_n 0, []), (11, 3, .getfield 25, [3, 10]), (14, 3, .getfield 221, [1, 3]), (17, 1, .iload_n 3, []), (18, 1, .isub, []), (19, 3, .if_icmp .lt 13, []), (22, 3, .new 252, [])]
def xk_121_1 : List xEn := [(32, 1, .aload_n 0, []), (33, 1, .iload_n 3, []), (34, 1, .iload_n 1, []), (35, 1, .iadd, []), (36, 1, .iload_n 2, []), (37, 3, .invokevirtual 257, [2, 10, 144]), (40, 1, .ireturn, [])]
def xe_121 : xEl := (xm_121, [xk_121_0, xk_121_1], [(22, "java/lang/IndexOutOfBoundsException")], [])
def xm_122 : xM := (⟨"ViewFoundry", "promisedSum", "(I)I"⟩, prog_1_method_24_code, 2, (Option.some Jvm.ClassFile.FieldType.int), [])
def xk_122_0 : List xEn := [(0, 1, .iload_n 1, []), (1, 3, .ifCond .lt 23, []), (4, 1, .iload_n 1, []), (5, 1, .aload_n 0, []), (6, 3, .getfield 16, [1, 10]), (9, 3, .invokevirtual 101, [0, 0, 235]), (12, 3, .if_icmp .ge 12, []), (15, 1, .iload_n 1, []), (16, 1, .aload_n 0, []), (17, 3, .getfield 33, [5, 10]), (20, 1, .arraylength, []), (21, 3, .if_icmp .lt 14, []), (24, 3, .new 252, [])]
def xk_122_1 : List xEn := [(35, 1, .aload_n 0, []), (36, 3, .getfield 33, [5, 10]), (39, 1, .iload_n 1, []), (40, 1, .iaload, []), (41, 1, .ireturn, [])]
def xe_122 : xEl := (xm_122, [xk_122_0, xk_122_1], [(24, "java/lang/IndexOutOfBoundsException")], [])
def xm_123 : xM := (⟨"ViewFoundry", "moveKey", "(II)I"⟩, prog_1_method_25_code, 3, (Option.some Jvm.ClassFile.FieldType.int), [])
def xk_123_0 : List xEn := [(0, 1, .aload_n 0, []), (1, 1, .iload_n 1, []), (2, 3, .invokevirtual 47, [1, 10, 132]), (5, 1, .aload_n 0, []), (6, 1, .iload_n 2, []), (7, 3, .invokevirtual 263, [1, 10, 134]), (10, 1, .aload_n 0, []), (11, 3, .getfield 29, [4, 10]), (14, 1, .iload_n 1, []), (15, 1, .iload_n 2, []), (16, 1, .iastore, []), (17, 1, .aload_n 0, []), (18, 1, .iload_n 1, []), (19, 3, .invokevirtual 266, [1, 10, 145]), (22, 1, .ireturn, [])]
def xe_123 : xEl := (xm_123, [xk_123_0], [], [])
def xm_124 : xM := (⟨"ViewFoundry", "workerOf", "(I)I"⟩, prog_1_method_26_code, 2, (Option.some Jvm.ClassFile.FieldType.int), [])
def xk_124_0 : List xEn := [(0, 1, .aload_n 0, []), (1, 1, .iload_n 1, []), (2, 3, .invokevirtual 47, [1, 10, 132]), (5, 1, .aload_n 0, []), (6, 3, .getfield 29, [4, 10]), (9, 1, .iload_n 1, []), (10, 1, .iaload, []), (11, 1, .ireturn, [])]
def xe_124 : xEl := (xm_124, [xk_124_0], [], [])
def xm_125 : xM := (⟨"ViewFoundry", "load", "(I)I"⟩, prog_1_method_27_code, 4, (Option.some Jvm.ClassFile.FieldType.int), [])
def xk_125_0 : List xEn := [(0, 1, .aload_n 0, []), (1, 1, .iload_n 1, []), (2, 3, .invokevirtual 263, [1, 10, 134]), (5, 1, .iconst 0, []), (6, 1, .istore_n 2, []), (7, 1, .iconst 0, []), (8, 1, .istore_n 3, []), (9, 1, .iload_n 3, []), (10, 1, .aload_n 0, []), (11, 3, .getfield 29, [4, 10]), (14, 1, .arraylength, []), (15, 3, .if_icmp .ge 27, []), (18, 1, .aload_n 0, []), (19, 3, .getfield 29, [4, 10]), (22, 1, .iload_n 3, []), (23, 1, .iaload, []), (24, 1, .iload_n 1, []), (25, 3, .if_icmp .ne 11, []), (28, 1, .iload_n 2, []), (29, 1, .aload_n 0, []), (30, 1, .iload_n 3, []), (31, 3, .invokevirtual 266, [1, 10, 145])]
def xk_125_1 : List xEn := [(34, 1, .iadd, []), (35, 1, .istore_n 2, []), (36, 3, .iinc 3 1, []), (39, 3, .goto (-30), []), (42, 1, .iload_n 2, []), (43, 1, .ireturn, [])]
def xe_125 : xEl := (xm_125, [xk_125_0, xk_125_1], [], [])
def xm_126 : xM := (⟨"ViewFoundry", "meanOf", "(II)F"⟩, prog_1_method_28_code, 11, (Option.some Jvm.ClassFile.FieldType.float), [])
def xk_126_0 : List xEn := [(0, 1, .aload_n 0, []), (1, 1, .iload_n 1, []), (2, 3, .invokevirtual 169, [1, 10, 131]), (5, 3, .getfield 173, [6, 2, 6, 8, 9]), (8, 1, .astore_n 3, []), (9, 1, .aload_n 3, []), (10, 1, .iload_n 2, []), (11, 3, .invokevirtual 206, [1, 5, 29]), (14, 2, .istore 4, []), (16, 2, .iload 4, []), (18, 3, .ifCond .gt 13, []), (21, 3, .new 188, []), (31, 1, .aload_n 3, [])]
def xk_126_1 : List xEn := [(32, 1, .iload_n 2, []), (33, 3, .invokevirtual 269, [1, 5, 30]), (36, 1, .l2d, []), (37, 2, .iload 4, []), (39, 1, .i2d, []), (40, 1, .ddiv, []), (41, 2, .dstore 5, []), (43, 2, .dload 5, []), (45, 1, .d2l, []), (46, 2, .lstore 7, []), (48, 2, .lload 7, []), (50, 1, .l2d, []), (51, 2, .dload 5, []), (53, 1, .dcmp .l, []), (54, 3, .ifCond .le 11, []), (57, 2, .lload 7, []), (59, 1, .lconst 1, []), (60, 1, .lsub, []), (61, 1, .l2d, []), (62, 3, .goto 6, [])]
def xk_126_2 : List xEn := [(65, 2, .lload 7, []), (67, 1, .l2d, []), (68, 2, .dstore 9, []), (70, 2, .dload 9, []), (72, 1, .d2f, []), (73, 1, .freturn, [])]
def xe_126 : xEl := (xm_126, [xk_126_0, xk_126_1, xk_126_2], [(21, "java/util/NoSuchElementException")], [])
def xm_127 : xM := (⟨"ViewFoundry", "rest", "(III)I"⟩, prog_1_method_29_code, 12, (Option.some Jvm.ClassFile.FieldType.int), [])
def xk_127_0 : List xEn := [(0, 1, .aload_n 0, []), (1, 1, .iload_n 1, []), (2, 1, .iload_n 2, []), (3, 3, .invokevirtual 273, [2, 10, 126]), (6, 2, .fstore 4, []), (8, 1, .iload_n 3, []), (9, 3, .ifCond .ne 14, []), (12, 3, .new 54, []), (23, 2, .fload 4, []), (25, 1, .f2l, []), (26, 3, .invokestatic 279, [1, 224]), (29, 3, .ldc2_w 285, [1, 4])]
def xk_127_1 : List xEn := [(32, 1, .lmul, []), (33, 2, .lstore 5, []), (35, 1, .iload_n 3, []), (36, 1, .i2f, []), (37, 1, .f2l, []), (38, 3, .invokestatic 279, [1, 224]), (41, 2, .lstore 7, []), (43, 2, .lload 7, []), (45, 1, .lconst 0, []), (46, 1, .lcmp, []), (47, 3, .ifCond .le 11, []), (50, 2, .lload 5, []), (52, 2, .lload 7, []), (54, 1, .lrem, []), (55, 3, .goto 4, []), (58, 1, .lconst 0, []), (59, 2, .lstore 9, []), (61, 2, .lload 9, []), (63, 1, .l2f, [])]
def xk_127_2 : List xEn := [(64, 3, .ldc_w 287, [5, 1082130432]), (67, 1, .fdiv, []), (68, 3, .invokestatic 288, [1, 59]), (71, 2, .istore 11, []), (73, 2, .fload 4, []), (75, 1, .fconst 0, []), (76, 1, .fcmp .g, []), (77, 3, .ifCond .ge 12, []), (80, 2, .iload 11, []), (82, 3, .ldc_w 294, [0, 2147483648]), (85, 1, .ior, []), (86, 3, .goto 5, []), (89, 2, .iload 11, []), (91, 1, .ireturn, [])]
def xe_127 : xEl := (xm_127, [xk_127_0, xk_127_1, xk_127_2], [(12, "java/lang/IllegalArgumentException")], [])
def xm_128 : xM := (⟨"ViewFoundry", "droppedShare", "()D"⟩, prog_1_method_30_code, 4, (Option.some Jvm.ClassFile.FieldType.double), [])
def xk_128_0 : List xEn := [(0, 1, .iconst 0, []), (1, 1, .istore_n 1, []), (2, 1, .iconst 0, []), (3, 1, .istore_n 2, []), (4, 1, .iload_n 2, []), (5, 1, .aload_n 0, []), (6, 3, .getfield 19, [2, 10]), (9, 3, .invokevirtual 101, [0, 0, 235]), (12, 3, .if_icmp .ge 29, []), (15, 1, .aload_n 0, []), (16, 3, .getfield 19, [2, 10]), (19, 1, .iload_n 2, []), (20, 3, .invokevirtual 140, [1, 0, 238]), (23, 3, .checkcast 61, [1]), (26, 3, .getfield 153, [1, 1]), (29, 3, .ifCond .eq 6, [])]
def xk_128_1 : List xEn := [(32, 3, .iinc 1 1, []), (35, 3, .iinc 2 1, []), (38, 3, .goto (-34), []), (41, 1, .iload_n 1, []), (42, 3, .ifCond .gt 14, []), (45, 3, .new 188, []), (56, 1, .iconst 0, []), (57, 1, .istore_n 2, []), (58, 1, .iconst 0, []), (59, 1, .istore_n 3, []), (60, 1, .iload_n 3, []), (61, 1, .aload_n 0, []), (62, 3, .getfield 16, [1, 10])]
def xk_128_2 : List xEn := [(65, 3, .invokevirtual 101, [0, 0, 235]), (68, 3, .if_icmp .ge 26, []), (71, 1, .iload_n 2, []), (72, 1, .aload_n 0, []), (73, 3, .getfield 16, [1, 10]), (76, 1, .iload_n 3, []), (77, 3, .invokevirtual 140, [1, 0, 238]), (80, 3, .checkcast 174, [2, 6, 8, 9]), (83, 3, .getfield 215, [9, 2, 6, 8, 9]), (86, 1, .iadd, []), (87, 1, .istore_n 2, []), (88, 3, .iinc 3 1, []), (91, 3, .goto (-31), []), (94, 1, .iload_n 2, []), (95, 1, .i2d, [])]
def xk_128_3 : List xEn := [(96, 1, .iload_n 1, []), (97, 1, .i2d, []), (98, 1, .ddiv, []), (99, 1, .dreturn, [])]
def xe_128 : xEl := (xm_128, [xk_128_0, xk_128_1, xk_128_2, xk_128_3], [(45, "java/util/NoSuchElementException")], [])
def xm_129 : xM := (⟨"ViewFoundry", "isSound", "()Z"⟩, prog_1_method_31_code, 5, (Option.some Jvm.ClassFile.FieldType.boolean), [])
def xk_129_0 : List xEn := [(0, 1, .aload_n 0, []), (1, 3, .invokevirtual 147, [0, 10, 139]), (4, 1, .istore_n 1, []), (5, 1, .iconst 1, []), (6, 1, .istore_n 2, []), (7, 1, .iconst 0, []), (8, 1, .istore_n 3, []), (9, 1, .iload_n 3, []), (10, 1, .aload_n 0, []), (11, 3, .getfield 16, [1, 10]), (14, 3, .invokevirtual 101, [0, 0, 235]), (17, 3, .if_icmp .ge 50, []), (20, 1, .iload_n 2, []), (21, 3, .ifCond .eq 46, []), (24, 1, .aload_n 0, []), (25, 3, .getfield 16, [1, 10]), (28, 1, .iload_n 3, []), (29, 3, .invokevirtual 140, [1, 0, 238])]
def xk_129_1 : List xEn := [(32, 3, .checkcast 174, [2, 6, 8, 9]), (35, 2, .astore 4, []), (37, 2, .aload 4, []), (39, 1, .aload_n 0, []), (40, 3, .getfield 19, [2, 10]), (43, 1, .iload_n 1, []), (44, 3, .invokevirtual 197, [2, 2, 77, 6, 77, 8, 77, 9, 77]), (47, 2, .aload 4, []), (49, 3, .getfield 201, [7, 2, 6, 8, 9]), (52, 2, .aload 4, []), (54, 3, .getfield 173, [6, 2, 6, 8, 9]), (57, 3, .invokevirtual 297, [1, 5, 32]), (60, 1, .istore_n 2, []), (61, 3, .iinc 3 1, [])]
def xk_129_2 : List xEn := [(64, 3, .goto (-55), []), (67, 1, .iload_n 2, []), (68, 1, .ireturn, [])]
def xe_129 : xEl := (xm_129, [xk_129_0, xk_129_1, xk_129_2], [], [])
def xm_130 : xM := (⟨"ViewFoundry", "partOf", "(I)LViewFoundry$Part;"⟩, prog_1_method_32_code, 2, (Option.some (Jvm.ClassFile.FieldType.object "ViewFoundry$Part")), [])
def xk_130_0 : List xEn := [(0, 1, .iload_n 1, []), (1, 3, .ifCond .lt 14, []), (4, 1, .iload_n 1, []), (5, 1, .aload_n 0, []), (6, 3, .getfield 10, [0, 10]), (9, 3, .invokevirtual 101, [0, 0, 235]), (12, 3, .if_icmp .lt 14, []), (15, 3, .new 54, []), (26, 1, .aload_n 0, []), (27, 3, .getfield 10, [0, 10]), (30, 1, .iload_n 1, []), (31, 3, .invokevirtual 140, [1, 0, 238])]
def xk_130_1 : List xEn := [(34, 3, .checkcast 36, [4]), (37, 1, .areturn, [])]
def xe_130 : xEl := (xm_130, [xk_130_0, xk_130_1], [(15, "java/lang/IllegalArgumentException")], [])
def xm_131 : xM := (⟨"ViewFoundry", "viewOf", "(I)LViewFoundry$View;"⟩, prog_1_method_33_code, 2, (Option.some (Jvm.ClassFile.FieldType.object "ViewFoundry$View")), [])
def xk_131_0 : List xEn := [(0, 1, .iload_n 1, []), (1, 3, .ifCond .lt 14, []), (4, 1, .iload_n 1, []), (5, 1, .aload_n 0, []), (6, 3, .getfield 16, [1, 10]), (9, 3, .invokevirtual 101, [0, 0, 235]), (12, 3, .if_icmp .lt 14, []), (15, 3, .new 252, []), (26, 1, .aload_n 0, []), (27, 3, .getfield 16, [1, 10]), (30, 1, .iload_n 1, []), (31, 3, .invokevirtual 140, [1, 0, 238])]
def xk_131_1 : List xEn := [(34, 3, .checkcast 174, [2, 6, 8, 9]), (37, 1, .areturn, [])]
def xe_131 : xEl := (xm_131, [xk_131_0, xk_131_1], [(15, "java/lang/IndexOutOfBoundsException")], [])
def xm_132 : xM := (⟨"ViewFoundry", "needKey", "(I)V"⟩, prog_1_method_34_code, 2, (Option.none : Option Jvm.ClassFile.FieldType), [])
def xk_132_0 : List xEn := [(0, 1, .iload_n 1, []), (1, 3, .ifCond .lt 12, []), (4, 1, .iload_n 1, []), (5, 1, .aload_n 0, []), (6, 3, .getfield 29, [4, 10]), (9, 1, .arraylength, []), (10, 3, .if_icmp .lt 14, []), (13, 3, .new 54, []), (24, 1, .return_, [])]
def xe_132 : xEl := (xm_132, [xk_132_0], [(13, "java/lang/IllegalArgumentException")], [])
def xm_133 : xM := (⟨"ViewFoundry", "needTime", "(I)V"⟩, prog_1_method_35_code, 2, (Option.none : Option Jvm.ClassFile.FieldType), [])
def xk_133_0 : List xEn := [(0, 1, .iload_n 1, []), (1, 3, .ifCond .lt 10, []), (4, 1, .iload_n 1, []), (5, 3, .sipush 1000, []), (8, 3, .if_icmp .lt 14, []), (11, 3, .new 54, []), (22, 1, .return_, [])]
def xe_133 : xEl := (xm_133, [xk_133_0], [(11, "java/lang/IllegalArgumentException")], [])
def xm_134 : xM := (⟨"ViewFoundry", "needWorker", "(I)V"⟩, prog_1_method_36_code, 2, (Option.none : Option Jvm.ClassFile.FieldType), [])
def xk_134_0 : List xEn := [(0, 1, .iload_n 1, []), (1, 3, .ifCond .lt 8, []), (4, 1, .iload_n 1, []), (5, 1, .iconst 3, []), (6, 3, .if_icmp .lt 14, []), (9, 3, .new 54, []), (20, 1, .return_, [])]
def xe_134 : xEl := (xm_134, [xk_134_0], [(9, "java/lang/IllegalArgumentException")], [])
def xm_135 : xM := (⟨"ViewFoundry", "isKind", "(C)Z"⟩, prog_1_method_37_code, 1, (Option.some Jvm.ClassFile.FieldType.boolean), [])
def xk_135_0 : List xEn := [(0, 1, .iload_n 0, []), (1, 2, .bipush 116, []), (3, 3, .if_icmp .eq 27, []), (6, 1, .iload_n 0, []), (7, 2, .bipush 108, []), (9, 3, .if_icmp .eq 21, []), (12, 1, .iload_n 0, []), (13, 2, .bipush 115, []), (15, 3, .if_icmp .eq 15, []), (18, 1, .iload_n 0, []), (19, 2, .bipush 106, []), (21, 3, .if_icmp .eq 9, []), (24, 1, .iload_n 0, []), (25, 2, .bipush 118, []), (27, 3, .if_icmp .ne 7, []), (30, 1, .iconst 1, []), (31, 3, .goto 4, [])]
def xk_135_1 : List xEn := [(34, 1, .iconst 0, []), (35, 1, .ireturn, [])]
def xe_135 : xEl := (xm_135, [xk_135_0, xk_135_1], [], [])
def xm_136 : xM := (⟨"ViewFoundry", "isMeasure", "(C)Z"⟩, prog_1_method_38_code, 1, (Option.some Jvm.ClassFile.FieldType.boolean), [])
def xk_136_0 : List xEn := [(0, 1, .iload_n 0, []), (1, 2, .bipush 99, []), (3, 3, .if_icmp .eq 27, []), (6, 1, .iload_n 0, []), (7, 2, .bipush 115, []), (9, 3, .if_icmp .eq 21, []), (12, 1, .iload_n 0, []), (13, 2, .bipush 120, []), (15, 3, .if_icmp .eq 15, []), (18, 1, .iload_n 0, []), (19, 2, .bipush 98, []), (21, 3, .if_icmp .eq 9, []), (24, 1, .iload_n 0, []), (25, 2, .bipush 109, []), (27, 3, .if_icmp .ne 7, []), (30, 1, .iconst 1, []), (31, 3, .goto 4, [])]
def xk_136_1 : List xEn := [(34, 1, .iconst 0, []), (35, 1, .ireturn, [])]
def xe_136 : xEl := (xm_136, [xk_136_0, xk_136_1], [], [])
def xm_137 : xM := (⟨"ViewFoundry", "isFilter", "(C)Z"⟩, prog_1_method_39_code, 1, (Option.some Jvm.ClassFile.FieldType.boolean), [])
def xk_137_0 : List xEn := [(0, 1, .iload_n 0, []), (1, 2, .bipush 97, []), (3, 3, .if_icmp .eq 15, []), (6, 1, .iload_n 0, []), (7, 2, .bipush 101, []), (9, 3, .if_icmp .eq 9, []), (12, 1, .iload_n 0, []), (13, 2, .bipush 112, []), (15, 3, .if_icmp .ne 7, []), (18, 1, .iconst 1, []), (19, 3, .goto 4, []), (22, 1, .iconst 0, []), (23, 1, .ireturn, [])]
def xe_137 : xEl := (xm_137, [xk_137_0], [], [])
def xm_138 : xM := (⟨"ViewFoundry", "append", "(LViewFoundry$Part;LViewFoundry$Entry;)I"⟩, prog_1_method_40_code, 3, (Option.some Jvm.ClassFile.FieldType.int), [])
def xk_138_0 : List xEn := [(0, 1, .aload_n 1, []), (1, 3, .getfield 132, [0, 4]), (4, 3, .invokevirtual 101, [0, 0, 235]), (7, 2, .bipush 80, []), (9, 3, .if_icmp .lt 14, []), (12, 3, .new 76, []), (23, 1, .aload_n 1, []), (24, 3, .getfield 132, [0, 4]), (27, 1, .aload_n 2, []), (28, 3, .invokevirtual 39, [1, 0, 240]), (31, 1, .pop, [])]
def xk_138_1 : List xEn := [(32, 1, .aload_n 1, []), (33, 3, .getfield 132, [0, 4]), (36, 3, .invokevirtual 101, [0, 0, 235]), (39, 1, .iconst 1, []), (40, 1, .isub, []), (41, 1, .ireturn, [])]
def xe_138 : xEl := (xm_138, [xk_138_0, xk_138_1], [(12, "java/lang/IllegalStateException")], [])
def xm_139 : xM := (⟨"ViewFoundry", "leastMark", "()I"⟩, prog_1_method_41_code, 3, (Option.some Jvm.ClassFile.FieldType.int), [])
def xk_139_0 : List xEn := [(0, 3, .sipush 1000, []), (3, 1, .istore_n 1, []), (4, 1, .iconst 0, []), (5, 1, .istore_n 2, []), (6, 1, .iload_n 2, []), (7, 1, .aload_n 0, []), (8, 3, .getfield 10, [0, 10]), (11, 3, .invokevirtual 101, [0, 0, 235]), (14, 3, .if_icmp .ge 28, []), (17, 1, .iload_n 1, []), (18, 1, .aload_n 0, []), (19, 3, .getfield 10, [0, 10]), (22, 1, .iload_n 2, []), (23, 3, .invokevirtual 140, [1, 0, 238]), (26, 3, .checkcast 36, [4]), (29, 3, .getfield 166, [2, 4])]
def xk_139_1 : List xEn := [(32, 3, .invokestatic 311, [2, 226]), (35, 1, .istore_n 1, []), (36, 3, .iinc 2 1, []), (39, 3, .goto (-33), []), (42, 1, .iload_n 1, []), (43, 1, .ireturn, [])]
def xe_139 : xEl := (xm_139, [xk_139_0, xk_139_1], [], [])
def xm_140 : xM := (⟨"ViewFoundry", "apply", "(LViewFoundry$Entry;)V"⟩, prog_1_method_42_code, 6, (Option.none : Option Jvm.ClassFile.FieldType), [])
def xk_140_0 : List xEn := [(0, 1, .iconst 0, []), (1, 1, .istore_n 2, []), (2, 1, .iload_n 2, []), (3, 1, .aload_n 0, []), (4, 3, .getfield 16, [1, 10]), (7, 3, .invokevirtual 101, [0, 0, 235]), (10, 3, .if_icmp .ge 34, []), (13, 1, .aload_n 0, []), (14, 3, .getfield 16, [1, 10]), (17, 1, .iload_n 2, []), (18, 3, .invokevirtual 140, [1, 0, 238]), (21, 3, .checkcast 174, [2, 6, 8, 9]), (24, 1, .astore_n 3, []), (25, 1, .aload_n 3, []), (26, 1, .aload_n 1, []), (27, 3, .invokevirtual 314, [1, 2, 75, 6, 75, 8, 75, 9, 75]), (30, 3, .ifCond .eq 8, [])]
def xk_140_1 : List xEn := [(33, 1, .aload_n 3, []), (34, 1, .aload_n 1, []), (35, 3, .invokevirtual 318, [1, 2, 4, 6, 41, 8, 66, 9, 92]), (38, 3, .iinc 2 1, []), (41, 3, .goto (-39), []), (44, 1, .aload_n 0, []), (45, 1, .aload_n 1, []), (46, 3, .getfield 321, [0, 1]), (49, 3, .invokevirtual 43, [1, 10, 130]), (52, 1, .astore_n 2, []), (53, 1, .aload_n 2, []), (54, 1, .dup, []), (55, 3, .getfield 137, [1, 4]), (58, 1, .iconst 1, []), (59, 1, .iadd, []), (60, 3, .putfield 137, [1, 0, 4]), (63, 1, .aload_n 2, [])]
def xk_140_2 : List xEn := [(64, 1, .aload_n 2, []), (65, 3, .getfield 166, [2, 4]), (68, 1, .aload_n 1, []), (69, 3, .getfield 159, [8, 1]), (72, 3, .invokestatic 324, [2, 225]), (75, 3, .putfield 166, [2, 0, 4]), (78, 1, .aload_n 0, []), (79, 3, .invokevirtual 147, [0, 10, 139]), (82, 1, .istore_n 3, []), (83, 1, .iload_n 3, []), (84, 1, .aload_n 1, []), (85, 3, .getfield 150, [7, 1]), (88, 3, .if_icmp .le 58, []), (91, 1, .iconst 0, []), (92, 2, .istore 4, []), (94, 2, .iload 4, [])]
def xk_140_3 : List xEn := [(96, 1, .aload_n 0, []), (97, 3, .getfield 16, [1, 10]), (100, 3, .invokevirtual 101, [0, 0, 235]), (103, 3, .if_icmp .ge 43, []), (106, 1, .aload_n 0, []), (107, 3, .getfield 16, [1, 10]), (110, 2, .iload 4, []), (112, 3, .invokevirtual 140, [1, 0, 238]), (115, 3, .checkcast 174, [2, 6, 8, 9]), (118, 2, .astore 5, []), (120, 2, .aload 5, []), (122, 1, .aload_n 1, []), (123, 3, .getfield 150, [7, 1]), (126, 1, .iload_n 3, []), (127, 3, .invokevirtual 327, [2, 2, 5, 6, 45, 8, 68, 9, 94])]
def xk_140_4 : List xEn := [(130, 2, .aload 5, []), (132, 1, .aload_n 1, []), (133, 3, .getfield 150, [7, 1]), (136, 1, .iload_n 3, []), (137, 3, .invokevirtual 330, [2, 2, 6, 6, 46, 8, 71, 9, 95]), (140, 3, .iinc 4 1, []), (143, 3, .goto (-49), []), (146, 1, .return_, [])]
def xe_140 : xEl := (xm_140, [xk_140_0, xk_140_1, xk_140_2, xk_140_3, xk_140_4], [], [])
def xm_141 : xM := (⟨"ViewFoundry", "emptyBehind", "(I)V"⟩, prog_1_method_43_code, 4, (Option.none : Option Jvm.ClassFile.FieldType), [])
def xk_141_0 : List xEn := [(0, 1, .aload_n 0, []), (1, 3, .getfield 19, [2, 10]), (4, 3, .invokevirtual 101, [0, 0, 235]), (7, 1, .iconst 1, []), (8, 1, .isub, []), (9, 1, .istore_n 2, []), (10, 1, .iload_n 2, []), (11, 1, .iload_n 1, []), (12, 3, .if_icmp .lt 22, []), (15, 1, .iload_n 2, []), (16, 3, .ifCond .lt 18, []), (19, 1, .aload_n 0, []), (20, 3, .getfield 19, [2, 10]), (23, 1, .iload_n 2, []), (24, 3, .invokevirtual 333, [1, 0, 241]), (27, 1, .pop, []), (28, 3, .iinc 2 (-1), []), (31, 3, .goto (-21), [])]
def xk_141_1 : List xEn := [(34, 1, .iconst 0, []), (35, 1, .istore_n 2, []), (36, 1, .iload_n 2, []), (37, 1, .aload_n 0, []), (38, 3, .getfield 10, [0, 10]), (41, 3, .invokevirtual 101, [0, 0, 235]), (44, 3, .if_icmp .ge 31, []), (47, 1, .aload_n 0, []), (48, 3, .getfield 10, [0, 10]), (51, 1, .iload_n 2, []), (52, 3, .invokevirtual 140, [1, 0, 238]), (55, 3, .checkcast 36, [4]), (58, 1, .astore_n 3, []), (59, 1, .aload_n 3, []), (60, 1, .iconst 0, []), (61, 3, .putfield 137, [1, 0, 4])]
def xk_141_2 : List xEn := [(64, 1, .aload_n 3, []), (65, 1, .iconst (-1), []), (66, 3, .putfield 166, [2, 0, 4]), (69, 3, .iinc 2 1, []), (72, 3, .goto (-36), []), (75, 1, .iconst 0, []), (76, 1, .istore_n 2, []), (77, 1, .iload_n 2, []), (78, 1, .aload_n 0, []), (79, 3, .getfield 16, [1, 10]), (82, 3, .invokevirtual 101, [0, 0, 235]), (85, 3, .if_icmp .ge 23, []), (88, 1, .aload_n 0, []), (89, 3, .getfield 16, [1, 10]), (92, 1, .iload_n 2, []), (93, 3, .invokevirtual 140, [1, 0, 238])]
def xk_141_3 : List xEn := [(96, 3, .checkcast 174, [2, 6, 8, 9]), (99, 3, .invokevirtual 336, [0, 2, 76, 6, 76, 8, 76, 9, 76]), (102, 3, .iinc 2 1, []), (105, 3, .goto (-28), []), (108, 1, .aload_n 0, []), (109, 3, .getfield 25, [3, 10]), (112, 1, .iconst 0, []), (113, 3, .putfield 221, [1, 0, 3]), (116, 1, .return_, [])]
def xe_141 : xEl := (xm_141, [xk_141_0, xk_141_1, xk_141_2, xk_141_3], [], [])
def xm_142 : xM := (⟨"ViewFoundry", "waitingFrom", "()I"⟩, prog_1_method_44_code, 1, (Option.some Jvm.ClassFile.FieldType.int), [])
def xk_142_0 : List xEn := [(0, 1, .aload_n 0, []), (1, 3, .getfield 226, [8, 10]), (4, 3, .ifCond .eq 10, []), (7, 1, .aload_n 0, []), (8, 3, .getfield 231, [10, 10]), (11, 3, .goto 7, []), (14, 1, .aload_n 0, []), (15, 3, .getfield 237, [9, 10]), (18, 1, .ireturn, [])]
def xe_142 : xEl := (xm_142, [xk_142_0], [], [])
def xm_143 : xM := (⟨"ViewFoundry", "countPromised", "(II)V"⟩, prog_1_method_45_code, 7, (Option.none : Option Jvm.ClassFile.FieldType), [])
def xk_143_0 : List xEn := [(0, 1, .iload_n 1, []), (1, 1, .istore_n 3, []), (2, 1, .iload_n 3, []), (3, 1, .iload_n 2, []), (4, 3, .if_icmp .ge 56, []), (7, 1, .aload_n 0, []), (8, 3, .getfield 25, [3, 10]), (11, 1, .iload_n 3, []), (12, 3, .invokevirtual 339, [1, 3, 12]), (15, 2, .lstore 4, []), (17, 2, .lload 4, []), (19, 3, .invokestatic 342, [1, 15]), (22, 2, .istore 6, []), (24, 2, .iload 6, []), (26, 3, .ifCond .lt 28, []), (29, 2, .iload 6, []), (31, 1, .aload_n 0, [])]
def xk_143_1 : List xEn := [(32, 3, .getfield 33, [5, 10]), (35, 1, .arraylength, []), (36, 3, .if_icmp .ge 18, []), (39, 1, .aload_n 0, []), (40, 3, .getfield 33, [5, 10]), (43, 2, .iload 6, []), (45, 1, .dup2, []), (46, 1, .iaload, []), (47, 2, .lload 4, []), (49, 3, .invokestatic 348, [1, 20]), (52, 1, .iadd, []), (53, 1, .iastore, []), (54, 3, .iinc 3 1, []), (57, 3, .goto (-55), []), (60, 1, .return_, [])]
def xe_143 : xEl := (xm_143, [xk_143_0, xk_143_1], [], [])
def xm_144 : xM := (⟨"ViewFoundry", "detailAt", "(II)I"⟩, prog_1_method_46_code, 3, (Option.some Jvm.ClassFile.FieldType.int), [])
def xk_144_0 : List xEn := [(0, 1, .iload_n 2, []), (1, 3, .ifCond .lt 8, []), (4, 1, .iload_n 2, []), (5, 1, .iconst 5, []), (6, 3, .if_icmp .le 14, []), (9, 3, .new 54, []), (20, 1, .aload_n 0, []), (21, 3, .getfield 25, [3, 10]), (24, 1, .iload_n 1, []), (25, 3, .invokevirtual 339, [1, 3, 12]), (28, 1, .iload_n 2, []), (29, 3, .invokestatic 353, [2, 21])]
def xk_144_1 : List xEn := [(32, 1, .ireturn, [])]
def xe_144 : xEl := (xm_144, [xk_144_0, xk_144_1], [(9, "java/lang/IllegalArgumentException")], [])
def xm_145 : xM := (⟨"ViewFoundry", "heldOfKey", "(I)I"⟩, prog_1_method_47_code, 4, (Option.some Jvm.ClassFile.FieldType.int), [])
def xk_145_0 : List xEn := [(0, 1, .iconst 0, []), (1, 1, .istore_n 2, []), (2, 1, .iconst 0, []), (3, 1, .istore_n 3, []), (4, 1, .iload_n 3, []), (5, 1, .aload_n 0, []), (6, 3, .getfield 16, [1, 10]), (9, 3, .invokevirtual 101, [0, 0, 235]), (12, 3, .if_icmp .ge 27, []), (15, 1, .iload_n 2, []), (16, 1, .aload_n 0, []), (17, 3, .getfield 16, [1, 10]), (20, 1, .iload_n 3, []), (21, 3, .invokevirtual 140, [1, 0, 238]), (24, 3, .checkcast 174, [2, 6, 8, 9]), (27, 1, .iload_n 1, []), (28, 3, .invokevirtual 357, [1, 2, 82, 6, 82, 8, 82, 9, 82]), (31, 1, .iadd, [])]
def xk_145_1 : List xEn := [(32, 1, .istore_n 2, []), (33, 3, .iinc 3 1, []), (36, 3, .goto (-32), []), (39, 1, .iload_n 2, []), (40, 1, .ireturn, [])]
def xe_145 : xEl := (xm_145, [xk_145_0, xk_145_1], [], [])
def xm_146 : xM := (⟨"ViewFoundryModel$Held", "<init>", "()V"⟩, prog_15_method_1_code, 1, (Option.none : Option Jvm.ClassFile.FieldType), [])
def xk_146_0 : List xEn := [(0, 1, .aload_n 0, []), (1, 3, .invokespecial 3, []), (4, 1, .aload_n 0, []), (5, 2, .bipush 100, []), (7, 2, .newarray .int, [0]), (9, 3, .putfield 9, [1, 2, 11]), (12, 1, .aload_n 0, []), (13, 2, .bipush 40, []), (15, 2, .newarray .int, [0]), (17, 3, .putfield 15, [3, 2, 11]), (20, 1, .return_, [])]
def xe_146 : xEl := (xm_146, [xk_146_0], [], [])
def xm_147 : xM := (⟨"ViewFoundryModel$Held", "room", "()V"⟩, prog_15_method_2_code, 3, (Option.none : Option Jvm.ClassFile.FieldType), [])
def xk_147_0 : List xEn := [(0, 1, .aload_n 0, []), (1, 3, .getfield 9, [1, 11]), (4, 1, .arraylength, []), (5, 2, .bipush 10, []), (7, 1, .aload_n 0, []), (8, 3, .getfield 18, [0, 11]), (11, 1, .iconst 1, []), (12, 1, .iadd, []), (13, 1, .imul, []), (14, 3, .if_icmp .ge 46, []), (17, 1, .iconst 2, []), (18, 1, .aload_n 0, []), (19, 3, .getfield 9, [1, 11]), (22, 1, .arraylength, []), (23, 1, .imul, []), (24, 2, .newarray .int, [0]), (26, 1, .astore_n 1, []), (27, 1, .iconst 0, []), (28, 1, .istore_n 2, []), (29, 1, .iload_n 2, []), (30, 2, .bipush 10, [])]
def xk_147_1 : List xEn := [(32, 1, .aload_n 0, []), (33, 3, .getfield 18, [0, 11]), (36, 1, .imul, []), (37, 3, .if_icmp .ge 18, []), (40, 1, .aload_n 1, []), (41, 1, .iload_n 2, []), (42, 1, .aload_n 0, []), (43, 3, .getfield 9, [1, 11]), (46, 1, .iload_n 2, []), (47, 1, .iaload, []), (48, 1, .iastore, []), (49, 3, .iinc 2 1, []), (52, 3, .goto (-23), []), (55, 1, .aload_n 0, []), (56, 1, .aload_n 1, []), (57, 3, .putfield 9, [1, 2, 11]), (60, 1, .return_, [])]
def xe_147 : xEl := (xm_147, [xk_147_0, xk_147_1], [], [])
def xm_148 : xM := (⟨"ViewFoundryModel$Held", "adds", "(IIIII)I"⟩, prog_15_method_3_code, 7, (Option.some Jvm.ClassFile.FieldType.int), [])
def xk_148_0 : List xEn := [(0, 1, .aload_n 0, []), (1, 3, .invokevirtual 22, [0, 11, 147]), (4, 2, .bipush 10, []), (6, 1, .aload_n 0, []), (7, 3, .getfield 18, [0, 11]), (10, 1, .imul, []), (11, 2, .istore 6, []), (13, 1, .aload_n 0, []), (14, 3, .getfield 9, [1, 11]), (17, 2, .iload 6, []), (19, 1, .iload_n 1, []), (20, 1, .iastore, []), (21, 1, .aload_n 0, []), (22, 3, .getfield 9, [1, 11]), (25, 2, .iload 6, []), (27, 1, .iconst 1, []), (28, 1, .iadd, []), (29, 1, .iload_n 2, []), (30, 1, .iastore, []), (31, 1, .aload_n 0, [])]
def xk_148_1 : List xEn := [(32, 3, .getfield 9, [1, 11]), (35, 2, .iload 6, []), (37, 1, .iconst 2, []), (38, 1, .iadd, []), (39, 1, .iload_n 3, []), (40, 1, .iastore, []), (41, 1, .aload_n 0, []), (42, 3, .getfield 9, [1, 11]), (45, 2, .iload 6, []), (47, 1, .iconst 3, []), (48, 1, .iadd, []), (49, 2, .iload 4, []), (51, 1, .iastore, []), (52, 1, .aload_n 0, []), (53, 3, .getfield 9, [1, 11]), (56, 2, .iload 6, []), (58, 1, .iconst 4, []), (59, 1, .iadd, []), (60, 1, .iconst 1, []), (61, 1, .iastore, []), (62, 1, .aload_n 0, []), (63, 3, .getfield 9, [1, 11])]
def xk_148_2 : List xEn := [(66, 2, .iload 6, []), (68, 1, .iconst 5, []), (69, 1, .iadd, []), (70, 2, .iload 5, []), (72, 1, .iastore, []), (73, 1, .aload_n 0, []), (74, 3, .getfield 9, [1, 11]), (77, 2, .iload 6, []), (79, 2, .bipush 6, []), (81, 1, .iadd, []), (82, 2, .iload 5, []), (84, 1, .iastore, []), (85, 1, .aload_n 0, []), (86, 3, .getfield 9, [1, 11]), (89, 2, .iload 6, []), (91, 2, .bipush 7, []), (93, 1, .iadd, []), (94, 1, .iconst 0, []), (95, 1, .iastore, [])]
def xk_148_3 : List xEn := [(96, 1, .aload_n 0, []), (97, 3, .getfield 9, [1, 11]), (100, 2, .iload 6, []), (102, 2, .bipush 8, []), (104, 1, .iadd, []), (105, 1, .iconst 0, []), (106, 1, .iastore, []), (107, 1, .aload_n 0, []), (108, 3, .getfield 9, [1, 11]), (111, 2, .iload 6, []), (113, 2, .bipush 9, []), (115, 1, .iadd, []), (116, 1, .iconst 0, []), (117, 1, .iastore, []), (118, 1, .aload_n 0, []), (119, 1, .dup, []), (120, 3, .getfield 18, [0, 11]), (123, 1, .iconst 1, []), (124, 1, .iadd, []), (125, 3, .putfield 18, [0, 0, 11])]
def xk_148_4 : List xEn := [(128, 2, .iload 6, []), (130, 1, .ireturn, [])]
def xe_148 : xEl := (xm_148, [xk_148_0, xk_148_1, xk_148_2, xk_148_3, xk_148_4], [], [])
def xm_149 : xM := (⟨"ViewFoundryModel$Held", "tells", "(IIII)V"⟩, prog_15_method_4_code, 7, (Option.none : Option Jvm.ClassFile.FieldType), [])
def xk_149_0 : List xEn := [(0, 1, .aload_n 0, []), (1, 3, .getfield 15, [3, 11]), (4, 1, .arraylength, []), (5, 1, .iconst 4, []), (6, 1, .aload_n 0, []), (7, 3, .getfield 25, [2, 11]), (10, 1, .iconst 1, []), (11, 1, .iadd, []), (12, 1, .imul, []), (13, 3, .if_icmp .ge 52, []), (16, 1, .iconst 2, []), (17, 1, .aload_n 0, []), (18, 3, .getfield 15, [3, 11]), (21, 1, .arraylength, []), (22, 1, .imul, []), (23, 2, .newarray .int, [0]), (25, 2, .astore 5, []), (27, 1, .iconst 0, []), (28, 2, .istore 6, []), (30, 2, .iload 6, [])]
def xk_149_1 : List xEn := [(32, 1, .iconst 4, []), (33, 1, .aload_n 0, []), (34, 3, .getfield 25, [2, 11]), (37, 1, .imul, []), (38, 3, .if_icmp .ge 21, []), (41, 2, .aload 5, []), (43, 2, .iload 6, []), (45, 1, .aload_n 0, []), (46, 3, .getfield 15, [3, 11]), (49, 2, .iload 6, []), (51, 1, .iaload, []), (52, 1, .iastore, []), (53, 3, .iinc 6 1, []), (56, 3, .goto (-26), []), (59, 1, .aload_n 0, []), (60, 2, .aload 5, []), (62, 3, .putfield 15, [3, 2, 11])]
def xk_149_2 : List xEn := [(65, 1, .aload_n 0, []), (66, 3, .getfield 15, [3, 11]), (69, 1, .iconst 4, []), (70, 1, .aload_n 0, []), (71, 3, .getfield 25, [2, 11]), (74, 1, .imul, []), (75, 1, .iload_n 1, []), (76, 1, .iastore, []), (77, 1, .aload_n 0, []), (78, 3, .getfield 15, [3, 11]), (81, 1, .iconst 4, []), (82, 1, .aload_n 0, []), (83, 3, .getfield 25, [2, 11]), (86, 1, .imul, []), (87, 1, .iconst 1, []), (88, 1, .iadd, []), (89, 1, .iload_n 2, []), (90, 1, .iastore, []), (91, 1, .aload_n 0, []), (92, 3, .getfield 15, [3, 11]), (95, 1, .iconst 4, [])]
def xk_149_3 : List xEn := [(96, 1, .aload_n 0, []), (97, 3, .getfield 25, [2, 11]), (100, 1, .imul, []), (101, 1, .iconst 2, []), (102, 1, .iadd, []), (103, 1, .iload_n 3, []), (104, 1, .iastore, []), (105, 1, .aload_n 0, []), (106, 3, .getfield 15, [3, 11]), (109, 1, .iconst 4, []), (110, 1, .aload_n 0, []), (111, 3, .getfield 25, [2, 11]), (114, 1, .imul, []), (115, 1, .iconst 3, []), (116, 1, .iadd, []), (117, 2, .iload 4, []), (119, 1, .iastore, []), (120, 1, .aload_n 0, []), (121, 1, .dup, []), (122, 3, .getfield 25, [2, 11]), (125, 1, .iconst 1, []), (126, 1, .iadd, []), (127, 3, .putfield 25, [2, 0, 11])]
def xk_149_4 : List xEn := [(130, 1, .return_, [])]
def xe_149 : xEl := (xm_149, [xk_149_0, xk_149_1, xk_149_2, xk_149_3, xk_149_4], [], [])
def xm_150 : xM := (⟨"ViewFoundryModel$Held", "takesBack", "(IIII)V"⟩, prog_15_method_5_code, 7, (Option.none : Option Jvm.ClassFile.FieldType), [])
def xk_150_0 : List xEn := [(0, 1, .iconst 0, []), (1, 2, .istore 5, []), (3, 1, .aload_n 0, []), (4, 3, .getfield 15, [3, 11]), (7, 1, .iconst 4, []), (8, 2, .iload 5, []), (10, 1, .imul, []), (11, 1, .iaload, []), (12, 1, .iload_n 1, []), (13, 3, .if_icmp .ne 49, []), (16, 1, .aload_n 0, []), (17, 3, .getfield 15, [3, 11]), (20, 1, .iconst 4, []), (21, 2, .iload 5, []), (23, 1, .imul, []), (24, 1, .iconst 1, []), (25, 1, .iadd, []), (26, 1, .iaload, []), (27, 1, .iload_n 2, []), (28, 3, .if_icmp .ne 34, []), (31, 1, .aload_n 0, [])]
def xk_150_1 : List xEn := [(32, 3, .getfield 15, [3, 11]), (35, 1, .iconst 4, []), (36, 2, .iload 5, []), (38, 1, .imul, []), (39, 1, .iconst 2, []), (40, 1, .iadd, []), (41, 1, .iaload, []), (42, 1, .iload_n 3, []), (43, 3, .if_icmp .ne 19, []), (46, 1, .aload_n 0, []), (47, 3, .getfield 15, [3, 11]), (50, 1, .iconst 4, []), (51, 2, .iload 5, []), (53, 1, .imul, []), (54, 1, .iconst 3, []), (55, 1, .iadd, []), (56, 1, .iaload, []), (57, 2, .iload 4, []), (59, 3, .if_icmp .eq 9, []), (62, 3, .iinc 5 1, [])]
def xk_150_2 : List xEn := [(65, 3, .goto (-62), []), (68, 1, .aload_n 0, []), (69, 1, .dup, []), (70, 3, .getfield 25, [2, 11]), (73, 1, .iconst 1, []), (74, 1, .isub, []), (75, 3, .putfield 25, [2, 0, 11]), (78, 1, .iconst 4, []), (79, 2, .iload 5, []), (81, 1, .imul, []), (82, 2, .istore 6, []), (84, 2, .iload 6, []), (86, 1, .iconst 4, []), (87, 1, .aload_n 0, []), (88, 3, .getfield 25, [2, 11]), (91, 1, .imul, []), (92, 3, .if_icmp .ge 25, []), (95, 1, .aload_n 0, [])]
def xk_150_3 : List xEn := [(96, 3, .getfield 15, [3, 11]), (99, 2, .iload 6, []), (101, 1, .aload_n 0, []), (102, 3, .getfield 15, [3, 11]), (105, 2, .iload 6, []), (107, 1, .iconst 4, []), (108, 1, .iadd, []), (109, 1, .iaload, []), (110, 1, .iastore, []), (111, 3, .iinc 6 1, []), (114, 3, .goto (-30), []), (117, 1, .return_, [])]
def xe_150 : xEl := (xm_150, [xk_150_0, xk_150_1, xk_150_2, xk_150_3], [], [])
def xm_151 : xM := (⟨"ViewFoundryModel$Held", "sweeps", "()V"⟩, prog_15_method_6_code, 4, (Option.none : Option Jvm.ClassFile.FieldType), [])
def xk_151_0 : List xEn := [(0, 1, .iconst 0, []), (1, 1, .istore_n 1, []), (2, 1, .iconst 0, []), (3, 1, .istore_n 2, []), (4, 1, .iload_n 2, []), (5, 1, .aload_n 0, []), (6, 3, .getfield 18, [0, 11]), (9, 3, .if_icmp .ge 60, []), (12, 1, .aload_n 0, []), (13, 3, .getfield 9, [1, 11]), (16, 2, .bipush 10, []), (18, 1, .iload_n 2, []), (19, 1, .imul, []), (20, 1, .iaload, []), (21, 3, .ifCond .eq 42, []), (24, 1, .iconst 0, []), (25, 1, .istore_n 3, []), (26, 1, .iload_n 3, []), (27, 2, .bipush 10, []), (29, 3, .if_icmp .ge 31, [])]
def xk_151_1 : List xEn := [(32, 1, .aload_n 0, []), (33, 3, .getfield 9, [1, 11]), (36, 2, .bipush 10, []), (38, 1, .iload_n 1, []), (39, 1, .imul, []), (40, 1, .iload_n 3, []), (41, 1, .iadd, []), (42, 1, .aload_n 0, []), (43, 3, .getfield 9, [1, 11]), (46, 2, .bipush 10, []), (48, 1, .iload_n 2, []), (49, 1, .imul, []), (50, 1, .iload_n 3, []), (51, 1, .iadd, []), (52, 1, .iaload, []), (53, 1, .iastore, []), (54, 3, .iinc 3 1, []), (57, 3, .goto (-31), []), (60, 3, .iinc 1 1, []), (63, 3, .iinc 2 1, [])]
def xk_151_2 : List xEn := [(66, 3, .goto (-62), []), (69, 1, .aload_n 0, []), (70, 1, .iload_n 1, []), (71, 3, .putfield 18, [0, 0, 11]), (74, 1, .return_, [])]
def xe_151 : xEl := (xm_151, [xk_151_0, xk_151_1, xk_151_2], [], [])
def xm_152 : xM := (⟨"ViewFoundryModel$Held", "copies", "(LViewFoundryModel$Held;)V"⟩, prog_15_method_7_code, 3, (Option.none : Option Jvm.ClassFile.FieldType), [])
def xk_152_0 : List xEn := [(0, 1, .aload_n 0, []), (1, 3, .getfield 9, [1, 11]), (4, 1, .arraylength, []), (5, 1, .aload_n 1, []), (6, 3, .getfield 9, [1, 11]), (9, 1, .arraylength, []), (10, 3, .if_icmp .ge 14, []), (13, 1, .aload_n 0, []), (14, 1, .aload_n 1, []), (15, 3, .getfield 9, [1, 11]), (18, 1, .arraylength, []), (19, 2, .newarray .int, [0]), (21, 3, .putfield 9, [1, 2, 11]), (24, 1, .aload_n 0, []), (25, 3, .getfield 15, [3, 11]), (28, 1, .arraylength, []), (29, 1, .aload_n 1, []), (30, 3, .getfield 15, [3, 11])]
def xk_152_1 : List xEn := [(33, 1, .arraylength, []), (34, 3, .if_icmp .ge 14, []), (37, 1, .aload_n 0, []), (38, 1, .aload_n 1, []), (39, 3, .getfield 15, [3, 11]), (42, 1, .arraylength, []), (43, 2, .newarray .int, [0]), (45, 3, .putfield 15, [3, 2, 11]), (48, 1, .aload_n 0, []), (49, 1, .aload_n 1, []), (50, 3, .getfield 18, [0, 11]), (53, 3, .putfield 18, [0, 0, 11]), (56, 1, .aload_n 0, []), (57, 1, .aload_n 1, []), (58, 3, .getfield 25, [2, 11]), (61, 3, .putfield 25, [2, 0, 11])]
def xk_152_2 : List xEn := [(64, 1, .aload_n 0, []), (65, 1, .aload_n 1, []), (66, 3, .getfield 28, [4, 11]), (69, 3, .putfield 28, [4, 0, 11]), (72, 1, .iconst 0, []), (73, 1, .istore_n 2, []), (74, 1, .iload_n 2, []), (75, 2, .bipush 10, []), (77, 1, .aload_n 0, []), (78, 3, .getfield 18, [0, 11]), (81, 1, .imul, []), (82, 3, .if_icmp .ge 21, []), (85, 1, .aload_n 0, []), (86, 3, .getfield 9, [1, 11]), (89, 1, .iload_n 2, []), (90, 1, .aload_n 1, []), (91, 3, .getfield 9, [1, 11]), (94, 1, .iload_n 2, []), (95, 1, .iaload, [])]
def xk_152_3 : List xEn := [(96, 1, .iastore, []), (97, 3, .iinc 2 1, []), (100, 3, .goto (-26), []), (103, 1, .iconst 0, []), (104, 1, .istore_n 2, []), (105, 1, .iload_n 2, []), (106, 1, .iconst 4, []), (107, 1, .aload_n 0, []), (108, 3, .getfield 25, [2, 11]), (111, 1, .imul, []), (112, 3, .if_icmp .ge 21, []), (115, 1, .aload_n 0, []), (116, 3, .getfield 15, [3, 11]), (119, 1, .iload_n 2, []), (120, 1, .aload_n 1, []), (121, 3, .getfield 15, [3, 11]), (124, 1, .iload_n 2, []), (125, 1, .iaload, []), (126, 1, .iastore, []), (127, 3, .iinc 2 1, [])]
def xk_152_4 : List xEn := [(130, 3, .goto (-25), []), (133, 1, .return_, [])]
def xe_152 : xEl := (xm_152, [xk_152_0, xk_152_1, xk_152_2, xk_152_3, xk_152_4], [], [])
def xm_153 : xM := (⟨"ViewFoundryModel$Outputs", "<init>", "()V"⟩, prog_16_method_1_code, 1, (Option.none : Option Jvm.ClassFile.FieldType), [])
def xk_153_0 : List xEn := [(0, 1, .aload_n 0, []), (1, 3, .invokespecial 1, []), (4, 1, .aload_n 0, []), (5, 2, .bipush 60, []), (7, 2, .newarray .int, [0]), (9, 3, .putfield 7, [1, 2, 12]), (12, 1, .return_, [])]
def xe_153 : xEl := (xm_153, [xk_153_0], [], [])
def xm_154 : xM := (⟨"ViewFoundryModel$Outputs", "adds", "(IIIIII)V"⟩, prog_16_method_2_code, 9, (Option.none : Option Jvm.ClassFile.FieldType), [])
def xk_154_0 : List xEn := [(0, 1, .aload_n 0, []), (1, 3, .getfield 7, [1, 12]), (4, 1, .arraylength, []), (5, 2, .bipush 6, []), (7, 1, .aload_n 0, []), (8, 3, .getfield 13, [0, 12]), (11, 1, .iconst 1, []), (12, 1, .iadd, []), (13, 1, .imul, []), (14, 3, .if_icmp .ge 53, []), (17, 1, .iconst 2, []), (18, 1, .aload_n 0, []), (19, 3, .getfield 7, [1, 12]), (22, 1, .arraylength, []), (23, 1, .imul, []), (24, 2, .newarray .int, [0]), (26, 2, .astore 7, []), (28, 1, .iconst 0, []), (29, 2, .istore 8, []), (31, 2, .iload 8, [])]
def xk_154_1 : List xEn := [(33, 2, .bipush 6, []), (35, 1, .aload_n 0, []), (36, 3, .getfield 13, [0, 12]), (39, 1, .imul, []), (40, 3, .if_icmp .ge 21, []), (43, 2, .aload 7, []), (45, 2, .iload 8, []), (47, 1, .aload_n 0, []), (48, 3, .getfield 7, [1, 12]), (51, 2, .iload 8, []), (53, 1, .iaload, []), (54, 1, .iastore, []), (55, 3, .iinc 8 1, []), (58, 3, .goto (-27), []), (61, 1, .aload_n 0, []), (62, 2, .aload 7, [])]
def xk_154_2 : List xEn := [(64, 3, .putfield 7, [1, 2, 12]), (67, 1, .aload_n 0, []), (68, 3, .getfield 7, [1, 12]), (71, 2, .bipush 6, []), (73, 1, .aload_n 0, []), (74, 3, .getfield 13, [0, 12]), (77, 1, .imul, []), (78, 1, .iload_n 1, []), (79, 1, .iastore, []), (80, 1, .aload_n 0, []), (81, 3, .getfield 7, [1, 12]), (84, 2, .bipush 6, []), (86, 1, .aload_n 0, []), (87, 3, .getfield 13, [0, 12]), (90, 1, .imul, []), (91, 1, .iconst 1, []), (92, 1, .iadd, []), (93, 1, .iload_n 2, []), (94, 1, .iastore, []), (95, 1, .aload_n 0, [])]
def xk_154_3 : List xEn := [(96, 3, .getfield 7, [1, 12]), (99, 2, .bipush 6, []), (101, 1, .aload_n 0, []), (102, 3, .getfield 13, [0, 12]), (105, 1, .imul, []), (106, 1, .iconst 2, []), (107, 1, .iadd, []), (108, 1, .iload_n 3, []), (109, 1, .iastore, []), (110, 1, .aload_n 0, []), (111, 3, .getfield 7, [1, 12]), (114, 2, .bipush 6, []), (116, 1, .aload_n 0, []), (117, 3, .getfield 13, [0, 12]), (120, 1, .imul, []), (121, 1, .iconst 3, []), (122, 1, .iadd, []), (123, 2, .iload 4, []), (125, 1, .iastore, []), (126, 1, .aload_n 0, []), (127, 3, .getfield 7, [1, 12])]
def xk_154_4 : List xEn := [(130, 2, .bipush 6, []), (132, 1, .aload_n 0, []), (133, 3, .getfield 13, [0, 12]), (136, 1, .imul, []), (137, 1, .iconst 4, []), (138, 1, .iadd, []), (139, 2, .iload 5, []), (141, 1, .iastore, []), (142, 1, .aload_n 0, []), (143, 3, .getfield 7, [1, 12]), (146, 2, .bipush 6, []), (148, 1, .aload_n 0, []), (149, 3, .getfield 13, [0, 12]), (152, 1, .imul, []), (153, 1, .iconst 5, []), (154, 1, .iadd, []), (155, 2, .iload 6, []), (157, 1, .iastore, []), (158, 1, .aload_n 0, []), (159, 1, .dup, [])]
def xk_154_5 : List xEn := [(160, 3, .getfield 13, [0, 12]), (163, 1, .iconst 1, []), (164, 1, .iadd, []), (165, 3, .putfield 13, [0, 0, 12]), (168, 1, .return_, [])]
def xe_154 : xEl := (xm_154, [xk_154_0, xk_154_1, xk_154_2, xk_154_3, xk_154_4, xk_154_5], [], [])
def xm_155 : xM := (⟨"ViewFoundryModel$Outputs", "addsAll", "(LViewFoundryModel$Outputs;)V"⟩, prog_16_method_3_code, 4, (Option.none : Option Jvm.ClassFile.FieldType), [])
def xk_155_0 : List xEn := [(0, 1, .iconst 0, []), (1, 1, .istore_n 2, []), (2, 1, .iload_n 2, []), (3, 1, .aload_n 1, []), (4, 3, .getfield 13, [0, 12]), (7, 3, .if_icmp .ge 64, []), (10, 2, .bipush 6, []), (12, 1, .iload_n 2, []), (13, 1, .imul, []), (14, 1, .istore_n 3, []), (15, 1, .aload_n 0, []), (16, 1, .aload_n 1, []), (17, 3, .getfield 7, [1, 12]), (20, 1, .iload_n 3, []), (21, 1, .iaload, []), (22, 1, .aload_n 1, []), (23, 3, .getfield 7, [1, 12]), (26, 1, .iload_n 3, []), (27, 1, .iconst 1, []), (28, 1, .iadd, []), (29, 1, .iaload, []), (30, 1, .aload_n 1, []), (31, 3, .getfield 7, [1, 12])]
def xk_155_1 : List xEn := [(34, 1, .iload_n 3, []), (35, 1, .iconst 2, []), (36, 1, .iadd, []), (37, 1, .iaload, []), (38, 1, .aload_n 1, []), (39, 3, .getfield 7, [1, 12]), (42, 1, .iload_n 3, []), (43, 1, .iconst 3, []), (44, 1, .iadd, []), (45, 1, .iaload, []), (46, 1, .aload_n 1, []), (47, 3, .getfield 7, [1, 12]), (50, 1, .iload_n 3, []), (51, 1, .iconst 4, []), (52, 1, .iadd, []), (53, 1, .iaload, []), (54, 1, .aload_n 1, []), (55, 3, .getfield 7, [1, 12]), (58, 1, .iload_n 3, []), (59, 1, .iconst 5, []), (60, 1, .iadd, []), (61, 1, .iaload, []), (62, 3, .invokevirtual 17, [6, 12, 154])]
def xk_155_2 : List xEn := [(65, 3, .iinc 2 1, []), (68, 3, .goto (-66), []), (71, 1, .return_, [])]
def xe_155 : xEl := (xm_155, [xk_155_0, xk_155_1, xk_155_2], [], [])
def xm_156 : xM := (⟨"ViewFoundryModel", "<init>", "()V"⟩, prog_14_method_1_code, 2, (Option.none : Option Jvm.ClassFile.FieldType), [])
def xk_156_0 : List xEn := [(0, 1, .aload_n 0, []), (1, 3, .invokespecial 1, []), (4, 1, .aload_n 0, []), (5, 1, .iconst 3, []), (6, 2, .newarray .int, [0]), (8, 3, .putfield 7, [1, 2, 13]), (11, 1, .aload_n 0, []), (12, 3, .sipush 240, []), (15, 2, .newarray .int, [0]), (17, 3, .putfield 13, [2, 2, 13]), (20, 1, .aload_n 0, []), (21, 3, .sipush 240, []), (24, 2, .newarray .int, [0]), (26, 3, .putfield 16, [3, 2, 13]), (29, 1, .aload_n 0, []), (30, 3, .sipush 240, [])]
def xk_156_1 : List xEn := [(33, 2, .newarray .int, [0]), (35, 3, .putfield 19, [4, 2, 13]), (38, 1, .aload_n 0, []), (39, 1, .iconst 3, []), (40, 2, .newarray .int, [0]), (42, 3, .putfield 22, [5, 2, 13]), (45, 1, .aload_n 0, []), (46, 2, .bipush 8, []), (48, 2, .newarray .int, [0]), (50, 3, .putfield 25, [6, 2, 13]), (53, 1, .aload_n 0, []), (54, 1, .iconst 5, []), (55, 2, .newarray .char, [2]), (57, 3, .putfield 28, [8, 2, 13]), (60, 1, .aload_n 0, []), (61, 1, .iconst 5, []), (62, 2, .newarray .char, [2])]
def xk_156_2 : List xEn := [(64, 3, .putfield 32, [9, 2, 13]), (67, 1, .aload_n 0, []), (68, 1, .iconst 5, []), (69, 2, .newarray .char, [2]), (71, 3, .putfield 35, [10, 2, 13]), (74, 1, .aload_n 0, []), (75, 1, .iconst 5, []), (76, 2, .newarray .int, [0]), (78, 3, .putfield 38, [11, 2, 13]), (81, 1, .aload_n 0, []), (82, 1, .iconst 5, []), (83, 2, .newarray .int, [0]), (85, 3, .putfield 41, [12, 2, 13]), (88, 1, .aload_n 0, []), (89, 1, .iconst 5, []), (90, 2, .newarray .int, [0]), (92, 3, .putfield 44, [13, 2, 13]), (95, 1, .aload_n 0, [])]
def xk_156_3 : List xEn := [(96, 2, .bipush 9, []), (98, 2, .newarray .int, [0]), (100, 3, .putfield 47, [16, 2, 13]), (103, 1, .aload_n 0, []), (104, 2, .bipush 9, []), (106, 2, .newarray .int, [0]), (108, 3, .putfield 50, [17, 2, 13]), (111, 1, .aload_n 0, []), (112, 2, .bipush 15, []), (114, 3, .anewarray 53, [5]), (117, 3, .putfield 55, [18, 2, 13]), (120, 1, .aload_n 0, []), (121, 3, .new 59, [12, 0, 2]), (124, 1, .dup, []), (125, 3, .invokespecial 61, [0, 153])]
def xk_156_4 : List xEn := [(128, 3, .putfield 62, [19, 2, 13]), (131, 1, .aload_n 0, []), (132, 3, .new 59, [12, 0, 2]), (135, 1, .dup, []), (136, 3, .invokespecial 61, [0, 153]), (139, 3, .putfield 66, [20, 2, 13]), (142, 1, .aload_n 0, []), (143, 3, .new 59, [12, 0, 2]), (146, 1, .dup, []), (147, 3, .invokespecial 61, [0, 153]), (150, 3, .putfield 69, [21, 2, 13]), (153, 1, .iconst 0, []), (154, 1, .istore_n 1, []), (155, 1, .iload_n 1, []), (156, 2, .bipush 9, []), (158, 3, .if_icmp .ge 16, [])]
def xk_156_5 : List xEn := [(161, 1, .aload_n 0, []), (162, 3, .getfield 50, [17, 13]), (165, 1, .iload_n 1, []), (166, 1, .iconst (-1), []), (167, 1, .iastore, []), (168, 3, .iinc 1 1, []), (171, 3, .goto (-16), []), (174, 1, .iconst 0, []), (175, 1, .istore_n 1, []), (176, 1, .iload_n 1, []), (177, 2, .bipush 15, []), (179, 3, .if_icmp .ge 22, []), (182, 1, .aload_n 0, []), (183, 3, .getfield 55, [18, 13]), (186, 1, .iload_n 1, []), (187, 3, .new 53, [11, 0, 2, 0, 2, 0]), (190, 1, .dup, []), (191, 3, .invokespecial 72, [0, 146])]
def xk_156_6 : List xEn := [(194, 1, .aastore, [11, 0, 1, 2, 3, 4, 5, 6, 7, 8, 9, 10, 12, 13]), (195, 3, .iinc 1 1, []), (198, 3, .goto (-22), []), (201, 1, .iconst 0, []), (202, 1, .istore_n 1, []), (203, 1, .iload_n 1, []), (204, 2, .bipush 8, []), (206, 3, .if_icmp .ge 18, []), (209, 1, .aload_n 0, []), (210, 3, .getfield 25, [6, 13]), (213, 1, .iload_n 1, []), (214, 1, .iload_n 1, []), (215, 1, .iconst 3, []), (216, 1, .irem, []), (217, 1, .iastore, []), (218, 3, .iinc 1 1, []), (221, 3, .goto (-18), [])]
def xk_156_7 : List xEn := [(224, 1, .return_, [])]
def xe_156 : xEl := (xm_156, [xk_156_0, xk_156_1, xk_156_2, xk_156_3, xk_156_4, xk_156_5, xk_156_6, xk_156_7], [], [])
def xm_157 : xM := (⟨"ViewFoundryModel", "thrown", "()I"⟩, prog_14_method_2_code, 1, (Option.some Jvm.ClassFile.FieldType.int), [])
def xk_157_0 : List xEn := [(0, 1, .aload_n 0, []), (1, 3, .getfield 73, [0, 13]), (4, 1, .ireturn, [])]
def xe_157 : xEl := (xm_157, [xk_157_0], [], [])
def xm_158 : xM := (⟨"ViewFoundryModel", "in", "(III)Z"⟩, prog_14_method_3_code, 3, (Option.some Jvm.ClassFile.FieldType.boolean), [])
def xk_158_0 : List xEn := [(0, 1, .iload_n 0, []), (1, 1, .iload_n 1, []), (2, 3, .if_icmp .lt 12, []), (5, 1, .iload_n 0, []), (6, 1, .iload_n 2, []), (7, 3, .if_icmp .gt 7, []), (10, 1, .iconst 1, []), (11, 3, .goto 4, []), (14, 1, .iconst 0, []), (15, 1, .ireturn, [])]
def xe_158 : xEl := (xm_158, [xk_158_0], [], [])
def xm_159 : xM := (⟨"ViewFoundryModel", "fails", "(I)I"⟩, prog_14_method_4_code, 2, (Option.some Jvm.ClassFile.FieldType.int), [])
def xk_159_0 : List xEn := [(0, 1, .aload_n 0, []), (1, 1, .iload_n 1, []), (2, 3, .putfield 73, [0, 0, 13]), (5, 1, .iconst 0, []), (6, 1, .ireturn, [])]
def xe_159 : xEl := (xm_159, [xk_159_0], [], [])
def xm_160 : xM := (⟨"ViewFoundryModel", "isPart", "(I)Z"⟩, prog_14_method_5_code, 1, (Option.some Jvm.ClassFile.FieldType.boolean), [])
def xk_160_0 : List xEn := [(0, 1, .iload_n 0, []), (1, 1, .iconst 0, []), (2, 1, .iconst 2, []), (3, 3, .invokestatic 77, [3, 158]), (6, 1, .ireturn, [])]
def xe_160 : xEl := (xm_160, [xk_160_0], [], [])
def xm_161 : xM := (⟨"ViewFoundryModel", "puts", "(IIII)I"⟩, prog_14_method_6_code, 6, (Option.some Jvm.ClassFile.FieldType.int), [])
def xk_161_0 : List xEn := [(0, 1, .aload_n 0, []), (1, 3, .getfield 7, [1, 13]), (4, 1, .iload_n 1, []), (5, 1, .iaload, []), (6, 2, .bipush 80, []), (8, 3, .if_icmp .ne 9, []), (11, 1, .aload_n 0, []), (12, 1, .iconst 2, []), (13, 3, .invokevirtual 81, [1, 13, 159]), (16, 1, .ireturn, []), (17, 2, .bipush 80, []), (19, 1, .iload_n 1, []), (20, 1, .imul, []), (21, 1, .aload_n 0, []), (22, 3, .getfield 7, [1, 13]), (25, 1, .iload_n 1, []), (26, 1, .iaload, []), (27, 1, .iadd, []), (28, 2, .istore 5, []), (30, 1, .aload_n 0, []), (31, 3, .getfield 13, [2, 13])]
def xk_161_1 : List xEn := [(34, 2, .iload 5, []), (36, 1, .iload_n 2, []), (37, 1, .iastore, []), (38, 1, .aload_n 0, []), (39, 3, .getfield 16, [3, 13]), (42, 2, .iload 5, []), (44, 1, .iload_n 3, []), (45, 1, .iastore, []), (46, 1, .aload_n 0, []), (47, 3, .getfield 19, [4, 13]), (50, 2, .iload 5, []), (52, 2, .iload 4, []), (54, 1, .iastore, []), (55, 1, .aload_n 0, []), (56, 3, .getfield 7, [1, 13]), (59, 1, .iload_n 1, []), (60, 1, .dup2, []), (61, 1, .iaload, []), (62, 1, .iconst 1, []), (63, 1, .iadd, [])]
def xk_161_2 : List xEn := [(64, 1, .iastore, []), (65, 1, .aload_n 0, []), (66, 3, .getfield 7, [1, 13]), (69, 1, .iload_n 1, []), (70, 1, .iaload, []), (71, 1, .iconst 1, []), (72, 1, .isub, []), (73, 1, .ireturn, [])]
def xe_161 : xEl := (xm_161, [xk_161_0, xk_161_1, xk_161_2], [], [])
def xm_162 : xM := (⟨"ViewFoundryModel", "putRow", "(IIII)I"⟩, prog_14_method_7_code, 5, (Option.some Jvm.ClassFile.FieldType.int), [])
def xk_162_0 : List xEn := [(0, 1, .aload_n 0, []), (1, 1, .iconst 0, []), (2, 3, .putfield 73, [0, 0, 13]), (5, 1, .iload_n 1, []), (6, 3, .invokestatic 85, [1, 160]), (9, 3, .ifCond .eq 48, []), (12, 1, .iload_n 2, []), (13, 1, .iconst 0, []), (14, 2, .bipush 7, []), (16, 3, .invokestatic 77, [3, 158]), (19, 3, .ifCond .eq 38, []), (22, 1, .iload_n 3, []), (23, 1, .iconst 0, []), (24, 3, .sipush 999, []), (27, 3, .invokestatic 77, [3, 158]), (30, 3, .ifCond .eq 27, [])]
def xk_162_1 : List xEn := [(33, 2, .iload 4, []), (35, 2, .bipush (-99), []), (37, 2, .bipush 99, []), (39, 3, .invokestatic 77, [3, 158]), (42, 3, .ifCond .eq 15, []), (45, 1, .aload_n 0, []), (46, 1, .iload_n 1, []), (47, 1, .iload_n 2, []), (48, 1, .iload_n 3, []), (49, 2, .iload 4, []), (51, 3, .invokevirtual 89, [4, 13, 161]), (54, 3, .goto 8, []), (57, 1, .aload_n 0, []), (58, 1, .iconst 1, []), (59, 3, .invokevirtual 81, [1, 13, 159]), (62, 1, .ireturn, [])]
def xe_162 : xEl := (xm_162, [xk_162_0, xk_162_1], [], [])
def xm_163 : xM := (⟨"ViewFoundryModel", "putMark", "(II)I"⟩, prog_14_method_8_code, 3, (Option.some Jvm.ClassFile.FieldType.int), [])
def xk_163_0 : List xEn := [(0, 1, .aload_n 0, []), (1, 1, .iconst 0, []), (2, 3, .putfield 73, [0, 0, 13]), (5, 1, .iload_n 1, []), (6, 3, .invokestatic 85, [1, 160]), (9, 3, .ifCond .eq 25, []), (12, 1, .iload_n 2, []), (13, 1, .iconst 0, []), (14, 3, .sipush 999, []), (17, 3, .invokestatic 77, [3, 158]), (20, 3, .ifCond .eq 14, []), (23, 1, .aload_n 0, []), (24, 1, .iload_n 1, []), (25, 1, .iconst (-1), []), (26, 1, .iload_n 2, []), (27, 1, .iconst 0, []), (28, 3, .invokevirtual 89, [4, 13, 161]), (31, 3, .goto 8, [])]
def xk_163_1 : List xEn := [(34, 1, .aload_n 0, []), (35, 1, .iconst 1, []), (36, 3, .invokevirtual 81, [1, 13, 159]), (39, 1, .ireturn, [])]
def xe_163 : xEl := (xm_163, [xk_163_0, xk_163_1], [], [])
def xm_164 : xM := (⟨"ViewFoundryModel", "setSlack", "(II)I"⟩, prog_14_method_9_code, 4, (Option.some Jvm.ClassFile.FieldType.int), [])
def xk_164_0 : List xEn := [(0, 1, .aload_n 0, []), (1, 1, .iconst 0, []), (2, 3, .putfield 73, [0, 0, 13]), (5, 1, .iload_n 1, []), (6, 3, .invokestatic 85, [1, 160]), (9, 3, .ifCond .eq 13, []), (12, 1, .iload_n 2, []), (13, 1, .iconst 0, []), (14, 2, .bipush 99, []), (16, 3, .invokestatic 77, [3, 158]), (19, 3, .ifCond .ne 9, []), (22, 1, .aload_n 0, []), (23, 1, .iconst 1, []), (24, 3, .invokevirtual 81, [1, 13, 159]), (27, 1, .ireturn, []), (28, 1, .aload_n 0, []), (29, 3, .getfield 93, [7, 13])]
def xk_164_1 : List xEn := [(32, 3, .ifCond .le 9, []), (35, 1, .aload_n 0, []), (36, 1, .iconst 2, []), (37, 3, .invokevirtual 81, [1, 13, 159]), (40, 1, .ireturn, []), (41, 1, .aload_n 0, []), (42, 3, .getfield 22, [5, 13]), (45, 1, .iload_n 1, []), (46, 1, .iaload, []), (47, 1, .istore_n 3, []), (48, 1, .aload_n 0, []), (49, 3, .getfield 22, [5, 13]), (52, 1, .iload_n 1, []), (53, 1, .iload_n 2, []), (54, 1, .iastore, []), (55, 1, .iload_n 3, []), (56, 1, .ireturn, [])]
def xe_164 : xEl := (xm_164, [xk_164_0, xk_164_1], [], [])
def xm_165 : xM := (⟨"ViewFoundryModel", "addView", "(CCCIII)I"⟩, prog_14_method_10_code, 10, (Option.some Jvm.ClassFile.FieldType.int), [])
def xk_165_0 : List xEn := [(0, 1, .aload_n 0, []), (1, 1, .iconst 0, []), (2, 3, .putfield 73, [0, 0, 13]), (5, 1, .iload_n 1, []), (6, 2, .bipush 116, []), (8, 3, .if_icmp .eq 27, []), (11, 1, .iload_n 1, []), (12, 2, .bipush 108, []), (14, 3, .if_icmp .eq 21, []), (17, 1, .iload_n 1, []), (18, 2, .bipush 115, []), (20, 3, .if_icmp .eq 15, []), (23, 1, .iload_n 1, []), (24, 2, .bipush 106, []), (26, 3, .if_icmp .eq 9, []), (29, 1, .iload_n 1, []), (30, 2, .bipush 118, [])]
def xk_165_1 : List xEn := [(32, 3, .if_icmp .ne 7, []), (35, 1, .iconst 1, []), (36, 3, .goto 4, []), (39, 1, .iconst 0, []), (40, 2, .istore 7, []), (42, 1, .iload_n 2, []), (43, 2, .bipush 99, []), (45, 3, .if_icmp .eq 27, []), (48, 1, .iload_n 2, []), (49, 2, .bipush 115, []), (51, 3, .if_icmp .eq 21, []), (54, 1, .iload_n 2, []), (55, 2, .bipush 120, []), (57, 3, .if_icmp .eq 15, []), (60, 1, .iload_n 2, []), (61, 2, .bipush 98, []), (63, 3, .if_icmp .eq 9, [])]
def xk_165_2 : List xEn := [(66, 1, .iload_n 2, []), (67, 2, .bipush 109, []), (69, 3, .if_icmp .ne 7, []), (72, 1, .iconst 1, []), (73, 3, .goto 4, []), (76, 1, .iconst 0, []), (77, 2, .istore 8, []), (79, 1, .iload_n 3, []), (80, 2, .bipush 97, []), (82, 3, .if_icmp .eq 15, []), (85, 1, .iload_n 3, []), (86, 2, .bipush 101, []), (88, 3, .if_icmp .eq 9, []), (91, 1, .iload_n 3, []), (92, 2, .bipush 112, []), (94, 3, .if_icmp .ne 7, [])]
def xk_165_3 : List xEn := [(97, 1, .iconst 1, []), (98, 3, .goto 4, []), (101, 1, .iconst 0, []), (102, 2, .istore 9, []), (104, 2, .iload 7, []), (106, 3, .ifCond .eq 54, []), (109, 2, .iload 8, []), (111, 3, .ifCond .eq 49, []), (114, 2, .iload 9, []), (116, 3, .ifCond .eq 44, []), (119, 2, .iload 4, []), (121, 1, .iconst 1, []), (122, 3, .sipush 200, []), (125, 3, .invokestatic 77, [3, 158])]
def xk_165_4 : List xEn := [(128, 3, .ifCond .eq 32, []), (131, 1, .iload_n 1, []), (132, 2, .bipush 108, []), (134, 3, .if_icmp .ne 14, []), (137, 2, .iload 5, []), (139, 1, .iconst 1, []), (140, 2, .iload 4, []), (142, 3, .invokestatic 77, [3, 158]), (145, 3, .ifCond .eq 15, []), (148, 2, .iload 6, []), (150, 1, .iconst 0, []), (151, 3, .sipush 200, []), (154, 3, .invokestatic 77, [3, 158]), (157, 3, .ifCond .ne 9, [])]
def xk_165_5 : List xEn := [(160, 1, .aload_n 0, []), (161, 1, .iconst 1, []), (162, 3, .invokevirtual 81, [1, 13, 159]), (165, 1, .ireturn, []), (166, 1, .aload_n 0, []), (167, 3, .getfield 93, [7, 13]), (170, 1, .iconst 5, []), (171, 3, .if_icmp .eq 10, []), (174, 1, .aload_n 0, []), (175, 3, .getfield 96, [14, 13]), (178, 3, .ifCond .eq 9, []), (181, 1, .aload_n 0, []), (182, 1, .iconst 2, []), (183, 3, .invokevirtual 81, [1, 13, 159]), (186, 1, .ireturn, []), (187, 1, .aload_n 0, []), (188, 3, .getfield 28, [8, 13]), (191, 1, .aload_n 0, [])]
def xk_165_6 : List xEn := [(192, 3, .getfield 93, [7, 13]), (195, 1, .iload_n 1, []), (196, 1, .castore, []), (197, 1, .aload_n 0, []), (198, 3, .getfield 32, [9, 13]), (201, 1, .aload_n 0, []), (202, 3, .getfield 93, [7, 13]), (205, 1, .iload_n 2, []), (206, 1, .castore, []), (207, 1, .aload_n 0, []), (208, 3, .getfield 35, [10, 13]), (211, 1, .aload_n 0, []), (212, 3, .getfield 93, [7, 13]), (215, 1, .iload_n 3, []), (216, 1, .castore, []), (217, 1, .aload_n 0, []), (218, 3, .getfield 38, [11, 13]), (221, 1, .aload_n 0, []), (222, 3, .getfield 93, [7, 13])]
def xk_165_7 : List xEn := [(225, 2, .iload 4, []), (227, 1, .iastore, []), (228, 1, .aload_n 0, []), (229, 3, .getfield 41, [12, 13]), (232, 1, .aload_n 0, []), (233, 3, .getfield 93, [7, 13]), (236, 1, .iload_n 1, []), (237, 2, .bipush 108, []), (239, 3, .if_icmp .ne 8, []), (242, 2, .iload 5, []), (244, 3, .goto 5, []), (247, 2, .iload 4, []), (249, 1, .iastore, []), (250, 1, .aload_n 0, []), (251, 3, .getfield 44, [13, 13]), (254, 1, .aload_n 0, []), (255, 3, .getfield 93, [7, 13])]
def xk_165_8 : List xEn := [(258, 2, .iload 6, []), (260, 1, .iastore, []), (261, 1, .aload_n 0, []), (262, 1, .dup, []), (263, 3, .getfield 93, [7, 13]), (266, 1, .iconst 1, []), (267, 1, .iadd, []), (268, 3, .putfield 93, [7, 0, 13]), (271, 1, .aload_n 0, []), (272, 3, .getfield 93, [7, 13]), (275, 1, .iconst 1, []), (276, 1, .isub, []), (277, 1, .ireturn, [])]
def xe_165 : xEl := (xm_165, [xk_165_0, xk_165_1, xk_165_2, xk_165_3, xk_165_4, xk_165_5, xk_165_6, xk_165_7, xk_165_8], [], [])
def xm_166 : xM := (⟨"ViewFoundryModel", "entries", "(I)I"⟩, prog_14_method_11_code, 2, (Option.some Jvm.ClassFile.FieldType.int), [])
def xk_166_0 : List xEn := [(0, 1, .aload_n 0, []), (1, 1, .iconst 0, []), (2, 3, .putfield 73, [0, 0, 13]), (5, 1, .iload_n 1, []), (6, 3, .invokestatic 85, [1, 160]), (9, 3, .ifCond .eq 12, []), (12, 1, .aload_n 0, []), (13, 3, .getfield 7, [1, 13]), (16, 1, .iload_n 1, []), (17, 1, .iaload, []), (18, 3, .goto 8, []), (21, 1, .aload_n 0, []), (22, 1, .iconst 1, []), (23, 3, .invokevirtual 81, [1, 13, 159]), (26, 1, .ireturn, [])]
def xe_166 : xEl := (xm_166, [xk_166_0], [], [])
def xm_167 : xM := (⟨"ViewFoundryModel", "markNow", "()I"⟩, prog_14_method_12_code, 1, (Option.some Jvm.ClassFile.FieldType.int), [])
def xk_167_0 : List xEn := [(0, 1, .aload_n 0, []), (1, 3, .getfield 50, [17, 13]), (4, 1, .iconst 0, []), (5, 1, .iaload, []), (6, 1, .aload_n 0, []), (7, 3, .getfield 50, [17, 13]), (10, 1, .iconst 1, []), (11, 1, .iaload, []), (12, 1, .aload_n 0, []), (13, 3, .getfield 50, [17, 13]), (16, 1, .iconst 2, []), (17, 1, .iaload, []), (18, 3, .invokestatic 100, [2, 226]), (21, 3, .invokestatic 100, [2, 226]), (24, 1, .ireturn, [])]
def xe_167 : xEl := (xm_167, [xk_167_0], [], [])
def xm_168 : xM := (⟨"ViewFoundryModel", "tells", "(IIIII)V"⟩, prog_14_method_13_code, 6, (Option.none : Option Jvm.ClassFile.FieldType), [])
def xk_168_0 : List xEn := [(0, 1, .aload_n 0, []), (1, 3, .getfield 55, [18, 13]), (4, 1, .iload_n 1, []), (5, 1, .aaload, []), (6, 1, .iload_n 2, []), (7, 1, .iload_n 3, []), (8, 2, .iload 4, []), (10, 2, .iload 5, []), (12, 3, .invokevirtual 106, [4, 11, 149]), (15, 1, .aload_n 0, []), (16, 3, .getfield 62, [19, 13]), (19, 1, .iload_n 1, []), (20, 1, .iload_n 2, []), (21, 1, .iload_n 3, []), (22, 2, .iload 4, []), (24, 2, .iload 5, []), (26, 1, .iconst 1, []), (27, 3, .invokevirtual 110, [6, 12, 154]), (30, 1, .return_, [])]
def xe_168 : xEl := (xm_168, [xk_168_0], [], [])
def xm_169 : xM := (⟨"ViewFoundryModel", "takesBack", "(IIIII)V"⟩, prog_14_method_14_code, 6, (Option.none : Option Jvm.ClassFile.FieldType), [])
def xk_169_0 : List xEn := [(0, 1, .aload_n 0, []), (1, 3, .getfield 55, [18, 13]), (4, 1, .iload_n 1, []), (5, 1, .aaload, []), (6, 1, .iload_n 2, []), (7, 1, .iload_n 3, []), (8, 2, .iload 4, []), (10, 2, .iload 5, []), (12, 3, .invokevirtual 114, [4, 11, 150]), (15, 1, .aload_n 0, []), (16, 3, .getfield 62, [19, 13]), (19, 1, .iload_n 1, []), (20, 1, .iload_n 2, []), (21, 1, .iload_n 3, []), (22, 2, .iload 4, []), (24, 2, .iload 5, []), (26, 1, .iconst (-1), []), (27, 3, .invokevirtual 110, [6, 12, 154]), (30, 1, .return_, [])]
def xe_169 : xEl := (xm_169, [xk_169_0], [], [])
def xm_170 : xM := (⟨"ViewFoundryModel", "bits", "(F)I"⟩, prog_14_method_15_code, 6, (Option.some Jvm.ClassFile.FieldType.int), [])
def xk_170_0 : List xEn := [(0, 1, .fload_n 0, []), (1, 1, .fconst 0, []), (2, 1, .fcmp .g, []), (3, 3, .ifCond .lt 17, []), (6, 1, .fload_n 0, []), (7, 1, .fconst 0, []), (8, 1, .fcmp .l, []), (9, 3, .ifCond .ne 15, []), (12, 1, .fconst 1, []), (13, 1, .fload_n 0, []), (14, 1, .fdiv, []), (15, 1, .fconst 0, []), (16, 1, .fcmp .g, []), (17, 3, .ifCond .ge 7, []), (20, 1, .iconst 1, []), (21, 3, .goto 4, []), (24, 1, .iconst 0, []), (25, 1, .istore_n 1, []), (26, 1, .iload_n 1, []), (27, 3, .ifCond .eq 8, []), (30, 2, .ldc 117, [0, 2147483648])]
def xk_170_1 : List xEn := [(32, 3, .goto 4, []), (35, 1, .iconst 0, []), (36, 1, .istore_n 2, []), (37, 1, .iload_n 1, []), (38, 3, .ifCond .eq 9, []), (41, 1, .fload_n 0, []), (42, 1, .fneg, []), (43, 1, .f2d, []), (44, 3, .goto 5, []), (47, 1, .fload_n 0, []), (48, 1, .f2d, []), (49, 1, .dstore_n 3, []), (50, 1, .dload_n 3, []), (51, 1, .dconst 0, []), (52, 1, .dcmp .l, []), (53, 3, .ifCond .ne 5, []), (56, 1, .iload_n 2, []), (57, 1, .ireturn, []), (58, 1, .iconst 0, []), (59, 2, .istore 5, []), (61, 1, .dload_n 3, []), (62, 3, .ldc2_w 118, [6, 4611686018427387904])]
def xk_170_2 : List xEn := [(65, 1, .dcmp .l, []), (66, 3, .ifCond .lt 15, []), (69, 1, .dload_n 3, []), (70, 3, .ldc2_w 118, [6, 4611686018427387904]), (73, 1, .ddiv, []), (74, 1, .dstore_n 3, []), (75, 3, .iinc 5 1, []), (78, 3, .goto (-17), []), (81, 1, .dload_n 3, []), (82, 1, .dconst 1, []), (83, 1, .dcmp .g, []), (84, 3, .ifCond .ge 15, []), (87, 1, .dload_n 3, []), (88, 3, .ldc2_w 118, [6, 4611686018427387904]), (91, 1, .dmul, []), (92, 1, .dstore_n 3, []), (93, 3, .iinc 5 (-1), [])]
def xk_170_3 : List xEn := [(96, 3, .goto (-15), []), (99, 1, .iload_n 2, []), (100, 2, .iload 5, []), (102, 2, .bipush 127, []), (104, 1, .iadd, []), (105, 2, .bipush 23, []), (107, 1, .ishl, []), (108, 1, .ior, []), (109, 1, .dload_n 3, []), (110, 1, .dconst 1, []), (111, 1, .dsub, []), (112, 3, .ldc2_w 120, [6, 4710765210229538816]), (115, 1, .dmul, []), (116, 1, .d2i, []), (117, 1, .ior, []), (118, 1, .ireturn, [])]
def xe_170 : xEl := (xm_170, [xk_170_0, xk_170_1, xk_170_2, xk_170_3], [], [])
def xm_171 : xM := (⟨"ViewFoundryModel", "measure", "(II)I"⟩, prog_14_method_16_code, 5, (Option.some Jvm.ClassFile.FieldType.int), [])
def xk_171_0 : List xEn := [(0, 1, .aload_n 0, []), (1, 3, .getfield 55, [18, 13]), (4, 1, .iload_n 1, []), (5, 1, .aaload, []), (6, 3, .getfield 122, [1, 11]), (9, 1, .astore_n 3, []), (10, 1, .aload_n 0, []), (11, 3, .getfield 32, [9, 13]), (14, 1, .iload_n 1, []), (15, 1, .caload, []), (16, 2, .istore 4, []), (18, 2, .iload 4, []), (20, 2, .bipush 99, []), (22, 3, .if_icmp .ne 9, []), (25, 1, .aload_n 3, []), (26, 1, .iload_n 2, []), (27, 1, .iconst 4, []), (28, 1, .iadd, []), (29, 1, .iaload, []), (30, 1, .ireturn, []), (31, 2, .iload 4, [])]
def xk_171_1 : List xEn := [(33, 2, .bipush 115, []), (35, 3, .if_icmp .ne 9, []), (38, 1, .aload_n 3, []), (39, 1, .iload_n 2, []), (40, 1, .iconst 5, []), (41, 1, .iadd, []), (42, 1, .iaload, []), (43, 1, .ireturn, []), (44, 2, .iload 4, []), (46, 2, .bipush 120, []), (48, 3, .if_icmp .ne 10, []), (51, 1, .aload_n 3, []), (52, 1, .iload_n 2, []), (53, 2, .bipush 6, []), (55, 1, .iadd, []), (56, 1, .iaload, []), (57, 1, .ireturn, []), (58, 2, .iload 4, []), (60, 2, .bipush 98, []), (62, 3, .if_icmp .ne 12, [])]
def xk_171_2 : List xEn := [(65, 1, .aload_n 3, []), (66, 1, .iload_n 2, []), (67, 1, .iconst 5, []), (68, 1, .iadd, []), (69, 1, .iaload, []), (70, 1, .i2b, []), (71, 3, .goto 19, []), (74, 1, .aload_n 3, []), (75, 1, .iload_n 2, []), (76, 1, .iconst 5, []), (77, 1, .iadd, []), (78, 1, .iaload, []), (79, 1, .i2f, []), (80, 1, .aload_n 3, []), (81, 1, .iload_n 2, []), (82, 1, .iconst 4, []), (83, 1, .iadd, []), (84, 1, .iaload, []), (85, 1, .i2f, []), (86, 1, .fdiv, []), (87, 3, .invokestatic 125, [1, 170]), (90, 1, .ireturn, [])]
def xe_171 : xEl := (xm_171, [xk_171_0, xk_171_1, xk_171_2], [], [])
def xm_172 : xM := (⟨"ViewFoundryModel", "anew", "(IIIII)V"⟩, prog_14_method_17_code, 8, (Option.none : Option Jvm.ClassFile.FieldType), [])
def xk_172_0 : List xEn := [(0, 1, .aload_n 0, []), (1, 3, .getfield 55, [18, 13]), (4, 1, .iload_n 1, []), (5, 1, .aaload, []), (6, 3, .getfield 122, [1, 11]), (9, 2, .astore 6, []), (11, 2, .aload 6, []), (13, 1, .iload_n 2, []), (14, 2, .bipush 7, []), (16, 1, .iadd, []), (17, 1, .iaload, []), (18, 1, .iconst 1, []), (19, 3, .if_icmp .ne 7, []), (22, 1, .iconst 1, []), (23, 3, .goto 4, []), (26, 1, .iconst 0, []), (27, 2, .istore 7, []), (29, 2, .iload 7, []), (31, 3, .ifCond .eq 28, [])]
def xk_172_1 : List xEn := [(34, 2, .aload 6, []), (36, 1, .iload_n 2, []), (37, 2, .bipush 8, []), (39, 1, .iadd, []), (40, 1, .iaload, []), (41, 2, .iload 4, []), (43, 3, .if_icmp .ne 16, []), (46, 2, .aload 6, []), (48, 1, .iload_n 2, []), (49, 2, .bipush 9, []), (51, 1, .iadd, []), (52, 1, .iaload, []), (53, 2, .iload 5, []), (55, 3, .if_icmp .ne 4, []), (58, 1, .return_, []), (59, 2, .iload 7, []), (61, 3, .ifCond .eq 29, [])]
def xk_172_2 : List xEn := [(64, 1, .aload_n 0, []), (65, 1, .iload_n 1, []), (66, 2, .aload 6, []), (68, 1, .iload_n 2, []), (69, 1, .iconst 1, []), (70, 1, .iadd, []), (71, 1, .iaload, []), (72, 1, .iload_n 3, []), (73, 2, .aload 6, []), (75, 1, .iload_n 2, []), (76, 2, .bipush 8, []), (78, 1, .iadd, []), (79, 1, .iaload, []), (80, 2, .aload 6, []), (82, 1, .iload_n 2, []), (83, 2, .bipush 9, []), (85, 1, .iadd, []), (86, 1, .iaload, []), (87, 3, .invokevirtual 129, [5, 13, 169]), (90, 2, .aload 6, []), (92, 1, .iload_n 2, []), (93, 2, .bipush 7, []), (95, 1, .iadd, [])]
def xk_172_3 : List xEn := [(96, 1, .iconst 1, []), (97, 1, .iastore, []), (98, 2, .aload 6, []), (100, 1, .iload_n 2, []), (101, 2, .bipush 8, []), (103, 1, .iadd, []), (104, 2, .iload 4, []), (106, 1, .iastore, []), (107, 2, .aload 6, []), (109, 1, .iload_n 2, []), (110, 2, .bipush 9, []), (112, 1, .iadd, []), (113, 2, .iload 5, []), (115, 1, .iastore, []), (116, 1, .aload_n 0, []), (117, 1, .iload_n 1, []), (118, 2, .aload 6, []), (120, 1, .iload_n 2, []), (121, 1, .iconst 1, []), (122, 1, .iadd, []), (123, 1, .iaload, []), (124, 1, .iload_n 3, []), (125, 2, .iload 4, []), (127, 2, .iload 5, [])]
def xk_172_4 : List xEn := [(129, 3, .invokevirtual 132, [5, 13, 168]), (132, 1, .return_, [])]
def xe_172 : xEl := (xm_172, [xk_172_0, xk_172_1, xk_172_2, xk_172_3, xk_172_4], [], [])
def xm_173 : xM := (⟨"ViewFoundryModel", "window", "(III)I"⟩, prog_14_method_18_code, 6, (Option.some Jvm.ClassFile.FieldType.int), [])
def xk_173_0 : List xEn := [(0, 1, .aload_n 0, []), (1, 3, .getfield 55, [18, 13]), (4, 1, .iload_n 1, []), (5, 1, .aaload, []), (6, 3, .getfield 122, [1, 11]), (9, 2, .astore 4, []), (11, 1, .iconst 0, []), (12, 2, .istore 5, []), (14, 2, .iload 5, []), (16, 1, .aload_n 0, []), (17, 3, .getfield 55, [18, 13]), (20, 1, .iload_n 1, []), (21, 1, .aaload, []), (22, 3, .getfield 134, [0, 11]), (25, 3, .if_icmp .ge 43, []), (28, 2, .aload 4, []), (30, 2, .bipush 10, [])]
def xk_173_1 : List xEn := [(32, 2, .iload 5, []), (34, 1, .imul, []), (35, 1, .iconst 1, []), (36, 1, .iadd, []), (37, 1, .iaload, []), (38, 1, .iload_n 2, []), (39, 3, .if_icmp .ne 23, []), (42, 2, .aload 4, []), (44, 2, .bipush 10, []), (46, 2, .iload 5, []), (48, 1, .imul, []), (49, 1, .iconst 2, []), (50, 1, .iadd, []), (51, 1, .iaload, []), (52, 1, .iload_n 3, []), (53, 3, .if_icmp .ne 9, []), (56, 2, .bipush 10, []), (58, 2, .iload 5, []), (60, 1, .imul, []), (61, 1, .ireturn, []), (62, 3, .iinc 5 1, [])]
def xk_173_2 : List xEn := [(65, 3, .goto (-51), []), (68, 1, .iconst (-1), []), (69, 1, .ireturn, [])]
def xe_173 : xEl := (xm_173, [xk_173_0, xk_173_1, xk_173_2], [], [])
def xm_174 : xM := (⟨"ViewFoundryModel", "takesWindows", "(IIIII)V"⟩, prog_14_method_19_code, 12, (Option.none : Option Jvm.ClassFile.FieldType), [])
def xk_174_0 : List xEn := [(0, 1, .iload_n 3, []), (1, 1, .aload_n 0, []), (2, 3, .getfield 38, [11, 13]), (5, 1, .iload_n 1, []), (6, 1, .iaload, []), (7, 1, .isub, []), (8, 1, .iconst 1, []), (9, 1, .iadd, []), (10, 2, .istore 6, []), (12, 2, .iload 6, []), (14, 3, .ifCond .gt 7, []), (17, 1, .iconst 0, []), (18, 3, .goto 28, []), (21, 2, .iload 6, []), (23, 1, .aload_n 0, []), (24, 3, .getfield 41, [12, 13]), (27, 1, .iload_n 1, []), (28, 1, .iaload, []), (29, 1, .iadd, []), (30, 1, .iconst 1, []), (31, 1, .isub, [])]
def xk_174_1 : List xEn := [(32, 1, .aload_n 0, []), (33, 3, .getfield 41, [12, 13]), (36, 1, .iload_n 1, []), (37, 1, .iaload, []), (38, 1, .idiv, []), (39, 1, .aload_n 0, []), (40, 3, .getfield 41, [12, 13]), (43, 1, .iload_n 1, []), (44, 1, .iaload, []), (45, 1, .imul, []), (46, 2, .istore 7, []), (48, 2, .iload 7, []), (50, 2, .istore 8, []), (52, 2, .iload 8, []), (54, 1, .iload_n 3, []), (55, 3, .if_icmp .gt 179, []), (58, 2, .iload 8, []), (60, 1, .aload_n 0, []), (61, 3, .getfield 38, [11, 13])]
def xk_174_2 : List xEn := [(64, 1, .iload_n 1, []), (65, 1, .iaload, []), (66, 1, .iadd, []), (67, 2, .istore 9, []), (69, 2, .iload 5, []), (71, 2, .iload 9, []), (73, 1, .aload_n 0, []), (74, 3, .getfield 44, [13, 13]), (77, 1, .iload_n 1, []), (78, 1, .iaload, []), (79, 1, .iadd, []), (80, 3, .if_icmp .lt 21, []), (83, 1, .aload_n 0, []), (84, 3, .getfield 55, [18, 13]), (87, 1, .iload_n 1, []), (88, 1, .aaload, []), (89, 1, .dup, []), (90, 3, .getfield 137, [4, 11]), (93, 1, .iconst 1, []), (94, 1, .iadd, []), (95, 3, .putfield 137, [4, 0, 11])]
def xk_174_3 : List xEn := [(98, 3, .goto 122, []), (101, 1, .aload_n 0, []), (102, 1, .iload_n 1, []), (103, 1, .iload_n 2, []), (104, 2, .iload 8, []), (106, 3, .invokevirtual 140, [3, 13, 173]), (109, 2, .istore 10, []), (111, 2, .iload 10, []), (113, 1, .iconst (-1), []), (114, 3, .if_icmp .ne 26, []), (117, 1, .aload_n 0, []), (118, 3, .getfield 55, [18, 13]), (121, 1, .iload_n 1, []), (122, 1, .aaload, []), (123, 2, .bipush 119, []), (125, 1, .iload_n 2, []), (126, 2, .iload 8, [])]
def xk_174_4 : List xEn := [(128, 2, .iload 9, []), (130, 2, .iload 4, []), (132, 3, .invokevirtual 144, [5, 11, 148]), (135, 2, .istore 10, []), (137, 3, .goto 58, []), (140, 1, .aload_n 0, []), (141, 3, .getfield 55, [18, 13]), (144, 1, .iload_n 1, []), (145, 1, .aaload, []), (146, 3, .getfield 122, [1, 11]), (149, 2, .astore 11, []), (151, 2, .aload 11, []), (153, 2, .iload 10, []), (155, 1, .iconst 4, []), (156, 1, .iadd, []), (157, 1, .dup2, []), (158, 1, .iaload, []), (159, 1, .iconst 1, [])]
def xk_174_5 : List xEn := [(160, 1, .iadd, []), (161, 1, .iastore, []), (162, 2, .aload 11, []), (164, 2, .iload 10, []), (166, 1, .iconst 5, []), (167, 1, .iadd, []), (168, 1, .dup2, []), (169, 1, .iaload, []), (170, 2, .iload 4, []), (172, 1, .iadd, []), (173, 1, .iastore, []), (174, 2, .aload 11, []), (176, 2, .iload 10, []), (178, 2, .bipush 6, []), (180, 1, .iadd, []), (181, 2, .aload 11, []), (183, 2, .iload 10, []), (185, 2, .bipush 6, []), (187, 1, .iadd, []), (188, 1, .iaload, []), (189, 2, .iload 4, []), (191, 3, .invokestatic 147, [2, 225])]
def xk_174_6 : List xEn := [(194, 1, .iastore, []), (195, 2, .iload 5, []), (197, 2, .iload 9, []), (199, 3, .if_icmp .lt 21, []), (202, 1, .aload_n 0, []), (203, 1, .iload_n 1, []), (204, 2, .iload 10, []), (206, 2, .iload 8, []), (208, 2, .iload 9, []), (210, 1, .aload_n 0, []), (211, 1, .iload_n 1, []), (212, 2, .iload 10, []), (214, 3, .invokevirtual 150, [2, 13, 171]), (217, 3, .invokevirtual 153, [5, 13, 172]), (220, 2, .iload 8, []), (222, 1, .aload_n 0, []), (223, 3, .getfield 41, [12, 13])]
def xk_174_7 : List xEn := [(226, 1, .iload_n 1, []), (227, 1, .iaload, []), (228, 1, .iadd, []), (229, 2, .istore 8, []), (231, 3, .goto (-179), []), (234, 1, .return_, [])]
def xe_174 : xEl := (xm_174, [xk_174_0, xk_174_1, xk_174_2, xk_174_3, xk_174_4, xk_174_5, xk_174_6, xk_174_7], [], [])
def xm_175 : xM := (⟨"ViewFoundryModel", "takesSessions", "(IIIII)V"⟩, prog_14_method_20_code, 13, (Option.none : Option Jvm.ClassFile.FieldType), [])
def xk_175_0 : List xEn := [(0, 2, .iload 5, []), (2, 1, .iload_n 3, []), (3, 1, .aload_n 0, []), (4, 3, .getfield 38, [11, 13]), (7, 1, .iload_n 1, []), (8, 1, .iaload, []), (9, 1, .iadd, []), (10, 1, .iconst 1, []), (11, 1, .iadd, []), (12, 1, .aload_n 0, []), (13, 3, .getfield 44, [13, 13]), (16, 1, .iload_n 1, []), (17, 1, .iaload, []), (18, 1, .iadd, []), (19, 3, .if_icmp .lt 19, []), (22, 1, .aload_n 0, []), (23, 3, .getfield 55, [18, 13]), (26, 1, .iload_n 1, []), (27, 1, .aaload, []), (28, 1, .dup, []), (29, 3, .getfield 137, [4, 11])]
def xk_175_1 : List xEn := [(32, 1, .iconst 1, []), (33, 1, .iadd, []), (34, 3, .putfield 137, [4, 0, 11]), (37, 1, .return_, []), (38, 1, .aload_n 0, []), (39, 3, .getfield 55, [18, 13]), (42, 1, .iload_n 1, []), (43, 1, .aaload, []), (44, 2, .bipush 115, []), (46, 1, .iload_n 2, []), (47, 1, .iload_n 3, []), (48, 1, .iload_n 3, []), (49, 2, .iload 4, []), (51, 3, .invokevirtual 144, [5, 11, 148]), (54, 2, .istore 6, []), (56, 1, .aload_n 0, []), (57, 3, .getfield 55, [18, 13]), (60, 1, .iload_n 1, []), (61, 1, .aaload, []), (62, 3, .getfield 122, [1, 11])]
def xk_175_2 : List xEn := [(65, 2, .astore 7, []), (67, 1, .iconst 0, []), (68, 2, .istore 8, []), (70, 1, .iconst (-1), []), (71, 2, .istore 9, []), (73, 1, .iconst 0, []), (74, 2, .istore 10, []), (76, 2, .iload 10, []), (78, 1, .aload_n 0, []), (79, 3, .getfield 55, [18, 13]), (82, 1, .iload_n 1, []), (83, 1, .aaload, []), (84, 3, .getfield 134, [0, 11]), (87, 1, .iconst 1, []), (88, 1, .isub, []), (89, 3, .if_icmp .ge 199, []), (92, 2, .bipush 10, []), (94, 2, .iload 10, [])]
def xk_175_3 : List xEn := [(96, 1, .imul, []), (97, 2, .istore 11, []), (99, 2, .aload 7, []), (101, 2, .iload 11, []), (103, 1, .iconst 1, []), (104, 1, .iadd, []), (105, 1, .iaload, []), (106, 1, .iload_n 2, []), (107, 3, .if_icmp .ne 43, []), (110, 2, .aload 7, []), (112, 2, .iload 11, []), (114, 1, .iconst 2, []), (115, 1, .iadd, []), (116, 1, .iaload, []), (117, 1, .aload_n 0, []), (118, 3, .getfield 38, [11, 13]), (121, 1, .iload_n 1, []), (122, 1, .iaload, []), (123, 1, .isub, []), (124, 1, .iload_n 3, []), (125, 3, .if_icmp .gt 25, [])]
def xk_175_4 : List xEn := [(128, 2, .aload 7, []), (130, 2, .iload 11, []), (132, 1, .iconst 3, []), (133, 1, .iadd, []), (134, 1, .iaload, []), (135, 1, .aload_n 0, []), (136, 3, .getfield 38, [11, 13]), (139, 1, .iload_n 1, []), (140, 1, .iaload, []), (141, 1, .iadd, []), (142, 1, .iload_n 3, []), (143, 3, .if_icmp .lt 7, []), (146, 1, .iconst 1, []), (147, 3, .goto 4, []), (150, 1, .iconst 0, []), (151, 2, .istore 12, []), (153, 2, .iload 12, []), (155, 3, .ifCond .eq 127, []), (158, 2, .aload 7, [])]
def xk_175_5 : List xEn := [(160, 2, .iload 6, []), (162, 1, .iconst 2, []), (163, 1, .iadd, []), (164, 2, .aload 7, []), (166, 2, .iload 6, []), (168, 1, .iconst 2, []), (169, 1, .iadd, []), (170, 1, .iaload, []), (171, 2, .aload 7, []), (173, 2, .iload 11, []), (175, 1, .iconst 2, []), (176, 1, .iadd, []), (177, 1, .iaload, []), (178, 3, .invokestatic 100, [2, 226]), (181, 1, .iastore, []), (182, 2, .aload 7, []), (184, 2, .iload 6, []), (186, 1, .iconst 3, []), (187, 1, .iadd, []), (188, 2, .aload 7, []), (190, 2, .iload 6, [])]
def xk_175_6 : List xEn := [(192, 1, .iconst 3, []), (193, 1, .iadd, []), (194, 1, .iaload, []), (195, 2, .aload 7, []), (197, 2, .iload 11, []), (199, 1, .iconst 3, []), (200, 1, .iadd, []), (201, 1, .iaload, []), (202, 3, .invokestatic 147, [2, 225]), (205, 1, .iastore, []), (206, 2, .aload 7, []), (208, 2, .iload 6, []), (210, 1, .iconst 4, []), (211, 1, .iadd, []), (212, 1, .dup2, []), (213, 1, .iaload, []), (214, 2, .aload 7, []), (216, 2, .iload 11, []), (218, 1, .iconst 4, []), (219, 1, .iadd, []), (220, 1, .iaload, []), (221, 1, .iadd, []), (222, 1, .iastore, []), (223, 2, .aload 7, [])]
def xk_175_7 : List xEn := [(225, 2, .iload 6, []), (227, 1, .iconst 5, []), (228, 1, .iadd, []), (229, 1, .dup2, []), (230, 1, .iaload, []), (231, 2, .aload 7, []), (233, 2, .iload 11, []), (235, 1, .iconst 5, []), (236, 1, .iadd, []), (237, 1, .iaload, []), (238, 1, .iadd, []), (239, 1, .iastore, []), (240, 2, .aload 7, []), (242, 2, .iload 6, []), (244, 2, .bipush 6, []), (246, 1, .iadd, []), (247, 2, .aload 7, []), (249, 2, .iload 6, []), (251, 2, .bipush 6, []), (253, 1, .iadd, []), (254, 1, .iaload, []), (255, 2, .aload 7, [])]
def xk_175_8 : List xEn := [(257, 2, .iload 11, []), (259, 2, .bipush 6, []), (261, 1, .iadd, []), (262, 1, .iaload, []), (263, 3, .invokestatic 147, [2, 225]), (266, 1, .iastore, []), (267, 2, .aload 7, []), (269, 2, .iload 11, []), (271, 3, .sipush 371, []), (274, 1, .iastore, []), (275, 3, .iinc 8 1, []), (278, 2, .iload 11, []), (280, 2, .istore 9, []), (282, 3, .iinc 10 1, []), (285, 3, .goto (-209), [])]
def xk_175_9 : List xEn := [(288, 2, .iload 5, []), (290, 2, .aload 7, []), (292, 2, .iload 6, []), (294, 1, .iconst 3, []), (295, 1, .iadd, []), (296, 1, .iaload, []), (297, 1, .aload_n 0, []), (298, 3, .getfield 38, [11, 13]), (301, 1, .iload_n 1, []), (302, 1, .iaload, []), (303, 1, .iadd, []), (304, 3, .if_icmp .le 7, []), (307, 1, .iconst 1, []), (308, 3, .goto 4, []), (311, 1, .iconst 0, []), (312, 2, .istore 10, []), (314, 1, .aload_n 0, []), (315, 1, .iload_n 1, []), (316, 2, .iload 6, []), (318, 3, .invokevirtual 150, [2, 13, 171])]
def xk_175_10 : List xEn := [(321, 2, .istore 11, []), (323, 2, .iload 8, []), (325, 1, .iconst 1, []), (326, 3, .if_icmp .ne 141, []), (329, 2, .aload 7, []), (331, 2, .iload 9, []), (333, 2, .bipush 7, []), (335, 1, .iadd, []), (336, 1, .iaload, []), (337, 1, .iconst 1, []), (338, 3, .if_icmp .ne 129, []), (341, 2, .iload 10, []), (343, 3, .ifCond .eq 124, []), (346, 2, .aload 7, []), (348, 2, .iload 9, []), (350, 1, .iconst 2, []), (351, 1, .iadd, [])]
def xk_175_11 : List xEn := [(352, 1, .iaload, []), (353, 2, .aload 7, []), (355, 2, .iload 6, []), (357, 1, .iconst 2, []), (358, 1, .iadd, []), (359, 1, .iaload, []), (360, 3, .if_icmp .ne 37, []), (363, 2, .aload 7, []), (365, 2, .iload 9, []), (367, 1, .iconst 3, []), (368, 1, .iadd, []), (369, 1, .iaload, []), (370, 2, .aload 7, []), (372, 2, .iload 6, []), (374, 1, .iconst 3, []), (375, 1, .iadd, []), (376, 1, .iaload, []), (377, 3, .if_icmp .ne 20, []), (380, 2, .aload 7, []), (382, 2, .iload 9, [])]
def xk_175_12 : List xEn := [(384, 2, .bipush 9, []), (386, 1, .iadd, []), (387, 1, .iaload, []), (388, 2, .iload 11, []), (390, 3, .if_icmp .ne 7, []), (393, 1, .iconst 1, []), (394, 3, .goto 4, []), (397, 1, .iconst 0, []), (398, 2, .istore 12, []), (400, 2, .iload 12, []), (402, 3, .ifCond .ne 53, []), (405, 1, .aload_n 0, []), (406, 1, .iload_n 1, []), (407, 1, .iload_n 2, []), (408, 2, .aload 7, []), (410, 2, .iload 9, []), (412, 1, .iconst 2, []), (413, 1, .iadd, []), (414, 1, .iaload, []), (415, 2, .aload 7, [])]
def xk_175_13 : List xEn := [(417, 2, .iload 9, []), (419, 1, .iconst 3, []), (420, 1, .iadd, []), (421, 1, .iaload, []), (422, 2, .aload 7, []), (424, 2, .iload 9, []), (426, 2, .bipush 9, []), (428, 1, .iadd, []), (429, 1, .iaload, []), (430, 3, .invokevirtual 129, [5, 13, 169]), (433, 1, .aload_n 0, []), (434, 1, .iload_n 1, []), (435, 1, .iload_n 2, []), (436, 2, .aload 7, []), (438, 2, .iload 6, []), (440, 1, .iconst 2, []), (441, 1, .iadd, []), (442, 1, .iaload, []), (443, 2, .aload 7, []), (445, 2, .iload 6, []), (447, 1, .iconst 3, [])]
def xk_175_14 : List xEn := [(448, 1, .iadd, []), (449, 1, .iaload, []), (450, 2, .iload 11, []), (452, 3, .invokevirtual 132, [5, 13, 168]), (455, 2, .aload 7, []), (457, 2, .iload 6, []), (459, 2, .iload 11, []), (461, 3, .invokestatic 156, [3, 176]), (464, 3, .goto 45, []), (467, 1, .aload_n 0, []), (468, 1, .iload_n 1, []), (469, 1, .iload_n 2, []), (470, 3, .invokevirtual 160, [2, 13, 177]), (473, 2, .iload 10, []), (475, 3, .ifCond .eq 34, []), (478, 1, .aload_n 0, []), (479, 1, .iload_n 1, [])]
def xk_175_15 : List xEn := [(480, 1, .iload_n 2, []), (481, 2, .aload 7, []), (483, 2, .iload 6, []), (485, 1, .iconst 2, []), (486, 1, .iadd, []), (487, 1, .iaload, []), (488, 2, .aload 7, []), (490, 2, .iload 6, []), (492, 1, .iconst 3, []), (493, 1, .iadd, []), (494, 1, .iaload, []), (495, 2, .iload 11, []), (497, 3, .invokevirtual 132, [5, 13, 168]), (500, 2, .aload 7, []), (502, 2, .iload 6, []), (504, 2, .iload 11, []), (506, 3, .invokestatic 156, [3, 176]), (509, 1, .iconst 0, []), (510, 2, .istore 12, [])]
def xk_175_16 : List xEn := [(512, 2, .iload 12, []), (514, 1, .aload_n 0, []), (515, 3, .getfield 55, [18, 13]), (518, 1, .iload_n 1, []), (519, 1, .aaload, []), (520, 3, .getfield 134, [0, 11]), (523, 3, .if_icmp .ge 43, []), (526, 2, .aload 7, []), (528, 2, .bipush 10, []), (530, 2, .iload 12, []), (532, 1, .imul, []), (533, 2, .aload 7, []), (535, 2, .bipush 10, []), (537, 2, .iload 12, []), (539, 1, .imul, []), (540, 1, .iaload, []), (541, 3, .sipush 371, [])]
def xk_175_17 : List xEn := [(544, 3, .if_icmp .ne 7, []), (547, 1, .iconst 0, []), (548, 3, .goto 11, []), (551, 2, .aload 7, []), (553, 2, .bipush 10, []), (555, 2, .iload 12, []), (557, 1, .imul, []), (558, 1, .iaload, []), (559, 1, .iastore, []), (560, 3, .iinc 12 1, []), (563, 3, .goto (-51), []), (566, 1, .aload_n 0, []), (567, 3, .getfield 55, [18, 13]), (570, 1, .iload_n 1, []), (571, 1, .aaload, []), (572, 3, .invokevirtual 164, [0, 11, 151]), (575, 1, .return_, [])]
def xe_175 : xEl := (xm_175, [xk_175_0, xk_175_1, xk_175_2, xk_175_3, xk_175_4, xk_175_5, xk_175_6, xk_175_7, xk_175_8, xk_175_9, xk_175_10, xk_175_11, xk_175_12, xk_175_13, xk_175_14, xk_175_15, xk_175_16, xk_175_17], [], [])
def xm_176 : xM := (⟨"ViewFoundryModel", "marksTold", "([III)V"⟩, prog_14_method_21_code, 3, (Option.none : Option Jvm.ClassFile.FieldType), [])
def xk_176_0 : List xEn := [(0, 1, .aload_n 0, []), (1, 1, .iload_n 1, []), (2, 2, .bipush 7, []), (4, 1, .iadd, []), (5, 1, .iconst 1, []), (6, 1, .iastore, []), (7, 1, .aload_n 0, []), (8, 1, .iload_n 1, []), (9, 2, .bipush 8, []), (11, 1, .iadd, []), (12, 1, .aload_n 0, []), (13, 1, .iload_n 1, []), (14, 1, .iconst 3, []), (15, 1, .iadd, []), (16, 1, .iaload, []), (17, 1, .iastore, []), (18, 1, .aload_n 0, []), (19, 1, .iload_n 1, []), (20, 2, .bipush 9, []), (22, 1, .iadd, []), (23, 1, .iload_n 2, []), (24, 1, .iastore, []), (25, 1, .return_, [])]
def xe_176 : xEl := (xm_176, [xk_176_0], [], [])
def xm_177 : xM := (⟨"ViewFoundryModel", "takesBackJoined", "(II)V"⟩, prog_14_method_22_code, 6, (Option.none : Option Jvm.ClassFile.FieldType), [])
def xk_177_0 : List xEn := [(0, 1, .aload_n 0, []), (1, 3, .getfield 55, [18, 13]), (4, 1, .iload_n 1, []), (5, 1, .aaload, []), (6, 3, .getfield 122, [1, 11]), (9, 1, .astore_n 3, []), (10, 1, .aload_n 0, []), (11, 1, .iload_n 1, []), (12, 1, .iconst (-1), []), (13, 3, .invokevirtual 167, [2, 13, 178]), (16, 2, .istore 4, []), (18, 1, .iconst (-1), []), (19, 2, .istore 5, []), (21, 2, .iload 4, []), (23, 1, .iconst (-1), []), (24, 3, .if_icmp .eq 48, []), (27, 1, .aload_n 0, []), (28, 1, .iload_n 1, []), (29, 1, .iload_n 2, []), (30, 1, .aload_n 3, []), (31, 2, .iload 4, [])]
def xk_177_1 : List xEn := [(33, 1, .iconst 2, []), (34, 1, .iadd, []), (35, 1, .iaload, []), (36, 1, .aload_n 3, []), (37, 2, .iload 4, []), (39, 1, .iconst 3, []), (40, 1, .iadd, []), (41, 1, .iaload, []), (42, 1, .aload_n 3, []), (43, 2, .iload 4, []), (45, 2, .bipush 9, []), (47, 1, .iadd, []), (48, 1, .iaload, []), (49, 3, .invokevirtual 129, [5, 13, 169]), (52, 1, .aload_n 3, []), (53, 2, .iload 4, []), (55, 1, .iconst 2, []), (56, 1, .iadd, []), (57, 1, .iaload, []), (58, 2, .istore 5, []), (60, 1, .aload_n 0, []), (61, 1, .iload_n 1, []), (62, 2, .iload 5, [])]
def xk_177_2 : List xEn := [(64, 3, .invokevirtual 167, [2, 13, 178]), (67, 2, .istore 4, []), (69, 3, .goto (-48), []), (72, 1, .return_, [])]
def xe_177 : xEl := (xm_177, [xk_177_0, xk_177_1, xk_177_2], [], [])
def xm_178 : xM := (⟨"ViewFoundryModel", "next", "(II)I"⟩, prog_14_method_23_code, 8, (Option.some Jvm.ClassFile.FieldType.int), [])
def xk_178_0 : List xEn := [(0, 1, .aload_n 0, []), (1, 3, .getfield 55, [18, 13]), (4, 1, .iload_n 1, []), (5, 1, .aaload, []), (6, 3, .getfield 122, [1, 11]), (9, 1, .astore_n 3, []), (10, 1, .iconst (-1), []), (11, 2, .istore 4, []), (13, 1, .iconst 0, []), (14, 2, .istore 5, []), (16, 2, .iload 5, []), (18, 1, .aload_n 0, []), (19, 3, .getfield 55, [18, 13]), (22, 1, .iload_n 1, []), (23, 1, .aaload, []), (24, 3, .getfield 134, [0, 11]), (27, 3, .if_icmp .ge 89, []), (30, 2, .bipush 10, [])]
def xk_178_1 : List xEn := [(32, 2, .iload 5, []), (34, 1, .imul, []), (35, 2, .istore 6, []), (37, 1, .aload_n 3, []), (38, 2, .iload 6, []), (40, 1, .iaload, []), (41, 3, .sipush 371, []), (44, 3, .if_icmp .ne 28, []), (47, 1, .aload_n 3, []), (48, 2, .iload 6, []), (50, 2, .bipush 7, []), (52, 1, .iadd, []), (53, 1, .iaload, []), (54, 1, .iconst 1, []), (55, 3, .if_icmp .ne 17, []), (58, 1, .aload_n 3, []), (59, 2, .iload 6, []), (61, 1, .iconst 2, []), (62, 1, .iadd, []), (63, 1, .iaload, [])]
def xk_178_2 : List xEn := [(64, 1, .iload_n 2, []), (65, 3, .if_icmp .le 7, []), (68, 1, .iconst 1, []), (69, 3, .goto 4, []), (72, 1, .iconst 0, []), (73, 2, .istore 7, []), (75, 2, .iload 7, []), (77, 3, .ifCond .eq 29, []), (80, 2, .iload 4, []), (82, 1, .iconst (-1), []), (83, 3, .if_icmp .eq 18, []), (86, 1, .aload_n 3, []), (87, 2, .iload 6, []), (89, 1, .iconst 2, []), (90, 1, .iadd, []), (91, 1, .iaload, []), (92, 1, .aload_n 3, []), (93, 2, .iload 4, []), (95, 1, .iconst 2, [])]
def xk_178_3 : List xEn := [(96, 1, .iadd, []), (97, 1, .iaload, []), (98, 3, .if_icmp .ge 8, []), (101, 2, .iload 6, []), (103, 3, .goto 5, []), (106, 2, .iload 4, []), (108, 2, .istore 4, []), (110, 3, .iinc 5 1, []), (113, 3, .goto (-97), []), (116, 2, .iload 4, []), (118, 1, .ireturn, [])]
def xe_178 : xEl := (xm_178, [xk_178_0, xk_178_1, xk_178_2, xk_178_3], [], [])
def xm_179 : xM := (⟨"ViewFoundryModel", "takesJoins", "(IZIIII)V"⟩, prog_14_method_24_code, 12, (Option.none : Option Jvm.ClassFile.FieldType), [])
def xk_179_0 : List xEn := [(0, 2, .iload 6, []), (2, 2, .iload 4, []), (4, 1, .aload_n 0, []), (5, 3, .getfield 38, [11, 13]), (8, 1, .iload_n 1, []), (9, 1, .iaload, []), (10, 1, .iadd, []), (11, 1, .iconst 1, []), (12, 1, .iadd, []), (13, 1, .aload_n 0, []), (14, 3, .getfield 44, [13, 13]), (17, 1, .iload_n 1, []), (18, 1, .iaload, []), (19, 1, .iadd, []), (20, 3, .if_icmp .lt 19, []), (23, 1, .aload_n 0, []), (24, 3, .getfield 55, [18, 13]), (27, 1, .iload_n 1, []), (28, 1, .aaload, []), (29, 1, .dup, []), (30, 3, .getfield 137, [4, 11])]
def xk_179_1 : List xEn := [(33, 1, .iconst 1, []), (34, 1, .iadd, []), (35, 3, .putfield 137, [4, 0, 11]), (38, 1, .return_, []), (39, 1, .aload_n 0, []), (40, 3, .getfield 55, [18, 13]), (43, 1, .iload_n 1, []), (44, 1, .aaload, []), (45, 3, .getfield 122, [1, 11]), (48, 2, .astore 7, []), (50, 1, .iload_n 2, []), (51, 3, .ifCond .eq 8, []), (54, 2, .bipush 114, []), (56, 3, .goto 5, []), (59, 2, .bipush 108, []), (61, 2, .istore 8, []), (63, 1, .iconst 0, [])]
def xk_179_2 : List xEn := [(64, 2, .istore 9, []), (66, 2, .iload 9, []), (68, 1, .aload_n 0, []), (69, 3, .getfield 55, [18, 13]), (72, 1, .iload_n 1, []), (73, 1, .aaload, []), (74, 3, .getfield 134, [0, 11]), (77, 3, .if_icmp .ge 111, []), (80, 2, .bipush 10, []), (82, 2, .iload 9, []), (84, 1, .imul, []), (85, 2, .istore 10, []), (87, 2, .aload 7, []), (89, 2, .iload 10, []), (91, 1, .iconst 2, []), (92, 1, .iadd, []), (93, 1, .iaload, []), (94, 2, .iload 4, [])]
def xk_179_3 : List xEn := [(96, 1, .isub, []), (97, 3, .invokestatic 170, [1, 223]), (100, 2, .istore 11, []), (102, 2, .aload 7, []), (104, 2, .iload 10, []), (106, 1, .iaload, []), (107, 2, .iload 8, []), (109, 3, .if_icmp .ne 73, []), (112, 2, .aload 7, []), (114, 2, .iload 10, []), (116, 1, .iconst 1, []), (117, 1, .iadd, []), (118, 1, .iaload, []), (119, 1, .iload_n 3, []), (120, 3, .if_icmp .ne 62, []), (123, 2, .iload 11, []), (125, 1, .aload_n 0, []), (126, 3, .getfield 38, [11, 13])]
def xk_179_4 : List xEn := [(129, 1, .iload_n 1, []), (130, 1, .iaload, []), (131, 3, .if_icmp .gt 51, []), (134, 1, .aload_n 0, []), (135, 1, .iload_n 1, []), (136, 1, .iload_n 3, []), (137, 1, .iload_n 2, []), (138, 3, .ifCond .eq 8, []), (141, 2, .iload 4, []), (143, 3, .goto 10, []), (146, 2, .aload 7, []), (148, 2, .iload 10, []), (150, 1, .iconst 2, []), (151, 1, .iadd, []), (152, 1, .iaload, []), (153, 1, .iload_n 2, []), (154, 3, .ifCond .eq 13, []), (157, 2, .aload 7, []), (159, 2, .iload 10, [])]
def xk_179_5 : List xEn := [(161, 1, .iconst 2, []), (162, 1, .iadd, []), (163, 1, .iaload, []), (164, 3, .goto 5, []), (167, 2, .iload 4, []), (169, 2, .iload 5, []), (171, 2, .aload 7, []), (173, 2, .iload 10, []), (175, 1, .iconst 5, []), (176, 1, .iadd, []), (177, 1, .iaload, []), (178, 1, .iadd, []), (179, 3, .invokevirtual 132, [5, 13, 168]), (182, 3, .iinc 9 1, []), (185, 3, .goto (-119), []), (188, 1, .aload_n 0, []), (189, 3, .getfield 55, [18, 13])]
def xk_179_6 : List xEn := [(192, 1, .iload_n 1, []), (193, 1, .aaload, []), (194, 1, .iload_n 2, []), (195, 3, .ifCond .eq 8, []), (198, 2, .bipush 108, []), (200, 3, .goto 5, []), (203, 2, .bipush 114, []), (205, 1, .iload_n 3, []), (206, 2, .iload 4, []), (208, 1, .iconst 0, []), (209, 2, .iload 5, []), (211, 3, .invokevirtual 144, [5, 11, 148]), (214, 2, .istore 9, []), (216, 1, .return_, [])]
def xe_179 : xEl := (xm_179, [xk_179_0, xk_179_1, xk_179_2, xk_179_3, xk_179_4, xk_179_5, xk_179_6], [], [])
def xm_180 : xM := (⟨"ViewFoundryModel", "version", "(III)I"⟩, prog_14_method_25_code, 10, (Option.some Jvm.ClassFile.FieldType.int), [])
def xk_180_0 : List xEn := [(0, 1, .aload_n 0, []), (1, 3, .getfield 55, [18, 13]), (4, 1, .iload_n 1, []), (5, 1, .aaload, []), (6, 3, .getfield 122, [1, 11]), (9, 2, .astore 4, []), (11, 1, .iconst (-1), []), (12, 2, .istore 5, []), (14, 1, .iconst 0, []), (15, 2, .istore 6, []), (17, 2, .iload 6, []), (19, 1, .aload_n 0, []), (20, 3, .getfield 55, [18, 13]), (23, 1, .iload_n 1, []), (24, 1, .aaload, []), (25, 3, .getfield 134, [0, 11]), (28, 3, .if_icmp .ge 138, []), (31, 2, .bipush 10, [])]
def xk_180_1 : List xEn := [(33, 2, .iload 6, []), (35, 1, .imul, []), (36, 2, .istore 7, []), (38, 2, .aload 4, []), (40, 2, .iload 7, []), (42, 1, .iaload, []), (43, 2, .bipush 114, []), (45, 3, .if_icmp .ne 29, []), (48, 2, .aload 4, []), (50, 2, .iload 7, []), (52, 1, .iconst 1, []), (53, 1, .iadd, []), (54, 1, .iaload, []), (55, 1, .iload_n 2, []), (56, 3, .if_icmp .ne 18, []), (59, 2, .aload 4, []), (61, 2, .iload 7, []), (63, 1, .iconst 2, [])]
def xk_180_2 : List xEn := [(64, 1, .iadd, []), (65, 1, .iaload, []), (66, 1, .iload_n 3, []), (67, 3, .if_icmp .gt 7, []), (70, 1, .iconst 1, []), (71, 3, .goto 4, []), (74, 1, .iconst 0, []), (75, 2, .istore 8, []), (77, 2, .iload 5, []), (79, 1, .iconst (-1), []), (80, 3, .if_icmp .eq 54, []), (83, 2, .aload 4, []), (85, 2, .iload 7, []), (87, 1, .iconst 2, []), (88, 1, .iadd, []), (89, 1, .iaload, []), (90, 2, .aload 4, []), (92, 2, .iload 5, []), (94, 1, .iconst 2, []), (95, 1, .iadd, [])]
def xk_180_3 : List xEn := [(96, 1, .iaload, []), (97, 3, .if_icmp .gt 37, []), (100, 2, .aload 4, []), (102, 2, .iload 7, []), (104, 1, .iconst 2, []), (105, 1, .iadd, []), (106, 1, .iaload, []), (107, 2, .aload 4, []), (109, 2, .iload 5, []), (111, 1, .iconst 2, []), (112, 1, .iadd, []), (113, 1, .iaload, []), (114, 3, .if_icmp .ne 24, []), (117, 2, .aload 4, []), (119, 2, .iload 7, []), (121, 1, .iconst 5, []), (122, 1, .iadd, []), (123, 1, .iaload, []), (124, 2, .aload 4, []), (126, 2, .iload 5, [])]
def xk_180_4 : List xEn := [(128, 1, .iconst 5, []), (129, 1, .iadd, []), (130, 1, .iaload, []), (131, 3, .if_icmp .le 7, []), (134, 1, .iconst 1, []), (135, 3, .goto 4, []), (138, 1, .iconst 0, []), (139, 2, .istore 9, []), (141, 2, .iload 8, []), (143, 3, .ifCond .eq 13, []), (146, 2, .iload 9, []), (148, 3, .ifCond .eq 8, []), (151, 2, .iload 7, []), (153, 3, .goto 5, []), (156, 2, .iload 5, []), (158, 2, .istore 5, [])]
def xk_180_5 : List xEn := [(160, 3, .iinc 6 1, []), (163, 3, .goto (-146), []), (166, 2, .iload 5, []), (168, 1, .ireturn, [])]
def xe_180 : xEl := (xm_180, [xk_180_0, xk_180_1, xk_180_2, xk_180_3, xk_180_4, xk_180_5], [], [])
def xm_181 : xM := (⟨"ViewFoundryModel", "tellsLeft", "(II)V"⟩, prog_14_method_26_code, 6, (Option.none : Option Jvm.ClassFile.FieldType), [])
def xk_181_0 : List xEn := [(0, 1, .aload_n 0, []), (1, 3, .getfield 55, [18, 13]), (4, 1, .iload_n 1, []), (5, 1, .aaload, []), (6, 3, .getfield 122, [1, 11]), (9, 1, .astore_n 3, []), (10, 1, .aload_n 0, []), (11, 1, .iload_n 1, []), (12, 1, .aload_n 3, []), (13, 1, .iload_n 2, []), (14, 1, .iconst 1, []), (15, 1, .iadd, []), (16, 1, .iaload, []), (17, 1, .aload_n 3, []), (18, 1, .iload_n 2, []), (19, 1, .iconst 2, []), (20, 1, .iadd, []), (21, 1, .iaload, []), (22, 3, .invokevirtual 173, [3, 13, 180]), (25, 2, .istore 4, []), (27, 2, .iload 4, []), (29, 1, .iconst (-1), []), (30, 3, .if_icmp .ne 7, [])]
def xk_181_1 : List xEn := [(33, 1, .iconst (-1), []), (34, 3, .goto 9, []), (37, 1, .aload_n 3, []), (38, 2, .iload 4, []), (40, 1, .iconst 2, []), (41, 1, .iadd, []), (42, 1, .iaload, []), (43, 2, .istore 5, []), (45, 1, .aload_n 0, []), (46, 1, .iload_n 1, []), (47, 1, .iload_n 2, []), (48, 1, .aload_n 3, []), (49, 1, .iload_n 2, []), (50, 1, .iconst 2, []), (51, 1, .iadd, []), (52, 1, .iaload, []), (53, 2, .iload 5, []), (55, 1, .aload_n 3, []), (56, 1, .iload_n 2, []), (57, 1, .iconst 5, []), (58, 1, .iadd, []), (59, 1, .iaload, []), (60, 2, .iload 4, []), (62, 1, .iconst (-1), []), (63, 3, .if_icmp .ne 7, [])]
def xk_181_2 : List xEn := [(66, 1, .iconst 0, []), (67, 3, .goto 9, []), (70, 1, .aload_n 3, []), (71, 2, .iload 4, []), (73, 1, .iconst 5, []), (74, 1, .iadd, []), (75, 1, .iaload, []), (76, 1, .iadd, []), (77, 3, .invokevirtual 153, [5, 13, 172]), (80, 1, .return_, [])]
def xe_181 : xEl := (xm_181, [xk_181_0, xk_181_1, xk_181_2], [], [])
def xm_182 : xM := (⟨"ViewFoundryModel", "takesVersions", "(IZIIII)V"⟩, prog_14_method_27_code, 11, (Option.none : Option Jvm.ClassFile.FieldType), [])
def xk_182_0 : List xEn := [(0, 2, .iload 6, []), (2, 2, .iload 4, []), (4, 1, .aload_n 0, []), (5, 3, .getfield 44, [13, 13]), (8, 1, .iload_n 1, []), (9, 1, .iaload, []), (10, 1, .iadd, []), (11, 3, .if_icmp .le 19, []), (14, 1, .aload_n 0, []), (15, 3, .getfield 55, [18, 13]), (18, 1, .iload_n 1, []), (19, 1, .aaload, []), (20, 1, .dup, []), (21, 3, .getfield 137, [4, 11]), (24, 1, .iconst 1, []), (25, 1, .iadd, []), (26, 3, .putfield 137, [4, 0, 11]), (29, 1, .return_, []), (30, 1, .aload_n 0, []), (31, 3, .getfield 55, [18, 13])]
def xk_182_1 : List xEn := [(34, 1, .iload_n 1, []), (35, 1, .aaload, []), (36, 1, .iload_n 2, []), (37, 3, .ifCond .eq 8, []), (40, 2, .bipush 108, []), (42, 3, .goto 5, []), (45, 2, .bipush 114, []), (47, 1, .iload_n 3, []), (48, 2, .iload 4, []), (50, 1, .iconst 0, []), (51, 2, .iload 5, []), (53, 3, .invokevirtual 144, [5, 11, 148]), (56, 2, .istore 7, []), (58, 1, .iload_n 2, []), (59, 3, .ifCond .eq 18, []), (62, 2, .iload 6, [])]
def xk_182_2 : List xEn := [(64, 2, .iload 4, []), (66, 3, .if_icmp .le 10, []), (69, 1, .aload_n 0, []), (70, 1, .iload_n 1, []), (71, 2, .iload 7, []), (73, 3, .invokevirtual 176, [2, 13, 181]), (76, 1, .return_, []), (77, 1, .iconst 0, []), (78, 2, .istore 8, []), (80, 2, .iload 8, []), (82, 1, .aload_n 0, []), (83, 3, .getfield 55, [18, 13]), (86, 1, .iload_n 1, []), (87, 1, .aaload, []), (88, 3, .getfield 134, [0, 11]), (91, 3, .if_icmp .ge 67, []), (94, 1, .aload_n 0, []), (95, 3, .getfield 55, [18, 13])]
def xk_182_3 : List xEn := [(98, 1, .iload_n 1, []), (99, 1, .aaload, []), (100, 3, .getfield 122, [1, 11]), (103, 2, .astore 9, []), (105, 2, .bipush 10, []), (107, 2, .iload 8, []), (109, 1, .imul, []), (110, 2, .istore 10, []), (112, 2, .aload 9, []), (114, 2, .iload 10, []), (116, 1, .iaload, []), (117, 2, .bipush 108, []), (119, 3, .if_icmp .ne 33, []), (122, 2, .aload 9, []), (124, 2, .iload 10, []), (126, 1, .iconst 1, []), (127, 1, .iadd, [])]
def xk_182_4 : List xEn := [(128, 1, .iaload, []), (129, 1, .iload_n 3, []), (130, 3, .if_icmp .ne 22, []), (133, 2, .aload 9, []), (135, 2, .iload 10, []), (137, 2, .bipush 7, []), (139, 1, .iadd, []), (140, 1, .iaload, []), (141, 1, .iconst 1, []), (142, 3, .if_icmp .ne 10, []), (145, 1, .aload_n 0, []), (146, 1, .iload_n 1, []), (147, 2, .iload 10, []), (149, 3, .invokevirtual 176, [2, 13, 181]), (152, 3, .iinc 8 1, []), (155, 3, .goto (-75), []), (158, 1, .return_, [])]
def xe_182 : xEl := (xm_182, [xk_182_0, xk_182_1, xk_182_2, xk_182_3, xk_182_4], [], [])
def xm_183 : xM := (⟨"ViewFoundryModel", "isDue", "(III)Z"⟩, prog_14_method_28_code, 5, (Option.some Jvm.ClassFile.FieldType.boolean), [])
def xk_183_0 : List xEn := [(0, 1, .aload_n 0, []), (1, 3, .getfield 55, [18, 13]), (4, 1, .iload_n 1, []), (5, 1, .aaload, []), (6, 3, .getfield 122, [1, 11]), (9, 2, .astore 4, []), (11, 2, .aload 4, []), (13, 1, .iload_n 2, []), (14, 2, .bipush 7, []), (16, 1, .iadd, []), (17, 1, .iaload, []), (18, 1, .iconst 1, []), (19, 3, .if_icmp .ne 5, []), (22, 1, .iconst 0, []), (23, 1, .ireturn, []), (24, 2, .aload 4, []), (26, 1, .iload_n 2, []), (27, 1, .iaload, []), (28, 2, .bipush 119, []), (30, 3, .if_icmp .ne 21, [])]
def xk_183_1 : List xEn := [(33, 1, .iload_n 3, []), (34, 2, .aload 4, []), (36, 1, .iload_n 2, []), (37, 1, .iconst 3, []), (38, 1, .iadd, []), (39, 1, .iaload, []), (40, 3, .if_icmp .lt 7, []), (43, 1, .iconst 1, []), (44, 3, .goto 65, []), (47, 1, .iconst 0, []), (48, 3, .goto 61, []), (51, 2, .aload 4, []), (53, 1, .iload_n 2, []), (54, 1, .iaload, []), (55, 2, .bipush 115, []), (57, 3, .if_icmp .ne 28, []), (60, 1, .iload_n 3, []), (61, 2, .aload 4, []), (63, 1, .iload_n 2, [])]
def xk_183_2 : List xEn := [(64, 1, .iconst 3, []), (65, 1, .iadd, []), (66, 1, .iaload, []), (67, 1, .aload_n 0, []), (68, 3, .getfield 38, [11, 13]), (71, 1, .iload_n 1, []), (72, 1, .iaload, []), (73, 1, .iadd, []), (74, 3, .if_icmp .le 7, []), (77, 1, .iconst 1, []), (78, 3, .goto 31, []), (81, 1, .iconst 0, []), (82, 3, .goto 27, []), (85, 2, .aload 4, []), (87, 1, .iload_n 2, []), (88, 1, .iaload, []), (89, 2, .bipush 108, []), (91, 3, .if_icmp .ne 17, []), (94, 1, .iload_n 3, []), (95, 2, .aload 4, [])]
def xk_183_3 : List xEn := [(97, 1, .iload_n 2, []), (98, 1, .iconst 2, []), (99, 1, .iadd, []), (100, 1, .iaload, []), (101, 3, .if_icmp .le 7, []), (104, 1, .iconst 1, []), (105, 3, .goto 4, []), (108, 1, .iconst 0, []), (109, 1, .ireturn, [])]
def xe_183 : xEl := (xm_183, [xk_183_0, xk_183_1, xk_183_2, xk_183_3], [], [])
def xm_184 : xM := (⟨"ViewFoundryModel", "rank", "(II)I"⟩, prog_14_method_29_code, 4, (Option.some Jvm.ClassFile.FieldType.int), [])
def xk_184_0 : List xEn := [(0, 1, .aload_n 0, []), (1, 3, .getfield 55, [18, 13]), (4, 1, .iload_n 1, []), (5, 1, .aaload, []), (6, 3, .getfield 122, [1, 11]), (9, 1, .astore_n 3, []), (10, 1, .aload_n 0, []), (11, 3, .getfield 28, [8, 13]), (14, 1, .iload_n 1, []), (15, 1, .caload, []), (16, 2, .bipush 118, []), (18, 3, .if_icmp .ne 11, []), (21, 1, .aload_n 3, []), (22, 1, .iload_n 2, []), (23, 1, .iconst 2, []), (24, 1, .iadd, []), (25, 1, .iaload, []), (26, 3, .goto 8, []), (29, 1, .aload_n 3, []), (30, 1, .iload_n 2, []), (31, 1, .iconst 3, [])]
def xk_184_1 : List xEn := [(32, 1, .iadd, []), (33, 1, .iaload, []), (34, 1, .ireturn, [])]
def xe_184 : xEl := (xm_184, [xk_184_0, xk_184_1], [], [])
def xm_185 : xM := (⟨"ViewFoundryModel", "tellsDue", "(II)V"⟩, prog_14_method_30_code, 9, (Option.none : Option Jvm.ClassFile.FieldType), [])
def xk_185_0 : List xEn := [(0, 1, .aload_n 0, []), (1, 3, .getfield 28, [8, 13]), (4, 1, .iload_n 1, []), (5, 1, .caload, []), (6, 2, .bipush 106, []), (8, 3, .if_icmp .ne 4, []), (11, 1, .return_, []), (12, 1, .iconst 1, []), (13, 1, .istore_n 3, []), (14, 1, .iload_n 3, []), (15, 3, .ifCond .eq 208, []), (18, 1, .aload_n 0, []), (19, 3, .getfield 55, [18, 13]), (22, 1, .iload_n 1, []), (23, 1, .aaload, []), (24, 3, .getfield 122, [1, 11]), (27, 2, .astore 4, []), (29, 1, .iconst (-1), []), (30, 2, .istore 5, [])]
def xk_185_1 : List xEn := [(32, 1, .iconst 0, []), (33, 2, .istore 6, []), (35, 2, .iload 6, []), (37, 1, .aload_n 0, []), (38, 3, .getfield 55, [18, 13]), (41, 1, .iload_n 1, []), (42, 1, .aaload, []), (43, 3, .getfield 134, [0, 11]), (46, 3, .if_icmp .ge 105, []), (49, 2, .bipush 10, []), (51, 2, .iload 6, []), (53, 1, .imul, []), (54, 2, .istore 7, []), (56, 1, .aload_n 0, []), (57, 1, .iload_n 1, []), (58, 2, .iload 7, []), (60, 1, .iload_n 2, []), (61, 3, .invokevirtual 179, [3, 13, 183])]
def xk_185_2 : List xEn := [(64, 3, .ifCond .eq 81, []), (67, 2, .iload 5, []), (69, 1, .iconst (-1), []), (70, 3, .if_icmp .eq 54, []), (73, 1, .aload_n 0, []), (74, 1, .iload_n 1, []), (75, 2, .iload 7, []), (77, 3, .invokevirtual 182, [2, 13, 184]), (80, 1, .aload_n 0, []), (81, 1, .iload_n 1, []), (82, 2, .iload 5, []), (84, 3, .invokevirtual 182, [2, 13, 184]), (87, 3, .if_icmp .lt 37, []), (90, 1, .aload_n 0, []), (91, 1, .iload_n 1, []), (92, 2, .iload 7, []), (94, 3, .invokevirtual 182, [2, 13, 184])]
def xk_185_3 : List xEn := [(97, 1, .aload_n 0, []), (98, 1, .iload_n 1, []), (99, 2, .iload 5, []), (101, 3, .invokevirtual 182, [2, 13, 184]), (104, 3, .if_icmp .ne 24, []), (107, 2, .aload 4, []), (109, 2, .iload 7, []), (111, 1, .iconst 1, []), (112, 1, .iadd, []), (113, 1, .iaload, []), (114, 2, .aload 4, []), (116, 2, .iload 5, []), (118, 1, .iconst 1, []), (119, 1, .iadd, []), (120, 1, .iaload, []), (121, 3, .if_icmp .ge 7, []), (124, 1, .iconst 1, []), (125, 3, .goto 4, [])]
def xk_185_4 : List xEn := [(128, 1, .iconst 0, []), (129, 2, .istore 8, []), (131, 2, .iload 8, []), (133, 3, .ifCond .eq 8, []), (136, 2, .iload 7, []), (138, 3, .goto 5, []), (141, 2, .iload 5, []), (143, 2, .istore 5, []), (145, 3, .iinc 6 1, []), (148, 3, .goto (-113), []), (151, 2, .iload 5, []), (153, 1, .iconst (-1), []), (154, 3, .if_icmp .eq 7, []), (157, 1, .iconst 1, []), (158, 3, .goto 4, [])]
def xk_185_5 : List xEn := [(161, 1, .iconst 0, []), (162, 1, .istore_n 3, []), (163, 1, .iload_n 3, []), (164, 3, .ifCond .eq 24, []), (167, 1, .aload_n 0, []), (168, 3, .getfield 28, [8, 13]), (171, 1, .iload_n 1, []), (172, 1, .caload, []), (173, 2, .bipush 118, []), (175, 3, .if_icmp .ne 13, []), (178, 1, .aload_n 0, []), (179, 1, .iload_n 1, []), (180, 2, .iload 5, []), (182, 3, .invokevirtual 176, [2, 13, 181]), (185, 3, .goto 35, []), (188, 1, .iload_n 3, []), (189, 3, .ifCond .eq 31, [])]
def xk_185_6 : List xEn := [(192, 1, .aload_n 0, []), (193, 1, .iload_n 1, []), (194, 2, .iload 5, []), (196, 2, .aload 4, []), (198, 2, .iload 5, []), (200, 1, .iconst 2, []), (201, 1, .iadd, []), (202, 1, .iaload, []), (203, 2, .aload 4, []), (205, 2, .iload 5, []), (207, 1, .iconst 3, []), (208, 1, .iadd, []), (209, 1, .iaload, []), (210, 1, .aload_n 0, []), (211, 1, .iload_n 1, []), (212, 2, .iload 5, []), (214, 3, .invokevirtual 150, [2, 13, 171]), (217, 3, .invokevirtual 153, [5, 13, 172]), (220, 3, .goto (-206), []), (223, 1, .return_, [])]
def xe_185 : xEl := (xm_185, [xk_185_0, xk_185_1, xk_185_2, xk_185_3, xk_185_4, xk_185_5, xk_185_6], [], [])
def xm_186 : xM := (⟨"ViewFoundryModel", "isOld", "(III)Z"⟩, prog_14_method_31_code, 8, (Option.some Jvm.ClassFile.FieldType.boolean), [])
def xk_186_0 : List xEn := [(0, 1, .aload_n 0, []), (1, 3, .getfield 55, [18, 13]), (4, 1, .iload_n 1, []), (5, 1, .aaload, []), (6, 3, .getfield 122, [1, 11]), (9, 2, .astore 4, []), (11, 1, .iconst 0, []), (12, 2, .istore 5, []), (14, 2, .iload 5, []), (16, 1, .aload_n 0, []), (17, 3, .getfield 55, [18, 13]), (20, 1, .iload_n 1, []), (21, 1, .aaload, []), (22, 3, .getfield 134, [0, 11]), (25, 3, .if_icmp .ge 155, []), (28, 2, .bipush 10, []), (30, 2, .iload 5, [])]
def xk_186_1 : List xEn := [(32, 1, .imul, []), (33, 2, .istore 6, []), (35, 2, .aload 4, []), (37, 2, .iload 6, []), (39, 1, .iconst 2, []), (40, 1, .iadd, []), (41, 1, .iaload, []), (42, 2, .aload 4, []), (44, 1, .iload_n 2, []), (45, 1, .iconst 2, []), (46, 1, .iadd, []), (47, 1, .iaload, []), (48, 3, .if_icmp .gt 57, []), (51, 2, .aload 4, []), (53, 2, .iload 6, []), (55, 1, .iconst 2, []), (56, 1, .iadd, []), (57, 1, .iaload, []), (58, 2, .aload 4, []), (60, 1, .iload_n 2, []), (61, 1, .iconst 2, []), (62, 1, .iadd, []), (63, 1, .iaload, [])]
def xk_186_2 : List xEn := [(64, 3, .if_icmp .ne 45, []), (67, 2, .aload 4, []), (69, 2, .iload 6, []), (71, 1, .iconst 5, []), (72, 1, .iadd, []), (73, 1, .iaload, []), (74, 2, .aload 4, []), (76, 1, .iload_n 2, []), (77, 1, .iconst 5, []), (78, 1, .iadd, []), (79, 1, .iaload, []), (80, 3, .if_icmp .gt 25, []), (83, 2, .aload 4, []), (85, 2, .iload 6, []), (87, 1, .iconst 5, []), (88, 1, .iadd, []), (89, 1, .iaload, []), (90, 2, .aload 4, []), (92, 1, .iload_n 2, []), (93, 1, .iconst 5, []), (94, 1, .iadd, []), (95, 1, .iaload, [])]
def xk_186_3 : List xEn := [(96, 3, .if_icmp .ne 13, []), (99, 2, .iload 6, []), (101, 1, .iload_n 2, []), (102, 3, .if_icmp .le 7, []), (105, 1, .iconst 1, []), (106, 3, .goto 4, []), (109, 1, .iconst 0, []), (110, 2, .istore 7, []), (112, 2, .aload 4, []), (114, 2, .iload 6, []), (116, 1, .iaload, []), (117, 2, .bipush 114, []), (119, 3, .if_icmp .eq 14, []), (122, 2, .aload 4, []), (124, 2, .iload 6, []), (126, 1, .iaload, []), (127, 3, .sipush 370, [])]
def xk_186_4 : List xEn := [(130, 3, .if_icmp .ne 44, []), (133, 2, .aload 4, []), (135, 2, .iload 6, []), (137, 1, .iconst 1, []), (138, 1, .iadd, []), (139, 1, .iaload, []), (140, 2, .aload 4, []), (142, 1, .iload_n 2, []), (143, 1, .iconst 1, []), (144, 1, .iadd, []), (145, 1, .iaload, []), (146, 3, .if_icmp .ne 28, []), (149, 2, .iload 7, []), (151, 3, .ifCond .eq 23, []), (154, 2, .aload 4, []), (156, 2, .iload 6, []), (158, 1, .iconst 2, []), (159, 1, .iadd, [])]
def xk_186_5 : List xEn := [(160, 1, .iaload, []), (161, 1, .iload_n 3, []), (162, 1, .aload_n 0, []), (163, 3, .getfield 44, [13, 13]), (166, 1, .iload_n 1, []), (167, 1, .iaload, []), (168, 1, .isub, []), (169, 3, .if_icmp .gt 5, []), (172, 1, .iconst 1, []), (173, 1, .ireturn, []), (174, 3, .iinc 5 1, []), (177, 3, .goto (-163), []), (180, 1, .iconst 0, []), (181, 1, .ireturn, [])]
def xe_186 : xEl := (xm_186, [xk_186_0, xk_186_1, xk_186_2, xk_186_3, xk_186_4, xk_186_5], [], [])
def xm_187 : xM := (⟨"ViewFoundryModel", "isGone", "(III)Z"⟩, prog_14_method_32_code, 5, (Option.some Jvm.ClassFile.FieldType.boolean), [])
def xk_187_0 : List xEn := [(0, 1, .aload_n 0, []), (1, 3, .getfield 55, [18, 13]), (4, 1, .iload_n 1, []), (5, 1, .aaload, []), (6, 3, .getfield 122, [1, 11]), (9, 2, .astore 4, []), (11, 2, .aload 4, []), (13, 1, .iload_n 2, []), (14, 1, .iaload, []), (15, 2, .bipush 119, []), (17, 3, .if_icmp .ne 26, []), (20, 1, .iload_n 3, []), (21, 2, .aload 4, []), (23, 1, .iload_n 2, []), (24, 1, .iconst 3, []), (25, 1, .iadd, []), (26, 1, .iaload, []), (27, 1, .aload_n 0, []), (28, 3, .getfield 44, [13, 13]), (31, 1, .iload_n 1, [])]
def xk_187_1 : List xEn := [(32, 1, .iaload, []), (33, 1, .iadd, []), (34, 3, .if_icmp .lt 7, []), (37, 1, .iconst 1, []), (38, 3, .goto 4, []), (41, 1, .iconst 0, []), (42, 1, .ireturn, []), (43, 2, .aload 4, []), (45, 1, .iload_n 2, []), (46, 1, .iaload, []), (47, 2, .bipush 115, []), (49, 3, .if_icmp .ne 35, []), (52, 1, .iload_n 3, []), (53, 2, .aload 4, []), (55, 1, .iload_n 2, []), (56, 1, .iconst 3, []), (57, 1, .iadd, []), (58, 1, .iaload, []), (59, 1, .iconst 2, []), (60, 1, .aload_n 0, []), (61, 3, .getfield 38, [11, 13])]
def xk_187_2 : List xEn := [(64, 1, .iload_n 1, []), (65, 1, .iaload, []), (66, 1, .imul, []), (67, 1, .iadd, []), (68, 1, .aload_n 0, []), (69, 3, .getfield 44, [13, 13]), (72, 1, .iload_n 1, []), (73, 1, .iaload, []), (74, 1, .iadd, []), (75, 3, .if_icmp .le 7, []), (78, 1, .iconst 1, []), (79, 3, .goto 4, []), (82, 1, .iconst 0, []), (83, 1, .ireturn, []), (84, 1, .aload_n 0, []), (85, 3, .getfield 28, [8, 13]), (88, 1, .iload_n 1, []), (89, 1, .caload, []), (90, 2, .bipush 106, []), (92, 3, .if_icmp .ne 35, []), (95, 1, .iload_n 3, [])]
def xk_187_3 : List xEn := [(96, 2, .aload 4, []), (98, 1, .iload_n 2, []), (99, 1, .iconst 2, []), (100, 1, .iadd, []), (101, 1, .iaload, []), (102, 1, .iconst 2, []), (103, 1, .aload_n 0, []), (104, 3, .getfield 38, [11, 13]), (107, 1, .iload_n 1, []), (108, 1, .iaload, []), (109, 1, .imul, []), (110, 1, .iadd, []), (111, 1, .aload_n 0, []), (112, 3, .getfield 44, [13, 13]), (115, 1, .iload_n 1, []), (116, 1, .iaload, []), (117, 1, .iadd, []), (118, 3, .if_icmp .le 7, []), (121, 1, .iconst 1, []), (122, 3, .goto 4, []), (125, 1, .iconst 0, []), (126, 1, .ireturn, []), (127, 2, .aload 4, [])]
def xk_187_4 : List xEn := [(129, 1, .iload_n 2, []), (130, 1, .iaload, []), (131, 2, .bipush 108, []), (133, 3, .if_icmp .ne 28, []), (136, 1, .iload_n 3, []), (137, 2, .aload 4, []), (139, 1, .iload_n 2, []), (140, 1, .iconst 2, []), (141, 1, .iadd, []), (142, 1, .iaload, []), (143, 1, .aload_n 0, []), (144, 3, .getfield 44, [13, 13]), (147, 1, .iload_n 1, []), (148, 1, .iaload, []), (149, 1, .iadd, []), (150, 3, .if_icmp .le 7, []), (153, 1, .iconst 1, []), (154, 3, .goto 14, []), (157, 1, .iconst 0, []), (158, 3, .goto 10, [])]
def xk_187_5 : List xEn := [(161, 1, .aload_n 0, []), (162, 1, .iload_n 1, []), (163, 1, .iload_n 2, []), (164, 1, .iload_n 3, []), (165, 3, .invokevirtual 185, [3, 13, 186]), (168, 1, .ireturn, [])]
def xe_187 : xEl := (xm_187, [xk_187_0, xk_187_1, xk_187_2, xk_187_3, xk_187_4, xk_187_5], [], [])
def xm_188 : xM := (⟨"ViewFoundryModel", "letsGo", "(II)V"⟩, prog_14_method_33_code, 5, (Option.none : Option Jvm.ClassFile.FieldType), [])
def xk_188_0 : List xEn := [(0, 1, .iconst 0, []), (1, 1, .istore_n 3, []), (2, 1, .iload_n 3, []), (3, 1, .aload_n 0, []), (4, 3, .getfield 55, [18, 13]), (7, 1, .iload_n 1, []), (8, 1, .aaload, []), (9, 3, .getfield 134, [0, 11]), (12, 3, .if_icmp .ge 48, []), (15, 2, .bipush 10, []), (17, 1, .iload_n 3, []), (18, 1, .imul, []), (19, 2, .istore 4, []), (21, 1, .aload_n 0, []), (22, 3, .getfield 55, [18, 13]), (25, 1, .iload_n 1, []), (26, 1, .aaload, []), (27, 3, .getfield 122, [1, 11]), (30, 2, .iload 4, [])]
def xk_188_1 : List xEn := [(32, 1, .dup2, []), (33, 1, .iaload, []), (34, 1, .aload_n 0, []), (35, 1, .iload_n 1, []), (36, 2, .iload 4, []), (38, 1, .iload_n 2, []), (39, 3, .invokevirtual 188, [3, 13, 187]), (42, 3, .ifCond .eq 9, []), (45, 3, .sipush 256, []), (48, 3, .goto 4, []), (51, 1, .iconst 0, []), (52, 1, .iadd, []), (53, 1, .iastore, []), (54, 3, .iinc 3 1, []), (57, 3, .goto (-55), []), (60, 1, .iconst 0, []), (61, 1, .istore_n 3, []), (62, 1, .iload_n 3, []), (63, 1, .aload_n 0, [])]
def xk_188_2 : List xEn := [(64, 3, .getfield 55, [18, 13]), (67, 1, .iload_n 1, []), (68, 1, .aaload, []), (69, 3, .getfield 134, [0, 11]), (72, 3, .if_icmp .ge 61, []), (75, 2, .bipush 10, []), (77, 1, .iload_n 3, []), (78, 1, .imul, []), (79, 2, .istore 4, []), (81, 1, .aload_n 0, []), (82, 3, .getfield 55, [18, 13]), (85, 1, .iload_n 1, []), (86, 1, .aaload, []), (87, 3, .getfield 122, [1, 11]), (90, 2, .iload 4, []), (92, 1, .aload_n 0, []), (93, 3, .getfield 55, [18, 13])]
def xk_188_3 : List xEn := [(96, 1, .iload_n 1, []), (97, 1, .aaload, []), (98, 3, .getfield 122, [1, 11]), (101, 2, .iload 4, []), (103, 1, .iaload, []), (104, 3, .sipush 255, []), (107, 3, .if_icmp .le 7, []), (110, 1, .iconst 0, []), (111, 3, .goto 15, []), (114, 1, .aload_n 0, []), (115, 3, .getfield 55, [18, 13]), (118, 1, .iload_n 1, []), (119, 1, .aaload, []), (120, 3, .getfield 122, [1, 11]), (123, 2, .iload 4, []), (125, 1, .iaload, []), (126, 1, .iastore, []), (127, 3, .iinc 3 1, [])]
def xk_188_4 : List xEn := [(130, 3, .goto (-68), []), (133, 1, .aload_n 0, []), (134, 3, .getfield 55, [18, 13]), (137, 1, .iload_n 1, []), (138, 1, .aaload, []), (139, 3, .invokevirtual 164, [0, 11, 151]), (142, 1, .return_, [])]
def xe_188 : xEl := (xm_188, [xk_188_0, xk_188_1, xk_188_2, xk_188_3, xk_188_4], [], [])
def xm_189 : xM := (⟨"ViewFoundryModel", "letsIn", "(III)Z"⟩, prog_14_method_34_code, 7, (Option.some Jvm.ClassFile.FieldType.boolean), [])
def xk_189_0 : List xEn := [(0, 1, .iload_n 2, []), (1, 1, .iconst 2, []), (2, 3, .if_icmp .ne 7, []), (5, 1, .iconst 1, []), (6, 3, .goto 4, []), (9, 1, .iconst 0, []), (10, 2, .istore 4, []), (12, 1, .aload_n 0, []), (13, 3, .getfield 28, [8, 13]), (16, 1, .iload_n 1, []), (17, 1, .caload, []), (18, 2, .bipush 106, []), (20, 3, .if_icmp .eq 14, []), (23, 1, .aload_n 0, []), (24, 3, .getfield 28, [8, 13]), (27, 1, .iload_n 1, []), (28, 1, .caload, []), (29, 2, .bipush 118, []), (31, 3, .if_icmp .ne 7, [])]
def xk_189_1 : List xEn := [(34, 1, .iconst 1, []), (35, 3, .goto 4, []), (38, 1, .iconst 0, []), (39, 2, .istore 5, []), (41, 1, .aload_n 0, []), (42, 3, .getfield 35, [10, 13]), (45, 1, .iload_n 1, []), (46, 1, .caload, []), (47, 2, .bipush 97, []), (49, 3, .if_icmp .eq 35, []), (52, 1, .aload_n 0, []), (53, 3, .getfield 35, [10, 13]), (56, 1, .iload_n 1, []), (57, 1, .caload, []), (58, 2, .bipush 101, []), (60, 3, .if_icmp .ne 9, []), (63, 1, .iload_n 3, [])]
def xk_189_2 : List xEn := [(64, 1, .iconst 2, []), (65, 1, .irem, []), (66, 3, .ifCond .eq 18, []), (69, 1, .aload_n 0, []), (70, 3, .getfield 35, [10, 13]), (73, 1, .iload_n 1, []), (74, 1, .caload, []), (75, 2, .bipush 112, []), (77, 3, .if_icmp .ne 11, []), (80, 1, .iload_n 3, []), (81, 3, .ifCond .le 7, []), (84, 1, .iconst 1, []), (85, 3, .goto 4, []), (88, 1, .iconst 0, []), (89, 2, .istore 6, []), (91, 2, .iload 6, []), (93, 3, .ifCond .eq 17, [])]
def xk_189_3 : List xEn := [(96, 2, .iload 5, []), (98, 3, .ifCond .ne 8, []), (101, 2, .iload 4, []), (103, 3, .ifCond .ne 7, []), (106, 1, .iconst 1, []), (107, 3, .goto 4, []), (110, 1, .iconst 0, []), (111, 1, .ireturn, [])]
def xe_189 : xEl := (xm_189, [xk_189_0, xk_189_1, xk_189_2, xk_189_3], [], [])
def xm_190 : xM := (⟨"ViewFoundryModel", "takes", "(IIIIII)V"⟩, prog_14_method_35_code, 7, (Option.none : Option Jvm.ClassFile.FieldType), [])
def xk_190_0 : List xEn := [(0, 1, .aload_n 0, []), (1, 3, .getfield 28, [8, 13]), (4, 1, .iload_n 1, []), (5, 1, .caload, []), (6, 2, .bipush 116, []), (8, 3, .if_icmp .eq 14, []), (11, 1, .aload_n 0, []), (12, 3, .getfield 28, [8, 13]), (15, 1, .iload_n 1, []), (16, 1, .caload, []), (17, 2, .bipush 108, []), (19, 3, .if_icmp .ne 18, []), (22, 1, .aload_n 0, []), (23, 1, .iload_n 1, []), (24, 1, .iload_n 3, []), (25, 2, .iload 4, []), (27, 2, .iload 5, []), (29, 2, .iload 6, []), (31, 3, .invokevirtual 191, [5, 13, 174])]
def xk_190_1 : List xEn := [(34, 3, .goto 87, []), (37, 1, .aload_n 0, []), (38, 3, .getfield 28, [8, 13]), (41, 1, .iload_n 1, []), (42, 1, .caload, []), (43, 2, .bipush 115, []), (45, 3, .if_icmp .ne 18, []), (48, 1, .aload_n 0, []), (49, 1, .iload_n 1, []), (50, 1, .iload_n 3, []), (51, 2, .iload 4, []), (53, 2, .iload 5, []), (55, 2, .iload 6, []), (57, 3, .invokevirtual 194, [5, 13, 175]), (60, 3, .goto 61, []), (63, 1, .aload_n 0, [])]
def xk_190_2 : List xEn := [(64, 3, .getfield 28, [8, 13]), (67, 1, .iload_n 1, []), (68, 1, .caload, []), (69, 2, .bipush 106, []), (71, 3, .if_icmp .ne 28, []), (74, 1, .aload_n 0, []), (75, 1, .iload_n 1, []), (76, 1, .iload_n 2, []), (77, 1, .iconst 2, []), (78, 3, .if_icmp .ge 7, []), (81, 1, .iconst 1, []), (82, 3, .goto 4, []), (85, 1, .iconst 0, []), (86, 1, .iload_n 3, []), (87, 2, .iload 4, []), (89, 2, .iload 5, []), (91, 2, .iload 6, []), (93, 3, .invokevirtual 197, [6, 13, 179])]
def xk_190_3 : List xEn := [(96, 3, .goto 25, []), (99, 1, .aload_n 0, []), (100, 1, .iload_n 1, []), (101, 1, .iload_n 2, []), (102, 1, .iconst 2, []), (103, 3, .if_icmp .ge 7, []), (106, 1, .iconst 1, []), (107, 3, .goto 4, []), (110, 1, .iconst 0, []), (111, 1, .iload_n 3, []), (112, 2, .iload 4, []), (114, 2, .iload 5, []), (116, 2, .iload 6, []), (118, 3, .invokevirtual 201, [6, 13, 182]), (121, 1, .return_, [])]
def xe_190 : xEl := (xm_190, [xk_190_0, xk_190_1, xk_190_2, xk_190_3], [], [])
def xm_191 : xM := (⟨"ViewFoundryModel", "read", "(II)I"⟩, prog_14_method_36_code, 9, (Option.some Jvm.ClassFile.FieldType.int), [])
def xk_191_0 : List xEn := [(0, 1, .aload_n 0, []), (1, 1, .iconst 0, []), (2, 3, .putfield 73, [0, 0, 13]), (5, 1, .iload_n 1, []), (6, 3, .invokestatic 85, [1, 160]), (9, 3, .ifCond .eq 13, []), (12, 1, .iload_n 2, []), (13, 1, .iconst 1, []), (14, 2, .bipush 20, []), (16, 3, .invokestatic 77, [3, 158]), (19, 3, .ifCond .ne 9, []), (22, 1, .aload_n 0, []), (23, 1, .iconst 1, []), (24, 3, .invokevirtual 81, [1, 13, 159]), (27, 1, .ireturn, []), (28, 1, .iconst 0, []), (29, 1, .istore_n 3, []), (30, 1, .iload_n 3, []), (31, 1, .iload_n 2, [])]
def xk_191_1 : List xEn := [(32, 3, .if_icmp .ge 226, []), (35, 1, .aload_n 0, []), (36, 3, .getfield 47, [16, 13]), (39, 1, .iload_n 1, []), (40, 1, .iaload, []), (41, 1, .aload_n 0, []), (42, 3, .getfield 7, [1, 13]), (45, 1, .iload_n 1, []), (46, 1, .iaload, []), (47, 3, .if_icmp .ge 211, []), (50, 2, .bipush 80, []), (52, 1, .iload_n 1, []), (53, 1, .imul, []), (54, 1, .aload_n 0, []), (55, 3, .getfield 47, [16, 13]), (58, 1, .iload_n 1, []), (59, 1, .iaload, []), (60, 1, .iadd, []), (61, 2, .istore 4, []), (63, 1, .aload_n 0, [])]
def xk_191_2 : List xEn := [(64, 3, .getfield 13, [2, 13]), (67, 2, .iload 4, []), (69, 1, .iaload, []), (70, 1, .iconst (-1), []), (71, 3, .if_icmp .eq 7, []), (74, 1, .iconst 1, []), (75, 3, .goto 4, []), (78, 1, .iconst 0, []), (79, 2, .istore 5, []), (81, 1, .aload_n 0, []), (82, 3, .invokevirtual 204, [0, 13, 167]), (85, 2, .istore 6, []), (87, 1, .iconst 0, []), (88, 2, .istore 7, []), (90, 2, .iload 7, []), (92, 1, .aload_n 0, []), (93, 3, .getfield 93, [7, 13])]
def xk_191_3 : List xEn := [(96, 3, .if_icmp .ge 61, []), (99, 2, .iload 5, []), (101, 3, .ifCond .eq 56, []), (104, 1, .aload_n 0, []), (105, 2, .iload 7, []), (107, 1, .iload_n 1, []), (108, 1, .aload_n 0, []), (109, 3, .getfield 19, [4, 13]), (112, 2, .iload 4, []), (114, 1, .iaload, []), (115, 3, .invokevirtual 208, [3, 13, 189]), (118, 3, .ifCond .eq 33, []), (121, 1, .aload_n 0, []), (122, 2, .iload 7, []), (124, 1, .iload_n 1, []), (125, 1, .aload_n 0, []), (126, 3, .getfield 13, [2, 13])]
def xk_191_4 : List xEn := [(129, 2, .iload 4, []), (131, 1, .iaload, []), (132, 1, .aload_n 0, []), (133, 3, .getfield 16, [3, 13]), (136, 2, .iload 4, []), (138, 1, .iaload, []), (139, 1, .aload_n 0, []), (140, 3, .getfield 19, [4, 13]), (143, 2, .iload 4, []), (145, 1, .iaload, []), (146, 2, .iload 6, []), (148, 3, .invokevirtual 211, [6, 13, 190]), (151, 3, .iinc 7 1, []), (154, 3, .goto (-64), []), (157, 1, .aload_n 0, []), (158, 3, .getfield 50, [17, 13])]
def xk_191_5 : List xEn := [(161, 1, .iload_n 1, []), (162, 1, .aload_n 0, []), (163, 3, .getfield 50, [17, 13]), (166, 1, .iload_n 1, []), (167, 1, .iaload, []), (168, 1, .aload_n 0, []), (169, 3, .getfield 16, [3, 13]), (172, 2, .iload 4, []), (174, 1, .iaload, []), (175, 2, .iload 5, []), (177, 3, .ifCond .eq 12, []), (180, 1, .aload_n 0, []), (181, 3, .getfield 22, [5, 13]), (184, 1, .iload_n 1, []), (185, 1, .iaload, []), (186, 3, .goto 4, []), (189, 1, .iconst 0, []), (190, 1, .isub, []), (191, 3, .invokestatic 147, [2, 225])]
def xk_191_6 : List xEn := [(194, 1, .iastore, []), (195, 1, .aload_n 0, []), (196, 3, .invokevirtual 204, [0, 13, 167]), (199, 2, .istore 7, []), (201, 1, .iconst 0, []), (202, 2, .istore 8, []), (204, 2, .iload 8, []), (206, 1, .aload_n 0, []), (207, 3, .getfield 93, [7, 13]), (210, 3, .if_icmp .ge 32, []), (213, 2, .iload 7, []), (215, 2, .iload 6, []), (217, 3, .if_icmp .le 25, []), (220, 1, .aload_n 0, []), (221, 2, .iload 8, []), (223, 2, .iload 7, [])]
def xk_191_7 : List xEn := [(225, 3, .invokevirtual 214, [2, 13, 185]), (228, 1, .aload_n 0, []), (229, 2, .iload 8, []), (231, 2, .iload 7, []), (233, 3, .invokevirtual 217, [2, 13, 188]), (236, 3, .iinc 8 1, []), (239, 3, .goto (-35), []), (242, 1, .aload_n 0, []), (243, 3, .getfield 47, [16, 13]), (246, 1, .iload_n 1, []), (247, 1, .dup2, []), (248, 1, .iaload, []), (249, 1, .iconst 1, []), (250, 1, .iadd, []), (251, 1, .iastore, []), (252, 3, .iinc 3 1, []), (255, 3, .goto (-225), [])]
def xk_191_8 : List xEn := [(258, 1, .aload_n 0, []), (259, 1, .aload_n 0, []), (260, 3, .getfield 96, [14, 13]), (263, 3, .ifCond .ne 7, []), (266, 1, .iload_n 3, []), (267, 3, .ifCond .le 7, []), (270, 1, .iconst 1, []), (271, 3, .goto 4, []), (274, 1, .iconst 0, []), (275, 3, .putfield 96, [14, 3, 13]), (278, 1, .iload_n 3, []), (279, 1, .ireturn, [])]
def xe_191 : xEl := (xm_191, [xk_191_0, xk_191_1, xk_191_2, xk_191_3, xk_191_4, xk_191_5, xk_191_6, xk_191_7, xk_191_8], [], [])
def xm_192 : xM := (⟨"ViewFoundryModel", "place", "(I)I"⟩, prog_14_method_37_code, 2, (Option.some Jvm.ClassFile.FieldType.int), [])
def xk_192_0 : List xEn := [(0, 1, .aload_n 0, []), (1, 1, .iconst 0, []), (2, 3, .putfield 73, [0, 0, 13]), (5, 1, .iload_n 1, []), (6, 3, .invokestatic 85, [1, 160]), (9, 3, .ifCond .eq 12, []), (12, 1, .aload_n 0, []), (13, 3, .getfield 47, [16, 13]), (16, 1, .iload_n 1, []), (17, 1, .iaload, []), (18, 3, .goto 8, []), (21, 1, .aload_n 0, []), (22, 1, .iconst 1, []), (23, 3, .invokevirtual 81, [1, 13, 159]), (26, 1, .ireturn, [])]
def xe_192 : xEl := (xm_192, [xk_192_0], [], [])
def xm_193 : xM := (⟨"ViewFoundryModel", "markOf", "(I)I"⟩, prog_14_method_38_code, 2, (Option.some Jvm.ClassFile.FieldType.int), [])
def xk_193_0 : List xEn := [(0, 1, .aload_n 0, []), (1, 1, .iconst 0, []), (2, 3, .putfield 73, [0, 0, 13]), (5, 1, .iload_n 1, []), (6, 3, .invokestatic 85, [1, 160]), (9, 3, .ifCond .eq 12, []), (12, 1, .aload_n 0, []), (13, 3, .getfield 50, [17, 13]), (16, 1, .iload_n 1, []), (17, 1, .iaload, []), (18, 3, .goto 8, []), (21, 1, .aload_n 0, []), (22, 1, .iconst 1, []), (23, 3, .invokevirtual 81, [1, 13, 159]), (26, 1, .ireturn, [])]
def xe_193 : xEl := (xm_193, [xk_193_0], [], [])
def xm_194 : xM := (⟨"ViewFoundryModel", "mark", "()I"⟩, prog_14_method_39_code, 1, (Option.some Jvm.ClassFile.FieldType.int), [])
def xk_194_0 : List xEn := [(0, 1, .aload_n 0, []), (1, 1, .iconst 0, []), (2, 3, .putfield 73, [0, 0, 13]), (5, 1, .aload_n 0, []), (6, 3, .invokevirtual 204, [0, 13, 167]), (9, 1, .ireturn, [])]
def xe_194 : xEl := (xm_194, [xk_194_0], [], [])
def xm_195 : xM := (⟨"ViewFoundryModel", "isView", "(I)Z"⟩, prog_14_method_40_code, 2, (Option.some Jvm.ClassFile.FieldType.boolean), [])
def xk_195_0 : List xEn := [(0, 1, .iload_n 1, []), (1, 1, .iconst 0, []), (2, 1, .aload_n 0, []), (3, 3, .getfield 93, [7, 13]), (6, 1, .iconst 1, []), (7, 1, .isub, []), (8, 3, .invokestatic 77, [3, 158]), (11, 1, .ireturn, [])]
def xe_195 : xEl := (xm_195, [xk_195_0], [], [])
def xm_196 : xM := (⟨"ViewFoundryModel", "told", "(I)I"⟩, prog_14_method_41_code, 2, (Option.some Jvm.ClassFile.FieldType.int), [])
def xk_196_0 : List xEn := [(0, 1, .aload_n 0, []), (1, 1, .iconst 0, []), (2, 3, .putfield 73, [0, 0, 13]), (5, 1, .aload_n 0, []), (6, 1, .iload_n 1, []), (7, 3, .invokevirtual 220, [1, 13, 195]), (10, 3, .ifCond .eq 15, []), (13, 1, .aload_n 0, []), (14, 3, .getfield 55, [18, 13]), (17, 1, .iload_n 1, []), (18, 1, .aaload, []), (19, 3, .getfield 223, [2, 11]), (22, 3, .goto 8, []), (25, 1, .aload_n 0, []), (26, 1, .iconst 1, []), (27, 3, .invokevirtual 81, [1, 13, 159]), (30, 1, .ireturn, [])]
def xe_196 : xEl := (xm_196, [xk_196_0], [], [])
def xm_197 : xM := (⟨"ViewFoundryModel", "valueOf", "(IIII)I"⟩, prog_14_method_42_code, 10, (Option.some Jvm.ClassFile.FieldType.int), [])
def xk_197_0 : List xEn := [(0, 1, .aload_n 0, []), (1, 1, .iconst 0, []), (2, 3, .putfield 73, [0, 0, 13]), (5, 1, .aload_n 0, []), (6, 1, .iload_n 1, []), (7, 3, .invokevirtual 220, [1, 13, 195]), (10, 3, .ifCond .ne 9, []), (13, 1, .aload_n 0, []), (14, 1, .iconst 1, []), (15, 3, .invokevirtual 81, [1, 13, 159]), (18, 1, .ireturn, []), (19, 1, .iconst 0, []), (20, 2, .istore 5, []), (22, 1, .iconst 0, []), (23, 2, .istore 6, []), (25, 1, .iconst 0, []), (26, 2, .istore 7, []), (28, 2, .iload 7, []), (30, 1, .aload_n 0, []), (31, 3, .getfield 55, [18, 13])]
def xk_197_1 : List xEn := [(34, 1, .iload_n 1, []), (35, 1, .aaload, []), (36, 3, .getfield 223, [2, 11]), (39, 3, .if_icmp .ge 103, []), (42, 1, .aload_n 0, []), (43, 3, .getfield 55, [18, 13]), (46, 1, .iload_n 1, []), (47, 1, .aaload, []), (48, 3, .getfield 226, [3, 11]), (51, 2, .astore 8, []), (53, 2, .aload 8, []), (55, 1, .iconst 4, []), (56, 2, .iload 7, []), (58, 1, .imul, []), (59, 1, .iaload, []), (60, 1, .iload_n 2, []), (61, 3, .if_icmp .ne 34, [])]
def xk_197_2 : List xEn := [(64, 2, .aload 8, []), (66, 1, .iconst 4, []), (67, 2, .iload 7, []), (69, 1, .imul, []), (70, 1, .iconst 1, []), (71, 1, .iadd, []), (72, 1, .iaload, []), (73, 1, .iload_n 3, []), (74, 3, .if_icmp .ne 21, []), (77, 2, .aload 8, []), (79, 1, .iconst 4, []), (80, 2, .iload 7, []), (82, 1, .imul, []), (83, 1, .iconst 2, []), (84, 1, .iadd, []), (85, 1, .iaload, []), (86, 2, .iload 4, []), (88, 3, .if_icmp .ne 7, []), (91, 1, .iconst 1, []), (92, 3, .goto 4, []), (95, 1, .iconst 0, [])]
def xk_197_3 : List xEn := [(96, 2, .istore 9, []), (98, 2, .iload 6, []), (100, 2, .iload 9, []), (102, 3, .ifCond .eq 7, []), (105, 1, .iconst 1, []), (106, 3, .goto 4, []), (109, 1, .iconst 0, []), (110, 1, .iadd, []), (111, 2, .istore 6, []), (113, 2, .iload 5, []), (115, 2, .iload 9, []), (117, 3, .ifCond .eq 15, []), (120, 2, .aload 8, []), (122, 1, .iconst 4, []), (123, 2, .iload 7, []), (125, 1, .imul, []), (126, 1, .iconst 3, []), (127, 1, .iadd, [])]
def xk_197_4 : List xEn := [(128, 1, .iaload, []), (129, 3, .goto 4, []), (132, 1, .iconst 0, []), (133, 1, .iadd, []), (134, 2, .istore 5, []), (136, 3, .iinc 7 1, []), (139, 3, .goto (-111), []), (142, 2, .iload 6, []), (144, 3, .ifCond .ne 11, []), (147, 1, .aload_n 0, []), (148, 1, .iconst 2, []), (149, 3, .invokevirtual 81, [1, 13, 159]), (152, 3, .goto 5, []), (155, 2, .iload 5, []), (157, 1, .ireturn, [])]
def xe_197 : xEl := (xm_197, [xk_197_0, xk_197_1, xk_197_2, xk_197_3, xk_197_4], [], [])
def xm_198 : xM := (⟨"ViewFoundryModel", "valueByAll", "(IIII)I"⟩, prog_14_method_43_code, 5, (Option.some Jvm.ClassFile.FieldType.int), [])
def xk_198_0 : List xEn := [(0, 1, .aload_n 0, []), (1, 1, .iload_n 1, []), (2, 1, .iload_n 2, []), (3, 1, .iload_n 3, []), (4, 2, .iload 4, []), (6, 3, .invokevirtual 229, [4, 13, 197]), (9, 1, .ireturn, [])]
def xe_198 : xEl := (xm_198, [xk_198_0], [], [])
def xm_199 : xM := (⟨"ViewFoundryModel", "toldOf", "(II)I"⟩, prog_14_method_44_code, 5, (Option.some Jvm.ClassFile.FieldType.int), [])
def xk_199_0 : List xEn := [(0, 1, .iconst 0, []), (1, 1, .istore_n 3, []), (2, 1, .iconst 0, []), (3, 2, .istore 4, []), (5, 2, .iload 4, []), (7, 1, .aload_n 0, []), (8, 3, .getfield 55, [18, 13]), (11, 1, .iload_n 1, []), (12, 1, .aaload, []), (13, 3, .getfield 223, [2, 11]), (16, 3, .if_icmp .ge 35, []), (19, 1, .iload_n 3, []), (20, 1, .aload_n 0, []), (21, 3, .getfield 55, [18, 13]), (24, 1, .iload_n 1, []), (25, 1, .aaload, []), (26, 3, .getfield 226, [3, 11]), (29, 1, .iconst 4, []), (30, 2, .iload 4, [])]
def xk_199_1 : List xEn := [(32, 1, .imul, []), (33, 1, .iaload, []), (34, 1, .iload_n 2, []), (35, 3, .if_icmp .ne 7, []), (38, 1, .iconst 1, []), (39, 3, .goto 4, []), (42, 1, .iconst 0, []), (43, 1, .iadd, []), (44, 1, .istore_n 3, []), (45, 3, .iinc 4 1, []), (48, 3, .goto (-43), []), (51, 1, .iload_n 3, []), (52, 1, .ireturn, [])]
def xe_199 : xEl := (xm_199, [xk_199_0, xk_199_1], [], [])
def xm_200 : xM := (⟨"ViewFoundryModel", "firstFrom", "(II)I"⟩, prog_14_method_45_code, 5, (Option.some Jvm.ClassFile.FieldType.int), [])
def xk_200_0 : List xEn := [(0, 1, .aload_n 0, []), (1, 1, .iconst 0, []), (2, 3, .putfield 73, [0, 0, 13]), (5, 1, .aload_n 0, []), (6, 1, .iload_n 1, []), (7, 3, .invokevirtual 220, [1, 13, 195]), (10, 3, .ifCond .ne 9, []), (13, 1, .aload_n 0, []), (14, 1, .iconst 1, []), (15, 3, .invokevirtual 81, [1, 13, 159]), (18, 1, .ireturn, []), (19, 3, .sipush 1000, []), (22, 1, .istore_n 3, []), (23, 1, .iconst 0, []), (24, 2, .istore 4, []), (26, 2, .iload 4, []), (28, 1, .aload_n 0, []), (29, 3, .getfield 55, [18, 13])]
def xk_200_1 : List xEn := [(32, 1, .iload_n 1, []), (33, 1, .aaload, []), (34, 3, .getfield 223, [2, 11]), (37, 3, .if_icmp .ge 52, []), (40, 1, .aload_n 0, []), (41, 3, .getfield 55, [18, 13]), (44, 1, .iload_n 1, []), (45, 1, .aaload, []), (46, 3, .getfield 226, [3, 11]), (49, 1, .iconst 4, []), (50, 2, .iload 4, []), (52, 1, .imul, []), (53, 1, .iaload, []), (54, 1, .iload_n 2, []), (55, 3, .if_icmp .ne 26, []), (58, 1, .iload_n 3, []), (59, 1, .aload_n 0, []), (60, 3, .getfield 55, [18, 13]), (63, 1, .iload_n 1, [])]
def xk_200_2 : List xEn := [(64, 1, .aaload, []), (65, 3, .getfield 226, [3, 11]), (68, 1, .iconst 4, []), (69, 2, .iload 4, []), (71, 1, .imul, []), (72, 1, .iconst 1, []), (73, 1, .iadd, []), (74, 1, .iaload, []), (75, 3, .invokestatic 100, [2, 226]), (78, 3, .goto 4, []), (81, 1, .iload_n 3, []), (82, 1, .istore_n 3, []), (83, 3, .iinc 4 1, []), (86, 3, .goto (-60), []), (89, 1, .aload_n 0, []), (90, 1, .iload_n 1, []), (91, 1, .iload_n 2, []), (92, 3, .invokevirtual 232, [2, 13, 199]), (95, 3, .ifCond .ne 11, [])]
def xk_200_3 : List xEn := [(98, 1, .aload_n 0, []), (99, 1, .iconst 2, []), (100, 3, .invokevirtual 81, [1, 13, 159]), (103, 3, .goto 4, []), (106, 1, .iload_n 3, []), (107, 1, .ireturn, [])]
def xe_200 : xEl := (xm_200, [xk_200_0, xk_200_1, xk_200_2, xk_200_3], [], [])
def xm_201 : xM := (⟨"ViewFoundryModel", "dropped", "(I)I"⟩, prog_14_method_46_code, 2, (Option.some Jvm.ClassFile.FieldType.int), [])
def xk_201_0 : List xEn := [(0, 1, .aload_n 0, []), (1, 1, .iconst 0, []), (2, 3, .putfield 73, [0, 0, 13]), (5, 1, .aload_n 0, []), (6, 1, .iload_n 1, []), (7, 3, .invokevirtual 220, [1, 13, 195]), (10, 3, .ifCond .eq 15, []), (13, 1, .aload_n 0, []), (14, 3, .getfield 55, [18, 13]), (17, 1, .iload_n 1, []), (18, 1, .aaload, []), (19, 3, .getfield 137, [4, 11]), (22, 3, .goto 8, []), (25, 1, .aload_n 0, []), (26, 1, .iconst 1, []), (27, 3, .invokevirtual 81, [1, 13, 159]), (30, 1, .ireturn, [])]
def xe_201 : xEl := (xm_201, [xk_201_0], [], [])
def xm_202 : xM := (⟨"ViewFoundryModel", "held", "(I)I"⟩, prog_14_method_47_code, 2, (Option.some Jvm.ClassFile.FieldType.int), [])
def xk_202_0 : List xEn := [(0, 1, .aload_n 0, []), (1, 1, .iconst 0, []), (2, 3, .putfield 73, [0, 0, 13]), (5, 1, .aload_n 0, []), (6, 1, .iload_n 1, []), (7, 3, .invokevirtual 220, [1, 13, 195]), (10, 3, .ifCond .eq 15, []), (13, 1, .aload_n 0, []), (14, 3, .getfield 55, [18, 13]), (17, 1, .iload_n 1, []), (18, 1, .aaload, []), (19, 3, .getfield 134, [0, 11]), (22, 3, .goto 8, []), (25, 1, .aload_n 0, []), (26, 1, .iconst 1, []), (27, 3, .invokevirtual 81, [1, 13, 159]), (30, 1, .ireturn, [])]
def xe_202 : xEl := (xm_202, [xk_202_0], [], [])
def xm_203 : xM := (⟨"ViewFoundryModel", "copies", "(II)V"⟩, prog_14_method_48_code, 4, (Option.none : Option Jvm.ClassFile.FieldType), [])
def xk_203_0 : List xEn := [(0, 1, .iconst 0, []), (1, 1, .istore_n 3, []), (2, 1, .iload_n 3, []), (3, 1, .iconst 3, []), (4, 3, .if_icmp .ge 49, []), (7, 1, .aload_n 0, []), (8, 3, .getfield 47, [16, 13]), (11, 1, .iconst 3, []), (12, 1, .iload_n 2, []), (13, 1, .imul, []), (14, 1, .iload_n 3, []), (15, 1, .iadd, []), (16, 1, .aload_n 0, []), (17, 3, .getfield 47, [16, 13]), (20, 1, .iconst 3, []), (21, 1, .iload_n 1, []), (22, 1, .imul, []), (23, 1, .iload_n 3, []), (24, 1, .iadd, []), (25, 1, .iaload, []), (26, 1, .iastore, []), (27, 1, .aload_n 0, []), (28, 3, .getfield 50, [17, 13]), (31, 1, .iconst 3, [])]
def xk_203_1 : List xEn := [(32, 1, .iload_n 2, []), (33, 1, .imul, []), (34, 1, .iload_n 3, []), (35, 1, .iadd, []), (36, 1, .aload_n 0, []), (37, 3, .getfield 50, [17, 13]), (40, 1, .iconst 3, []), (41, 1, .iload_n 1, []), (42, 1, .imul, []), (43, 1, .iload_n 3, []), (44, 1, .iadd, []), (45, 1, .iaload, []), (46, 1, .iastore, []), (47, 3, .iinc 3 1, []), (50, 3, .goto (-48), []), (53, 1, .iconst 0, []), (54, 1, .istore_n 3, []), (55, 1, .iload_n 3, []), (56, 1, .iconst 5, []), (57, 3, .if_icmp .ge 32, []), (60, 1, .aload_n 0, []), (61, 3, .getfield 55, [18, 13])]
def xk_203_2 : List xEn := [(64, 1, .iconst 5, []), (65, 1, .iload_n 2, []), (66, 1, .imul, []), (67, 1, .iload_n 3, []), (68, 1, .iadd, []), (69, 1, .aaload, []), (70, 1, .aload_n 0, []), (71, 3, .getfield 55, [18, 13]), (74, 1, .iconst 5, []), (75, 1, .iload_n 1, []), (76, 1, .imul, []), (77, 1, .iload_n 3, []), (78, 1, .iadd, []), (79, 1, .aaload, []), (80, 3, .invokevirtual 235, [1, 11, 152]), (83, 3, .iinc 3 1, []), (86, 3, .goto (-31), []), (89, 1, .return_, [])]
def xe_203 : xEl := (xm_203, [xk_203_0, xk_203_1, xk_203_2], [], [])
def xm_204 : xM := (⟨"ViewFoundryModel", "waiting", "()I"⟩, prog_14_method_49_code, 1, (Option.some Jvm.ClassFile.FieldType.int), [])
def xk_204_0 : List xEn := [(0, 1, .aload_n 0, []), (1, 1, .iconst 0, []), (2, 3, .putfield 73, [0, 0, 13]), (5, 1, .aload_n 0, []), (6, 3, .getfield 62, [19, 13]), (9, 3, .getfield 239, [0, 12]), (12, 1, .ireturn, [])]
def xe_204 : xEl := (xm_204, [xk_204_0], [], [])
def xm_205 : xM := (⟨"ViewFoundryModel", "cut", "()I"⟩, prog_14_method_50_code, 1, (Option.some Jvm.ClassFile.FieldType.int), [])
def xk_205_0 : List xEn := [(0, 1, .aload_n 0, []), (1, 1, .iconst 0, []), (2, 3, .putfield 73, [0, 0, 13]), (5, 1, .aload_n 0, []), (6, 3, .getfield 242, [15, 13]), (9, 3, .ifCond .eq 9, []), (12, 1, .aload_n 0, []), (13, 1, .iconst 1, []), (14, 3, .invokevirtual 81, [1, 13, 159]), (17, 1, .ireturn, []), (18, 1, .aload_n 0, []), (19, 1, .iconst 0, []), (20, 1, .iconst 1, []), (21, 3, .invokevirtual 245, [2, 13, 203]), (24, 1, .aload_n 0, []), (25, 1, .iconst 1, []), (26, 3, .putfield 242, [15, 3, 13]), (29, 1, .aload_n 0, []), (30, 1, .iconst 1, []), (31, 3, .putfield 96, [14, 3, 13])]
def xk_205_1 : List xEn := [(34, 1, .aload_n 0, []), (35, 3, .getfield 66, [20, 13]), (38, 1, .iconst 0, []), (39, 3, .putfield 239, [0, 0, 12]), (42, 1, .aload_n 0, []), (43, 3, .getfield 66, [20, 13]), (46, 1, .aload_n 0, []), (47, 3, .getfield 62, [19, 13]), (50, 3, .invokevirtual 247, [1, 12, 155]), (53, 1, .aload_n 0, []), (54, 3, .getfield 62, [19, 13]), (57, 1, .iconst 0, []), (58, 3, .putfield 239, [0, 0, 12]), (61, 1, .aload_n 0, []), (62, 3, .getfield 66, [20, 13])]
def xk_205_2 : List xEn := [(65, 3, .getfield 239, [0, 12]), (68, 1, .ireturn, [])]
def xe_205 : xEl := (xm_205, [xk_205_0, xk_205_1, xk_205_2], [], [])
def xm_206 : xM := (⟨"ViewFoundryModel", "complete", "()I"⟩, prog_14_method_51_code, 1, (Option.some Jvm.ClassFile.FieldType.int), [])
def xk_206_0 : List xEn := [(0, 1, .aload_n 0, []), (1, 1, .iconst 0, []), (2, 3, .putfield 73, [0, 0, 13]), (5, 1, .aload_n 0, []), (6, 3, .getfield 242, [15, 13]), (9, 3, .ifCond .ne 9, []), (12, 1, .aload_n 0, []), (13, 1, .iconst 1, []), (14, 3, .invokevirtual 81, [1, 13, 159]), (17, 1, .ireturn, []), (18, 1, .aload_n 0, []), (19, 1, .iconst 1, []), (20, 1, .iconst 2, []), (21, 3, .invokevirtual 245, [2, 13, 203]), (24, 1, .aload_n 0, []), (25, 1, .iconst 0, []), (26, 3, .putfield 242, [15, 3, 13]), (29, 1, .aload_n 0, []), (30, 3, .getfield 69, [21, 13])]
def xk_206_1 : List xEn := [(33, 1, .aload_n 0, []), (34, 3, .getfield 66, [20, 13]), (37, 3, .invokevirtual 247, [1, 12, 155]), (40, 1, .aload_n 0, []), (41, 3, .getfield 66, [20, 13]), (44, 1, .iconst 0, []), (45, 3, .putfield 239, [0, 0, 12]), (48, 1, .aload_n 0, []), (49, 3, .getfield 69, [21, 13]), (52, 3, .getfield 239, [0, 12]), (55, 1, .ireturn, [])]
def xe_206 : xEl := (xm_206, [xk_206_0, xk_206_1], [], [])
def xm_207 : xM := (⟨"ViewFoundryModel", "crash", "()I"⟩, prog_14_method_52_code, 2, (Option.some Jvm.ClassFile.FieldType.int), [])
def xk_207_0 : List xEn := [(0, 1, .aload_n 0, []), (1, 1, .iconst 0, []), (2, 3, .putfield 73, [0, 0, 13]), (5, 1, .aload_n 0, []), (6, 3, .getfield 62, [19, 13]), (9, 3, .getfield 239, [0, 12]), (12, 1, .aload_n 0, []), (13, 3, .getfield 66, [20, 13]), (16, 3, .getfield 239, [0, 12]), (19, 1, .iadd, []), (20, 1, .istore_n 1, []), (21, 1, .aload_n 0, []), (22, 1, .iconst 2, []), (23, 1, .iconst 0, []), (24, 3, .invokevirtual 245, [2, 13, 203]), (27, 1, .aload_n 0, []), (28, 1, .iconst 0, []), (29, 3, .putfield 242, [15, 3, 13])]
def xk_207_1 : List xEn := [(32, 1, .aload_n 0, []), (33, 3, .getfield 62, [19, 13]), (36, 1, .iconst 0, []), (37, 3, .putfield 239, [0, 0, 12]), (40, 1, .aload_n 0, []), (41, 3, .getfield 66, [20, 13]), (44, 1, .iconst 0, []), (45, 3, .putfield 239, [0, 0, 12]), (48, 1, .iload_n 1, []), (49, 1, .ireturn, [])]
def xe_207 : xEl := (xm_207, [xk_207_0, xk_207_1], [], [])
def xm_208 : xM := (⟨"ViewFoundryModel", "promised", "()I"⟩, prog_14_method_53_code, 1, (Option.some Jvm.ClassFile.FieldType.int), [])
def xk_208_0 : List xEn := [(0, 1, .aload_n 0, []), (1, 1, .iconst 0, []), (2, 3, .putfield 73, [0, 0, 13]), (5, 1, .aload_n 0, []), (6, 3, .getfield 69, [21, 13]), (9, 3, .getfield 239, [0, 12]), (12, 1, .ireturn, [])]
def xe_208 : xEl := (xm_208, [xk_208_0], [], [])
def xm_209 : xM := (⟨"ViewFoundryModel", "output", "(LViewFoundryModel$Outputs;II)I"⟩, prog_14_method_54_code, 4, (Option.some Jvm.ClassFile.FieldType.int), [])
def xk_209_0 : List xEn := [(0, 1, .aload_n 0, []), (1, 1, .iconst 0, []), (2, 3, .putfield 73, [0, 0, 13]), (5, 1, .iload_n 2, []), (6, 1, .iconst 0, []), (7, 1, .aload_n 1, []), (8, 3, .getfield 239, [0, 12]), (11, 1, .iconst 1, []), (12, 1, .isub, []), (13, 3, .invokestatic 77, [3, 158]), (16, 3, .ifCond .ne 9, []), (19, 1, .aload_n 0, []), (20, 1, .iconst 1, []), (21, 3, .invokevirtual 81, [1, 13, 159]), (24, 1, .ireturn, []), (25, 1, .iload_n 3, []), (26, 1, .iconst 0, []), (27, 1, .iconst 5, []), (28, 3, .invokestatic 77, [3, 158]), (31, 3, .ifCond .eq 17, [])]
def xk_209_1 : List xEn := [(34, 1, .aload_n 1, []), (35, 3, .getfield 251, [1, 12]), (38, 2, .bipush 6, []), (40, 1, .iload_n 2, []), (41, 1, .imul, []), (42, 1, .iload_n 3, []), (43, 1, .iadd, []), (44, 1, .iaload, []), (45, 3, .goto 8, []), (48, 1, .aload_n 0, []), (49, 1, .iconst 2, []), (50, 3, .invokevirtual 81, [1, 13, 159]), (53, 1, .ireturn, [])]
def xe_209 : xEl := (xm_209, [xk_209_0, xk_209_1], [], [])
def xm_210 : xM := (⟨"ViewFoundryModel", "outputAt", "(II)I"⟩, prog_14_method_55_code, 3, (Option.some Jvm.ClassFile.FieldType.int), [])
def xk_210_0 : List xEn := [(0, 1, .aload_n 0, []), (1, 1, .aload_n 0, []), (2, 3, .getfield 69, [21, 13]), (5, 1, .iload_n 1, []), (6, 1, .iload_n 2, []), (7, 3, .invokevirtual 254, [3, 13, 209]), (10, 1, .ireturn, [])]
def xe_210 : xEl := (xm_210, [xk_210_0], [], [])
def xm_211 : xM := (⟨"ViewFoundryModel", "waitingAt", "(II)I"⟩, prog_14_method_56_code, 3, (Option.some Jvm.ClassFile.FieldType.int), [])
def xk_211_0 : List xEn := [(0, 1, .aload_n 0, []), (1, 1, .aload_n 0, []), (2, 3, .getfield 62, [19, 13]), (5, 1, .iload_n 1, []), (6, 1, .iload_n 2, []), (7, 3, .invokevirtual 254, [3, 13, 209]), (10, 1, .ireturn, [])]
def xe_211 : xEl := (xm_211, [xk_211_0], [], [])
def xm_212 : xM := (⟨"ViewFoundryModel", "promisedSum", "(I)I"⟩, prog_14_method_57_code, 4, (Option.some Jvm.ClassFile.FieldType.int), [])
def xk_212_0 : List xEn := [(0, 1, .aload_n 0, []), (1, 1, .iconst 0, []), (2, 3, .putfield 73, [0, 0, 13]), (5, 1, .aload_n 0, []), (6, 1, .iload_n 1, []), (7, 3, .invokevirtual 220, [1, 13, 195]), (10, 3, .ifCond .ne 9, []), (13, 1, .aload_n 0, []), (14, 1, .iconst 1, []), (15, 3, .invokevirtual 81, [1, 13, 159]), (18, 1, .ireturn, []), (19, 1, .iconst 0, []), (20, 1, .istore_n 2, []), (21, 1, .iconst 0, []), (22, 1, .istore_n 3, []), (23, 1, .iload_n 3, []), (24, 1, .aload_n 0, []), (25, 3, .getfield 69, [21, 13]), (28, 3, .getfield 239, [0, 12]), (31, 3, .if_icmp .ge 46, [])]
def xk_212_1 : List xEn := [(34, 1, .iload_n 2, []), (35, 1, .aload_n 0, []), (36, 3, .getfield 69, [21, 13]), (39, 3, .getfield 251, [1, 12]), (42, 2, .bipush 6, []), (44, 1, .iload_n 3, []), (45, 1, .imul, []), (46, 1, .iaload, []), (47, 1, .iload_n 1, []), (48, 3, .if_icmp .ne 20, []), (51, 1, .aload_n 0, []), (52, 3, .getfield 69, [21, 13]), (55, 3, .getfield 251, [1, 12]), (58, 2, .bipush 6, []), (60, 1, .iload_n 3, []), (61, 1, .imul, []), (62, 1, .iconst 5, []), (63, 1, .iadd, [])]
def xk_212_2 : List xEn := [(64, 1, .iaload, []), (65, 3, .goto 4, []), (68, 1, .iconst 0, []), (69, 1, .iadd, []), (70, 1, .istore_n 2, []), (71, 3, .iinc 3 1, []), (74, 3, .goto (-51), []), (77, 1, .iload_n 2, []), (78, 1, .ireturn, [])]
def xe_212 : xEl := (xm_212, [xk_212_0, xk_212_1, xk_212_2], [], [])
def xm_213 : xM := (⟨"ViewFoundryModel", "heldOf", "(I)I"⟩, prog_14_method_58_code, 5, (Option.some Jvm.ClassFile.FieldType.int), [])
def xk_213_0 : List xEn := [(0, 1, .iconst 0, []), (1, 1, .istore_n 2, []), (2, 1, .iconst 0, []), (3, 1, .istore_n 3, []), (4, 1, .iload_n 3, []), (5, 1, .aload_n 0, []), (6, 3, .getfield 93, [7, 13]), (9, 3, .if_icmp .ge 61, []), (12, 1, .iconst 0, []), (13, 2, .istore 4, []), (15, 2, .iload 4, []), (17, 1, .aload_n 0, []), (18, 3, .getfield 55, [18, 13]), (21, 1, .iload_n 3, []), (22, 1, .aaload, []), (23, 3, .getfield 134, [0, 11]), (26, 3, .if_icmp .ge 38, []), (29, 1, .iload_n 2, []), (30, 1, .aload_n 0, []), (31, 3, .getfield 55, [18, 13])]
def xk_213_1 : List xEn := [(34, 1, .iload_n 3, []), (35, 1, .aaload, []), (36, 3, .getfield 122, [1, 11]), (39, 2, .bipush 10, []), (41, 2, .iload 4, []), (43, 1, .imul, []), (44, 1, .iconst 1, []), (45, 1, .iadd, []), (46, 1, .iaload, []), (47, 1, .iload_n 1, []), (48, 3, .if_icmp .ne 7, []), (51, 1, .iconst 1, []), (52, 3, .goto 4, []), (55, 1, .iconst 0, []), (56, 1, .iadd, []), (57, 1, .istore_n 2, []), (58, 3, .iinc 4 1, []), (61, 3, .goto (-46), [])]
def xk_213_2 : List xEn := [(64, 3, .iinc 3 1, []), (67, 3, .goto (-63), []), (70, 1, .iload_n 2, []), (71, 1, .ireturn, [])]
def xe_213 : xEl := (xm_213, [xk_213_0, xk_213_1, xk_213_2], [], [])
def xm_214 : xM := (⟨"ViewFoundryModel", "moveKey", "(II)I"⟩, prog_14_method_59_code, 3, (Option.some Jvm.ClassFile.FieldType.int), [])
def xk_214_0 : List xEn := [(0, 1, .aload_n 0, []), (1, 1, .iconst 0, []), (2, 3, .putfield 73, [0, 0, 13]), (5, 1, .iload_n 1, []), (6, 1, .iconst 0, []), (7, 2, .bipush 7, []), (9, 3, .invokestatic 77, [3, 158]), (12, 3, .ifCond .eq 12, []), (15, 1, .iload_n 2, []), (16, 1, .iconst 0, []), (17, 1, .iconst 2, []), (18, 3, .invokestatic 77, [3, 158]), (21, 3, .ifCond .ne 9, []), (24, 1, .aload_n 0, []), (25, 1, .iconst 1, []), (26, 3, .invokevirtual 81, [1, 13, 159]), (29, 1, .ireturn, []), (30, 1, .aload_n 0, []), (31, 3, .getfield 25, [6, 13])]
def xk_214_1 : List xEn := [(34, 1, .iload_n 1, []), (35, 1, .iload_n 2, []), (36, 1, .iastore, []), (37, 1, .aload_n 0, []), (38, 1, .iload_n 1, []), (39, 3, .invokevirtual 258, [1, 13, 213]), (42, 1, .ireturn, [])]
def xe_214 : xEl := (xm_214, [xk_214_0, xk_214_1], [], [])
def xm_215 : xM := (⟨"ViewFoundryModel", "workerOf", "(I)I"⟩, prog_14_method_60_code, 2, (Option.some Jvm.ClassFile.FieldType.int), [])
def xk_215_0 : List xEn := [(0, 1, .aload_n 0, []), (1, 1, .iconst 0, []), (2, 3, .putfield 73, [0, 0, 13]), (5, 1, .iload_n 1, []), (6, 1, .iconst 0, []), (7, 2, .bipush 7, []), (9, 3, .invokestatic 77, [3, 158]), (12, 3, .ifCond .eq 12, []), (15, 1, .aload_n 0, []), (16, 3, .getfield 25, [6, 13]), (19, 1, .iload_n 1, []), (20, 1, .iaload, []), (21, 3, .goto 8, []), (24, 1, .aload_n 0, []), (25, 1, .iconst 1, []), (26, 3, .invokevirtual 81, [1, 13, 159]), (29, 1, .ireturn, [])]
def xe_215 : xEl := (xm_215, [xk_215_0], [], [])
def xm_216 : xM := (⟨"ViewFoundryModel", "load", "(I)I"⟩, prog_14_method_61_code, 4, (Option.some Jvm.ClassFile.FieldType.int), [])
def xk_216_0 : List xEn := [(0, 1, .aload_n 0, []), (1, 1, .iconst 0, []), (2, 3, .putfield 73, [0, 0, 13]), (5, 1, .iload_n 1, []), (6, 1, .iconst 0, []), (7, 1, .iconst 2, []), (8, 3, .invokestatic 77, [3, 158]), (11, 3, .ifCond .ne 9, []), (14, 1, .aload_n 0, []), (15, 1, .iconst 1, []), (16, 3, .invokevirtual 81, [1, 13, 159]), (19, 1, .ireturn, []), (20, 1, .iconst 0, []), (21, 1, .istore_n 2, []), (22, 1, .iconst 0, []), (23, 1, .istore_n 3, []), (24, 1, .iload_n 3, []), (25, 2, .bipush 8, []), (27, 3, .if_icmp .ge 31, []), (30, 1, .iload_n 2, []), (31, 1, .aload_n 0, [])]
def xk_216_1 : List xEn := [(32, 3, .getfield 25, [6, 13]), (35, 1, .iload_n 3, []), (36, 1, .iaload, []), (37, 1, .iload_n 1, []), (38, 3, .if_icmp .ne 11, []), (41, 1, .aload_n 0, []), (42, 1, .iload_n 3, []), (43, 3, .invokevirtual 258, [1, 13, 213]), (46, 3, .goto 4, []), (49, 1, .iconst 0, []), (50, 1, .iadd, []), (51, 1, .istore_n 2, []), (52, 3, .iinc 3 1, []), (55, 3, .goto (-31), []), (58, 1, .iload_n 2, []), (59, 1, .ireturn, [])]
def xe_216 : xEl := (xm_216, [xk_216_0, xk_216_1], [], [])
def xm_217 : xM := (⟨"ViewFoundryModel", "mean", "(II)F"⟩, prog_14_method_62_code, 6, (Option.some Jvm.ClassFile.FieldType.float), [])
def xk_217_0 : List xEn := [(0, 1, .lconst 0, []), (1, 1, .lstore_n 3, []), (2, 1, .iconst 0, []), (3, 2, .istore 5, []), (5, 2, .iload 5, []), (7, 1, .aload_n 0, []), (8, 3, .getfield 55, [18, 13]), (11, 1, .iload_n 1, []), (12, 1, .aaload, []), (13, 3, .getfield 223, [2, 11]), (16, 3, .if_icmp .ge 51, []), (19, 1, .lload_n 3, []), (20, 1, .aload_n 0, []), (21, 3, .getfield 55, [18, 13]), (24, 1, .iload_n 1, []), (25, 1, .aaload, []), (26, 3, .getfield 226, [3, 11]), (29, 1, .iconst 4, []), (30, 2, .iload 5, [])]
def xk_217_1 : List xEn := [(32, 1, .imul, []), (33, 1, .iaload, []), (34, 1, .iload_n 2, []), (35, 3, .if_icmp .ne 23, []), (38, 1, .aload_n 0, []), (39, 3, .getfield 55, [18, 13]), (42, 1, .iload_n 1, []), (43, 1, .aaload, []), (44, 3, .getfield 226, [3, 11]), (47, 1, .iconst 4, []), (48, 2, .iload 5, []), (50, 1, .imul, []), (51, 1, .iconst 3, []), (52, 1, .iadd, []), (53, 1, .iaload, []), (54, 1, .i2l, []), (55, 3, .goto 4, []), (58, 1, .lconst 0, []), (59, 1, .ladd, []), (60, 1, .lstore_n 3, []), (61, 3, .iinc 5 1, [])]
def xk_217_2 : List xEn := [(64, 3, .goto (-59), []), (67, 1, .lload_n 3, []), (68, 1, .l2d, []), (69, 1, .aload_n 0, []), (70, 1, .iload_n 1, []), (71, 1, .iload_n 2, []), (72, 3, .invokevirtual 232, [2, 13, 199]), (75, 1, .i2d, []), (76, 1, .ddiv, []), (77, 3, .invokestatic 261, [1, 222]), (80, 1, .d2f, []), (81, 1, .freturn, [])]
def xe_217 : xEl := (xm_217, [xk_217_0, xk_217_1, xk_217_2], [], [])
def xm_218 : xM := (⟨"ViewFoundryModel", "meanOf", "(II)F"⟩, prog_14_method_63_code, 3, (Option.some Jvm.ClassFile.FieldType.float), [])
def xk_218_0 : List xEn := [(0, 1, .aload_n 0, []), (1, 1, .aload_n 0, []), (2, 1, .iload_n 1, []), (3, 3, .invokevirtual 220, [1, 13, 195]), (6, 3, .ifCond .ne 7, []), (9, 1, .iconst 1, []), (10, 3, .goto 17, []), (13, 1, .aload_n 0, []), (14, 1, .iload_n 1, []), (15, 1, .iload_n 2, []), (16, 3, .invokevirtual 232, [2, 13, 199]), (19, 3, .ifCond .ne 7, []), (22, 1, .iconst 2, []), (23, 3, .goto 4, []), (26, 1, .iconst 0, []), (27, 3, .putfield 73, [0, 0, 13]), (30, 1, .aload_n 0, []), (31, 3, .getfield 73, [0, 13])]
def xk_218_1 : List xEn := [(34, 3, .ifCond .le 7, []), (37, 1, .fconst 0, []), (38, 3, .goto 9, []), (41, 1, .aload_n 0, []), (42, 1, .iload_n 1, []), (43, 1, .iload_n 2, []), (44, 3, .invokevirtual 265, [2, 13, 217]), (47, 1, .freturn, [])]
def xe_218 : xEl := (xm_218, [xk_218_0, xk_218_1], [], [])
def xm_219 : xM := (⟨"ViewFoundryModel", "rest", "(III)I"⟩, prog_14_method_64_code, 4, (Option.some Jvm.ClassFile.FieldType.int), [])
def xk_219_0 : List xEn := [(0, 1, .aload_n 0, []), (1, 1, .iconst 0, []), (2, 3, .putfield 73, [0, 0, 13]), (5, 1, .aload_n 0, []), (6, 1, .iload_n 1, []), (7, 3, .invokevirtual 220, [1, 13, 195]), (10, 3, .ifCond .ne 9, []), (13, 1, .aload_n 0, []), (14, 1, .iconst 1, []), (15, 3, .invokevirtual 81, [1, 13, 159]), (18, 1, .ireturn, []), (19, 1, .aload_n 0, []), (20, 1, .iload_n 1, []), (21, 1, .iload_n 2, []), (22, 3, .invokevirtual 232, [2, 13, 199]), (25, 3, .ifCond .ne 9, []), (28, 1, .aload_n 0, []), (29, 1, .iconst 2, []), (30, 3, .invokevirtual 81, [1, 13, 159])]
def xk_219_1 : List xEn := [(33, 1, .ireturn, []), (34, 1, .iload_n 3, []), (35, 3, .ifCond .ne 11, []), (38, 1, .aload_n 0, []), (39, 1, .iconst 3, []), (40, 3, .invokevirtual 81, [1, 13, 159]), (43, 3, .goto 19, []), (46, 1, .aload_n 0, []), (47, 1, .iload_n 1, []), (48, 1, .iload_n 2, []), (49, 3, .invokevirtual 265, [2, 13, 217]), (52, 1, .iload_n 3, []), (53, 1, .i2f, []), (54, 3, .ldc_w 269, [5, 1082130432]), (57, 1, .fdiv, []), (58, 1, .frem, []), (59, 3, .invokestatic 125, [1, 170]), (62, 1, .ireturn, [])]
def xe_219 : xEl := (xm_219, [xk_219_0, xk_219_1], [], [])
def xm_220 : xM := (⟨"ViewFoundryModel", "droppedShare", "()D"⟩, prog_14_method_65_code, 5, (Option.some Jvm.ClassFile.FieldType.double), [])
def xk_220_0 : List xEn := [(0, 1, .iconst 0, []), (1, 1, .istore_n 1, []), (2, 1, .iconst 0, []), (3, 1, .istore_n 2, []), (4, 1, .iconst 0, []), (5, 1, .istore_n 3, []), (6, 1, .iload_n 3, []), (7, 1, .aload_n 0, []), (8, 3, .getfield 93, [7, 13]), (11, 3, .if_icmp .ge 21, []), (14, 1, .iload_n 1, []), (15, 1, .aload_n 0, []), (16, 3, .getfield 55, [18, 13]), (19, 1, .iload_n 3, []), (20, 1, .aaload, []), (21, 3, .getfield 137, [4, 11]), (24, 1, .iadd, []), (25, 1, .istore_n 1, []), (26, 3, .iinc 3 1, []), (29, 3, .goto (-23), [])]
def xk_220_1 : List xEn := [(32, 1, .iconst 0, []), (33, 1, .istore_n 3, []), (34, 1, .iload_n 3, []), (35, 1, .iconst 3, []), (36, 3, .if_icmp .ge 53, []), (39, 1, .iconst 0, []), (40, 2, .istore 4, []), (42, 2, .iload 4, []), (44, 1, .aload_n 0, []), (45, 3, .getfield 47, [16, 13]), (48, 1, .iload_n 3, []), (49, 1, .iaload, []), (50, 3, .if_icmp .ge 33, []), (53, 1, .iload_n 2, []), (54, 1, .aload_n 0, []), (55, 3, .getfield 13, [2, 13]), (58, 2, .bipush 80, []), (60, 1, .iload_n 3, []), (61, 1, .imul, []), (62, 2, .iload 4, [])]
def xk_220_2 : List xEn := [(64, 1, .iadd, []), (65, 1, .iaload, []), (66, 1, .iconst (-1), []), (67, 3, .if_icmp .ne 7, []), (70, 1, .iconst 0, []), (71, 3, .goto 4, []), (74, 1, .iconst 1, []), (75, 1, .iadd, []), (76, 1, .istore_n 2, []), (77, 3, .iinc 4 1, []), (80, 3, .goto (-38), []), (83, 3, .iinc 3 1, []), (86, 3, .goto (-52), []), (89, 1, .aload_n 0, []), (90, 1, .iload_n 2, []), (91, 3, .ifCond .ne 7, []), (94, 1, .iconst 1, []), (95, 3, .goto 4, [])]
def xk_220_3 : List xEn := [(98, 1, .iconst 0, []), (99, 3, .putfield 73, [0, 0, 13]), (102, 1, .aload_n 0, []), (103, 3, .getfield 73, [0, 13]), (106, 3, .ifCond .le 7, []), (109, 1, .dconst 0, []), (110, 3, .goto 8, []), (113, 1, .iload_n 1, []), (114, 1, .i2d, []), (115, 1, .iload_n 2, []), (116, 1, .i2d, []), (117, 1, .ddiv, []), (118, 1, .dreturn, [])]
def xe_220 : xEl := (xm_220, [xk_220_0, xk_220_1, xk_220_2, xk_220_3], [], [])
def xm_221 : xM := (⟨"ViewFoundryModel", "isSound", "()Z"⟩, prog_14_method_66_code, 1, (Option.some Jvm.ClassFile.FieldType.boolean), [])
def xk_221_0 : List xEn := [(0, 1, .aload_n 0, []), (1, 1, .iconst 0, []), (2, 3, .putfield 73, [0, 0, 13]), (5, 1, .iconst 1, []), (6, 1, .ireturn, [])]
def xe_221 : xEl := (xm_221, [xk_221_0], [], [])
def xm_222 : xM := (⟨"java/lang/Math", "floor", "(D)D"⟩, prog_26_method_17_code, 2, (Option.some Jvm.ClassFile.FieldType.double), [])
def xk_222_0 : List xEn := [(0, 1, .dload_n 0, []), (1, 3, .invokestatic 56, [1, 228]), (4, 1, .dreturn, [])]
def xe_222 : xEl := (xm_222, [xk_222_0], [], [])
def xm_223 : xM := (⟨"java/lang/Math", "abs", "(I)I"⟩, prog_26_method_59_code, 1, (Option.some Jvm.ClassFile.FieldType.int), [])
def xk_223_0 : List xEn := [(0, 1, .iload_n 0, []), (1, 3, .ifCond .ge 8, []), (4, 1, .iload_n 0, []), (5, 1, .ineg, []), (6, 3, .goto 4, []), (9, 1, .iload_n 0, []), (10, 1, .ireturn, [])]
def xe_223 : xEl := (xm_223, [xk_223_0], [], [])
def xm_224 : xM := (⟨"java/lang/Math", "abs", "(J)J"⟩, prog_26_method_61_code, 2, (Option.some Jvm.ClassFile.FieldType.long), [])
def xk_224_0 : List xEn := [(0, 1, .lload_n 0, []), (1, 1, .lconst 0, []), (2, 1, .lcmp, []), (3, 3, .ifCond .ge 8, []), (6, 1, .lload_n 0, []), (7, 1, .lneg, []), (8, 3, .goto 4, []), (11, 1, .lload_n 0, []), (12, 1, .lreturn, [])]
def xe_224 : xEl := (xm_224, [xk_224_0], [], [])
def xm_225 : xM := (⟨"java/lang/Math", "max", "(II)I"⟩, prog_26_method_65_code, 2, (Option.some Jvm.ClassFile.FieldType.int), [])
def xk_225_0 : List xEn := [(0, 1, .iload_n 0, []), (1, 1, .iload_n 1, []), (2, 3, .if_icmp .lt 7, []), (5, 1, .iload_n 0, []), (6, 3, .goto 4, []), (9, 1, .iload_n 1, []), (10, 1, .ireturn, [])]
def xe_225 : xEl := (xm_225, [xk_225_0], [], [])
def xm_226 : xM := (⟨"java/lang/Math", "min", "(II)I"⟩, prog_26_method_69_code, 2, (Option.some Jvm.ClassFile.FieldType.int), [])
def xk_226_0 : List xEn := [(0, 1, .iload_n 0, []), (1, 1, .iload_n 1, []), (2, 3, .if_icmp .gt 7, []), (5, 1, .iload_n 0, []), (6, 3, .goto 4, []), (9, 1, .iload_n 1, []), (10, 1, .ireturn, [])]
def xe_226 : xEl := (xm_226, [xk_226_0], [], [])
def xm_227 : xM := (⟨"java/lang/Math", "getExponent", "(D)I"⟩, prog_26_method_92_code, 2, (Option.some Jvm.ClassFile.FieldType.int), [])
def xk_227_0 : List xEn := [(0, 1, .dload_n 0, []), (4, 3, .ldc2_w 87, [1, 9218868437227405312]), (7, 1, .land, []), (8, 2, .bipush 52, []), (10, 1, .lshr, []), (11, 3, .ldc2_w 322, [1, 1023]), (14, 1, .lsub, []), (15, 1, .l2i, []), (16, 1, .ireturn, [])]
def xe_227 : xEl := (xm_227, [xk_227_0], [], [])
def xm_228 : xM := (⟨"java/lang/StrictMath", "floor", "(D)D"⟩, prog_29_method_17_code, 2, (Option.some Jvm.ClassFile.FieldType.double), [])
def xk_228_0 : List xEn := [(0, 1, .dload_n 0, []), (1, 3, .ldc2_w 64, [6, 13830554455654793216]), (4, 1, .dconst 0, []), (5, 3, .ldc2_w 64, [6, 13830554455654793216]), (8, 3, .invokestatic 60, [4, 229]), (11, 1, .dreturn, [])]
def xe_228 : xEl := (xm_228, [xk_228_0], [], [])
def xm_229 : xM := (⟨"java/lang/StrictMath", "floorOrCeil", "(DDDD)D"⟩, prog_29_method_18_code, 15, (Option.some Jvm.ClassFile.FieldType.double), [])
def xk_229_0 : List xEn := [(0, 1, .dload_n 0, []), (1, 3, .invokestatic 66, [1, 227]), (4, 2, .istore 8, []), (6, 2, .iload 8, []), (8, 3, .ifCond .ge 26, []), (11, 1, .dload_n 0, []), (12, 1, .dconst 0, []), (13, 1, .dcmp .l, []), (14, 3, .ifCond .ne 7, []), (17, 1, .dload_n 0, []), (18, 3, .goto 15, []), (21, 1, .dload_n 0, []), (22, 1, .dconst 0, []), (23, 1, .dcmp .g, []), (24, 3, .ifCond .ge 7, []), (27, 1, .dload_n 2, []), (28, 3, .goto 5, []), (31, 2, .dload 4, [])]
def xk_229_1 : List xEn := [(33, 1, .dreturn, []), (34, 2, .iload 8, []), (36, 2, .bipush 52, []), (38, 3, .if_icmp .lt 5, []), (41, 1, .dload_n 0, []), (42, 1, .dreturn, []), (46, 3, .ifCond .ne 23, []), (49, 2, .iload 8, []), (51, 3, .ifCond .lt 10, []), (54, 2, .iload 8, []), (56, 2, .bipush 51, []), (58, 3, .if_icmp .le 11, [])]
def xk_229_2 : List xEn := [(64, 1, .dup, []), (68, 1, .athrow, []), (69, 1, .dload_n 0, []), (73, 2, .lstore 9, []), (75, 3, .ldc2_w 85, [1, 4503599627370495]), (78, 2, .iload 8, []), (80, 1, .lshr, []), (81, 2, .lstore 11, []), (83, 2, .lload 11, []), (85, 2, .lload 9, []), (87, 1, .land, []), (88, 1, .lconst 0, []), (89, 1, .lcmp, []), (90, 3, .ifCond .ne 5, []), (93, 1, .dload_n 0, []), (94, 1, .dreturn, []), (95, 2, .lload 9, [])]
def xk_229_3 : List xEn := [(97, 2, .lload 11, []), (99, 3, .ldc2_w 87, [1, 18446744073709551615]), (102, 1, .lxor, []), (103, 1, .land, []), (107, 2, .dstore 13, []), (109, 2, .dload 6, []), (111, 1, .dload_n 0, []), (112, 1, .dmul, []), (113, 1, .dconst 0, []), (114, 1, .dcmp .l, []), (115, 3, .ifCond .le 10, []), (118, 2, .dload 13, []), (120, 2, .dload 6, []), (122, 1, .dadd, []), (123, 2, .dstore 13, []), (125, 2, .dload 13, []), (127, 1, .dreturn, [])]
def xe_229 : xEl := (xm_229, [xk_229_0, xk_229_1, xk_229_2, xk_229_3], [], [])
def xm_230 : xM := (⟨"java/util/AbstractCollection", "<init>", "()V"⟩, prog_35_method_1_code, 1, (Option.none : Option Jvm.ClassFile.FieldType), [])
def xk_230_0 : List xEn := [(0, 1, .aload_n 0, []), (1, 3, .invokespecial 1, []), (4, 1, .return_, [])]
def xe_230 : xEl := (xm_230, [xk_230_0], [], [])
def xm_231 : xM := (⟨"java/util/AbstractList", "<init>", "()V"⟩, prog_36_method_1_code, 1, (Option.none : Option Jvm.ClassFile.FieldType), [])
def xk_231_0 : List xEn := [(0, 1, .aload_n 0, []), (1, 3, .invokespecial 1, [0, 230]), (4, 1, .aload_n 0, []), (5, 1, .iconst 0, []), (6, 3, .putfield 7, [0, 0, 0]), (9, 1, .return_, [])]
def xe_231 : xEl := (xm_231, [xk_231_0], [], [])
def xm_232 : xM := (⟨"java/util/ArrayList", "<init>", "()V"⟩, prog_37_method_2_code, 1, (Option.none : Option Jvm.ClassFile.FieldType), [])
def xk_232_0 : List xEn := [(0, 1, .aload_n 0, []), (1, 3, .invokespecial 1, [0, 231]), (4, 1, .aload_n 0, []), (5, 3, .getstatic 39, [77]), (8, 3, .putfield 9, [1, 2, 0]), (11, 1, .return_, [])]
def xe_232 : xEl := (xm_232, [xk_232_0], [], [])
def xm_233 : xM := (⟨"java/util/ArrayList", "grow", "(I)[Ljava/lang/Object;"⟩, prog_37_method_6_code, 4, (Option.some (Jvm.ClassFile.FieldType.array (Jvm.ClassFile.FieldType.object "java/lang/Object"))), [])
def xk_233_0 : List xEn := [(0, 1, .aload_n 0, []), (1, 3, .getfield 9, [1, 0]), (4, 1, .arraylength, []), (5, 1, .istore_n 2, []), (6, 1, .iload_n 2, []), (7, 3, .ifCond .gt 13, []), (10, 1, .aload_n 0, []), (11, 3, .getfield 9, [1, 0]), (14, 3, .getstatic 39, [77]), (17, 3, .if_acmp .eq 28, []), (20, 1, .iload_n 2, []), (21, 1, .iload_n 1, []), (22, 1, .iload_n 2, []), (23, 1, .isub, []), (24, 1, .iload_n 2, []), (25, 1, .iconst 1, []), (26, 1, .ishr, []), (27, 3, .invokestatic 73, [3, 250]), (30, 1, .istore_n 3, []), (31, 1, .aload_n 0, [])]
def xk_233_1 : List xEn := [(32, 1, .aload_n 0, []), (33, 3, .getfield 9, [1, 0]), (36, 1, .iload_n 3, []), (37, 3, .invokestatic 66, [2, 246]), (40, 1, .dup_x1, []), (41, 3, .putfield 9, [1, 2, 0]), (44, 1, .areturn, []), (45, 1, .aload_n 0, []), (46, 2, .bipush 10, []), (48, 1, .iload_n 1, []), (49, 3, .invokestatic 79, [2, 225]), (52, 3, .anewarray 7, [4]), (55, 1, .dup_x1, []), (56, 3, .putfield 9, [1, 2, 0]), (59, 1, .areturn, [])]
def xe_233 : xEl := (xm_233, [xk_233_0, xk_233_1], [], [])
def xm_234 : xM := (⟨"java/util/ArrayList", "grow", "()[Ljava/lang/Object;"⟩, prog_37_method_7_code, 1, (Option.some (Jvm.ClassFile.FieldType.array (Jvm.ClassFile.FieldType.object "java/lang/Object"))), [])
def xk_234_0 : List xEn := [(0, 1, .aload_n 0, []), (1, 1, .aload_n 0, []), (2, 3, .getfield 48, [2, 0]), (5, 1, .iconst 1, []), (6, 1, .iadd, []), (7, 3, .invokevirtual 69, [1, 0, 233]), (10, 1, .areturn, [])]
def xe_234 : xEl := (xm_234, [xk_234_0], [], [])
def xm_235 : xM := (⟨"java/util/ArrayList", "size", "()I"⟩, prog_37_method_8_code, 1, (Option.some Jvm.ClassFile.FieldType.int), [])
def xk_235_0 : List xEn := [(0, 1, .aload_n 0, []), (1, 3, .getfield 48, [2, 0]), (4, 1, .ireturn, [])]
def xe_235 : xEl := (xm_235, [xk_235_0], [], [])
def xm_236 : xM := (⟨"java/util/ArrayList", "isEmpty", "()Z"⟩, prog_37_method_9_code, 1, (Option.some Jvm.ClassFile.FieldType.boolean), [])
def xk_236_0 : List xEn := [(0, 1, .aload_n 0, []), (1, 3, .getfield 48, [2, 0]), (4, 3, .ifCond .ne 7, []), (7, 1, .iconst 1, []), (8, 3, .goto 4, []), (11, 1, .iconst 0, []), (12, 1, .ireturn, [])]
def xe_236 : xEl := (xm_236, [xk_236_0], [], [])
def xm_237 : xM := (⟨"java/util/ArrayList", "elementData", "(I)Ljava/lang/Object;"⟩, prog_37_method_18_code, 2, (Option.some (Jvm.ClassFile.FieldType.object "java/lang/Object")), [])
def xk_237_0 : List xEn := [(0, 1, .aload_n 0, []), (1, 3, .getfield 9, [1, 0]), (4, 1, .iload_n 1, []), (5, 1, .aaload, []), (6, 1, .areturn, [])]
def xe_237 : xEl := (xm_237, [xk_237_0], [], [])
def xm_238 : xM := (⟨"java/util/ArrayList", "get", "(I)Ljava/lang/Object;"⟩, prog_37_method_20_code, 2, (Option.some (Jvm.ClassFile.FieldType.object "java/lang/Object")), [])
def xk_238_0 : List xEn := [(0, 1, .iload_n 1, []), (1, 1, .aload_n 0, []), (2, 3, .getfield 48, [2, 0]), (5, 3, .invokestatic 118, [2, 249]), (8, 1, .pop, []), (9, 1, .aload_n 0, []), (10, 1, .iload_n 1, []), (11, 3, .invokevirtual 123, [1, 0, 237]), (14, 1, .areturn, [])]
def xe_238 : xEl := (xm_238, [xk_238_0], [], [])
def xm_239 : xM := (⟨"java/util/ArrayList", "add", "(Ljava/lang/Object;[Ljava/lang/Object;I)V"⟩, prog_37_method_24_code, 4, (Option.none : Option Jvm.ClassFile.FieldType), [])
def xk_239_0 : List xEn := [(0, 1, .iload_n 3, []), (1, 1, .aload_n 2, []), (2, 1, .arraylength, []), (3, 3, .if_icmp .ne 8, []), (6, 1, .aload_n 0, []), (7, 3, .invokevirtual 129, [0, 0, 234]), (10, 1, .astore_n 2, []), (11, 1, .aload_n 2, []), (12, 1, .iload_n 3, []), (13, 1, .aload_n 1, []), (14, 1, .aastore, [11, 0, 1, 2, 3, 4, 5, 6, 7, 8, 9, 10, 12, 13]), (15, 1, .aload_n 0, []), (16, 1, .iload_n 3, []), (17, 1, .iconst 1, []), (18, 1, .iadd, []), (19, 3, .putfield 48, [2, 0, 0]), (22, 1, .return_, [])]
def xe_239 : xEl := (xm_239, [xk_239_0], [], [])
def xm_240 : xM := (⟨"java/util/ArrayList", "add", "(Ljava/lang/Object;)Z"⟩, prog_37_method_25_code, 2, (Option.some Jvm.ClassFile.FieldType.boolean), [])
def xk_240_0 : List xEn := [(0, 1, .aload_n 0, []), (1, 1, .dup, []), (2, 3, .getfield 63, [0, 0]), (5, 1, .iconst 1, []), (6, 1, .iadd, []), (7, 3, .putfield 63, [0, 0, 0]), (10, 1, .aload_n 0, []), (11, 1, .aload_n 1, []), (12, 1, .aload_n 0, []), (13, 3, .getfield 9, [1, 0]), (16, 1, .aload_n 0, []), (17, 3, .getfield 48, [2, 0]), (20, 3, .invokevirtual 131, [3, 0, 239]), (23, 1, .iconst 1, []), (24, 1, .ireturn, [])]
def xe_240 : xEl := (xm_240, [xk_240_0], [], [])
def xm_241 : xM := (⟨"java/util/ArrayList", "remove", "(I)Ljava/lang/Object;"⟩, prog_37_method_29_code, 4, (Option.some (Jvm.ClassFile.FieldType.object "java/lang/Object")), [])
def xk_241_0 : List xEn := [(0, 1, .iload_n 1, []), (1, 1, .aload_n 0, []), (2, 3, .getfield 48, [2, 0]), (5, 3, .invokestatic 118, [2, 249]), (8, 1, .pop, []), (9, 1, .aload_n 0, []), (10, 3, .getfield 9, [1, 0]), (13, 1, .astore_n 2, []), (14, 1, .aload_n 2, []), (15, 1, .iload_n 1, []), (16, 1, .aaload, []), (17, 1, .astore_n 3, []), (18, 1, .aload_n 0, []), (19, 1, .aload_n 2, []), (20, 1, .iload_n 1, []), (21, 3, .invokevirtual 144, [2, 0, 242]), (24, 1, .aload_n 3, []), (25, 1, .areturn, [])]
def xe_241 : xEl := (xm_241, [xk_241_0], [], [])
def xm_242 : xM := (⟨"java/util/ArrayList", "fastRemove", "([Ljava/lang/Object;I)V"⟩, prog_37_method_39_code, 4, (Option.none : Option Jvm.ClassFile.FieldType), [])
def xk_242_0 : List xEn := [(0, 1, .aload_n 0, []), (1, 1, .dup, []), (2, 3, .getfield 63, [0, 0]), (5, 1, .iconst 1, []), (6, 1, .iadd, []), (7, 3, .putfield 63, [0, 0, 0]), (10, 1, .aload_n 0, []), (11, 3, .getfield 48, [2, 0]), (14, 1, .iconst 1, []), (15, 1, .isub, []), (16, 1, .dup, []), (17, 1, .istore_n 3, []), (18, 1, .iload_n 2, []), (19, 3, .if_icmp .le 15, []), (22, 1, .aload_n 1, []), (23, 1, .iload_n 2, []), (24, 1, .iconst 1, []), (25, 1, .iadd, []), (26, 1, .aload_n 1, []), (27, 1, .iload_n 2, []), (28, 1, .iload_n 3, []), (29, 1, .iload_n 2, []), (30, 1, .isub, [])]
def xk_242_1 : List xEn := [(34, 1, .aload_n 1, []), (35, 1, .aload_n 0, []), (36, 1, .iload_n 3, []), (37, 1, .dup_x1, []), (38, 3, .putfield 48, [2, 0, 0]), (41, 1, .aconst_null, []), (42, 1, .aastore, [11, 0, 1, 2, 3, 4, 5, 6, 7, 8, 9, 10, 12, 13]), (43, 1, .return_, [])]
def xe_242 : xEl := (xm_242, [xk_242_0, xk_242_1], [], [])
def xm_243 : xM := (⟨"java/util/ArrayList", "clear", "()V"⟩, prog_37_method_40_code, 4, (Option.none : Option Jvm.ClassFile.FieldType), [])
def xk_243_0 : List xEn := [(0, 1, .aload_n 0, []), (1, 1, .dup, []), (2, 3, .getfield 63, [0, 0]), (5, 1, .iconst 1, []), (6, 1, .iadd, []), (7, 3, .putfield 63, [0, 0, 0]), (10, 1, .aload_n 0, []), (11, 3, .getfield 9, [1, 0]), (14, 1, .astore_n 1, []), (15, 1, .aload_n 0, []), (16, 3, .getfield 48, [2, 0]), (19, 1, .istore_n 2, []), (20, 1, .aload_n 0, []), (21, 1, .iconst 0, []), (22, 1, .dup_x1, []), (23, 3, .putfield 48, [2, 0, 0]), (26, 1, .istore_n 3, []), (27, 1, .iload_n 3, []), (28, 1, .iload_n 2, []), (29, 3, .if_icmp .ge 13, [])]
def xk_243_1 : List xEn := [(32, 1, .aload_n 1, []), (33, 1, .iload_n 3, []), (34, 1, .aconst_null, []), (35, 1, .aastore, [11, 0, 1, 2, 3, 4, 5, 6, 7, 8, 9, 10, 12, 13]), (36, 3, .iinc 3 1, []), (39, 3, .goto (-12), []), (42, 1, .return_, [])]
def xe_243 : xEl := (xm_243, [xk_243_0, xk_243_1], [], [])
def xm_244 : xM := (⟨"java/util/Arrays", "fill", "([JJ)V"⟩, prog_38_method_101_code, 5, (Option.none : Option Jvm.ClassFile.FieldType), [])
def xk_244_0 : List xEn := [(0, 1, .iconst 0, []), (1, 1, .istore_n 3, []), (2, 1, .aload_n 0, []), (3, 1, .arraylength, []), (4, 2, .istore 4, []), (6, 1, .iload_n 3, []), (7, 2, .iload 4, []), (9, 3, .if_icmp .ge 13, []), (12, 1, .aload_n 0, []), (13, 1, .iload_n 3, []), (14, 1, .lload_n 1, []), (15, 1, .lastore, []), (16, 3, .iinc 3 1, []), (19, 3, .goto (-13), []), (22, 1, .return_, [])]
def xe_244 : xEl := (xm_244, [xk_244_0], [], [])
def xm_245 : xM := (⟨"java/util/Arrays", "fill", "([II)V"⟩, prog_38_method_103_code, 4, (Option.none : Option Jvm.ClassFile.FieldType), [])
def xk_245_0 : List xEn := [(0, 1, .iconst 0, []), (1, 1, .istore_n 2, []), (2, 1, .aload_n 0, []), (3, 1, .arraylength, []), (4, 1, .istore_n 3, []), (5, 1, .iload_n 2, []), (6, 1, .iload_n 3, []), (7, 3, .if_icmp .ge 13, []), (10, 1, .aload_n 0, []), (11, 1, .iload_n 2, []), (12, 1, .iload_n 1, []), (13, 1, .iastore, []), (14, 3, .iinc 2 1, []), (17, 3, .goto (-12), []), (20, 1, .return_, [])]
def xe_245 : xEl := (xm_245, [xk_245_0], [], [])
def xm_246 : xM := (⟨"java/util/Arrays", "copyOf", "([Ljava/lang/Object;I)[Ljava/lang/Object;"⟩, prog_38_method_119_code, 2, (Option.some (Jvm.ClassFile.FieldType.array (Jvm.ClassFile.FieldType.object "java/lang/Object"))), [])
def xk_246_0 : List xEn := [(0, 1, .aload_n 0, []), (1, 1, .iload_n 1, []), (2, 1, .aload_n 0, []), (6, 3, .invokestatic 300, [3, 247]), (9, 1, .areturn, [])]
def xe_246 : xEl := (xm_246, [xk_246_0], [], [])
def xm_247 : xM := (⟨"java/util/Arrays", "copyOf", "([Ljava/lang/Object;ILjava/lang/Class;)[Ljava/lang/Object;"⟩, prog_38_method_120_code, 4, (Option.some (Jvm.ClassFile.FieldType.array (Jvm.ClassFile.FieldType.object "java/lang/Object"))), [])
def xk_247_0 : List xEn := [(0, 1, .aload_n 2, []), (3, 3, .if_acmp .ne 10, []), (6, 1, .iload_n 1, []), (7, 3, .anewarray 2, [4]), (10, 3, .goto 14, []), (13, 1, .aload_n 2, []), (17, 1, .iload_n 1, []), (24, 1, .astore_n 3, []), (25, 1, .aload_n 0, []), (26, 1, .iconst 0, []), (27, 1, .aload_n 3, []), (28, 1, .iconst 0, []), (29, 1, .aload_n 0, []), (30, 1, .arraylength, []), (31, 1, .iload_n 1, [])]
def xk_247_1 : List xEn := [(32, 3, .invokestatic 304, [2, 226]), (38, 1, .aload_n 3, []), (39, 1, .areturn, [])]
def xe_247 : xEl := (xm_247, [xk_247_0, xk_247_1], [], [])
def xm_248 : xM := (⟨"java/util/Arrays", "copyOf", "([JI)[J"⟩, prog_38_method_124_code, 3, (Option.some (Jvm.ClassFile.FieldType.array Jvm.ClassFile.FieldType.long)), [])
def xk_248_0 : List xEn := [(0, 1, .iload_n 1, []), (1, 1, .aload_n 0, []), (2, 1, .arraylength, []), (3, 3, .if_icmp .ne 11, []), (6, 1, .aload_n 0, []), (13, 1, .areturn, []), (14, 1, .iload_n 1, []), (15, 2, .newarray .long, [1]), (17, 1, .astore_n 2, []), (18, 1, .aload_n 0, []), (19, 1, .iconst 0, []), (20, 1, .aload_n 2, []), (21, 1, .iconst 0, []), (22, 1, .aload_n 0, []), (23, 1, .arraylength, []), (24, 1, .iload_n 1, []), (25, 3, .invokestatic 304, [2, 226]), (31, 1, .aload_n 2, [])]
def xk_248_1 : List xEn := [(32, 1, .areturn, [])]
def xe_248 : xEl := (xm_248, [xk_248_0, xk_248_1], [], [])
def xm_249 : xM := (⟨"java/util/Objects", "checkIndex", "(II)I"⟩, prog_42_method_17_code, 2, (Option.some Jvm.ClassFile.FieldType.int), [])
def xk_249_0 : List xEn := [(0, 1, .iload_n 0, []), (1, 1, .iload_n 1, []), (2, 1, .aconst_null, []), (3, 3, .invokestatic 105, [3, 252]), (6, 1, .ireturn, [])]
def xe_249 : xEl := (xm_249, [xk_249_0], [], [])
def xm_250 : xM := (⟨"jdk/internal/util/ArraysSupport", "newLength", "(III)I"⟩, prog_45_method_27_code, 4, (Option.some Jvm.ClassFile.FieldType.int), [])
def xk_250_0 : List xEn := [(0, 1, .iload_n 0, []), (1, 1, .iload_n 1, []), (2, 1, .iload_n 2, []), (3, 3, .invokestatic 194, [2, 225]), (6, 1, .iadd, []), (7, 1, .istore_n 3, []), (8, 1, .iconst 0, []), (9, 1, .iload_n 3, []), (10, 3, .if_icmp .ge 11, []), (13, 1, .iload_n 3, []), (14, 2, .ldc 200, [0, 2147483639]), (16, 3, .if_icmp .gt 5, []), (19, 1, .iload_n 3, []), (20, 1, .ireturn, []), (21, 1, .iload_n 0, []), (22, 1, .iload_n 1, []), (23, 3, .invokestatic 201, [2, 251]), (26, 1, .ireturn, [])]
def xe_250 : xEl := (xm_250, [xk_250_0], [], [])
def xm_251 : xM := (⟨"jdk/internal/util/ArraysSupport", "hugeLength", "(II)I"⟩, prog_45_method_28_code, 3, (Option.some Jvm.ClassFile.FieldType.int), [])
def xk_251_0 : List xEn := [(0, 1, .iload_n 0, []), (1, 1, .iload_n 1, []), (2, 1, .iadd, []), (3, 1, .istore_n 2, []), (4, 1, .iload_n 2, []), (5, 3, .ifCond .ge 44, []), (11, 1, .dup, []), (15, 1, .dup, []), (24, 1, .iload_n 0, [])]
def xk_251_1 : List xEn := [(33, 1, .iload_n 1, []), (48, 1, .athrow, []), (49, 1, .iload_n 2, []), (50, 2, .ldc 200, [0, 2147483639]), (52, 3, .if_icmp .gt 6, []), (55, 2, .ldc 200, [0, 2147483639]), (57, 1, .ireturn, []), (58, 1, .iload_n 2, []), (59, 1, .ireturn, [])]
def xe_251 : xEl := (xm_251, [xk_251_0, xk_251_1], [], [])
def xm_252 : xM := (⟨"jdk/internal/util/Preconditions", "checkIndex", "(IILjava/util/function/BiFunction;)I"⟩, prog_46_method_11_code, 3, (Option.some Jvm.ClassFile.FieldType.int), [])
def xk_252_0 : List xEn := [(0, 1, .iload_n 0, []), (1, 3, .ifCond .lt 8, []), (4, 1, .iload_n 0, []), (5, 1, .iload_n 1, []), (6, 3, .if_icmp .lt 10, []), (9, 1, .aload_n 2, []), (10, 1, .iload_n 0, []), (11, 1, .iload_n 1, []), (15, 1, .athrow, []), (16, 1, .iload_n 0, []), (17, 1, .ireturn, [])]
def xe_252 : xEl := (xm_252, [xk_252_0], [], [])
def xm_253 : xM := (⟨"ViewFoundryLaw", "putRow", "(LViewFoundry;IIII[J)I"⟩, method_3_code, 7, (Option.some Jvm.ClassFile.FieldType.int), [((0 : Nat), (14 : Nat), (17 : Nat), (13 : Nat)), ((0 : Nat), (14 : Nat), (21 : Nat), (15 : Nat))])
def xk_253_0 : List xEn := [(0, 2, .aload 5, []), (2, 1, .iconst 0, []), (3, 1, .aload_n 0, []), (4, 1, .iload_n 1, []), (5, 1, .iload_n 2, []), (6, 1, .iload_n 3, []), (7, 2, .iload 4, []), (9, 3, .invokevirtual 7, [4, 10, 100]), (12, 1, .i2l, []), (13, 1, .lastore, []), (14, 3, .goto 11, []), (17, 2, .astore 6, []), (19, 1, .iconst 1, []), (20, 1, .ireturn, []), (21, 2, .astore 6, []), (23, 1, .iconst 2, []), (24, 1, .ireturn, []), (25, 1, .iconst 0, []), (26, 1, .ireturn, [])]
def xe_253 : xEl := (xm_253, [xk_253_0], [], [(9, "java/lang/IllegalArgumentException", 17, 2, 6), (9, "java/lang/IllegalStateException", 21, 2, 6)])
def xm_254 : xM := (⟨"ViewFoundryLaw", "putMark", "(LViewFoundry;II[J)I"⟩, method_4_code, 5, (Option.some Jvm.ClassFile.FieldType.int), [((0 : Nat), (10 : Nat), (13 : Nat), (13 : Nat)), ((0 : Nat), (10 : Nat), (17 : Nat), (15 : Nat))])
def xk_254_0 : List xEn := [(0, 1, .aload_n 3, []), (1, 1, .iconst 0, []), (2, 1, .aload_n 0, []), (3, 1, .iload_n 1, []), (4, 1, .iload_n 2, []), (5, 3, .invokevirtual 17, [2, 10, 101]), (8, 1, .i2l, []), (9, 1, .lastore, []), (10, 3, .goto 11, []), (13, 2, .astore 4, []), (15, 1, .iconst 1, []), (16, 1, .ireturn, []), (17, 2, .astore 4, []), (19, 1, .iconst 2, []), (20, 1, .ireturn, []), (21, 1, .iconst 0, []), (22, 1, .ireturn, [])]
def xe_254 : xEl := (xm_254, [xk_254_0], [], [(5, "java/lang/IllegalArgumentException", 13, 2, 4), (5, "java/lang/IllegalStateException", 17, 2, 4)])
def xm_255 : xM := (⟨"ViewFoundryLaw", "setSlack", "(LViewFoundry;II[J)I"⟩, method_5_code, 5, (Option.some Jvm.ClassFile.FieldType.int), [((0 : Nat), (10 : Nat), (13 : Nat), (13 : Nat)), ((0 : Nat), (10 : Nat), (17 : Nat), (15 : Nat))])
def xk_255_0 : List xEn := [(0, 1, .aload_n 3, []), (1, 1, .iconst 0, []), (2, 1, .aload_n 0, []), (3, 1, .iload_n 1, []), (4, 1, .iload_n 2, []), (5, 3, .invokevirtual 21, [2, 10, 102]), (8, 1, .i2l, []), (9, 1, .lastore, []), (10, 3, .goto 11, []), (13, 2, .astore 4, []), (15, 1, .iconst 1, []), (16, 1, .ireturn, []), (17, 2, .astore 4, []), (19, 1, .iconst 2, []), (20, 1, .ireturn, []), (21, 1, .iconst 0, []), (22, 1, .ireturn, [])]
def xe_255 : xEl := (xm_255, [xk_255_0], [], [(5, "java/lang/IllegalArgumentException", 13, 2, 4), (5, "java/lang/IllegalStateException", 17, 2, 4)])
def xm_256 : xM := (⟨"ViewFoundryLaw", "addView", "(LViewFoundry;CCCIII[J)I"⟩, method_6_code, 9, (Option.some Jvm.ClassFile.FieldType.int), [((0 : Nat), (18 : Nat), (21 : Nat), (13 : Nat)), ((0 : Nat), (18 : Nat), (25 : Nat), (15 : Nat))])
def xk_256_0 : List xEn := [(0, 2, .aload 7, []), (2, 1, .iconst 0, []), (3, 1, .aload_n 0, []), (4, 1, .iload_n 1, []), (5, 1, .iload_n 2, []), (6, 1, .iload_n 3, []), (7, 2, .iload 4, []), (9, 2, .iload 5, []), (11, 2, .iload 6, []), (13, 3, .invokevirtual 24, [6, 10, 103]), (16, 1, .i2l, []), (17, 1, .lastore, []), (18, 3, .goto 11, []), (21, 2, .astore 8, []), (23, 1, .iconst 1, []), (24, 1, .ireturn, []), (25, 2, .astore 8, []), (27, 1, .iconst 2, []), (28, 1, .ireturn, []), (29, 1, .iconst 0, []), (30, 1, .ireturn, [])]
def xe_256 : xEl := (xm_256, [xk_256_0], [], [(13, "java/lang/IllegalArgumentException", 21, 2, 8), (13, "java/lang/IllegalStateException", 25, 2, 8)])
def xm_257 : xM := (⟨"ViewFoundryLaw", "entries", "(LViewFoundry;I[J)I"⟩, method_7_code, 4, (Option.some Jvm.ClassFile.FieldType.int), [((0 : Nat), (9 : Nat), (12 : Nat), (13 : Nat))])
def xk_257_0 : List xEn := [(0, 1, .aload_n 2, []), (1, 1, .iconst 0, []), (2, 1, .aload_n 0, []), (3, 1, .iload_n 1, []), (4, 3, .invokevirtual 28, [1, 10, 104]), (7, 1, .i2l, []), (8, 1, .lastore, []), (9, 3, .goto 6, []), (12, 1, .astore_n 3, []), (13, 1, .iconst 1, []), (14, 1, .ireturn, []), (15, 1, .iconst 0, []), (16, 1, .ireturn, [])]
def xe_257 : xEl := (xm_257, [xk_257_0], [], [(4, "java/lang/IllegalArgumentException", 12, 1, 3)])
def xm_258 : xM := (⟨"ViewFoundryLaw", "read", "(LViewFoundry;II[J)I"⟩, method_8_code, 5, (Option.some Jvm.ClassFile.FieldType.int), [((0 : Nat), (10 : Nat), (13 : Nat), (13 : Nat))])
def xk_258_0 : List xEn := [(0, 1, .aload_n 3, []), (1, 1, .iconst 0, []), (2, 1, .aload_n 0, []), (3, 1, .iload_n 1, []), (4, 1, .iload_n 2, []), (5, 3, .invokevirtual 32, [2, 10, 105]), (8, 1, .i2l, []), (9, 1, .lastore, []), (10, 3, .goto 7, []), (13, 2, .astore 4, []), (15, 1, .iconst 1, []), (16, 1, .ireturn, []), (17, 1, .iconst 0, []), (18, 1, .ireturn, [])]
def xe_258 : xEl := (xm_258, [xk_258_0], [], [(5, "java/lang/IllegalArgumentException", 13, 2, 4)])
def xm_259 : xM := (⟨"ViewFoundryLaw", "place", "(LViewFoundry;I[J)I"⟩, method_9_code, 4, (Option.some Jvm.ClassFile.FieldType.int), [((0 : Nat), (9 : Nat), (12 : Nat), (13 : Nat))])
def xk_259_0 : List xEn := [(0, 1, .aload_n 2, []), (1, 1, .iconst 0, []), (2, 1, .aload_n 0, []), (3, 1, .iload_n 1, []), (4, 3, .invokevirtual 35, [1, 10, 106]), (7, 1, .i2l, []), (8, 1, .lastore, []), (9, 3, .goto 6, []), (12, 1, .astore_n 3, []), (13, 1, .iconst 1, []), (14, 1, .ireturn, []), (15, 1, .iconst 0, []), (16, 1, .ireturn, [])]
def xe_259 : xEl := (xm_259, [xk_259_0], [], [(4, "java/lang/IllegalArgumentException", 12, 1, 3)])
def xm_260 : xM := (⟨"ViewFoundryLaw", "markOf", "(LViewFoundry;I[J)I"⟩, method_10_code, 4, (Option.some Jvm.ClassFile.FieldType.int), [((0 : Nat), (9 : Nat), (12 : Nat), (13 : Nat))])
def xk_260_0 : List xEn := [(0, 1, .aload_n 2, []), (1, 1, .iconst 0, []), (2, 1, .aload_n 0, []), (3, 1, .iload_n 1, []), (4, 3, .invokevirtual 38, [1, 10, 107]), (7, 1, .i2l, []), (8, 1, .lastore, []), (9, 3, .goto 6, []), (12, 1, .astore_n 3, []), (13, 1, .iconst 1, []), (14, 1, .ireturn, []), (15, 1, .iconst 0, []), (16, 1, .ireturn, [])]
def xe_260 : xEl := (xm_260, [xk_260_0], [], [(4, "java/lang/IllegalArgumentException", 12, 1, 3)])
def xm_261 : xM := (⟨"ViewFoundryLaw", "told", "(LViewFoundry;I[J)I"⟩, method_11_code, 4, (Option.some Jvm.ClassFile.FieldType.int), [((0 : Nat), (9 : Nat), (12 : Nat), (44 : Nat))])
def xk_261_0 : List xEn := [(0, 1, .aload_n 2, []), (1, 1, .iconst 0, []), (2, 1, .aload_n 0, []), (3, 1, .iload_n 1, []), (4, 3, .invokevirtual 41, [1, 10, 109]), (7, 1, .i2l, []), (8, 1, .lastore, []), (9, 3, .goto 6, []), (12, 1, .astore_n 3, []), (13, 1, .iconst 1, []), (14, 1, .ireturn, []), (15, 1, .iconst 0, []), (16, 1, .ireturn, [])]
def xe_261 : xEl := (xm_261, [xk_261_0], [], [(4, "java/lang/IndexOutOfBoundsException", 12, 1, 3)])
def xm_262 : xM := (⟨"ViewFoundryLaw", "valueOf", "(LViewFoundry;IIII[J)I"⟩, method_12_code, 7, (Option.some Jvm.ClassFile.FieldType.int), [((0 : Nat), (14 : Nat), (17 : Nat), (44 : Nat)), ((0 : Nat), (14 : Nat), (21 : Nat), (49 : Nat))])
def xk_262_0 : List xEn := [(0, 2, .aload 5, []), (2, 1, .iconst 0, []), (3, 1, .aload_n 0, []), (4, 1, .iload_n 1, []), (5, 1, .iload_n 2, []), (6, 1, .iload_n 3, []), (7, 2, .iload 4, []), (9, 3, .invokevirtual 46, [4, 10, 110]), (12, 1, .i2l, []), (13, 1, .lastore, []), (14, 3, .goto 11, []), (17, 2, .astore 6, []), (19, 1, .iconst 1, []), (20, 1, .ireturn, []), (21, 2, .astore 6, []), (23, 1, .iconst 2, []), (24, 1, .ireturn, []), (25, 1, .iconst 0, []), (26, 1, .ireturn, [])]
def xe_262 : xEl := (xm_262, [xk_262_0], [], [(9, "java/lang/IndexOutOfBoundsException", 17, 2, 6), (9, "java/util/NoSuchElementException", 21, 2, 6)])
def xm_263 : xM := (⟨"ViewFoundryLaw", "valueByAll", "(LViewFoundry;IIII[J)I"⟩, method_13_code, 7, (Option.some Jvm.ClassFile.FieldType.int), [((0 : Nat), (14 : Nat), (17 : Nat), (44 : Nat)), ((0 : Nat), (14 : Nat), (21 : Nat), (49 : Nat))])
def xk_263_0 : List xEn := [(0, 2, .aload 5, []), (2, 1, .iconst 0, []), (3, 1, .aload_n 0, []), (4, 1, .iload_n 1, []), (5, 1, .iload_n 2, []), (6, 1, .iload_n 3, []), (7, 2, .iload 4, []), (9, 3, .invokevirtual 51, [4, 10, 111]), (12, 1, .i2l, []), (13, 1, .lastore, []), (14, 3, .goto 11, []), (17, 2, .astore 6, []), (19, 1, .iconst 1, []), (20, 1, .ireturn, []), (21, 2, .astore 6, []), (23, 1, .iconst 2, []), (24, 1, .ireturn, []), (25, 1, .iconst 0, []), (26, 1, .ireturn, [])]
def xe_263 : xEl := (xm_263, [xk_263_0], [], [(9, "java/lang/IndexOutOfBoundsException", 17, 2, 6), (9, "java/util/NoSuchElementException", 21, 2, 6)])
def xm_264 : xM := (⟨"ViewFoundryLaw", "firstFrom", "(LViewFoundry;II[J)I"⟩, method_14_code, 5, (Option.some Jvm.ClassFile.FieldType.int), [((0 : Nat), (10 : Nat), (13 : Nat), (44 : Nat)), ((0 : Nat), (10 : Nat), (17 : Nat), (49 : Nat))])
def xk_264_0 : List xEn := [(0, 1, .aload_n 3, []), (1, 1, .iconst 0, []), (2, 1, .aload_n 0, []), (3, 1, .iload_n 1, []), (4, 1, .iload_n 2, []), (5, 3, .invokevirtual 54, [2, 10, 112]), (8, 1, .i2l, []), (9, 1, .lastore, []), (10, 3, .goto 11, []), (13, 2, .astore 4, []), (15, 1, .iconst 1, []), (16, 1, .ireturn, []), (17, 2, .astore 4, []), (19, 1, .iconst 2, []), (20, 1, .ireturn, []), (21, 1, .iconst 0, []), (22, 1, .ireturn, [])]
def xe_264 : xEl := (xm_264, [xk_264_0], [], [(5, "java/lang/IndexOutOfBoundsException", 13, 2, 4), (5, "java/util/NoSuchElementException", 17, 2, 4)])
def xm_265 : xM := (⟨"ViewFoundryLaw", "dropped", "(LViewFoundry;I[J)I"⟩, method_15_code, 4, (Option.some Jvm.ClassFile.FieldType.int), [((0 : Nat), (9 : Nat), (12 : Nat), (44 : Nat))])
def xk_265_0 : List xEn := [(0, 1, .aload_n 2, []), (1, 1, .iconst 0, []), (2, 1, .aload_n 0, []), (3, 1, .iload_n 1, []), (4, 3, .invokevirtual 57, [1, 10, 113]), (7, 1, .i2l, []), (8, 1, .lastore, []), (9, 3, .goto 6, []), (12, 1, .astore_n 3, []), (13, 1, .iconst 1, []), (14, 1, .ireturn, []), (15, 1, .iconst 0, []), (16, 1, .ireturn, [])]
def xe_265 : xEl := (xm_265, [xk_265_0], [], [(4, "java/lang/IndexOutOfBoundsException", 12, 1, 3)])
def xm_266 : xM := (⟨"ViewFoundryLaw", "held", "(LViewFoundry;I[J)I"⟩, method_16_code, 4, (Option.some Jvm.ClassFile.FieldType.int), [((0 : Nat), (9 : Nat), (12 : Nat), (44 : Nat))])
def xk_266_0 : List xEn := [(0, 1, .aload_n 2, []), (1, 1, .iconst 0, []), (2, 1, .aload_n 0, []), (3, 1, .iload_n 1, []), (4, 3, .invokevirtual 60, [1, 10, 114]), (7, 1, .i2l, []), (8, 1, .lastore, []), (9, 3, .goto 6, []), (12, 1, .astore_n 3, []), (13, 1, .iconst 1, []), (14, 1, .ireturn, []), (15, 1, .iconst 0, []), (16, 1, .ireturn, [])]
def xe_266 : xEl := (xm_266, [xk_266_0], [], [(4, "java/lang/IndexOutOfBoundsException", 12, 1, 3)])
def xm_267 : xM := (⟨"ViewFoundryLaw", "cut", "(LViewFoundry;[J)I"⟩, method_17_code, 3, (Option.some Jvm.ClassFile.FieldType.int), [((0 : Nat), (8 : Nat), (11 : Nat), (15 : Nat))])
def xk_267_0 : List xEn := [(0, 1, .aload_n 1, []), (1, 1, .iconst 0, []), (2, 1, .aload_n 0, []), (3, 3, .invokevirtual 63, [0, 10, 116]), (6, 1, .i2l, []), (7, 1, .lastore, []), (8, 3, .goto 6, []), (11, 1, .astore_n 2, []), (12, 1, .iconst 1, []), (13, 1, .ireturn, []), (14, 1, .iconst 0, []), (15, 1, .ireturn, [])]
def xe_267 : xEl := (xm_267, [xk_267_0], [], [(3, "java/lang/IllegalStateException", 11, 1, 2)])
def xm_268 : xM := (⟨"ViewFoundryLaw", "complete", "(LViewFoundry;[J)I"⟩, method_18_code, 3, (Option.some Jvm.ClassFile.FieldType.int), [((0 : Nat), (8 : Nat), (11 : Nat), (15 : Nat))])
def xk_268_0 : List xEn := [(0, 1, .aload_n 1, []), (1, 1, .iconst 0, []), (2, 1, .aload_n 0, []), (3, 3, .invokevirtual 67, [0, 10, 117]), (6, 1, .i2l, []), (7, 1, .lastore, []), (8, 3, .goto 6, []), (11, 1, .astore_n 2, []), (12, 1, .iconst 1, []), (13, 1, .ireturn, []), (14, 1, .iconst 0, []), (15, 1, .ireturn, [])]
def xe_268 : xEl := (xm_268, [xk_268_0], [], [(3, "java/lang/IllegalStateException", 11, 1, 2)])
def xm_269 : xM := (⟨"ViewFoundryLaw", "outputAt", "(LViewFoundry;II[J)I"⟩, method_19_code, 5, (Option.some Jvm.ClassFile.FieldType.int), [((0 : Nat), (10 : Nat), (13 : Nat), (44 : Nat)), ((0 : Nat), (10 : Nat), (17 : Nat), (13 : Nat))])
def xk_269_0 : List xEn := [(0, 1, .aload_n 3, []), (1, 1, .iconst 0, []), (2, 1, .aload_n 0, []), (3, 1, .iload_n 1, []), (4, 1, .iload_n 2, []), (5, 3, .invokevirtual 70, [2, 10, 120]), (8, 1, .i2l, []), (9, 1, .lastore, []), (10, 3, .goto 11, []), (13, 2, .astore 4, []), (15, 1, .iconst 1, []), (16, 1, .ireturn, []), (17, 2, .astore 4, []), (19, 1, .iconst 2, []), (20, 1, .ireturn, []), (21, 1, .iconst 0, []), (22, 1, .ireturn, [])]
def xe_269 : xEl := (xm_269, [xk_269_0], [], [(5, "java/lang/IllegalArgumentException", 17, 2, 4), (5, "java/lang/IndexOutOfBoundsException", 13, 2, 4)])
def xm_270 : xM := (⟨"ViewFoundryLaw", "waitingAt", "(LViewFoundry;II[J)I"⟩, method_20_code, 5, (Option.some Jvm.ClassFile.FieldType.int), [((0 : Nat), (10 : Nat), (13 : Nat), (44 : Nat)), ((0 : Nat), (10 : Nat), (17 : Nat), (13 : Nat))])
def xk_270_0 : List xEn := [(0, 1, .aload_n 3, []), (1, 1, .iconst 0, []), (2, 1, .aload_n 0, []), (3, 1, .iload_n 1, []), (4, 1, .iload_n 2, []), (5, 3, .invokevirtual 73, [2, 10, 121]), (8, 1, .i2l, []), (9, 1, .lastore, []), (10, 3, .goto 11, []), (13, 2, .astore 4, []), (15, 1, .iconst 1, []), (16, 1, .ireturn, []), (17, 2, .astore 4, []), (19, 1, .iconst 2, []), (20, 1, .ireturn, []), (21, 1, .iconst 0, []), (22, 1, .ireturn, [])]
def xe_270 : xEl := (xm_270, [xk_270_0], [], [(5, "java/lang/IllegalArgumentException", 17, 2, 4), (5, "java/lang/IndexOutOfBoundsException", 13, 2, 4)])
def xm_271 : xM := (⟨"ViewFoundryLaw", "promisedSum", "(LViewFoundry;I[J)I"⟩, method_21_code, 4, (Option.some Jvm.ClassFile.FieldType.int), [((0 : Nat), (9 : Nat), (12 : Nat), (44 : Nat))])
def xk_271_0 : List xEn := [(0, 1, .aload_n 2, []), (1, 1, .iconst 0, []), (2, 1, .aload_n 0, []), (3, 1, .iload_n 1, []), (4, 3, .invokevirtual 76, [1, 10, 122]), (7, 1, .i2l, []), (8, 1, .lastore, []), (9, 3, .goto 6, []), (12, 1, .astore_n 3, []), (13, 1, .iconst 1, []), (14, 1, .ireturn, []), (15, 1, .iconst 0, []), (16, 1, .ireturn, [])]
def xe_271 : xEl := (xm_271, [xk_271_0], [], [(4, "java/lang/IndexOutOfBoundsException", 12, 1, 3)])
def xm_272 : xM := (⟨"ViewFoundryLaw", "moveKey", "(LViewFoundry;II[J)I"⟩, method_22_code, 5, (Option.some Jvm.ClassFile.FieldType.int), [((0 : Nat), (10 : Nat), (13 : Nat), (13 : Nat))])
def xk_272_0 : List xEn := [(0, 1, .aload_n 3, []), (1, 1, .iconst 0, []), (2, 1, .aload_n 0, []), (3, 1, .iload_n 1, []), (4, 1, .iload_n 2, []), (5, 3, .invokevirtual 79, [2, 10, 123]), (8, 1, .i2l, []), (9, 1, .lastore, []), (10, 3, .goto 7, []), (13, 2, .astore 4, []), (15, 1, .iconst 1, []), (16, 1, .ireturn, []), (17, 1, .iconst 0, []), (18, 1, .ireturn, [])]
def xe_272 : xEl := (xm_272, [xk_272_0], [], [(5, "java/lang/IllegalArgumentException", 13, 2, 4)])
def xm_273 : xM := (⟨"ViewFoundryLaw", "workerOf", "(LViewFoundry;I[J)I"⟩, method_23_code, 4, (Option.some Jvm.ClassFile.FieldType.int), [((0 : Nat), (9 : Nat), (12 : Nat), (13 : Nat))])
def xk_273_0 : List xEn := [(0, 1, .aload_n 2, []), (1, 1, .iconst 0, []), (2, 1, .aload_n 0, []), (3, 1, .iload_n 1, []), (4, 3, .invokevirtual 82, [1, 10, 124]), (7, 1, .i2l, []), (8, 1, .lastore, []), (9, 3, .goto 6, []), (12, 1, .astore_n 3, []), (13, 1, .iconst 1, []), (14, 1, .ireturn, []), (15, 1, .iconst 0, []), (16, 1, .ireturn, [])]
def xe_273 : xEl := (xm_273, [xk_273_0], [], [(4, "java/lang/IllegalArgumentException", 12, 1, 3)])
def xm_274 : xM := (⟨"ViewFoundryLaw", "load", "(LViewFoundry;I[J)I"⟩, method_24_code, 4, (Option.some Jvm.ClassFile.FieldType.int), [((0 : Nat), (9 : Nat), (12 : Nat), (13 : Nat))])
def xk_274_0 : List xEn := [(0, 1, .aload_n 2, []), (1, 1, .iconst 0, []), (2, 1, .aload_n 0, []), (3, 1, .iload_n 1, []), (4, 3, .invokevirtual 85, [1, 10, 125]), (7, 1, .i2l, []), (8, 1, .lastore, []), (9, 3, .goto 6, []), (12, 1, .astore_n 3, []), (13, 1, .iconst 1, []), (14, 1, .ireturn, []), (15, 1, .iconst 0, []), (16, 1, .ireturn, [])]
def xe_274 : xEl := (xm_274, [xk_274_0], [], [(4, "java/lang/IllegalArgumentException", 12, 1, 3)])
def xm_275 : xM := (⟨"ViewFoundryLaw", "meanOf", "(LViewFoundry;II[D)I"⟩, method_25_code, 5, (Option.some Jvm.ClassFile.FieldType.int), [((0 : Nat), (10 : Nat), (13 : Nat), (44 : Nat)), ((0 : Nat), (10 : Nat), (17 : Nat), (49 : Nat))])
def xk_275_0 : List xEn := [(0, 1, .aload_n 3, []), (1, 1, .iconst 0, []), (2, 1, .aload_n 0, []), (3, 1, .iload_n 1, []), (4, 1, .iload_n 2, []), (5, 3, .invokevirtual 88, [2, 10, 126]), (8, 1, .f2d, []), (9, 1, .dastore, []), (10, 3, .goto 11, []), (13, 2, .astore 4, []), (15, 1, .iconst 1, []), (16, 1, .ireturn, []), (17, 2, .astore 4, []), (19, 1, .iconst 2, []), (20, 1, .ireturn, []), (21, 1, .iconst 0, []), (22, 1, .ireturn, [])]
def xe_275 : xEl := (xm_275, [xk_275_0], [], [(5, "java/lang/IndexOutOfBoundsException", 13, 2, 4), (5, "java/util/NoSuchElementException", 17, 2, 4)])
def xm_276 : xM := (⟨"ViewFoundryLaw", "rest", "(LViewFoundry;III[J)I"⟩, method_26_code, 6, (Option.some Jvm.ClassFile.FieldType.int), [((0 : Nat), (12 : Nat), (15 : Nat), (44 : Nat)), ((0 : Nat), (12 : Nat), (19 : Nat), (49 : Nat)), ((0 : Nat), (12 : Nat), (23 : Nat), (13 : Nat))])
def xk_276_0 : List xEn := [(0, 2, .aload 4, []), (2, 1, .iconst 0, []), (3, 1, .aload_n 0, []), (4, 1, .iload_n 1, []), (5, 1, .iload_n 2, []), (6, 1, .iload_n 3, []), (7, 3, .invokevirtual 92, [3, 10, 127]), (10, 1, .i2l, []), (11, 1, .lastore, []), (12, 3, .goto 15, []), (15, 2, .astore 5, []), (17, 1, .iconst 1, []), (18, 1, .ireturn, []), (19, 2, .astore 5, []), (21, 1, .iconst 2, []), (22, 1, .ireturn, []), (23, 2, .astore 5, []), (25, 1, .iconst 3, []), (26, 1, .ireturn, []), (27, 1, .iconst 0, []), (28, 1, .ireturn, [])]
def xe_276 : xEl := (xm_276, [xk_276_0], [], [(7, "java/lang/IllegalArgumentException", 23, 2, 5), (7, "java/lang/IndexOutOfBoundsException", 15, 2, 5), (7, "java/util/NoSuchElementException", 19, 2, 5)])
def xm_277 : xM := (⟨"ViewFoundryLaw", "droppedShare", "(LViewFoundry;[D)I"⟩, method_27_code, 3, (Option.some Jvm.ClassFile.FieldType.int), [((0 : Nat), (7 : Nat), (10 : Nat), (49 : Nat))])
def xk_277_0 : List xEn := [(0, 1, .aload_n 1, []), (1, 1, .iconst 0, []), (2, 1, .aload_n 0, []), (3, 3, .invokevirtual 96, [0, 10, 128]), (6, 1, .dastore, []), (7, 3, .goto 6, []), (10, 1, .astore_n 2, []), (11, 1, .iconst 1, []), (12, 1, .ireturn, []), (13, 1, .iconst 0, []), (14, 1, .ireturn, [])]
def xe_277 : xEl := (xm_277, [xk_277_0], [], [(3, "java/util/NoSuchElementException", 10, 1, 2)])
def xm_278 : xM := (⟨"ViewFoundryLaw", "law", "([I)Z"⟩, code, maxLocals, ret, [])
def xk_278_0 : List xEn := [(0, 3, .new 8, [10, 2, 2, 2, 2, 2, 2, 3, 3, 3, 0, 0, 0, 0]), (3, 1, .dup, []), (4, 3, .invokespecial 100, [0, 99]), (7, 1, .astore_n 1, []), (8, 3, .new 101, [13, 0, 2, 2, 2, 2, 2, 2, 0, 2, 2, 2, 2, 2, 2, 3, 3, 2, 2, 2, 2, 2, 2]), (11, 1, .dup, []), (12, 3, .invokespecial 103, [0, 156]), (15, 1, .astore_n 2, []), (16, 1, .iconst 1, []), (17, 2, .newarray .long, [1]), (19, 1, .astore_n 3, []), (20, 1, .iconst 1, []), (21, 2, .newarray .double, [3]), (23, 2, .astore 4, []), (25, 1, .iconst 0, []), (26, 2, .istore 5, []), (28, 2, .iload 5, []), (30, 1, .aload_n 0, []), (31, 1, .arraylength, [])]
def xk_278_1 : List xEn := [(32, 2, .bipush 7, []), (34, 1, .isub, []), (35, 3, .if_icmp .gt 1919, []), (38, 1, .aload_n 0, []), (39, 2, .iload 5, []), (41, 1, .iaload, []), (42, 2, .bipush 31, []), (44, 1, .iand, []), (45, 135, .tableswitch 1903 0 29 #[135, 227, 295, 363, 487, 543, 611, 667, 723, 736, 792, 884, 976, 1044, 1100, 1156, 1169, 1213, 1257, 1270, 1283, 1351, 1419, 1475, 1543, 1599, 1655, 1745, 1825, 1890], [])]
def xk_278_2 : List xEn := []
def xk_278_3 : List xEn := []
def xk_278_4 : List xEn := []
def xk_278_5 : List xEn := [(180, 1, .aload_n 1, []), (181, 1, .aload_n 0, []), (182, 2, .iload 5, []), (184, 1, .iconst 1, []), (185, 1, .iadd, []), (186, 1, .iaload, []), (187, 1, .aload_n 0, []), (188, 2, .iload 5, []), (190, 1, .iconst 2, []), (191, 1, .iadd, [])]
def xk_278_6 : List xEn := [(192, 1, .iaload, []), (193, 1, .aload_n 0, []), (194, 2, .iload 5, []), (196, 1, .iconst 3, []), (197, 1, .iadd, []), (198, 1, .iaload, []), (199, 1, .aload_n 0, []), (200, 2, .iload 5, []), (202, 1, .iconst 4, []), (203, 1, .iadd, []), (204, 1, .iaload, []), (205, 1, .aload_n 3, []), (206, 3, .invokestatic 104, [6, 253]), (209, 2, .istore 6, []), (211, 1, .aload_n 2, []), (212, 1, .aload_n 0, []), (213, 2, .iload 5, []), (215, 1, .iconst 1, []), (216, 1, .iadd, []), (217, 1, .iaload, []), (218, 1, .aload_n 0, []), (219, 2, .iload 5, []), (221, 1, .iconst 2, []), (222, 1, .iadd, []), (223, 1, .iaload, [])]
def xk_278_7 : List xEn := [(224, 1, .aload_n 0, []), (225, 2, .iload 5, []), (227, 1, .iconst 3, []), (228, 1, .iadd, []), (229, 1, .iaload, []), (230, 1, .aload_n 0, []), (231, 2, .iload 5, []), (233, 1, .iconst 4, []), (234, 1, .iadd, []), (235, 1, .iaload, []), (236, 3, .invokevirtual 109, [4, 13, 162]), (239, 2, .istore 7, []), (241, 1, .aload_n 2, []), (242, 3, .invokevirtual 110, [0, 13, 157]), (245, 2, .iload 6, []), (247, 3, .if_icmp .eq 5, []), (250, 1, .iconst 0, []), (251, 1, .ireturn, []), (252, 2, .iload 6, []), (254, 3, .ifCond .ne 15, [])]
def xk_278_8 : List xEn := [(257, 1, .aload_n 3, []), (258, 1, .iconst 0, []), (259, 1, .laload, []), (260, 2, .iload 7, []), (262, 1, .i2l, []), (263, 1, .lcmp, []), (264, 3, .ifCond .eq 5, []), (267, 1, .iconst 0, []), (268, 1, .ireturn, []), (269, 3, .goto 1679, []), (272, 1, .aload_n 1, []), (273, 1, .aload_n 0, []), (274, 2, .iload 5, []), (276, 1, .iconst 1, []), (277, 1, .iadd, []), (278, 1, .iaload, []), (279, 1, .aload_n 0, []), (280, 2, .iload 5, []), (282, 1, .iconst 2, []), (283, 1, .iadd, []), (284, 1, .iaload, []), (285, 1, .aload_n 3, []), (286, 3, .invokestatic 113, [4, 254])]
def xk_278_9 : List xEn := [(289, 2, .istore 6, []), (291, 1, .aload_n 2, []), (292, 1, .aload_n 0, []), (293, 2, .iload 5, []), (295, 1, .iconst 1, []), (296, 1, .iadd, []), (297, 1, .iaload, []), (298, 1, .aload_n 0, []), (299, 2, .iload 5, []), (301, 1, .iconst 2, []), (302, 1, .iadd, []), (303, 1, .iaload, []), (304, 3, .invokevirtual 116, [2, 13, 163]), (307, 2, .istore 7, []), (309, 1, .aload_n 2, []), (310, 3, .invokevirtual 110, [0, 13, 157]), (313, 2, .iload 6, []), (315, 3, .if_icmp .eq 5, []), (318, 1, .iconst 0, []), (319, 1, .ireturn, [])]
def xk_278_10 : List xEn := [(320, 2, .iload 6, []), (322, 3, .ifCond .ne 15, []), (325, 1, .aload_n 3, []), (326, 1, .iconst 0, []), (327, 1, .laload, []), (328, 2, .iload 7, []), (330, 1, .i2l, []), (331, 1, .lcmp, []), (332, 3, .ifCond .eq 5, []), (335, 1, .iconst 0, []), (336, 1, .ireturn, []), (337, 3, .goto 1611, []), (340, 1, .aload_n 1, []), (341, 1, .aload_n 0, []), (342, 2, .iload 5, []), (344, 1, .iconst 1, []), (345, 1, .iadd, []), (346, 1, .iaload, []), (347, 1, .aload_n 0, []), (348, 2, .iload 5, []), (350, 1, .iconst 2, []), (351, 1, .iadd, [])]
def xk_278_11 : List xEn := [(352, 1, .iaload, []), (353, 1, .aload_n 3, []), (354, 3, .invokestatic 117, [4, 255]), (357, 2, .istore 6, []), (359, 1, .aload_n 2, []), (360, 1, .aload_n 0, []), (361, 2, .iload 5, []), (363, 1, .iconst 1, []), (364, 1, .iadd, []), (365, 1, .iaload, []), (366, 1, .aload_n 0, []), (367, 2, .iload 5, []), (369, 1, .iconst 2, []), (370, 1, .iadd, []), (371, 1, .iaload, []), (372, 3, .invokevirtual 119, [2, 13, 164]), (375, 2, .istore 7, []), (377, 1, .aload_n 2, []), (378, 3, .invokevirtual 110, [0, 13, 157]), (381, 2, .iload 6, []), (383, 3, .if_icmp .eq 5, [])]
def xk_278_12 : List xEn := [(386, 1, .iconst 0, []), (387, 1, .ireturn, []), (388, 2, .iload 6, []), (390, 3, .ifCond .ne 15, []), (393, 1, .aload_n 3, []), (394, 1, .iconst 0, []), (395, 1, .laload, []), (396, 2, .iload 7, []), (398, 1, .i2l, []), (399, 1, .lcmp, []), (400, 3, .ifCond .eq 5, []), (403, 1, .iconst 0, []), (404, 1, .ireturn, []), (405, 3, .goto 1543, []), (408, 1, .aload_n 1, []), (409, 1, .aload_n 0, []), (410, 2, .iload 5, []), (412, 1, .iconst 1, []), (413, 1, .iadd, []), (414, 1, .iaload, []), (415, 1, .i2c, [])]
def xk_278_13 : List xEn := [(416, 1, .aload_n 0, []), (417, 2, .iload 5, []), (419, 1, .iconst 2, []), (420, 1, .iadd, []), (421, 1, .iaload, []), (422, 1, .i2c, []), (423, 1, .aload_n 0, []), (424, 2, .iload 5, []), (426, 1, .iconst 3, []), (427, 1, .iadd, []), (428, 1, .iaload, []), (429, 1, .i2c, []), (430, 1, .aload_n 0, []), (431, 2, .iload 5, []), (433, 1, .iconst 4, []), (434, 1, .iadd, []), (435, 1, .iaload, []), (436, 1, .aload_n 0, []), (437, 2, .iload 5, []), (439, 1, .iconst 5, []), (440, 1, .iadd, []), (441, 1, .iaload, []), (442, 1, .aload_n 0, []), (443, 2, .iload 5, []), (445, 2, .bipush 6, []), (447, 1, .iadd, [])]
def xk_278_14 : List xEn := [(448, 1, .iaload, []), (449, 1, .aload_n 3, []), (450, 3, .invokestatic 120, [8, 256]), (453, 2, .istore 6, []), (455, 1, .aload_n 2, []), (456, 1, .aload_n 0, []), (457, 2, .iload 5, []), (459, 1, .iconst 1, []), (460, 1, .iadd, []), (461, 1, .iaload, []), (462, 1, .i2c, []), (463, 1, .aload_n 0, []), (464, 2, .iload 5, []), (466, 1, .iconst 2, []), (467, 1, .iadd, []), (468, 1, .iaload, []), (469, 1, .i2c, []), (470, 1, .aload_n 0, []), (471, 2, .iload 5, []), (473, 1, .iconst 3, []), (474, 1, .iadd, []), (475, 1, .iaload, []), (476, 1, .i2c, []), (477, 1, .aload_n 0, []), (478, 2, .iload 5, [])]
def xk_278_15 : List xEn := [(480, 1, .iconst 4, []), (481, 1, .iadd, []), (482, 1, .iaload, []), (483, 1, .aload_n 0, []), (484, 2, .iload 5, []), (486, 1, .iconst 5, []), (487, 1, .iadd, []), (488, 1, .iaload, []), (489, 1, .aload_n 0, []), (490, 2, .iload 5, []), (492, 2, .bipush 6, []), (494, 1, .iadd, []), (495, 1, .iaload, []), (496, 3, .invokevirtual 123, [6, 13, 165]), (499, 2, .istore 7, []), (501, 1, .aload_n 2, []), (502, 3, .invokevirtual 110, [0, 13, 157]), (505, 2, .iload 6, []), (507, 3, .if_icmp .eq 5, []), (510, 1, .iconst 0, []), (511, 1, .ireturn, [])]
def xk_278_16 : List xEn := [(512, 2, .iload 6, []), (514, 3, .ifCond .ne 15, []), (517, 1, .aload_n 3, []), (518, 1, .iconst 0, []), (519, 1, .laload, []), (520, 2, .iload 7, []), (522, 1, .i2l, []), (523, 1, .lcmp, []), (524, 3, .ifCond .eq 5, []), (527, 1, .iconst 0, []), (528, 1, .ireturn, []), (529, 3, .goto 1419, []), (532, 1, .aload_n 1, []), (533, 1, .aload_n 0, []), (534, 2, .iload 5, []), (536, 1, .iconst 1, []), (537, 1, .iadd, []), (538, 1, .iaload, []), (539, 1, .aload_n 3, []), (540, 3, .invokestatic 124, [3, 257]), (543, 2, .istore 6, [])]
def xk_278_17 : List xEn := [(545, 1, .aload_n 2, []), (546, 1, .aload_n 0, []), (547, 2, .iload 5, []), (549, 1, .iconst 1, []), (550, 1, .iadd, []), (551, 1, .iaload, []), (552, 3, .invokevirtual 127, [1, 13, 166]), (555, 2, .istore 7, []), (557, 1, .aload_n 2, []), (558, 3, .invokevirtual 110, [0, 13, 157]), (561, 2, .iload 6, []), (563, 3, .if_icmp .eq 5, []), (566, 1, .iconst 0, []), (567, 1, .ireturn, []), (568, 2, .iload 6, []), (570, 3, .ifCond .ne 15, []), (573, 1, .aload_n 3, []), (574, 1, .iconst 0, []), (575, 1, .laload, [])]
def xk_278_18 : List xEn := [(576, 2, .iload 7, []), (578, 1, .i2l, []), (579, 1, .lcmp, []), (580, 3, .ifCond .eq 5, []), (583, 1, .iconst 0, []), (584, 1, .ireturn, []), (585, 3, .goto 1363, []), (588, 1, .aload_n 1, []), (589, 1, .aload_n 0, []), (590, 2, .iload 5, []), (592, 1, .iconst 1, []), (593, 1, .iadd, []), (594, 1, .iaload, []), (595, 1, .aload_n 0, []), (596, 2, .iload 5, []), (598, 1, .iconst 2, []), (599, 1, .iadd, []), (600, 1, .iaload, []), (601, 1, .aload_n 3, []), (602, 3, .invokestatic 128, [4, 258]), (605, 2, .istore 6, []), (607, 1, .aload_n 2, [])]
def xk_278_19 : List xEn := [(608, 1, .aload_n 0, []), (609, 2, .iload 5, []), (611, 1, .iconst 1, []), (612, 1, .iadd, []), (613, 1, .iaload, []), (614, 1, .aload_n 0, []), (615, 2, .iload 5, []), (617, 1, .iconst 2, []), (618, 1, .iadd, []), (619, 1, .iaload, []), (620, 3, .invokevirtual 130, [2, 13, 191]), (623, 2, .istore 7, []), (625, 1, .aload_n 2, []), (626, 3, .invokevirtual 110, [0, 13, 157]), (629, 2, .iload 6, []), (631, 3, .if_icmp .eq 5, []), (634, 1, .iconst 0, []), (635, 1, .ireturn, []), (636, 2, .iload 6, []), (638, 3, .ifCond .ne 15, [])]
def xk_278_20 : List xEn := [(641, 1, .aload_n 3, []), (642, 1, .iconst 0, []), (643, 1, .laload, []), (644, 2, .iload 7, []), (646, 1, .i2l, []), (647, 1, .lcmp, []), (648, 3, .ifCond .eq 5, []), (651, 1, .iconst 0, []), (652, 1, .ireturn, []), (653, 3, .goto 1295, []), (656, 1, .aload_n 1, []), (657, 1, .aload_n 0, []), (658, 2, .iload 5, []), (660, 1, .iconst 1, []), (661, 1, .iadd, []), (662, 1, .iaload, []), (663, 1, .aload_n 3, []), (664, 3, .invokestatic 131, [3, 259]), (667, 2, .istore 6, []), (669, 1, .aload_n 2, []), (670, 1, .aload_n 0, []), (671, 2, .iload 5, [])]
def xk_278_21 : List xEn := [(673, 1, .iconst 1, []), (674, 1, .iadd, []), (675, 1, .iaload, []), (676, 3, .invokevirtual 133, [1, 13, 192]), (679, 2, .istore 7, []), (681, 1, .aload_n 2, []), (682, 3, .invokevirtual 110, [0, 13, 157]), (685, 2, .iload 6, []), (687, 3, .if_icmp .eq 5, []), (690, 1, .iconst 0, []), (691, 1, .ireturn, []), (692, 2, .iload 6, []), (694, 3, .ifCond .ne 15, []), (697, 1, .aload_n 3, []), (698, 1, .iconst 0, []), (699, 1, .laload, []), (700, 2, .iload 7, []), (702, 1, .i2l, []), (703, 1, .lcmp, [])]
def xk_278_22 : List xEn := [(704, 3, .ifCond .eq 5, []), (707, 1, .iconst 0, []), (708, 1, .ireturn, []), (709, 3, .goto 1239, []), (712, 1, .aload_n 1, []), (713, 1, .aload_n 0, []), (714, 2, .iload 5, []), (716, 1, .iconst 1, []), (717, 1, .iadd, []), (718, 1, .iaload, []), (719, 1, .aload_n 3, []), (720, 3, .invokestatic 134, [3, 260]), (723, 2, .istore 6, []), (725, 1, .aload_n 2, []), (726, 1, .aload_n 0, []), (727, 2, .iload 5, []), (729, 1, .iconst 1, []), (730, 1, .iadd, []), (731, 1, .iaload, []), (732, 3, .invokevirtual 136, [1, 13, 193]), (735, 2, .istore 7, [])]
def xk_278_23 : List xEn := [(737, 1, .aload_n 2, []), (738, 3, .invokevirtual 110, [0, 13, 157]), (741, 2, .iload 6, []), (743, 3, .if_icmp .eq 5, []), (746, 1, .iconst 0, []), (747, 1, .ireturn, []), (748, 2, .iload 6, []), (750, 3, .ifCond .ne 15, []), (753, 1, .aload_n 3, []), (754, 1, .iconst 0, []), (755, 1, .laload, []), (756, 2, .iload 7, []), (758, 1, .i2l, []), (759, 1, .lcmp, []), (760, 3, .ifCond .eq 5, []), (763, 1, .iconst 0, []), (764, 1, .ireturn, []), (765, 3, .goto 1183, [])]
def xk_278_24 : List xEn := [(768, 1, .aload_n 1, []), (769, 3, .invokevirtual 137, [0, 10, 108]), (772, 1, .aload_n 2, []), (773, 3, .invokevirtual 140, [0, 13, 194]), (776, 3, .if_icmp .eq 1172, []), (779, 1, .iconst 0, []), (780, 1, .ireturn, []), (781, 1, .aload_n 1, []), (782, 1, .aload_n 0, []), (783, 2, .iload 5, []), (785, 1, .iconst 1, []), (786, 1, .iadd, []), (787, 1, .iaload, []), (788, 1, .aload_n 3, []), (789, 3, .invokestatic 141, [3, 261]), (792, 2, .istore 6, []), (794, 1, .aload_n 2, []), (795, 1, .aload_n 0, []), (796, 2, .iload 5, []), (798, 1, .iconst 1, []), (799, 1, .iadd, [])]
def xk_278_25 : List xEn := [(800, 1, .iaload, []), (801, 3, .invokevirtual 143, [1, 13, 196]), (804, 2, .istore 7, []), (806, 1, .aload_n 2, []), (807, 3, .invokevirtual 110, [0, 13, 157]), (810, 2, .iload 6, []), (812, 3, .if_icmp .eq 5, []), (815, 1, .iconst 0, []), (816, 1, .ireturn, []), (817, 2, .iload 6, []), (819, 3, .ifCond .ne 15, []), (822, 1, .aload_n 3, []), (823, 1, .iconst 0, []), (824, 1, .laload, []), (825, 2, .iload 7, []), (827, 1, .i2l, []), (828, 1, .lcmp, []), (829, 3, .ifCond .eq 5, [])]
def xk_278_26 : List xEn := [(832, 1, .iconst 0, []), (833, 1, .ireturn, []), (834, 3, .goto 1114, []), (837, 1, .aload_n 1, []), (838, 1, .aload_n 0, []), (839, 2, .iload 5, []), (841, 1, .iconst 1, []), (842, 1, .iadd, []), (843, 1, .iaload, []), (844, 1, .aload_n 0, []), (845, 2, .iload 5, []), (847, 1, .iconst 2, []), (848, 1, .iadd, []), (849, 1, .iaload, []), (850, 1, .aload_n 0, []), (851, 2, .iload 5, []), (853, 1, .iconst 3, []), (854, 1, .iadd, []), (855, 1, .iaload, []), (856, 1, .aload_n 0, []), (857, 2, .iload 5, []), (859, 1, .iconst 4, []), (860, 1, .iadd, []), (861, 1, .iaload, []), (862, 1, .aload_n 3, []), (863, 3, .invokestatic 144, [6, 262])]
def xk_278_27 : List xEn := [(866, 2, .istore 6, []), (868, 1, .aload_n 2, []), (869, 1, .aload_n 0, []), (870, 2, .iload 5, []), (872, 1, .iconst 1, []), (873, 1, .iadd, []), (874, 1, .iaload, []), (875, 1, .aload_n 0, []), (876, 2, .iload 5, []), (878, 1, .iconst 2, []), (879, 1, .iadd, []), (880, 1, .iaload, []), (881, 1, .aload_n 0, []), (882, 2, .iload 5, []), (884, 1, .iconst 3, []), (885, 1, .iadd, []), (886, 1, .iaload, []), (887, 1, .aload_n 0, []), (888, 2, .iload 5, []), (890, 1, .iconst 4, []), (891, 1, .iadd, []), (892, 1, .iaload, []), (893, 3, .invokevirtual 146, [4, 13, 197])]
def xk_278_28 : List xEn := [(896, 2, .istore 7, []), (898, 1, .aload_n 2, []), (899, 3, .invokevirtual 110, [0, 13, 157]), (902, 2, .iload 6, []), (904, 3, .if_icmp .eq 5, []), (907, 1, .iconst 0, []), (908, 1, .ireturn, []), (909, 2, .iload 6, []), (911, 3, .ifCond .ne 15, []), (914, 1, .aload_n 3, []), (915, 1, .iconst 0, []), (916, 1, .laload, []), (917, 2, .iload 7, []), (919, 1, .i2l, []), (920, 1, .lcmp, []), (921, 3, .ifCond .eq 5, []), (924, 1, .iconst 0, []), (925, 1, .ireturn, []), (926, 3, .goto 1022, [])]
def xk_278_29 : List xEn := [(929, 1, .aload_n 1, []), (930, 1, .aload_n 0, []), (931, 2, .iload 5, []), (933, 1, .iconst 1, []), (934, 1, .iadd, []), (935, 1, .iaload, []), (936, 1, .aload_n 0, []), (937, 2, .iload 5, []), (939, 1, .iconst 2, []), (940, 1, .iadd, []), (941, 1, .iaload, []), (942, 1, .aload_n 0, []), (943, 2, .iload 5, []), (945, 1, .iconst 3, []), (946, 1, .iadd, []), (947, 1, .iaload, []), (948, 1, .aload_n 0, []), (949, 2, .iload 5, []), (951, 1, .iconst 4, []), (952, 1, .iadd, []), (953, 1, .iaload, []), (954, 1, .aload_n 3, []), (955, 3, .invokestatic 147, [6, 263]), (958, 2, .istore 6, [])]
def xk_278_30 : List xEn := [(960, 1, .aload_n 2, []), (961, 1, .aload_n 0, []), (962, 2, .iload 5, []), (964, 1, .iconst 1, []), (965, 1, .iadd, []), (966, 1, .iaload, []), (967, 1, .aload_n 0, []), (968, 2, .iload 5, []), (970, 1, .iconst 2, []), (971, 1, .iadd, []), (972, 1, .iaload, []), (973, 1, .aload_n 0, []), (974, 2, .iload 5, []), (976, 1, .iconst 3, []), (977, 1, .iadd, []), (978, 1, .iaload, []), (979, 1, .aload_n 0, []), (980, 2, .iload 5, []), (982, 1, .iconst 4, []), (983, 1, .iadd, []), (984, 1, .iaload, []), (985, 3, .invokevirtual 149, [4, 13, 198]), (988, 2, .istore 7, []), (990, 1, .aload_n 2, []), (991, 3, .invokevirtual 110, [0, 13, 157])]
def xk_278_31 : List xEn := [(994, 2, .iload 6, []), (996, 3, .if_icmp .eq 5, []), (999, 1, .iconst 0, []), (1000, 1, .ireturn, []), (1001, 2, .iload 6, []), (1003, 3, .ifCond .ne 15, []), (1006, 1, .aload_n 3, []), (1007, 1, .iconst 0, []), (1008, 1, .laload, []), (1009, 2, .iload 7, []), (1011, 1, .i2l, []), (1012, 1, .lcmp, []), (1013, 3, .ifCond .eq 5, []), (1016, 1, .iconst 0, []), (1017, 1, .ireturn, []), (1018, 3, .goto 930, []), (1021, 1, .aload_n 1, []), (1022, 1, .aload_n 0, []), (1023, 2, .iload 5, [])]
def xk_278_32 : List xEn := [(1025, 1, .iconst 1, []), (1026, 1, .iadd, []), (1027, 1, .iaload, []), (1028, 1, .aload_n 0, []), (1029, 2, .iload 5, []), (1031, 1, .iconst 2, []), (1032, 1, .iadd, []), (1033, 1, .iaload, []), (1034, 1, .aload_n 3, []), (1035, 3, .invokestatic 150, [4, 264]), (1038, 2, .istore 6, []), (1040, 1, .aload_n 2, []), (1041, 1, .aload_n 0, []), (1042, 2, .iload 5, []), (1044, 1, .iconst 1, []), (1045, 1, .iadd, []), (1046, 1, .iaload, []), (1047, 1, .aload_n 0, []), (1048, 2, .iload 5, []), (1050, 1, .iconst 2, []), (1051, 1, .iadd, []), (1052, 1, .iaload, []), (1053, 3, .invokevirtual 152, [2, 13, 200])]
def xk_278_33 : List xEn := [(1056, 2, .istore 7, []), (1058, 1, .aload_n 2, []), (1059, 3, .invokevirtual 110, [0, 13, 157]), (1062, 2, .iload 6, []), (1064, 3, .if_icmp .eq 5, []), (1067, 1, .iconst 0, []), (1068, 1, .ireturn, []), (1069, 2, .iload 6, []), (1071, 3, .ifCond .ne 15, []), (1074, 1, .aload_n 3, []), (1075, 1, .iconst 0, []), (1076, 1, .laload, []), (1077, 2, .iload 7, []), (1079, 1, .i2l, []), (1080, 1, .lcmp, []), (1081, 3, .ifCond .eq 5, []), (1084, 1, .iconst 0, []), (1085, 1, .ireturn, []), (1086, 3, .goto 862, [])]
def xk_278_34 : List xEn := [(1089, 1, .aload_n 1, []), (1090, 1, .aload_n 0, []), (1091, 2, .iload 5, []), (1093, 1, .iconst 1, []), (1094, 1, .iadd, []), (1095, 1, .iaload, []), (1096, 1, .aload_n 3, []), (1097, 3, .invokestatic 153, [3, 265]), (1100, 2, .istore 6, []), (1102, 1, .aload_n 2, []), (1103, 1, .aload_n 0, []), (1104, 2, .iload 5, []), (1106, 1, .iconst 1, []), (1107, 1, .iadd, []), (1108, 1, .iaload, []), (1109, 3, .invokevirtual 155, [1, 13, 201]), (1112, 2, .istore 7, []), (1114, 1, .aload_n 2, []), (1115, 3, .invokevirtual 110, [0, 13, 157]), (1118, 2, .iload 6, [])]
def xk_278_35 : List xEn := [(1120, 3, .if_icmp .eq 5, []), (1123, 1, .iconst 0, []), (1124, 1, .ireturn, []), (1125, 2, .iload 6, []), (1127, 3, .ifCond .ne 15, []), (1130, 1, .aload_n 3, []), (1131, 1, .iconst 0, []), (1132, 1, .laload, []), (1133, 2, .iload 7, []), (1135, 1, .i2l, []), (1136, 1, .lcmp, []), (1137, 3, .ifCond .eq 5, []), (1140, 1, .iconst 0, []), (1141, 1, .ireturn, []), (1142, 3, .goto 806, []), (1145, 1, .aload_n 1, []), (1146, 1, .aload_n 0, []), (1147, 2, .iload 5, []), (1149, 1, .iconst 1, []), (1150, 1, .iadd, []), (1151, 1, .iaload, [])]
def xk_278_36 : List xEn := [(1152, 1, .aload_n 3, []), (1153, 3, .invokestatic 156, [3, 266]), (1156, 2, .istore 6, []), (1158, 1, .aload_n 2, []), (1159, 1, .aload_n 0, []), (1160, 2, .iload 5, []), (1162, 1, .iconst 1, []), (1163, 1, .iadd, []), (1164, 1, .iaload, []), (1165, 3, .invokevirtual 158, [1, 13, 202]), (1168, 2, .istore 7, []), (1170, 1, .aload_n 2, []), (1171, 3, .invokevirtual 110, [0, 13, 157]), (1174, 2, .iload 6, []), (1176, 3, .if_icmp .eq 5, []), (1179, 1, .iconst 0, []), (1180, 1, .ireturn, []), (1181, 2, .iload 6, []), (1183, 3, .ifCond .ne 15, [])]
def xk_278_37 : List xEn := [(1186, 1, .aload_n 3, []), (1187, 1, .iconst 0, []), (1188, 1, .laload, []), (1189, 2, .iload 7, []), (1191, 1, .i2l, []), (1192, 1, .lcmp, []), (1193, 3, .ifCond .eq 5, []), (1196, 1, .iconst 0, []), (1197, 1, .ireturn, []), (1198, 3, .goto 750, []), (1201, 1, .aload_n 1, []), (1202, 3, .invokevirtual 159, [0, 10, 115]), (1205, 1, .aload_n 2, []), (1206, 3, .invokevirtual 162, [0, 13, 204]), (1209, 3, .if_icmp .eq 739, []), (1212, 1, .iconst 0, []), (1213, 1, .ireturn, []), (1214, 1, .aload_n 1, []), (1215, 1, .aload_n 3, [])]
def xk_278_38 : List xEn := [(1216, 3, .invokestatic 163, [2, 267]), (1219, 2, .istore 6, []), (1221, 1, .aload_n 2, []), (1222, 3, .invokevirtual 166, [0, 13, 205]), (1225, 2, .istore 7, []), (1227, 1, .aload_n 2, []), (1228, 3, .invokevirtual 110, [0, 13, 157]), (1231, 2, .iload 6, []), (1233, 3, .if_icmp .eq 5, []), (1236, 1, .iconst 0, []), (1237, 1, .ireturn, []), (1238, 2, .iload 6, []), (1240, 3, .ifCond .ne 15, []), (1243, 1, .aload_n 3, []), (1244, 1, .iconst 0, []), (1245, 1, .laload, []), (1246, 2, .iload 7, [])]
def xk_278_39 : List xEn := [(1248, 1, .i2l, []), (1249, 1, .lcmp, []), (1250, 3, .ifCond .eq 5, []), (1253, 1, .iconst 0, []), (1254, 1, .ireturn, []), (1255, 3, .goto 693, []), (1258, 1, .aload_n 1, []), (1259, 1, .aload_n 3, []), (1260, 3, .invokestatic 167, [2, 268]), (1263, 2, .istore 6, []), (1265, 1, .aload_n 2, []), (1266, 3, .invokevirtual 169, [0, 13, 206]), (1269, 2, .istore 7, []), (1271, 1, .aload_n 2, []), (1272, 3, .invokevirtual 110, [0, 13, 157]), (1275, 2, .iload 6, []), (1277, 3, .if_icmp .eq 5, [])]
def xk_278_40 : List xEn := [(1280, 1, .iconst 0, []), (1281, 1, .ireturn, []), (1282, 2, .iload 6, []), (1284, 3, .ifCond .ne 15, []), (1287, 1, .aload_n 3, []), (1288, 1, .iconst 0, []), (1289, 1, .laload, []), (1290, 2, .iload 7, []), (1292, 1, .i2l, []), (1293, 1, .lcmp, []), (1294, 3, .ifCond .eq 5, []), (1297, 1, .iconst 0, []), (1298, 1, .ireturn, []), (1299, 3, .goto 649, []), (1302, 1, .aload_n 1, []), (1303, 3, .invokevirtual 170, [0, 10, 118]), (1306, 1, .aload_n 2, []), (1307, 3, .invokevirtual 173, [0, 13, 207]), (1310, 3, .if_icmp .eq 638, [])]
def xk_278_41 : List xEn := [(1313, 1, .iconst 0, []), (1314, 1, .ireturn, []), (1315, 1, .aload_n 1, []), (1316, 3, .invokevirtual 174, [0, 10, 119]), (1319, 1, .aload_n 2, []), (1320, 3, .invokevirtual 177, [0, 13, 208]), (1323, 3, .if_icmp .eq 625, []), (1326, 1, .iconst 0, []), (1327, 1, .ireturn, []), (1328, 1, .aload_n 1, []), (1329, 1, .aload_n 0, []), (1330, 2, .iload 5, []), (1332, 1, .iconst 1, []), (1333, 1, .iadd, []), (1334, 1, .iaload, []), (1335, 1, .aload_n 0, []), (1336, 2, .iload 5, []), (1338, 1, .iconst 2, []), (1339, 1, .iadd, []), (1340, 1, .iaload, []), (1341, 1, .aload_n 3, []), (1342, 3, .invokestatic 178, [4, 269])]
def xk_278_42 : List xEn := [(1345, 2, .istore 6, []), (1347, 1, .aload_n 2, []), (1348, 1, .aload_n 0, []), (1349, 2, .iload 5, []), (1351, 1, .iconst 1, []), (1352, 1, .iadd, []), (1353, 1, .iaload, []), (1354, 1, .aload_n 0, []), (1355, 2, .iload 5, []), (1357, 1, .iconst 2, []), (1358, 1, .iadd, []), (1359, 1, .iaload, []), (1360, 3, .invokevirtual 180, [2, 13, 210]), (1363, 2, .istore 7, []), (1365, 1, .aload_n 2, []), (1366, 3, .invokevirtual 110, [0, 13, 157]), (1369, 2, .iload 6, []), (1371, 3, .if_icmp .eq 5, []), (1374, 1, .iconst 0, []), (1375, 1, .ireturn, [])]
def xk_278_43 : List xEn := [(1376, 2, .iload 6, []), (1378, 3, .ifCond .ne 15, []), (1381, 1, .aload_n 3, []), (1382, 1, .iconst 0, []), (1383, 1, .laload, []), (1384, 2, .iload 7, []), (1386, 1, .i2l, []), (1387, 1, .lcmp, []), (1388, 3, .ifCond .eq 5, []), (1391, 1, .iconst 0, []), (1392, 1, .ireturn, []), (1393, 3, .goto 555, []), (1396, 1, .aload_n 1, []), (1397, 1, .aload_n 0, []), (1398, 2, .iload 5, []), (1400, 1, .iconst 1, []), (1401, 1, .iadd, []), (1402, 1, .iaload, []), (1403, 1, .aload_n 0, []), (1404, 2, .iload 5, []), (1406, 1, .iconst 2, []), (1407, 1, .iadd, [])]
def xk_278_44 : List xEn := [(1408, 1, .iaload, []), (1409, 1, .aload_n 3, []), (1410, 3, .invokestatic 181, [4, 270]), (1413, 2, .istore 6, []), (1415, 1, .aload_n 2, []), (1416, 1, .aload_n 0, []), (1417, 2, .iload 5, []), (1419, 1, .iconst 1, []), (1420, 1, .iadd, []), (1421, 1, .iaload, []), (1422, 1, .aload_n 0, []), (1423, 2, .iload 5, []), (1425, 1, .iconst 2, []), (1426, 1, .iadd, []), (1427, 1, .iaload, []), (1428, 3, .invokevirtual 183, [2, 13, 211]), (1431, 2, .istore 7, []), (1433, 1, .aload_n 2, []), (1434, 3, .invokevirtual 110, [0, 13, 157]), (1437, 2, .iload 6, []), (1439, 3, .if_icmp .eq 5, [])]
def xk_278_45 : List xEn := [(1442, 1, .iconst 0, []), (1443, 1, .ireturn, []), (1444, 2, .iload 6, []), (1446, 3, .ifCond .ne 15, []), (1449, 1, .aload_n 3, []), (1450, 1, .iconst 0, []), (1451, 1, .laload, []), (1452, 2, .iload 7, []), (1454, 1, .i2l, []), (1455, 1, .lcmp, []), (1456, 3, .ifCond .eq 5, []), (1459, 1, .iconst 0, []), (1460, 1, .ireturn, []), (1461, 3, .goto 487, []), (1464, 1, .aload_n 1, []), (1465, 1, .aload_n 0, []), (1466, 2, .iload 5, []), (1468, 1, .iconst 1, []), (1469, 1, .iadd, []), (1470, 1, .iaload, []), (1471, 1, .aload_n 3, [])]
def xk_278_46 : List xEn := [(1472, 3, .invokestatic 184, [3, 271]), (1475, 2, .istore 6, []), (1477, 1, .aload_n 2, []), (1478, 1, .aload_n 0, []), (1479, 2, .iload 5, []), (1481, 1, .iconst 1, []), (1482, 1, .iadd, []), (1483, 1, .iaload, []), (1484, 3, .invokevirtual 186, [1, 13, 212]), (1487, 2, .istore 7, []), (1489, 1, .aload_n 2, []), (1490, 3, .invokevirtual 110, [0, 13, 157]), (1493, 2, .iload 6, []), (1495, 3, .if_icmp .eq 5, []), (1498, 1, .iconst 0, []), (1499, 1, .ireturn, []), (1500, 2, .iload 6, []), (1502, 3, .ifCond .ne 15, [])]
def xk_278_47 : List xEn := [(1505, 1, .aload_n 3, []), (1506, 1, .iconst 0, []), (1507, 1, .laload, []), (1508, 2, .iload 7, []), (1510, 1, .i2l, []), (1511, 1, .lcmp, []), (1512, 3, .ifCond .eq 5, []), (1515, 1, .iconst 0, []), (1516, 1, .ireturn, []), (1517, 3, .goto 431, []), (1520, 1, .aload_n 1, []), (1521, 1, .aload_n 0, []), (1522, 2, .iload 5, []), (1524, 1, .iconst 1, []), (1525, 1, .iadd, []), (1526, 1, .iaload, []), (1527, 1, .aload_n 0, []), (1528, 2, .iload 5, []), (1530, 1, .iconst 2, []), (1531, 1, .iadd, []), (1532, 1, .iaload, []), (1533, 1, .aload_n 3, []), (1534, 3, .invokestatic 187, [4, 272])]
def xk_278_48 : List xEn := [(1537, 2, .istore 6, []), (1539, 1, .aload_n 2, []), (1540, 1, .aload_n 0, []), (1541, 2, .iload 5, []), (1543, 1, .iconst 1, []), (1544, 1, .iadd, []), (1545, 1, .iaload, []), (1546, 1, .aload_n 0, []), (1547, 2, .iload 5, []), (1549, 1, .iconst 2, []), (1550, 1, .iadd, []), (1551, 1, .iaload, []), (1552, 3, .invokevirtual 189, [2, 13, 214]), (1555, 2, .istore 7, []), (1557, 1, .aload_n 2, []), (1558, 3, .invokevirtual 110, [0, 13, 157]), (1561, 2, .iload 6, []), (1563, 3, .if_icmp .eq 5, []), (1566, 1, .iconst 0, []), (1567, 1, .ireturn, [])]
def xk_278_49 : List xEn := [(1568, 2, .iload 6, []), (1570, 3, .ifCond .ne 15, []), (1573, 1, .aload_n 3, []), (1574, 1, .iconst 0, []), (1575, 1, .laload, []), (1576, 2, .iload 7, []), (1578, 1, .i2l, []), (1579, 1, .lcmp, []), (1580, 3, .ifCond .eq 5, []), (1583, 1, .iconst 0, []), (1584, 1, .ireturn, []), (1585, 3, .goto 363, []), (1588, 1, .aload_n 1, []), (1589, 1, .aload_n 0, []), (1590, 2, .iload 5, []), (1592, 1, .iconst 1, []), (1593, 1, .iadd, []), (1594, 1, .iaload, []), (1595, 1, .aload_n 3, []), (1596, 3, .invokestatic 190, [3, 273]), (1599, 2, .istore 6, [])]
def xk_278_50 : List xEn := [(1601, 1, .aload_n 2, []), (1602, 1, .aload_n 0, []), (1603, 2, .iload 5, []), (1605, 1, .iconst 1, []), (1606, 1, .iadd, []), (1607, 1, .iaload, []), (1608, 3, .invokevirtual 192, [1, 13, 215]), (1611, 2, .istore 7, []), (1613, 1, .aload_n 2, []), (1614, 3, .invokevirtual 110, [0, 13, 157]), (1617, 2, .iload 6, []), (1619, 3, .if_icmp .eq 5, []), (1622, 1, .iconst 0, []), (1623, 1, .ireturn, []), (1624, 2, .iload 6, []), (1626, 3, .ifCond .ne 15, []), (1629, 1, .aload_n 3, []), (1630, 1, .iconst 0, []), (1631, 1, .laload, [])]
def xk_278_51 : List xEn := [(1632, 2, .iload 7, []), (1634, 1, .i2l, []), (1635, 1, .lcmp, []), (1636, 3, .ifCond .eq 5, []), (1639, 1, .iconst 0, []), (1640, 1, .ireturn, []), (1641, 3, .goto 307, []), (1644, 1, .aload_n 1, []), (1645, 1, .aload_n 0, []), (1646, 2, .iload 5, []), (1648, 1, .iconst 1, []), (1649, 1, .iadd, []), (1650, 1, .iaload, []), (1651, 1, .aload_n 3, []), (1652, 3, .invokestatic 193, [3, 274]), (1655, 2, .istore 6, []), (1657, 1, .aload_n 2, []), (1658, 1, .aload_n 0, []), (1659, 2, .iload 5, []), (1661, 1, .iconst 1, []), (1662, 1, .iadd, []), (1663, 1, .iaload, [])]
def xk_278_52 : List xEn := [(1664, 3, .invokevirtual 195, [1, 13, 216]), (1667, 2, .istore 7, []), (1669, 1, .aload_n 2, []), (1670, 3, .invokevirtual 110, [0, 13, 157]), (1673, 2, .iload 6, []), (1675, 3, .if_icmp .eq 5, []), (1678, 1, .iconst 0, []), (1679, 1, .ireturn, []), (1680, 2, .iload 6, []), (1682, 3, .ifCond .ne 15, []), (1685, 1, .aload_n 3, []), (1686, 1, .iconst 0, []), (1687, 1, .laload, []), (1688, 2, .iload 7, []), (1690, 1, .i2l, []), (1691, 1, .lcmp, []), (1692, 3, .ifCond .eq 5, []), (1695, 1, .iconst 0, [])]
def xk_278_53 : List xEn := [(1696, 1, .ireturn, []), (1697, 3, .goto 251, []), (1700, 1, .aload_n 1, []), (1701, 1, .aload_n 0, []), (1702, 2, .iload 5, []), (1704, 1, .iconst 1, []), (1705, 1, .iadd, []), (1706, 1, .iaload, []), (1707, 1, .aload_n 0, []), (1708, 2, .iload 5, []), (1710, 1, .iconst 2, []), (1711, 1, .iadd, []), (1712, 1, .iaload, []), (1713, 2, .aload 4, []), (1715, 3, .invokestatic 196, [4, 275]), (1718, 2, .istore 6, []), (1720, 1, .aload_n 2, []), (1721, 1, .aload_n 0, []), (1722, 2, .iload 5, []), (1724, 1, .iconst 1, []), (1725, 1, .iadd, []), (1726, 1, .iaload, []), (1727, 1, .aload_n 0, [])]
def xk_278_54 : List xEn := [(1728, 2, .iload 5, []), (1730, 1, .iconst 2, []), (1731, 1, .iadd, []), (1732, 1, .iaload, []), (1733, 3, .invokevirtual 199, [2, 13, 218]), (1736, 2, .fstore 7, []), (1738, 1, .aload_n 2, []), (1739, 3, .invokevirtual 110, [0, 13, 157]), (1742, 2, .iload 6, []), (1744, 3, .if_icmp .eq 5, []), (1747, 1, .iconst 0, []), (1748, 1, .ireturn, []), (1749, 2, .iload 6, []), (1751, 3, .ifCond .ne 36, []), (1754, 2, .aload 4, []), (1756, 1, .iconst 0, []), (1757, 1, .daload, []), (1758, 2, .fload 7, [])]
def xk_278_55 : List xEn := [(1760, 1, .f2d, []), (1761, 1, .dcmp .l, []), (1762, 3, .ifCond .eq 25, []), (1765, 2, .aload 4, []), (1767, 1, .iconst 0, []), (1768, 1, .daload, []), (1769, 2, .aload 4, []), (1771, 1, .iconst 0, []), (1772, 1, .daload, []), (1773, 1, .dcmp .l, []), (1774, 3, .ifCond .eq 11, []), (1777, 2, .fload 7, []), (1779, 2, .fload 7, []), (1781, 1, .fcmp .l, []), (1782, 3, .ifCond .ne 5, []), (1785, 1, .iconst 0, []), (1786, 1, .ireturn, []), (1787, 3, .goto 161, []), (1790, 1, .aload_n 1, []), (1791, 1, .aload_n 0, [])]
def xk_278_56 : List xEn := [(1792, 2, .iload 5, []), (1794, 1, .iconst 1, []), (1795, 1, .iadd, []), (1796, 1, .iaload, []), (1797, 1, .aload_n 0, []), (1798, 2, .iload 5, []), (1800, 1, .iconst 2, []), (1801, 1, .iadd, []), (1802, 1, .iaload, []), (1803, 1, .aload_n 0, []), (1804, 2, .iload 5, []), (1806, 1, .iconst 3, []), (1807, 1, .iadd, []), (1808, 1, .iaload, []), (1809, 1, .aload_n 3, []), (1810, 3, .invokestatic 200, [5, 276]), (1813, 2, .istore 6, []), (1815, 1, .aload_n 2, []), (1816, 1, .aload_n 0, []), (1817, 2, .iload 5, []), (1819, 1, .iconst 1, []), (1820, 1, .iadd, []), (1821, 1, .iaload, []), (1822, 1, .aload_n 0, []), (1823, 2, .iload 5, [])]
def xk_278_57 : List xEn := [(1825, 1, .iconst 2, []), (1826, 1, .iadd, []), (1827, 1, .iaload, []), (1828, 1, .aload_n 0, []), (1829, 2, .iload 5, []), (1831, 1, .iconst 3, []), (1832, 1, .iadd, []), (1833, 1, .iaload, []), (1834, 3, .invokevirtual 203, [3, 13, 219]), (1837, 2, .istore 7, []), (1839, 1, .aload_n 2, []), (1840, 3, .invokevirtual 110, [0, 13, 157]), (1843, 2, .iload 6, []), (1845, 3, .if_icmp .eq 5, []), (1848, 1, .iconst 0, []), (1849, 1, .ireturn, []), (1850, 2, .iload 6, []), (1852, 3, .ifCond .ne 15, []), (1855, 1, .aload_n 3, [])]
def xk_278_58 : List xEn := [(1856, 1, .iconst 0, []), (1857, 1, .laload, []), (1858, 2, .iload 7, []), (1860, 1, .i2l, []), (1861, 1, .lcmp, []), (1862, 3, .ifCond .eq 5, []), (1865, 1, .iconst 0, []), (1866, 1, .ireturn, []), (1867, 3, .goto 81, []), (1870, 1, .aload_n 1, []), (1871, 2, .aload 4, []), (1873, 3, .invokestatic 204, [2, 277]), (1876, 2, .istore 6, []), (1878, 1, .aload_n 2, []), (1879, 3, .invokevirtual 207, [0, 13, 220]), (1882, 2, .dstore 7, []), (1884, 1, .aload_n 2, []), (1885, 3, .invokevirtual 110, [0, 13, 157])]
def xk_278_59 : List xEn := [(1888, 2, .iload 6, []), (1890, 3, .if_icmp .eq 5, []), (1893, 1, .iconst 0, []), (1894, 1, .ireturn, []), (1895, 2, .iload 6, []), (1897, 3, .ifCond .ne 35, []), (1900, 2, .aload 4, []), (1902, 1, .iconst 0, []), (1903, 1, .daload, []), (1904, 2, .dload 7, []), (1906, 1, .dcmp .l, []), (1907, 3, .ifCond .eq 25, []), (1910, 2, .aload 4, []), (1912, 1, .iconst 0, []), (1913, 1, .daload, []), (1914, 2, .aload 4, []), (1916, 1, .iconst 0, []), (1917, 1, .daload, []), (1918, 1, .dcmp .l, []), (1919, 3, .ifCond .eq 11, [])]
def xk_278_60 : List xEn := [(1922, 2, .dload 7, []), (1924, 2, .dload 7, []), (1926, 1, .dcmp .l, []), (1927, 3, .ifCond .ne 5, []), (1930, 1, .iconst 0, []), (1931, 1, .ireturn, []), (1932, 3, .goto 16, []), (1935, 1, .aload_n 1, []), (1936, 3, .invokevirtual 208, [0, 10, 129]), (1939, 1, .aload_n 2, []), (1940, 3, .invokevirtual 212, [0, 13, 221]), (1943, 3, .if_icmp .eq 5, []), (1946, 1, .iconst 0, []), (1947, 1, .ireturn, []), (1948, 3, .iinc 5 7, []), (1951, 3, .goto (-1923), [])]
def xk_278_61 : List xEn := [(1954, 1, .iconst 1, []), (1955, 1, .ireturn, [])]
def xe_278 : xEl := (xm_278, [xk_278_0, xk_278_1, xk_278_2, xk_278_3, xk_278_4, xk_278_5, xk_278_6, xk_278_7, xk_278_8, xk_278_9, xk_278_10, xk_278_11, xk_278_12, xk_278_13, xk_278_14, xk_278_15, xk_278_16, xk_278_17, xk_278_18, xk_278_19, xk_278_20, xk_278_21, xk_278_22, xk_278_23, xk_278_24, xk_278_25, xk_278_26, xk_278_27, xk_278_28, xk_278_29, xk_278_30, xk_278_31, xk_278_32, xk_278_33, xk_278_34, xk_278_35, xk_278_36, xk_278_37, xk_278_38, xk_278_39, xk_278_40, xk_278_41, xk_278_42, xk_278_43, xk_278_44, xk_278_45, xk_278_46, xk_278_47, xk_278_48, xk_278_49, xk_278_50, xk_278_51, xk_278_52, xk_278_53, xk_278_54, xk_278_55, xk_278_56, xk_278_57, xk_278_58, xk_278_59, xk_278_60, xk_278_61], [], [])
def xRow_0 : List xEl := [xe_0, xe_1, xe_2, xe_3, xe_4, xe_5, xe_6, xe_7, xe_8, xe_9, xe_10, xe_11, xe_12, xe_13, xe_14, xe_15]
def xRow_1 : List xEl := [xe_16, xe_17, xe_18, xe_19, xe_20, xe_21, xe_22, xe_23, xe_24, xe_25, xe_26, xe_27, xe_28, xe_29, xe_30, xe_31]
def xRow_2 : List xEl := [xe_32, xe_33, xe_34, xe_35, xe_36, xe_37, xe_38, xe_39, xe_40, xe_41, xe_42, xe_43, xe_44, xe_45, xe_46, xe_47]
def xRow_3 : List xEl := [xe_48, xe_49, xe_50, xe_51, xe_52, xe_53, xe_54, xe_55, xe_56, xe_57, xe_58, xe_59, xe_60, xe_61, xe_62, xe_63]
def xRow_4 : List xEl := [xe_64, xe_65, xe_66, xe_67, xe_68, xe_69, xe_70, xe_71, xe_72, xe_73, xe_74, xe_75, xe_76, xe_77, xe_78, xe_79]
def xRow_5 : List xEl := [xe_80, xe_81, xe_82, xe_83, xe_84, xe_85, xe_86, xe_87, xe_88, xe_89, xe_90, xe_91, xe_92, xe_93, xe_94, xe_95]
def xRow_6 : List xEl := [xe_96, xe_97, xe_98, xe_99, xe_100, xe_101, xe_102, xe_103, xe_104, xe_105, xe_106, xe_107, xe_108, xe_109, xe_110, xe_111]
def xRow_7 : List xEl := [xe_112, xe_113, xe_114, xe_115, xe_116, xe_117, xe_118, xe_119, xe_120, xe_121, xe_122, xe_123, xe_124, xe_125, xe_126, xe_127]
def xRow_8 : List xEl := [xe_128, xe_129, xe_130, xe_131, xe_132, xe_133, xe_134, xe_135, xe_136, xe_137, xe_138, xe_139, xe_140, xe_141, xe_142, xe_143]
def xRow_9 : List xEl := [xe_144, xe_145, xe_146, xe_147, xe_148, xe_149, xe_150, xe_151, xe_152, xe_153, xe_154, xe_155, xe_156, xe_157, xe_158, xe_159]
def xRow_10 : List xEl := [xe_160, xe_161, xe_162, xe_163, xe_164, xe_165, xe_166, xe_167, xe_168, xe_169, xe_170, xe_171, xe_172, xe_173, xe_174, xe_175]
def xRow_11 : List xEl := [xe_176, xe_177, xe_178, xe_179, xe_180, xe_181, xe_182, xe_183, xe_184, xe_185, xe_186, xe_187, xe_188, xe_189, xe_190, xe_191]
def xRow_12 : List xEl := [xe_192, xe_193, xe_194, xe_195, xe_196, xe_197, xe_198, xe_199, xe_200, xe_201, xe_202, xe_203, xe_204, xe_205, xe_206, xe_207]
def xRow_13 : List xEl := [xe_208, xe_209, xe_210, xe_211, xe_212, xe_213, xe_214, xe_215, xe_216, xe_217, xe_218, xe_219, xe_220, xe_221, xe_222, xe_223]
def xRow_14 : List xEl := [xe_224, xe_225, xe_226, xe_227, xe_228, xe_229, xe_230, xe_231, xe_232, xe_233, xe_234, xe_235, xe_236, xe_237, xe_238, xe_239]
def xRow_15 : List xEl := [xe_240, xe_241, xe_242, xe_243, xe_244, xe_245, xe_246, xe_247, xe_248, xe_249, xe_250, xe_251, xe_252, xe_253, xe_254, xe_255]
def xRow_16 : List xEl := [xe_256, xe_257, xe_258, xe_259, xe_260, xe_261, xe_262, xe_263, xe_264, xe_265, xe_266, xe_267, xe_268, xe_269, xe_270, xe_271]
def xRow_17 : List xEl := [xe_272, xe_273, xe_274, xe_275, xe_276, xe_277, xe_278]
def xTab : List (List xEl) := [xRow_0, xRow_1, xRow_2, xRow_3, xRow_4, xRow_5, xRow_6, xRow_7, xRow_8, xRow_9, xRow_10, xRow_11, xRow_12, xRow_13, xRow_14, xRow_15, xRow_16, xRow_17]
def xPP : xPr := xMk xTab
def xTS : List Cond := lw_tbl.filter xkp
theorem me_0 : xPP.2.1 0 = xm_0 := rfl
theorem me_1 : xPP.2.1 1 = xm_1 := rfl
theorem me_2 : xPP.2.1 2 = xm_2 := rfl
theorem me_3 : xPP.2.1 3 = xm_3 := rfl
theorem me_4 : xPP.2.1 4 = xm_4 := rfl
theorem me_5 : xPP.2.1 5 = xm_5 := rfl
theorem me_6 : xPP.2.1 6 = xm_6 := rfl
theorem me_7 : xPP.2.1 7 = xm_7 := rfl
theorem me_8 : xPP.2.1 8 = xm_8 := rfl
theorem me_9 : xPP.2.1 9 = xm_9 := rfl
theorem me_10 : xPP.2.1 10 = xm_10 := rfl
theorem me_11 : xPP.2.1 11 = xm_11 := rfl
theorem me_12 : xPP.2.1 12 = xm_12 := rfl
theorem me_13 : xPP.2.1 13 = xm_13 := rfl
theorem me_14 : xPP.2.1 14 = xm_14 := rfl
theorem me_15 : xPP.2.1 15 = xm_15 := rfl
theorem me_16 : xPP.2.1 16 = xm_16 := rfl
theorem me_17 : xPP.2.1 17 = xm_17 := rfl
theorem me_18 : xPP.2.1 18 = xm_18 := rfl
theorem me_19 : xPP.2.1 19 = xm_19 := rfl
theorem me_20 : xPP.2.1 20 = xm_20 := rfl
theorem me_21 : xPP.2.1 21 = xm_21 := rfl
theorem me_22 : xPP.2.1 22 = xm_22 := rfl
theorem me_23 : xPP.2.1 23 = xm_23 := rfl
theorem me_24 : xPP.2.1 24 = xm_24 := rfl
theorem me_25 : xPP.2.1 25 = xm_25 := rfl
theorem me_26 : xPP.2.1 26 = xm_26 := rfl
theorem me_27 : xPP.2.1 27 = xm_27 := rfl
theorem me_28 : xPP.2.1 28 = xm_28 := rfl
theorem me_29 : xPP.2.1 29 = xm_29 := rfl
theorem me_30 : xPP.2.1 30 = xm_30 := rfl
theorem me_31 : xPP.2.1 31 = xm_31 := rfl
theorem me_32 : xPP.2.1 32 = xm_32 := rfl
theorem me_33 : xPP.2.1 33 = xm_33 := rfl
theorem me_34 : xPP.2.1 34 = xm_34 := rfl
theorem me_35 : xPP.2.1 35 = xm_35 := rfl
theorem me_36 : xPP.2.1 36 = xm_36 := rfl
theorem me_37 : xPP.2.1 37 = xm_37 := rfl
theorem me_38 : xPP.2.1 38 = xm_38 := rfl
theorem me_39 : xPP.2.1 39 = xm_39 := rfl
theorem me_40 : xPP.2.1 40 = xm_40 := rfl
theorem me_41 : xPP.2.1 41 = xm_41 := rfl
theorem me_42 : xPP.2.1 42 = xm_42 := rfl
theorem me_43 : xPP.2.1 43 = xm_43 := rfl
theorem me_44 : xPP.2.1 44 = xm_44 := rfl
theorem me_45 : xPP.2.1 45 = xm_45 := rfl
theorem me_46 : xPP.2.1 46 = xm_46 := rfl
theorem me_47 : xPP.2.1 47 = xm_47 := rfl
theorem me_48 : xPP.2.1 48 = xm_48 := rfl
theorem me_49 : xPP.2.1 49 = xm_49 := rfl
theorem me_50 : xPP.2.1 50 = xm_50 := rfl
theorem me_51 : xPP.2.1 51 = xm_51 := rfl
theorem me_52 : xPP.2.1 52 = xm_52 := rfl
theorem me_53 : xPP.2.1 53 = xm_53 := rfl
theorem me_54 : xPP.2.1 54 = xm_54 := rfl
theorem me_55 : xPP.2.1 55 = xm_55 := rfl
theorem me_56 : xPP.2.1 56 = xm_56 := rfl
theorem me_57 : xPP.2.1 57 = xm_57 := rfl
theorem me_58 : xPP.2.1 58 = xm_58 := rfl
theorem me_59 : xPP.2.1 59 = xm_59 := rfl
theorem me_60 : xPP.2.1 60 = xm_60 := rfl
theorem me_61 : xPP.2.1 61 = xm_61 := rfl
theorem me_62 : xPP.2.1 62 = xm_62 := rfl
theorem me_63 : xPP.2.1 63 = xm_63 := rfl
theorem me_64 : xPP.2.1 64 = xm_64 := rfl
theorem me_65 : xPP.2.1 65 = xm_65 := rfl
theorem me_66 : xPP.2.1 66 = xm_66 := rfl
theorem me_67 : xPP.2.1 67 = xm_67 := rfl
theorem me_68 : xPP.2.1 68 = xm_68 := rfl
theorem me_69 : xPP.2.1 69 = xm_69 := rfl
theorem me_70 : xPP.2.1 70 = xm_70 := rfl
theorem me_71 : xPP.2.1 71 = xm_71 := rfl
theorem me_72 : xPP.2.1 72 = xm_72 := rfl
theorem me_73 : xPP.2.1 73 = xm_73 := rfl
theorem me_74 : xPP.2.1 74 = xm_74 := rfl
theorem me_75 : xPP.2.1 75 = xm_75 := rfl
theorem me_76 : xPP.2.1 76 = xm_76 := rfl
theorem me_77 : xPP.2.1 77 = xm_77 := rfl
theorem me_78 : xPP.2.1 78 = xm_78 := rfl
theorem me_79 : xPP.2.1 79 = xm_79 := rfl
theorem me_80 : xPP.2.1 80 = xm_80 := rfl
theorem me_81 : xPP.2.1 81 = xm_81 := rfl
theorem me_82 : xPP.2.1 82 = xm_82 := rfl
theorem me_83 : xPP.2.1 83 = xm_83 := rfl
theorem me_84 : xPP.2.1 84 = xm_84 := rfl
theorem me_85 : xPP.2.1 85 = xm_85 := rfl
theorem me_86 : xPP.2.1 86 = xm_86 := rfl
theorem me_87 : xPP.2.1 87 = xm_87 := rfl
theorem me_88 : xPP.2.1 88 = xm_88 := rfl
theorem me_89 : xPP.2.1 89 = xm_89 := rfl
theorem me_90 : xPP.2.1 90 = xm_90 := rfl
theorem me_91 : xPP.2.1 91 = xm_91 := rfl
theorem me_92 : xPP.2.1 92 = xm_92 := rfl
theorem me_93 : xPP.2.1 93 = xm_93 := rfl
theorem me_94 : xPP.2.1 94 = xm_94 := rfl
theorem me_95 : xPP.2.1 95 = xm_95 := rfl
theorem me_96 : xPP.2.1 96 = xm_96 := rfl
theorem me_97 : xPP.2.1 97 = xm_97 := rfl
theorem me_98 : xPP.2.1 98 = xm_98 := rfl
theorem me_99 : xPP.2.1 99 = xm_99 := rfl
theorem me_100 : xPP.2.1 100 = xm_100 := rfl
theorem me_101 : xPP.2.1 101 = xm_101 := rfl
theorem me_102 : xPP.2.1 102 = xm_102 := rfl
theorem me_103 : xPP.2.1 103 = xm_103 := rfl
theorem me_104 : xPP.2.1 104 = xm_104 := rfl
theorem me_105 : xPP.2.1 105 = xm_105 := rfl
theorem me_106 : xPP.2.1 106 = xm_106 := rfl
theorem me_107 : xPP.2.1 107 = xm_107 := rfl
theorem me_108 : xPP.2.1 108 = xm_108 := rfl
theorem me_109 : xPP.2.1 109 = xm_109 := rfl
theorem me_110 : xPP.2.1 110 = xm_110 := rfl
theorem me_111 : xPP.2.1 111 = xm_111 := rfl
theorem me_112 : xPP.2.1 112 = xm_112 := rfl
theorem me_113 : xPP.2.1 113 = xm_113 := rfl
theorem me_114 : xPP.2.1 114 = xm_114 := rfl
theorem me_115 : xPP.2.1 115 = xm_115 := rfl
theorem me_116 : xPP.2.1 116 = xm_116 := rfl
theorem me_117 : xPP.2.1 117 = xm_117 := rfl
theorem me_118 : xPP.2.1 118 = xm_118 := rfl
theorem me_119 : xPP.2.1 119 = xm_119 := rfl
theorem me_120 : xPP.2.1 120 = xm_120 := rfl
theorem me_121 : xPP.2.1 121 = xm_121 := rfl
theorem me_122 : xPP.2.1 122 = xm_122 := rfl
theorem me_123 : xPP.2.1 123 = xm_123 := rfl
theorem me_124 : xPP.2.1 124 = xm_124 := rfl
theorem me_125 : xPP.2.1 125 = xm_125 := rfl
theorem me_126 : xPP.2.1 126 = xm_126 := rfl
theorem me_127 : xPP.2.1 127 = xm_127 := rfl
theorem me_128 : xPP.2.1 128 = xm_128 := rfl
theorem me_129 : xPP.2.1 129 = xm_129 := rfl
theorem me_130 : xPP.2.1 130 = xm_130 := rfl
theorem me_131 : xPP.2.1 131 = xm_131 := rfl
theorem me_132 : xPP.2.1 132 = xm_132 := rfl
theorem me_133 : xPP.2.1 133 = xm_133 := rfl
theorem me_134 : xPP.2.1 134 = xm_134 := rfl
theorem me_135 : xPP.2.1 135 = xm_135 := rfl
theorem me_136 : xPP.2.1 136 = xm_136 := rfl
theorem me_137 : xPP.2.1 137 = xm_137 := rfl
theorem me_138 : xPP.2.1 138 = xm_138 := rfl
theorem me_139 : xPP.2.1 139 = xm_139 := rfl
theorem me_140 : xPP.2.1 140 = xm_140 := rfl
theorem me_141 : xPP.2.1 141 = xm_141 := rfl
theorem me_142 : xPP.2.1 142 = xm_142 := rfl
theorem me_143 : xPP.2.1 143 = xm_143 := rfl
theorem me_144 : xPP.2.1 144 = xm_144 := rfl
theorem me_145 : xPP.2.1 145 = xm_145 := rfl
theorem me_146 : xPP.2.1 146 = xm_146 := rfl
theorem me_147 : xPP.2.1 147 = xm_147 := rfl
theorem me_148 : xPP.2.1 148 = xm_148 := rfl
theorem me_149 : xPP.2.1 149 = xm_149 := rfl
theorem me_150 : xPP.2.1 150 = xm_150 := rfl
theorem me_151 : xPP.2.1 151 = xm_151 := rfl
theorem me_152 : xPP.2.1 152 = xm_152 := rfl
theorem me_153 : xPP.2.1 153 = xm_153 := rfl
theorem me_154 : xPP.2.1 154 = xm_154 := rfl
theorem me_155 : xPP.2.1 155 = xm_155 := rfl
theorem me_156 : xPP.2.1 156 = xm_156 := rfl
theorem me_157 : xPP.2.1 157 = xm_157 := rfl
theorem me_158 : xPP.2.1 158 = xm_158 := rfl
theorem me_159 : xPP.2.1 159 = xm_159 := rfl
theorem me_160 : xPP.2.1 160 = xm_160 := rfl
theorem me_161 : xPP.2.1 161 = xm_161 := rfl
theorem me_162 : xPP.2.1 162 = xm_162 := rfl
theorem me_163 : xPP.2.1 163 = xm_163 := rfl
theorem me_164 : xPP.2.1 164 = xm_164 := rfl
theorem me_165 : xPP.2.1 165 = xm_165 := rfl
theorem me_166 : xPP.2.1 166 = xm_166 := rfl
theorem me_167 : xPP.2.1 167 = xm_167 := rfl
theorem me_168 : xPP.2.1 168 = xm_168 := rfl
theorem me_169 : xPP.2.1 169 = xm_169 := rfl
theorem me_170 : xPP.2.1 170 = xm_170 := rfl
theorem me_171 : xPP.2.1 171 = xm_171 := rfl
theorem me_172 : xPP.2.1 172 = xm_172 := rfl
theorem me_173 : xPP.2.1 173 = xm_173 := rfl
theorem me_174 : xPP.2.1 174 = xm_174 := rfl
theorem me_175 : xPP.2.1 175 = xm_175 := rfl
theorem me_176 : xPP.2.1 176 = xm_176 := rfl
theorem me_177 : xPP.2.1 177 = xm_177 := rfl
theorem me_178 : xPP.2.1 178 = xm_178 := rfl
theorem me_179 : xPP.2.1 179 = xm_179 := rfl
theorem me_180 : xPP.2.1 180 = xm_180 := rfl
theorem me_181 : xPP.2.1 181 = xm_181 := rfl
theorem me_182 : xPP.2.1 182 = xm_182 := rfl
theorem me_183 : xPP.2.1 183 = xm_183 := rfl
theorem me_184 : xPP.2.1 184 = xm_184 := rfl
theorem me_185 : xPP.2.1 185 = xm_185 := rfl
theorem me_186 : xPP.2.1 186 = xm_186 := rfl
theorem me_187 : xPP.2.1 187 = xm_187 := rfl
theorem me_188 : xPP.2.1 188 = xm_188 := rfl
theorem me_189 : xPP.2.1 189 = xm_189 := rfl
theorem me_190 : xPP.2.1 190 = xm_190 := rfl
theorem me_191 : xPP.2.1 191 = xm_191 := rfl
theorem me_192 : xPP.2.1 192 = xm_192 := rfl
theorem me_193 : xPP.2.1 193 = xm_193 := rfl
theorem me_194 : xPP.2.1 194 = xm_194 := rfl
theorem me_195 : xPP.2.1 195 = xm_195 := rfl
theorem me_196 : xPP.2.1 196 = xm_196 := rfl
theorem me_197 : xPP.2.1 197 = xm_197 := rfl
theorem me_198 : xPP.2.1 198 = xm_198 := rfl
theorem me_199 : xPP.2.1 199 = xm_199 := rfl
theorem me_200 : xPP.2.1 200 = xm_200 := rfl
theorem me_201 : xPP.2.1 201 = xm_201 := rfl
theorem me_202 : xPP.2.1 202 = xm_202 := rfl
theorem me_203 : xPP.2.1 203 = xm_203 := rfl
theorem me_204 : xPP.2.1 204 = xm_204 := rfl
theorem me_205 : xPP.2.1 205 = xm_205 := rfl
theorem me_206 : xPP.2.1 206 = xm_206 := rfl
theorem me_207 : xPP.2.1 207 = xm_207 := rfl
theorem me_208 : xPP.2.1 208 = xm_208 := rfl
theorem me_209 : xPP.2.1 209 = xm_209 := rfl
theorem me_210 : xPP.2.1 210 = xm_210 := rfl
theorem me_211 : xPP.2.1 211 = xm_211 := rfl
theorem me_212 : xPP.2.1 212 = xm_212 := rfl
theorem me_213 : xPP.2.1 213 = xm_213 := rfl
theorem me_214 : xPP.2.1 214 = xm_214 := rfl
theorem me_215 : xPP.2.1 215 = xm_215 := rfl
theorem me_216 : xPP.2.1 216 = xm_216 := rfl
theorem me_217 : xPP.2.1 217 = xm_217 := rfl
theorem me_218 : xPP.2.1 218 = xm_218 := rfl
theorem me_219 : xPP.2.1 219 = xm_219 := rfl
theorem me_220 : xPP.2.1 220 = xm_220 := rfl
theorem me_221 : xPP.2.1 221 = xm_221 := rfl
theorem me_222 : xPP.2.1 222 = xm_222 := rfl
theorem me_223 : xPP.2.1 223 = xm_223 := rfl
theorem me_224 : xPP.2.1 224 = xm_224 := rfl
theorem me_225 : xPP.2.1 225 = xm_225 := rfl
theorem me_226 : xPP.2.1 226 = xm_226 := rfl
theorem me_227 : xPP.2.1 227 = xm_227 := rfl
theorem me_228 : xPP.2.1 228 = xm_228 := rfl
theorem me_229 : xPP.2.1 229 = xm_229 := rfl
theorem me_230 : xPP.2.1 230 = xm_230 := rfl
theorem me_231 : xPP.2.1 231 = xm_231 := rfl
theorem me_232 : xPP.2.1 232 = xm_232 := rfl
theorem me_233 : xPP.2.1 233 = xm_233 := rfl
theorem me_234 : xPP.2.1 234 = xm_234 := rfl
theorem me_235 : xPP.2.1 235 = xm_235 := rfl
theorem me_236 : xPP.2.1 236 = xm_236 := rfl
theorem me_237 : xPP.2.1 237 = xm_237 := rfl
theorem me_238 : xPP.2.1 238 = xm_238 := rfl
theorem me_239 : xPP.2.1 239 = xm_239 := rfl
theorem me_240 : xPP.2.1 240 = xm_240 := rfl
theorem me_241 : xPP.2.1 241 = xm_241 := rfl
theorem me_242 : xPP.2.1 242 = xm_242 := rfl
theorem me_243 : xPP.2.1 243 = xm_243 := rfl
theorem me_244 : xPP.2.1 244 = xm_244 := rfl
theorem me_245 : xPP.2.1 245 = xm_245 := rfl
theorem me_246 : xPP.2.1 246 = xm_246 := rfl
theorem me_247 : xPP.2.1 247 = xm_247 := rfl
theorem me_248 : xPP.2.1 248 = xm_248 := rfl
theorem me_249 : xPP.2.1 249 = xm_249 := rfl
theorem me_250 : xPP.2.1 250 = xm_250 := rfl
theorem me_251 : xPP.2.1 251 = xm_251 := rfl
theorem me_252 : xPP.2.1 252 = xm_252 := rfl
theorem me_253 : xPP.2.1 253 = xm_253 := rfl
theorem me_254 : xPP.2.1 254 = xm_254 := rfl
theorem me_255 : xPP.2.1 255 = xm_255 := rfl
theorem me_256 : xPP.2.1 256 = xm_256 := rfl
theorem me_257 : xPP.2.1 257 = xm_257 := rfl
theorem me_258 : xPP.2.1 258 = xm_258 := rfl
theorem me_259 : xPP.2.1 259 = xm_259 := rfl
theorem me_260 : xPP.2.1 260 = xm_260 := rfl
theorem me_261 : xPP.2.1 261 = xm_261 := rfl
theorem me_262 : xPP.2.1 262 = xm_262 := rfl
theorem me_263 : xPP.2.1 263 = xm_263 := rfl
theorem me_264 : xPP.2.1 264 = xm_264 := rfl
theorem me_265 : xPP.2.1 265 = xm_265 := rfl
theorem me_266 : xPP.2.1 266 = xm_266 := rfl
theorem me_267 : xPP.2.1 267 = xm_267 := rfl
theorem me_268 : xPP.2.1 268 = xm_268 := rfl
theorem me_269 : xPP.2.1 269 = xm_269 := rfl
theorem me_270 : xPP.2.1 270 = xm_270 := rfl
theorem me_271 : xPP.2.1 271 = xm_271 := rfl
theorem me_272 : xPP.2.1 272 = xm_272 := rfl
theorem me_273 : xPP.2.1 273 = xm_273 := rfl
theorem me_274 : xPP.2.1 274 = xm_274 := rfl
theorem me_275 : xPP.2.1 275 = xm_275 := rfl
theorem me_276 : xPP.2.1 276 = xm_276 := rfl
theorem me_277 : xPP.2.1 277 = xm_277 := rfl
theorem me_278 : xPP.2.1 278 = xm_278 := rfl
end XDATA
end
section
set_option maxRecDepth 100000
set_option maxHeartbeats 4000000
section XDEC
theorem xd_0_0 : xk_0_0.all (xdk xm_0.2.1) = true := by decide +kernel
theorem xd_0_1 : xk_0_1.all (xdk xm_0.2.1) = true := by decide +kernel
theorem xd_1_0 : xk_1_0.all (xdk xm_1.2.1) = true := by decide +kernel
theorem xd_1_1 : xk_1_1.all (xdk xm_1.2.1) = true := by decide +kernel
theorem xd_2_0 : xk_2_0.all (xdk xm_2.2.1) = true := by decide +kernel
theorem xd_3_0 : xk_3_0.all (xdk xm_3.2.1) = true := by decide +kernel
theorem xd_3_1 : xk_3_1.all (xdk xm_3.2.1) = true := by decide +kernel
theorem xd_4_0 : xk_4_0.all (xdk xm_4.2.1) = true := by decide +kernel
theorem xd_4_1 : xk_4_1.all (xdk xm_4.2.1) = true := by decide +kernel
theorem xd_4_2 : xk_4_2.all (xdk xm_4.2.1) = true := by decide +kernel
theorem xd_4_3 : xk_4_3.all (xdk xm_4.2.1) = true := by decide +kernel
theorem xd_5_0 : xk_5_0.all (xdk xm_5.2.1) = true := by decide +kernel
theorem xd_6_0 : xk_6_0.all (xdk xm_6.2.1) = true := by decide +kernel
theorem xd_6_1 : xk_6_1.all (xdk xm_6.2.1) = true := by decide +kernel
theorem xd_6_2 : xk_6_2.all (xdk xm_6.2.1) = true := by decide +kernel
theorem xd_7_0 : xk_7_0.all (xdk xm_7.2.1) = true := by decide +kernel
theorem xd_7_1 : xk_7_1.all (xdk xm_7.2.1) = true := by decide +kernel
theorem xd_8_0 : xk_8_0.all (xdk xm_8.2.1) = true := by decide +kernel
theorem xd_8_1 : xk_8_1.all (xdk xm_8.2.1) = true := by decide +kernel
theorem xd_8_2 : xk_8_2.all (xdk xm_8.2.1) = true := by decide +kernel
theorem xd_9_0 : xk_9_0.all (xdk xm_9.2.1) = true := by decide +kernel
theorem xd_10_0 : xk_10_0.all (xdk xm_10.2.1) = true := by decide +kernel
theorem xd_11_0 : xk_11_0.all (xdk xm_11.2.1) = true := by decide +kernel
theorem xd_11_1 : xk_11_1.all (xdk xm_11.2.1) = true := by decide +kernel
theorem xd_11_2 : xk_11_2.all (xdk xm_11.2.1) = true := by decide +kernel
theorem xd_12_0 : xk_12_0.all (xdk xm_12.2.1) = true := by decide +kernel
theorem xd_13_0 : xk_13_0.all (xdk xm_13.2.1) = true := by decide +kernel
theorem xd_14_0 : xk_14_0.all (xdk xm_14.2.1) = true := by decide +kernel
theorem xd_14_1 : xk_14_1.all (xdk xm_14.2.1) = true := by decide +kernel
theorem xd_15_0 : xk_15_0.all (xdk xm_15.2.1) = true := by decide +kernel
theorem xd_16_0 : xk_16_0.all (xdk xm_16.2.1) = true := by decide +kernel
theorem xd_17_0 : xk_17_0.all (xdk xm_17.2.1) = true := by decide +kernel
theorem xd_18_0 : xk_18_0.all (xdk xm_18.2.1) = true := by decide +kernel
theorem xd_19_0 : xk_19_0.all (xdk xm_19.2.1) = true := by decide +kernel
theorem xd_20_0 : xk_20_0.all (xdk xm_20.2.1) = true := by decide +kernel
theorem xd_21_0 : xk_21_0.all (xdk xm_21.2.1) = true := by decide +kernel
theorem xd_21_1 : xk_21_1.all (xdk xm_21.2.1) = true := by decide +kernel
theorem xd_21_2 : xk_21_2.all (xdk xm_21.2.1) = true := by decide +kernel
theorem xd_22_0 : xk_22_0.all (xdk xm_22.2.1) = true := by decide +kernel
theorem xd_23_0 : xk_23_0.all (xdk xm_23.2.1) = true := by decide +kernel
theorem xd_24_0 : xk_24_0.all (xdk xm_24.2.1) = true := by decide +kernel
theorem xd_24_1 : xk_24_1.all (xdk xm_24.2.1) = true := by decide +kernel
theorem xd_25_0 : xk_25_0.all (xdk xm_25.2.1) = true := by decide +kernel
theorem xd_25_1 : xk_25_1.all (xdk xm_25.2.1) = true := by decide +kernel
theorem xd_26_0 : xk_26_0.all (xdk xm_26.2.1) = true := by decide +kernel
theorem xd_27_0 : xk_27_0.all (xdk xm_27.2.1) = true := by decide +kernel
theorem xd_27_1 : xk_27_1.all (xdk xm_27.2.1) = true := by decide +kernel
theorem xd_28_0 : xk_28_0.all (xdk xm_28.2.1) = true := by decide +kernel
theorem xd_28_1 : xk_28_1.all (xdk xm_28.2.1) = true := by decide +kernel
theorem xd_29_0 : xk_29_0.all (xdk xm_29.2.1) = true := by decide +kernel
theorem xd_29_1 : xk_29_1.all (xdk xm_29.2.1) = true := by decide +kernel
theorem xd_30_0 : xk_30_0.all (xdk xm_30.2.1) = true := by decide +kernel
theorem xd_30_1 : xk_30_1.all (xdk xm_30.2.1) = true := by decide +kernel
theorem xd_31_0 : xk_31_0.all (xdk xm_31.2.1) = true := by decide +kernel
theorem xd_31_1 : xk_31_1.all (xdk xm_31.2.1) = true := by decide +kernel
theorem xd_32_0 : xk_32_0.all (xdk xm_32.2.1) = true := by decide +kernel
theorem xd_32_1 : xk_32_1.all (xdk xm_32.2.1) = true := by decide +kernel
theorem xd_32_2 : xk_32_2.all (xdk xm_32.2.1) = true := by decide +kernel
theorem xd_33_0 : xk_33_0.all (xdk xm_33.2.1) = true := by decide +kernel
theorem xd_34_0 : xk_34_0.all (xdk xm_34.2.1) = true := by decide +kernel
theorem xd_35_0 : xk_35_0.all (xdk xm_35.2.1) = true := by decide +kernel
theorem xd_35_1 : xk_35_1.all (xdk xm_35.2.1) = true := by decide +kernel
theorem xd_35_2 : xk_35_2.all (xdk xm_35.2.1) = true := by decide +kernel
theorem xd_36_0 : xk_36_0.all (xdk xm_36.2.1) = true := by decide +kernel
theorem xd_37_0 : xk_37_0.all (xdk xm_37.2.1) = true := by decide +kernel
theorem xd_38_0 : xk_38_0.all (xdk xm_38.2.1) = true := by decide +kernel
theorem xd_39_0 : xk_39_0.all (xdk xm_39.2.1) = true := by decide +kernel
theorem xd_39_1 : xk_39_1.all (xdk xm_39.2.1) = true := by decide +kernel
theorem xd_40_0 : xk_40_0.all (xdk xm_40.2.1) = true := by decide +kernel
theorem xd_40_1 : xk_40_1.all (xdk xm_40.2.1) = true := by decide +kernel
theorem xd_41_0 : xk_41_0.all (xdk xm_41.2.1) = true := by decide +kernel
theorem xd_41_1 : xk_41_1.all (xdk xm_41.2.1) = true := by decide +kernel
theorem xd_42_0 : xk_42_0.all (xdk xm_42.2.1) = true := by decide +kernel
theorem xd_42_1 : xk_42_1.all (xdk xm_42.2.1) = true := by decide +kernel
theorem xd_42_2 : xk_42_2.all (xdk xm_42.2.1) = true := by decide +kernel
theorem xd_43_0 : xk_43_0.all (xdk xm_43.2.1) = true := by decide +kernel
theorem xd_43_1 : xk_43_1.all (xdk xm_43.2.1) = true := by decide +kernel
theorem xd_43_2 : xk_43_2.all (xdk xm_43.2.1) = true := by decide +kernel
theorem xd_43_3 : xk_43_3.all (xdk xm_43.2.1) = true := by decide +kernel
theorem xd_43_4 : xk_43_4.all (xdk xm_43.2.1) = true := by decide +kernel
theorem xd_43_5 : xk_43_5.all (xdk xm_43.2.1) = true := by decide +kernel
theorem xd_44_0 : xk_44_0.all (xdk xm_44.2.1) = true := by decide +kernel
theorem xd_44_1 : xk_44_1.all (xdk xm_44.2.1) = true := by decide +kernel
theorem xd_44_2 : xk_44_2.all (xdk xm_44.2.1) = true := by decide +kernel
theorem xd_44_3 : xk_44_3.all (xdk xm_44.2.1) = true := by decide +kernel
theorem xd_45_0 : xk_45_0.all (xdk xm_45.2.1) = true := by decide +kernel
theorem xd_45_1 : xk_45_1.all (xdk xm_45.2.1) = true := by decide +kernel
theorem xd_45_2 : xk_45_2.all (xdk xm_45.2.1) = true := by decide +kernel
theorem xd_46_0 : xk_46_0.all (xdk xm_46.2.1) = true := by decide +kernel
theorem xd_46_1 : xk_46_1.all (xdk xm_46.2.1) = true := by decide +kernel
theorem xd_46_2 : xk_46_2.all (xdk xm_46.2.1) = true := by decide +kernel
theorem xd_46_3 : xk_46_3.all (xdk xm_46.2.1) = true := by decide +kernel
theorem xd_47_0 : xk_47_0.all (xdk xm_47.2.1) = true := by decide +kernel
theorem xd_47_1 : xk_47_1.all (xdk xm_47.2.1) = true := by decide +kernel
theorem xd_47_2 : xk_47_2.all (xdk xm_47.2.1) = true := by decide +kernel
theorem xd_47_3 : xk_47_3.all (xdk xm_47.2.1) = true := by decide +kernel
theorem xd_48_0 : xk_48_0.all (xdk xm_48.2.1) = true := by decide +kernel
theorem xd_48_1 : xk_48_1.all (xdk xm_48.2.1) = true := by decide +kernel
theorem xd_48_2 : xk_48_2.all (xdk xm_48.2.1) = true := by decide +kernel
theorem xd_48_3 : xk_48_3.all (xdk xm_48.2.1) = true := by decide +kernel
theorem xd_49_0 : xk_49_0.all (xdk xm_49.2.1) = true := by decide +kernel
theorem xd_49_1 : xk_49_1.all (xdk xm_49.2.1) = true := by decide +kernel
theorem xd_50_0 : xk_50_0.all (xdk xm_50.2.1) = true := by decide +kernel
theorem xd_51_0 : xk_51_0.all (xdk xm_51.2.1) = true := by decide +kernel
theorem xd_52_0 : xk_52_0.all (xdk xm_52.2.1) = true := by decide +kernel
theorem xd_52_1 : xk_52_1.all (xdk xm_52.2.1) = true := by decide +kernel
theorem xd_53_0 : xk_53_0.all (xdk xm_53.2.1) = true := by decide +kernel
theorem xd_54_0 : xk_54_0.all (xdk xm_54.2.1) = true := by decide +kernel
theorem xd_54_1 : xk_54_1.all (xdk xm_54.2.1) = true := by decide +kernel
theorem xd_55_0 : xk_55_0.all (xdk xm_55.2.1) = true := by decide +kernel
theorem xd_55_1 : xk_55_1.all (xdk xm_55.2.1) = true := by decide +kernel
theorem xd_55_2 : xk_55_2.all (xdk xm_55.2.1) = true := by decide +kernel
theorem xd_56_0 : xk_56_0.all (xdk xm_56.2.1) = true := by decide +kernel
theorem xd_57_0 : xk_57_0.all (xdk xm_57.2.1) = true := by decide +kernel
theorem xd_58_0 : xk_58_0.all (xdk xm_58.2.1) = true := by decide +kernel
theorem xd_58_1 : xk_58_1.all (xdk xm_58.2.1) = true := by decide +kernel
theorem xd_58_2 : xk_58_2.all (xdk xm_58.2.1) = true := by decide +kernel
theorem xd_59_0 : xk_59_0.all (xdk xm_59.2.1) = true := by decide +kernel
theorem xd_59_1 : xk_59_1.all (xdk xm_59.2.1) = true := by decide +kernel
theorem xd_59_2 : xk_59_2.all (xdk xm_59.2.1) = true := by decide +kernel
theorem xd_59_3 : xk_59_3.all (xdk xm_59.2.1) = true := by decide +kernel
theorem xd_60_0 : xk_60_0.all (xdk xm_60.2.1) = true := by decide +kernel
theorem xd_60_1 : xk_60_1.all (xdk xm_60.2.1) = true := by decide +kernel
theorem xd_61_0 : xk_61_0.all (xdk xm_61.2.1) = true := by decide +kernel
theorem xd_62_0 : xk_62_0.all (xdk xm_62.2.1) = true := by decide +kernel
theorem xd_62_1 : xk_62_1.all (xdk xm_62.2.1) = true := by decide +kernel
theorem xd_62_2 : xk_62_2.all (xdk xm_62.2.1) = true := by decide +kernel
theorem xd_63_0 : xk_63_0.all (xdk xm_63.2.1) = true := by decide +kernel
theorem xd_63_1 : xk_63_1.all (xdk xm_63.2.1) = true := by decide +kernel
theorem xd_64_0 : xk_64_0.all (xdk xm_64.2.1) = true := by decide +kernel
theorem xd_64_1 : xk_64_1.all (xdk xm_64.2.1) = true := by decide +kernel
theorem xd_64_2 : xk_64_2.all (xdk xm_64.2.1) = true := by decide +kernel
theorem xd_65_0 : xk_65_0.all (xdk xm_65.2.1) = true := by decide +kernel
theorem xd_66_0 : xk_66_0.all (xdk xm_66.2.1) = true := by decide +kernel
theorem xd_66_1 : xk_66_1.all (xdk xm_66.2.1) = true := by decide +kernel
theorem xd_66_2 : xk_66_2.all (xdk xm_66.2.1) = true := by decide +kernel
theorem xd_66_3 : xk_66_3.all (xdk xm_66.2.1) = true := by decide +kernel
theorem xd_67_0 : xk_67_0.all (xdk xm_67.2.1) = true := by decide +kernel
theorem xd_67_1 : xk_67_1.all (xdk xm_67.2.1) = true := by decide +kernel
theorem xd_67_2 : xk_67_2.all (xdk xm_67.2.1) = true := by decide +kernel
theorem xd_68_0 : xk_68_0.all (xdk xm_68.2.1) = true := by decide +kernel
theorem xd_68_1 : xk_68_1.all (xdk xm_68.2.1) = true := by decide +kernel
theorem xd_69_0 : xk_69_0.all (xdk xm_69.2.1) = true := by decide +kernel
theorem xd_69_1 : xk_69_1.all (xdk xm_69.2.1) = true := by decide +kernel
theorem xd_69_2 : xk_69_2.all (xdk xm_69.2.1) = true := by decide +kernel
theorem xd_70_0 : xk_70_0.all (xdk xm_70.2.1) = true := by decide +kernel
theorem xd_70_1 : xk_70_1.all (xdk xm_70.2.1) = true := by decide +kernel
theorem xd_71_0 : xk_71_0.all (xdk xm_71.2.1) = true := by decide +kernel
theorem xd_71_1 : xk_71_1.all (xdk xm_71.2.1) = true := by decide +kernel
theorem xd_71_2 : xk_71_2.all (xdk xm_71.2.1) = true := by decide +kernel
theorem xd_71_3 : xk_71_3.all (xdk xm_71.2.1) = true := by decide +kernel
theorem xd_71_4 : xk_71_4.all (xdk xm_71.2.1) = true := by decide +kernel
theorem xd_72_0 : xk_72_0.all (xdk xm_72.2.1) = true := by decide +kernel
theorem xd_72_1 : xk_72_1.all (xdk xm_72.2.1) = true := by decide +kernel
theorem xd_72_2 : xk_72_2.all (xdk xm_72.2.1) = true := by decide +kernel
theorem xd_72_3 : xk_72_3.all (xdk xm_72.2.1) = true := by decide +kernel
theorem xd_72_4 : xk_72_4.all (xdk xm_72.2.1) = true := by decide +kernel
theorem xd_72_5 : xk_72_5.all (xdk xm_72.2.1) = true := by decide +kernel
theorem xd_73_0 : xk_73_0.all (xdk xm_73.2.1) = true := by decide +kernel
theorem xd_74_0 : xk_74_0.all (xdk xm_74.2.1) = true := by decide +kernel
theorem xd_74_1 : xk_74_1.all (xdk xm_74.2.1) = true := by decide +kernel
theorem xd_74_2 : xk_74_2.all (xdk xm_74.2.1) = true := by decide +kernel
theorem xd_75_0 : xk_75_0.all (xdk xm_75.2.1) = true := by decide +kernel
theorem xd_75_1 : xk_75_1.all (xdk xm_75.2.1) = true := by decide +kernel
theorem xd_75_2 : xk_75_2.all (xdk xm_75.2.1) = true := by decide +kernel
theorem xd_76_0 : xk_76_0.all (xdk xm_76.2.1) = true := by decide +kernel
theorem xd_77_0 : xk_77_0.all (xdk xm_77.2.1) = true := by decide +kernel
theorem xd_78_0 : xk_78_0.all (xdk xm_78.2.1) = true := by decide +kernel
theorem xd_79_0 : xk_79_0.all (xdk xm_79.2.1) = true := by decide +kernel
theorem xd_79_1 : xk_79_1.all (xdk xm_79.2.1) = true := by decide +kernel
theorem xd_80_0 : xk_80_0.all (xdk xm_80.2.1) = true := by decide +kernel
theorem xd_81_0 : xk_81_0.all (xdk xm_81.2.1) = true := by decide +kernel
theorem xd_82_0 : xk_82_0.all (xdk xm_82.2.1) = true := by decide +kernel
theorem xd_83_0 : xk_83_0.all (xdk xm_83.2.1) = true := by decide +kernel
theorem xd_84_0 : xk_84_0.all (xdk xm_84.2.1) = true := by decide +kernel
theorem xd_85_0 : xk_85_0.all (xdk xm_85.2.1) = true := by decide +kernel
theorem xd_85_1 : xk_85_1.all (xdk xm_85.2.1) = true := by decide +kernel
theorem xd_85_2 : xk_85_2.all (xdk xm_85.2.1) = true := by decide +kernel
theorem xd_86_0 : xk_86_0.all (xdk xm_86.2.1) = true := by decide +kernel
theorem xd_87_0 : xk_87_0.all (xdk xm_87.2.1) = true := by decide +kernel
theorem xd_88_0 : xk_88_0.all (xdk xm_88.2.1) = true := by decide +kernel
theorem xd_88_1 : xk_88_1.all (xdk xm_88.2.1) = true := by decide +kernel
theorem xd_89_0 : xk_89_0.all (xdk xm_89.2.1) = true := by decide +kernel
theorem xd_90_0 : xk_90_0.all (xdk xm_90.2.1) = true := by decide +kernel
theorem xd_91_0 : xk_91_0.all (xdk xm_91.2.1) = true := by decide +kernel
theorem xd_91_1 : xk_91_1.all (xdk xm_91.2.1) = true := by decide +kernel
theorem xd_92_0 : xk_92_0.all (xdk xm_92.2.1) = true := by decide +kernel
theorem xd_92_1 : xk_92_1.all (xdk xm_92.2.1) = true := by decide +kernel
theorem xd_93_0 : xk_93_0.all (xdk xm_93.2.1) = true := by decide +kernel
theorem xd_93_1 : xk_93_1.all (xdk xm_93.2.1) = true := by decide +kernel
theorem xd_93_2 : xk_93_2.all (xdk xm_93.2.1) = true := by decide +kernel
theorem xd_94_0 : xk_94_0.all (xdk xm_94.2.1) = true := by decide +kernel
theorem xd_94_1 : xk_94_1.all (xdk xm_94.2.1) = true := by decide +kernel
theorem xd_94_2 : xk_94_2.all (xdk xm_94.2.1) = true := by decide +kernel
theorem xd_95_0 : xk_95_0.all (xdk xm_95.2.1) = true := by decide +kernel
theorem xd_95_1 : xk_95_1.all (xdk xm_95.2.1) = true := by decide +kernel
theorem xd_95_2 : xk_95_2.all (xdk xm_95.2.1) = true := by decide +kernel
theorem xd_96_0 : xk_96_0.all (xdk xm_96.2.1) = true := by decide +kernel
theorem xd_96_1 : xk_96_1.all (xdk xm_96.2.1) = true := by decide +kernel
theorem xd_96_2 : xk_96_2.all (xdk xm_96.2.1) = true := by decide +kernel
theorem xd_96_3 : xk_96_3.all (xdk xm_96.2.1) = true := by decide +kernel
theorem xd_96_4 : xk_96_4.all (xdk xm_96.2.1) = true := by decide +kernel
theorem xd_97_0 : xk_97_0.all (xdk xm_97.2.1) = true := by decide +kernel
theorem xd_97_1 : xk_97_1.all (xdk xm_97.2.1) = true := by decide +kernel
theorem xd_98_0 : xk_98_0.all (xdk xm_98.2.1) = true := by decide +kernel
theorem xd_99_0 : xk_99_0.all (xdk xm_99.2.1) = true := by decide +kernel
theorem xd_99_1 : xk_99_1.all (xdk xm_99.2.1) = true := by decide +kernel
theorem xd_99_2 : xk_99_2.all (xdk xm_99.2.1) = true := by decide +kernel
theorem xd_99_3 : xk_99_3.all (xdk xm_99.2.1) = true := by decide +kernel
theorem xd_100_0 : xk_100_0.all (xdk xm_100.2.1) = true := by decide +kernel
theorem xd_100_1 : xk_100_1.all (xdk xm_100.2.1) = true := by decide +kernel
theorem xd_101_0 : xk_101_0.all (xdk xm_101.2.1) = true := by decide +kernel
theorem xd_102_0 : xk_102_0.all (xdk xm_102.2.1) = true := by decide +kernel
theorem xd_102_1 : xk_102_1.all (xdk xm_102.2.1) = true := by decide +kernel
theorem xd_103_0 : xk_103_0.all (xdk xm_103.2.1) = true := by decide +kernel
theorem xd_103_1 : xk_103_1.all (xdk xm_103.2.1) = true := by decide +kernel
theorem xd_103_2 : xk_103_2.all (xdk xm_103.2.1) = true := by decide +kernel
theorem xd_103_3 : xk_103_3.all (xdk xm_103.2.1) = true := by decide +kernel
theorem xd_103_4 : xk_103_4.all (xdk xm_103.2.1) = true := by decide +kernel
theorem xd_103_5 : xk_103_5.all (xdk xm_103.2.1) = true := by decide +kernel
theorem xd_103_6 : xk_103_6.all (xdk xm_103.2.1) = true := by decide +kernel
theorem xd_103_7 : xk_103_7.all (xdk xm_103.2.1) = true := by decide +kernel
theorem xd_103_8 : xk_103_8.all (xdk xm_103.2.1) = true := by decide +kernel
theorem xd_103_9 : xk_103_9.all (xdk xm_103.2.1) = true := by decide +kernel
theorem xd_104_0 : xk_104_0.all (xdk xm_104.2.1) = true := by decide +kernel
theorem xd_105_0 : xk_105_0.all (xdk xm_105.2.1) = true := by decide +kernel
theorem xd_105_1 : xk_105_1.all (xdk xm_105.2.1) = true := by decide +kernel
theorem xd_105_2 : xk_105_2.all (xdk xm_105.2.1) = true := by decide +kernel
theorem xd_105_3 : xk_105_3.all (xdk xm_105.2.1) = true := by decide +kernel
theorem xd_105_4 : xk_105_4.all (xdk xm_105.2.1) = true := by decide +kernel
theorem xd_106_0 : xk_106_0.all (xdk xm_106.2.1) = true := by decide +kernel
theorem xd_107_0 : xk_107_0.all (xdk xm_107.2.1) = true := by decide +kernel
theorem xd_108_0 : xk_108_0.all (xdk xm_108.2.1) = true := by decide +kernel
theorem xd_109_0 : xk_109_0.all (xdk xm_109.2.1) = true := by decide +kernel
theorem xd_110_0 : xk_110_0.all (xdk xm_110.2.1) = true := by decide +kernel
theorem xd_110_1 : xk_110_1.all (xdk xm_110.2.1) = true := by decide +kernel
theorem xd_111_0 : xk_111_0.all (xdk xm_111.2.1) = true := by decide +kernel
theorem xd_111_1 : xk_111_1.all (xdk xm_111.2.1) = true := by decide +kernel
theorem xd_112_0 : xk_112_0.all (xdk xm_112.2.1) = true := by decide +kernel
theorem xd_112_1 : xk_112_1.all (xdk xm_112.2.1) = true := by decide +kernel
theorem xd_113_0 : xk_113_0.all (xdk xm_113.2.1) = true := by decide +kernel
theorem xd_114_0 : xk_114_0.all (xdk xm_114.2.1) = true := by decide +kernel
theorem xd_115_0 : xk_115_0.all (xdk xm_115.2.1) = true := by decide +kernel
theorem xd_116_0 : xk_116_0.all (xdk xm_116.2.1) = true := by decide +kernel
theorem xd_116_1 : xk_116_1.all (xdk xm_116.2.1) = true := by decide +kernel
theorem xd_117_0 : xk_117_0.all (xdk xm_117.2.1) = true := by decide +kernel
theorem xd_117_1 : xk_117_1.all (xdk xm_117.2.1) = true := by decide +kernel
theorem xd_118_0 : xk_118_0.all (xdk xm_118.2.1) = true := by decide +kernel
theorem xd_118_1 : xk_118_1.all (xdk xm_118.2.1) = true := by decide +kernel
theorem xd_118_2 : xk_118_2.all (xdk xm_118.2.1) = true := by decide +kernel
theorem xd_119_0 : xk_119_0.all (xdk xm_119.2.1) = true := by decide +kernel
theorem xd_120_0 : xk_120_0.all (xdk xm_120.2.1) = true := by decide +kernel
theorem xd_121_0 : xk_121_0.all (xdk xm_121.2.1) = true := by decide +kernel
theorem xd_121_1 : xk_121_1.all (xdk xm_121.2.1) = true := by decide +kernel
theorem xd_122_0 : xk_122_0.all (xdk xm_122.2.1) = true := by decide +kernel
theorem xd_122_1 : xk_122_1.all (xdk xm_122.2.1) = true := by decide +kernel
theorem xd_123_0 : xk_123_0.all (xdk xm_123.2.1) = true := by decide +kernel
theorem xd_124_0 : xk_124_0.all (xdk xm_124.2.1) = true := by decide +kernel
theorem xd_125_0 : xk_125_0.all (xdk xm_125.2.1) = true := by decide +kernel
theorem xd_125_1 : xk_125_1.all (xdk xm_125.2.1) = true := by decide +kernel
theorem xd_126_0 : xk_126_0.all (xdk xm_126.2.1) = true := by decide +kernel
theorem xd_126_1 : xk_126_1.all (xdk xm_126.2.1) = true := by decide +kernel
theorem xd_126_2 : xk_126_2.all (xdk xm_126.2.1) = true := by decide +kernel
theorem xd_127_0 : xk_127_0.all (xdk xm_127.2.1) = true := by decide +kernel
theorem xd_127_1 : xk_127_1.all (xdk xm_127.2.1) = true := by decide +kernel
theorem xd_127_2 : xk_127_2.all (xdk xm_127.2.1) = true := by decide +kernel
theorem xd_128_0 : xk_128_0.all (xdk xm_128.2.1) = true := by decide +kernel
theorem xd_128_1 : xk_128_1.all (xdk xm_128.2.1) = true := by decide +kernel
theorem xd_128_2 : xk_128_2.all (xdk xm_128.2.1) = true := by decide +kernel
theorem xd_128_3 : xk_128_3.all (xdk xm_128.2.1) = true := by decide +kernel
theorem xd_129_0 : xk_129_0.all (xdk xm_129.2.1) = true := by decide +kernel
theorem xd_129_1 : xk_129_1.all (xdk xm_129.2.1) = true := by decide +kernel
theorem xd_129_2 : xk_129_2.all (xdk xm_129.2.1) = true := by decide +kernel
theorem xd_130_0 : xk_130_0.all (xdk xm_130.2.1) = true := by decide +kernel
theorem xd_130_1 : xk_130_1.all (xdk xm_130.2.1) = true := by decide +kernel
theorem xd_131_0 : xk_131_0.all (xdk xm_131.2.1) = true := by decide +kernel
theorem xd_131_1 : xk_131_1.all (xdk xm_131.2.1) = true := by decide +kernel
theorem xd_132_0 : xk_132_0.all (xdk xm_132.2.1) = true := by decide +kernel
theorem xd_133_0 : xk_133_0.all (xdk xm_133.2.1) = true := by decide +kernel
theorem xd_134_0 : xk_134_0.all (xdk xm_134.2.1) = true := by decide +kernel
theorem xd_135_0 : xk_135_0.all (xdk xm_135.2.1) = true := by decide +kernel
theorem xd_135_1 : xk_135_1.all (xdk xm_135.2.1) = true := by decide +kernel
theorem xd_136_0 : xk_136_0.all (xdk xm_136.2.1) = true := by decide +kernel
theorem xd_136_1 : xk_136_1.all (xdk xm_136.2.1) = true := by decide +kernel
theorem xd_137_0 : xk_137_0.all (xdk xm_137.2.1) = true := by decide +kernel
theorem xd_138_0 : xk_138_0.all (xdk xm_138.2.1) = true := by decide +kernel
theorem xd_138_1 : xk_138_1.all (xdk xm_138.2.1) = true := by decide +kernel
theorem xd_139_0 : xk_139_0.all (xdk xm_139.2.1) = true := by decide +kernel
theorem xd_139_1 : xk_139_1.all (xdk xm_139.2.1) = true := by decide +kernel
theorem xd_140_0 : xk_140_0.all (xdk xm_140.2.1) = true := by decide +kernel
theorem xd_140_1 : xk_140_1.all (xdk xm_140.2.1) = true := by decide +kernel
theorem xd_140_2 : xk_140_2.all (xdk xm_140.2.1) = true := by decide +kernel
theorem xd_140_3 : xk_140_3.all (xdk xm_140.2.1) = true := by decide +kernel
theorem xd_140_4 : xk_140_4.all (xdk xm_140.2.1) = true := by decide +kernel
theorem xd_141_0 : xk_141_0.all (xdk xm_141.2.1) = true := by decide +kernel
theorem xd_141_1 : xk_141_1.all (xdk xm_141.2.1) = true := by decide +kernel
theorem xd_141_2 : xk_141_2.all (xdk xm_141.2.1) = true := by decide +kernel
theorem xd_141_3 : xk_141_3.all (xdk xm_141.2.1) = true := by decide +kernel
theorem xd_142_0 : xk_142_0.all (xdk xm_142.2.1) = true := by decide +kernel
theorem xd_143_0 : xk_143_0.all (xdk xm_143.2.1) = true := by decide +kernel
theorem xd_143_1 : xk_143_1.all (xdk xm_143.2.1) = true := by decide +kernel
theorem xd_144_0 : xk_144_0.all (xdk xm_144.2.1) = true := by decide +kernel
theorem xd_144_1 : xk_144_1.all (xdk xm_144.2.1) = true := by decide +kernel
theorem xd_145_0 : xk_145_0.all (xdk xm_145.2.1) = true := by decide +kernel
theorem xd_145_1 : xk_145_1.all (xdk xm_145.2.1) = true := by decide +kernel
theorem xd_146_0 : xk_146_0.all (xdk xm_146.2.1) = true := by decide +kernel
theorem xd_147_0 : xk_147_0.all (xdk xm_147.2.1) = true := by decide +kernel
theorem xd_147_1 : xk_147_1.all (xdk xm_147.2.1) = true := by decide +kernel
theorem xd_148_0 : xk_148_0.all (xdk xm_148.2.1) = true := by decide +kernel
theorem xd_148_1 : xk_148_1.all (xdk xm_148.2.1) = true := by decide +kernel
theorem xd_148_2 : xk_148_2.all (xdk xm_148.2.1) = true := by decide +kernel
theorem xd_148_3 : xk_148_3.all (xdk xm_148.2.1) = true := by decide +kernel
theorem xd_148_4 : xk_148_4.all (xdk xm_148.2.1) = true := by decide +kernel
theorem xd_149_0 : xk_149_0.all (xdk xm_149.2.1) = true := by decide +kernel
theorem xd_149_1 : xk_149_1.all (xdk xm_149.2.1) = true := by decide +kernel
theorem xd_149_2 : xk_149_2.all (xdk xm_149.2.1) = true := by decide +kernel
theorem xd_149_3 : xk_149_3.all (xdk xm_149.2.1) = true := by decide +kernel
theorem xd_149_4 : xk_149_4.all (xdk xm_149.2.1) = true := by decide +kernel
theorem xd_150_0 : xk_150_0.all (xdk xm_150.2.1) = true := by decide +kernel
theorem xd_150_1 : xk_150_1.all (xdk xm_150.2.1) = true := by decide +kernel
theorem xd_150_2 : xk_150_2.all (xdk xm_150.2.1) = true := by decide +kernel
theorem xd_150_3 : xk_150_3.all (xdk xm_150.2.1) = true := by decide +kernel
theorem xd_151_0 : xk_151_0.all (xdk xm_151.2.1) = true := by decide +kernel
theorem xd_151_1 : xk_151_1.all (xdk xm_151.2.1) = true := by decide +kernel
theorem xd_151_2 : xk_151_2.all (xdk xm_151.2.1) = true := by decide +kernel
theorem xd_152_0 : xk_152_0.all (xdk xm_152.2.1) = true := by decide +kernel
theorem xd_152_1 : xk_152_1.all (xdk xm_152.2.1) = true := by decide +kernel
theorem xd_152_2 : xk_152_2.all (xdk xm_152.2.1) = true := by decide +kernel
theorem xd_152_3 : xk_152_3.all (xdk xm_152.2.1) = true := by decide +kernel
theorem xd_152_4 : xk_152_4.all (xdk xm_152.2.1) = true := by decide +kernel
theorem xd_153_0 : xk_153_0.all (xdk xm_153.2.1) = true := by decide +kernel
theorem xd_154_0 : xk_154_0.all (xdk xm_154.2.1) = true := by decide +kernel
theorem xd_154_1 : xk_154_1.all (xdk xm_154.2.1) = true := by decide +kernel
theorem xd_154_2 : xk_154_2.all (xdk xm_154.2.1) = true := by decide +kernel
theorem xd_154_3 : xk_154_3.all (xdk xm_154.2.1) = true := by decide +kernel
theorem xd_154_4 : xk_154_4.all (xdk xm_154.2.1) = true := by decide +kernel
theorem xd_154_5 : xk_154_5.all (xdk xm_154.2.1) = true := by decide +kernel
theorem xd_155_0 : xk_155_0.all (xdk xm_155.2.1) = true := by decide +kernel
theorem xd_155_1 : xk_155_1.all (xdk xm_155.2.1) = true := by decide +kernel
theorem xd_155_2 : xk_155_2.all (xdk xm_155.2.1) = true := by decide +kernel
theorem xd_156_0 : xk_156_0.all (xdk xm_156.2.1) = true := by decide +kernel
theorem xd_156_1 : xk_156_1.all (xdk xm_156.2.1) = true := by decide +kernel
theorem xd_156_2 : xk_156_2.all (xdk xm_156.2.1) = true := by decide +kernel
theorem xd_156_3 : xk_156_3.all (xdk xm_156.2.1) = true := by decide +kernel
theorem xd_156_4 : xk_156_4.all (xdk xm_156.2.1) = true := by decide +kernel
theorem xd_156_5 : xk_156_5.all (xdk xm_156.2.1) = true := by decide +kernel
theorem xd_156_6 : xk_156_6.all (xdk xm_156.2.1) = true := by decide +kernel
theorem xd_156_7 : xk_156_7.all (xdk xm_156.2.1) = true := by decide +kernel
theorem xd_157_0 : xk_157_0.all (xdk xm_157.2.1) = true := by decide +kernel
theorem xd_158_0 : xk_158_0.all (xdk xm_158.2.1) = true := by decide +kernel
theorem xd_159_0 : xk_159_0.all (xdk xm_159.2.1) = true := by decide +kernel
theorem xd_160_0 : xk_160_0.all (xdk xm_160.2.1) = true := by decide +kernel
theorem xd_161_0 : xk_161_0.all (xdk xm_161.2.1) = true := by decide +kernel
theorem xd_161_1 : xk_161_1.all (xdk xm_161.2.1) = true := by decide +kernel
theorem xd_161_2 : xk_161_2.all (xdk xm_161.2.1) = true := by decide +kernel
theorem xd_162_0 : xk_162_0.all (xdk xm_162.2.1) = true := by decide +kernel
theorem xd_162_1 : xk_162_1.all (xdk xm_162.2.1) = true := by decide +kernel
theorem xd_163_0 : xk_163_0.all (xdk xm_163.2.1) = true := by decide +kernel
theorem xd_163_1 : xk_163_1.all (xdk xm_163.2.1) = true := by decide +kernel
theorem xd_164_0 : xk_164_0.all (xdk xm_164.2.1) = true := by decide +kernel
theorem xd_164_1 : xk_164_1.all (xdk xm_164.2.1) = true := by decide +kernel
theorem xd_165_0 : xk_165_0.all (xdk xm_165.2.1) = true := by decide +kernel
theorem xd_165_1 : xk_165_1.all (xdk xm_165.2.1) = true := by decide +kernel
theorem xd_165_2 : xk_165_2.all (xdk xm_165.2.1) = true := by decide +kernel
theorem xd_165_3 : xk_165_3.all (xdk xm_165.2.1) = true := by decide +kernel
theorem xd_165_4 : xk_165_4.all (xdk xm_165.2.1) = true := by decide +kernel
theorem xd_165_5 : xk_165_5.all (xdk xm_165.2.1) = true := by decide +kernel
theorem xd_165_6 : xk_165_6.all (xdk xm_165.2.1) = true := by decide +kernel
theorem xd_165_7 : xk_165_7.all (xdk xm_165.2.1) = true := by decide +kernel
theorem xd_165_8 : xk_165_8.all (xdk xm_165.2.1) = true := by decide +kernel
theorem xd_166_0 : xk_166_0.all (xdk xm_166.2.1) = true := by decide +kernel
theorem xd_167_0 : xk_167_0.all (xdk xm_167.2.1) = true := by decide +kernel
theorem xd_168_0 : xk_168_0.all (xdk xm_168.2.1) = true := by decide +kernel
theorem xd_169_0 : xk_169_0.all (xdk xm_169.2.1) = true := by decide +kernel
theorem xd_170_0 : xk_170_0.all (xdk xm_170.2.1) = true := by decide +kernel
theorem xd_170_1 : xk_170_1.all (xdk xm_170.2.1) = true := by decide +kernel
theorem xd_170_2 : xk_170_2.all (xdk xm_170.2.1) = true := by decide +kernel
theorem xd_170_3 : xk_170_3.all (xdk xm_170.2.1) = true := by decide +kernel
theorem xd_171_0 : xk_171_0.all (xdk xm_171.2.1) = true := by decide +kernel
theorem xd_171_1 : xk_171_1.all (xdk xm_171.2.1) = true := by decide +kernel
theorem xd_171_2 : xk_171_2.all (xdk xm_171.2.1) = true := by decide +kernel
theorem xd_172_0 : xk_172_0.all (xdk xm_172.2.1) = true := by decide +kernel
theorem xd_172_1 : xk_172_1.all (xdk xm_172.2.1) = true := by decide +kernel
theorem xd_172_2 : xk_172_2.all (xdk xm_172.2.1) = true := by decide +kernel
theorem xd_172_3 : xk_172_3.all (xdk xm_172.2.1) = true := by decide +kernel
theorem xd_172_4 : xk_172_4.all (xdk xm_172.2.1) = true := by decide +kernel
theorem xd_173_0 : xk_173_0.all (xdk xm_173.2.1) = true := by decide +kernel
theorem xd_173_1 : xk_173_1.all (xdk xm_173.2.1) = true := by decide +kernel
theorem xd_173_2 : xk_173_2.all (xdk xm_173.2.1) = true := by decide +kernel
theorem xd_174_0 : xk_174_0.all (xdk xm_174.2.1) = true := by decide +kernel
theorem xd_174_1 : xk_174_1.all (xdk xm_174.2.1) = true := by decide +kernel
theorem xd_174_2 : xk_174_2.all (xdk xm_174.2.1) = true := by decide +kernel
theorem xd_174_3 : xk_174_3.all (xdk xm_174.2.1) = true := by decide +kernel
theorem xd_174_4 : xk_174_4.all (xdk xm_174.2.1) = true := by decide +kernel
theorem xd_174_5 : xk_174_5.all (xdk xm_174.2.1) = true := by decide +kernel
theorem xd_174_6 : xk_174_6.all (xdk xm_174.2.1) = true := by decide +kernel
theorem xd_174_7 : xk_174_7.all (xdk xm_174.2.1) = true := by decide +kernel
theorem xd_175_0 : xk_175_0.all (xdk xm_175.2.1) = true := by decide +kernel
theorem xd_175_1 : xk_175_1.all (xdk xm_175.2.1) = true := by decide +kernel
theorem xd_175_2 : xk_175_2.all (xdk xm_175.2.1) = true := by decide +kernel
theorem xd_175_3 : xk_175_3.all (xdk xm_175.2.1) = true := by decide +kernel
theorem xd_175_4 : xk_175_4.all (xdk xm_175.2.1) = true := by decide +kernel
theorem xd_175_5 : xk_175_5.all (xdk xm_175.2.1) = true := by decide +kernel
theorem xd_175_6 : xk_175_6.all (xdk xm_175.2.1) = true := by decide +kernel
theorem xd_175_7 : xk_175_7.all (xdk xm_175.2.1) = true := by decide +kernel
theorem xd_175_8 : xk_175_8.all (xdk xm_175.2.1) = true := by decide +kernel
theorem xd_175_9 : xk_175_9.all (xdk xm_175.2.1) = true := by decide +kernel
theorem xd_175_10 : xk_175_10.all (xdk xm_175.2.1) = true := by decide +kernel
theorem xd_175_11 : xk_175_11.all (xdk xm_175.2.1) = true := by decide +kernel
theorem xd_175_12 : xk_175_12.all (xdk xm_175.2.1) = true := by decide +kernel
theorem xd_175_13 : xk_175_13.all (xdk xm_175.2.1) = true := by decide +kernel
theorem xd_175_14 : xk_175_14.all (xdk xm_175.2.1) = true := by decide +kernel
theorem xd_175_15 : xk_175_15.all (xdk xm_175.2.1) = true := by decide +kernel
theorem xd_175_16 : xk_175_16.all (xdk xm_175.2.1) = true := by decide +kernel
theorem xd_175_17 : xk_175_17.all (xdk xm_175.2.1) = true := by decide +kernel
theorem xd_176_0 : xk_176_0.all (xdk xm_176.2.1) = true := by decide +kernel
theorem xd_177_0 : xk_177_0.all (xdk xm_177.2.1) = true := by decide +kernel
theorem xd_177_1 : xk_177_1.all (xdk xm_177.2.1) = true := by decide +kernel
theorem xd_177_2 : xk_177_2.all (xdk xm_177.2.1) = true := by decide +kernel
theorem xd_178_0 : xk_178_0.all (xdk xm_178.2.1) = true := by decide +kernel
theorem xd_178_1 : xk_178_1.all (xdk xm_178.2.1) = true := by decide +kernel
theorem xd_178_2 : xk_178_2.all (xdk xm_178.2.1) = true := by decide +kernel
theorem xd_178_3 : xk_178_3.all (xdk xm_178.2.1) = true := by decide +kernel
theorem xd_179_0 : xk_179_0.all (xdk xm_179.2.1) = true := by decide +kernel
theorem xd_179_1 : xk_179_1.all (xdk xm_179.2.1) = true := by decide +kernel
theorem xd_179_2 : xk_179_2.all (xdk xm_179.2.1) = true := by decide +kernel
theorem xd_179_3 : xk_179_3.all (xdk xm_179.2.1) = true := by decide +kernel
theorem xd_179_4 : xk_179_4.all (xdk xm_179.2.1) = true := by decide +kernel
theorem xd_179_5 : xk_179_5.all (xdk xm_179.2.1) = true := by decide +kernel
theorem xd_179_6 : xk_179_6.all (xdk xm_179.2.1) = true := by decide +kernel
theorem xd_180_0 : xk_180_0.all (xdk xm_180.2.1) = true := by decide +kernel
theorem xd_180_1 : xk_180_1.all (xdk xm_180.2.1) = true := by decide +kernel
theorem xd_180_2 : xk_180_2.all (xdk xm_180.2.1) = true := by decide +kernel
theorem xd_180_3 : xk_180_3.all (xdk xm_180.2.1) = true := by decide +kernel
theorem xd_180_4 : xk_180_4.all (xdk xm_180.2.1) = true := by decide +kernel
theorem xd_180_5 : xk_180_5.all (xdk xm_180.2.1) = true := by decide +kernel
theorem xd_181_0 : xk_181_0.all (xdk xm_181.2.1) = true := by decide +kernel
theorem xd_181_1 : xk_181_1.all (xdk xm_181.2.1) = true := by decide +kernel
theorem xd_181_2 : xk_181_2.all (xdk xm_181.2.1) = true := by decide +kernel
theorem xd_182_0 : xk_182_0.all (xdk xm_182.2.1) = true := by decide +kernel
theorem xd_182_1 : xk_182_1.all (xdk xm_182.2.1) = true := by decide +kernel
theorem xd_182_2 : xk_182_2.all (xdk xm_182.2.1) = true := by decide +kernel
theorem xd_182_3 : xk_182_3.all (xdk xm_182.2.1) = true := by decide +kernel
theorem xd_182_4 : xk_182_4.all (xdk xm_182.2.1) = true := by decide +kernel
theorem xd_183_0 : xk_183_0.all (xdk xm_183.2.1) = true := by decide +kernel
theorem xd_183_1 : xk_183_1.all (xdk xm_183.2.1) = true := by decide +kernel
theorem xd_183_2 : xk_183_2.all (xdk xm_183.2.1) = true := by decide +kernel
theorem xd_183_3 : xk_183_3.all (xdk xm_183.2.1) = true := by decide +kernel
theorem xd_184_0 : xk_184_0.all (xdk xm_184.2.1) = true := by decide +kernel
theorem xd_184_1 : xk_184_1.all (xdk xm_184.2.1) = true := by decide +kernel
theorem xd_185_0 : xk_185_0.all (xdk xm_185.2.1) = true := by decide +kernel
theorem xd_185_1 : xk_185_1.all (xdk xm_185.2.1) = true := by decide +kernel
theorem xd_185_2 : xk_185_2.all (xdk xm_185.2.1) = true := by decide +kernel
theorem xd_185_3 : xk_185_3.all (xdk xm_185.2.1) = true := by decide +kernel
theorem xd_185_4 : xk_185_4.all (xdk xm_185.2.1) = true := by decide +kernel
theorem xd_185_5 : xk_185_5.all (xdk xm_185.2.1) = true := by decide +kernel
theorem xd_185_6 : xk_185_6.all (xdk xm_185.2.1) = true := by decide +kernel
theorem xd_186_0 : xk_186_0.all (xdk xm_186.2.1) = true := by decide +kernel
theorem xd_186_1 : xk_186_1.all (xdk xm_186.2.1) = true := by decide +kernel
theorem xd_186_2 : xk_186_2.all (xdk xm_186.2.1) = true := by decide +kernel
theorem xd_186_3 : xk_186_3.all (xdk xm_186.2.1) = true := by decide +kernel
theorem xd_186_4 : xk_186_4.all (xdk xm_186.2.1) = true := by decide +kernel
theorem xd_186_5 : xk_186_5.all (xdk xm_186.2.1) = true := by decide +kernel
theorem xd_187_0 : xk_187_0.all (xdk xm_187.2.1) = true := by decide +kernel
theorem xd_187_1 : xk_187_1.all (xdk xm_187.2.1) = true := by decide +kernel
theorem xd_187_2 : xk_187_2.all (xdk xm_187.2.1) = true := by decide +kernel
theorem xd_187_3 : xk_187_3.all (xdk xm_187.2.1) = true := by decide +kernel
theorem xd_187_4 : xk_187_4.all (xdk xm_187.2.1) = true := by decide +kernel
theorem xd_187_5 : xk_187_5.all (xdk xm_187.2.1) = true := by decide +kernel
theorem xd_188_0 : xk_188_0.all (xdk xm_188.2.1) = true := by decide +kernel
theorem xd_188_1 : xk_188_1.all (xdk xm_188.2.1) = true := by decide +kernel
theorem xd_188_2 : xk_188_2.all (xdk xm_188.2.1) = true := by decide +kernel
theorem xd_188_3 : xk_188_3.all (xdk xm_188.2.1) = true := by decide +kernel
theorem xd_188_4 : xk_188_4.all (xdk xm_188.2.1) = true := by decide +kernel
theorem xd_189_0 : xk_189_0.all (xdk xm_189.2.1) = true := by decide +kernel
theorem xd_189_1 : xk_189_1.all (xdk xm_189.2.1) = true := by decide +kernel
theorem xd_189_2 : xk_189_2.all (xdk xm_189.2.1) = true := by decide +kernel
theorem xd_189_3 : xk_189_3.all (xdk xm_189.2.1) = true := by decide +kernel
theorem xd_190_0 : xk_190_0.all (xdk xm_190.2.1) = true := by decide +kernel
theorem xd_190_1 : xk_190_1.all (xdk xm_190.2.1) = true := by decide +kernel
theorem xd_190_2 : xk_190_2.all (xdk xm_190.2.1) = true := by decide +kernel
theorem xd_190_3 : xk_190_3.all (xdk xm_190.2.1) = true := by decide +kernel
theorem xd_191_0 : xk_191_0.all (xdk xm_191.2.1) = true := by decide +kernel
theorem xd_191_1 : xk_191_1.all (xdk xm_191.2.1) = true := by decide +kernel
theorem xd_191_2 : xk_191_2.all (xdk xm_191.2.1) = true := by decide +kernel
theorem xd_191_3 : xk_191_3.all (xdk xm_191.2.1) = true := by decide +kernel
theorem xd_191_4 : xk_191_4.all (xdk xm_191.2.1) = true := by decide +kernel
theorem xd_191_5 : xk_191_5.all (xdk xm_191.2.1) = true := by decide +kernel
theorem xd_191_6 : xk_191_6.all (xdk xm_191.2.1) = true := by decide +kernel
theorem xd_191_7 : xk_191_7.all (xdk xm_191.2.1) = true := by decide +kernel
theorem xd_191_8 : xk_191_8.all (xdk xm_191.2.1) = true := by decide +kernel
theorem xd_192_0 : xk_192_0.all (xdk xm_192.2.1) = true := by decide +kernel
theorem xd_193_0 : xk_193_0.all (xdk xm_193.2.1) = true := by decide +kernel
theorem xd_194_0 : xk_194_0.all (xdk xm_194.2.1) = true := by decide +kernel
theorem xd_195_0 : xk_195_0.all (xdk xm_195.2.1) = true := by decide +kernel
theorem xd_196_0 : xk_196_0.all (xdk xm_196.2.1) = true := by decide +kernel
theorem xd_197_0 : xk_197_0.all (xdk xm_197.2.1) = true := by decide +kernel
theorem xd_197_1 : xk_197_1.all (xdk xm_197.2.1) = true := by decide +kernel
theorem xd_197_2 : xk_197_2.all (xdk xm_197.2.1) = true := by decide +kernel
theorem xd_197_3 : xk_197_3.all (xdk xm_197.2.1) = true := by decide +kernel
theorem xd_197_4 : xk_197_4.all (xdk xm_197.2.1) = true := by decide +kernel
theorem xd_198_0 : xk_198_0.all (xdk xm_198.2.1) = true := by decide +kernel
theorem xd_199_0 : xk_199_0.all (xdk xm_199.2.1) = true := by decide +kernel
theorem xd_199_1 : xk_199_1.all (xdk xm_199.2.1) = true := by decide +kernel
theorem xd_200_0 : xk_200_0.all (xdk xm_200.2.1) = true := by decide +kernel
theorem xd_200_1 : xk_200_1.all (xdk xm_200.2.1) = true := by decide +kernel
theorem xd_200_2 : xk_200_2.all (xdk xm_200.2.1) = true := by decide +kernel
theorem xd_200_3 : xk_200_3.all (xdk xm_200.2.1) = true := by decide +kernel
theorem xd_201_0 : xk_201_0.all (xdk xm_201.2.1) = true := by decide +kernel
theorem xd_202_0 : xk_202_0.all (xdk xm_202.2.1) = true := by decide +kernel
theorem xd_203_0 : xk_203_0.all (xdk xm_203.2.1) = true := by decide +kernel
theorem xd_203_1 : xk_203_1.all (xdk xm_203.2.1) = true := by decide +kernel
theorem xd_203_2 : xk_203_2.all (xdk xm_203.2.1) = true := by decide +kernel
theorem xd_204_0 : xk_204_0.all (xdk xm_204.2.1) = true := by decide +kernel
theorem xd_205_0 : xk_205_0.all (xdk xm_205.2.1) = true := by decide +kernel
theorem xd_205_1 : xk_205_1.all (xdk xm_205.2.1) = true := by decide +kernel
theorem xd_205_2 : xk_205_2.all (xdk xm_205.2.1) = true := by decide +kernel
theorem xd_206_0 : xk_206_0.all (xdk xm_206.2.1) = true := by decide +kernel
theorem xd_206_1 : xk_206_1.all (xdk xm_206.2.1) = true := by decide +kernel
theorem xd_207_0 : xk_207_0.all (xdk xm_207.2.1) = true := by decide +kernel
theorem xd_207_1 : xk_207_1.all (xdk xm_207.2.1) = true := by decide +kernel
theorem xd_208_0 : xk_208_0.all (xdk xm_208.2.1) = true := by decide +kernel
theorem xd_209_0 : xk_209_0.all (xdk xm_209.2.1) = true := by decide +kernel
theorem xd_209_1 : xk_209_1.all (xdk xm_209.2.1) = true := by decide +kernel
theorem xd_210_0 : xk_210_0.all (xdk xm_210.2.1) = true := by decide +kernel
theorem xd_211_0 : xk_211_0.all (xdk xm_211.2.1) = true := by decide +kernel
theorem xd_212_0 : xk_212_0.all (xdk xm_212.2.1) = true := by decide +kernel
theorem xd_212_1 : xk_212_1.all (xdk xm_212.2.1) = true := by decide +kernel
theorem xd_212_2 : xk_212_2.all (xdk xm_212.2.1) = true := by decide +kernel
theorem xd_213_0 : xk_213_0.all (xdk xm_213.2.1) = true := by decide +kernel
theorem xd_213_1 : xk_213_1.all (xdk xm_213.2.1) = true := by decide +kernel
theorem xd_213_2 : xk_213_2.all (xdk xm_213.2.1) = true := by decide +kernel
theorem xd_214_0 : xk_214_0.all (xdk xm_214.2.1) = true := by decide +kernel
theorem xd_214_1 : xk_214_1.all (xdk xm_214.2.1) = true := by decide +kernel
theorem xd_215_0 : xk_215_0.all (xdk xm_215.2.1) = true := by decide +kernel
theorem xd_216_0 : xk_216_0.all (xdk xm_216.2.1) = true := by decide +kernel
theorem xd_216_1 : xk_216_1.all (xdk xm_216.2.1) = true := by decide +kernel
theorem xd_217_0 : xk_217_0.all (xdk xm_217.2.1) = true := by decide +kernel
theorem xd_217_1 : xk_217_1.all (xdk xm_217.2.1) = true := by decide +kernel
theorem xd_217_2 : xk_217_2.all (xdk xm_217.2.1) = true := by decide +kernel
theorem xd_218_0 : xk_218_0.all (xdk xm_218.2.1) = true := by decide +kernel
theorem xd_218_1 : xk_218_1.all (xdk xm_218.2.1) = true := by decide +kernel
theorem xd_219_0 : xk_219_0.all (xdk xm_219.2.1) = true := by decide +kernel
theorem xd_219_1 : xk_219_1.all (xdk xm_219.2.1) = true := by decide +kernel
theorem xd_220_0 : xk_220_0.all (xdk xm_220.2.1) = true := by decide +kernel
theorem xd_220_1 : xk_220_1.all (xdk xm_220.2.1) = true := by decide +kernel
theorem xd_220_2 : xk_220_2.all (xdk xm_220.2.1) = true := by decide +kernel
theorem xd_220_3 : xk_220_3.all (xdk xm_220.2.1) = true := by decide +kernel
theorem xd_221_0 : xk_221_0.all (xdk xm_221.2.1) = true := by decide +kernel
theorem xd_222_0 : xk_222_0.all (xdk xm_222.2.1) = true := by decide +kernel
theorem xd_223_0 : xk_223_0.all (xdk xm_223.2.1) = true := by decide +kernel
theorem xd_224_0 : xk_224_0.all (xdk xm_224.2.1) = true := by decide +kernel
theorem xd_225_0 : xk_225_0.all (xdk xm_225.2.1) = true := by decide +kernel
theorem xd_226_0 : xk_226_0.all (xdk xm_226.2.1) = true := by decide +kernel
theorem xd_227_0 : xk_227_0.all (xdk xm_227.2.1) = true := by decide +kernel
theorem xd_228_0 : xk_228_0.all (xdk xm_228.2.1) = true := by decide +kernel
theorem xd_229_0 : xk_229_0.all (xdk xm_229.2.1) = true := by decide +kernel
theorem xd_229_1 : xk_229_1.all (xdk xm_229.2.1) = true := by decide +kernel
theorem xd_229_2 : xk_229_2.all (xdk xm_229.2.1) = true := by decide +kernel
theorem xd_229_3 : xk_229_3.all (xdk xm_229.2.1) = true := by decide +kernel
theorem xd_230_0 : xk_230_0.all (xdk xm_230.2.1) = true := by decide +kernel
theorem xd_231_0 : xk_231_0.all (xdk xm_231.2.1) = true := by decide +kernel
theorem xd_232_0 : xk_232_0.all (xdk xm_232.2.1) = true := by decide +kernel
theorem xd_233_0 : xk_233_0.all (xdk xm_233.2.1) = true := by decide +kernel
theorem xd_233_1 : xk_233_1.all (xdk xm_233.2.1) = true := by decide +kernel
theorem xd_234_0 : xk_234_0.all (xdk xm_234.2.1) = true := by decide +kernel
theorem xd_235_0 : xk_235_0.all (xdk xm_235.2.1) = true := by decide +kernel
theorem xd_236_0 : xk_236_0.all (xdk xm_236.2.1) = true := by decide +kernel
theorem xd_237_0 : xk_237_0.all (xdk xm_237.2.1) = true := by decide +kernel
theorem xd_238_0 : xk_238_0.all (xdk xm_238.2.1) = true := by decide +kernel
theorem xd_239_0 : xk_239_0.all (xdk xm_239.2.1) = true := by decide +kernel
theorem xd_240_0 : xk_240_0.all (xdk xm_240.2.1) = true := by decide +kernel
theorem xd_241_0 : xk_241_0.all (xdk xm_241.2.1) = true := by decide +kernel
theorem xd_242_0 : xk_242_0.all (xdk xm_242.2.1) = true := by decide +kernel
theorem xd_242_1 : xk_242_1.all (xdk xm_242.2.1) = true := by decide +kernel
theorem xd_243_0 : xk_243_0.all (xdk xm_243.2.1) = true := by decide +kernel
theorem xd_243_1 : xk_243_1.all (xdk xm_243.2.1) = true := by decide +kernel
theorem xd_244_0 : xk_244_0.all (xdk xm_244.2.1) = true := by decide +kernel
theorem xd_245_0 : xk_245_0.all (xdk xm_245.2.1) = true := by decide +kernel
theorem xd_246_0 : xk_246_0.all (xdk xm_246.2.1) = true := by decide +kernel
theorem xd_247_0 : xk_247_0.all (xdk xm_247.2.1) = true := by decide +kernel
theorem xd_247_1 : xk_247_1.all (xdk xm_247.2.1) = true := by decide +kernel
theorem xd_248_0 : xk_248_0.all (xdk xm_248.2.1) = true := by decide +kernel
theorem xd_248_1 : xk_248_1.all (xdk xm_248.2.1) = true := by decide +kernel
theorem xd_249_0 : xk_249_0.all (xdk xm_249.2.1) = true := by decide +kernel
theorem xd_250_0 : xk_250_0.all (xdk xm_250.2.1) = true := by decide +kernel
theorem xd_251_0 : xk_251_0.all (xdk xm_251.2.1) = true := by decide +kernel
theorem xd_251_1 : xk_251_1.all (xdk xm_251.2.1) = true := by decide +kernel
theorem xd_252_0 : xk_252_0.all (xdk xm_252.2.1) = true := by decide +kernel
theorem xd_253_0 : xk_253_0.all (xdk xm_253.2.1) = true := by decide +kernel
theorem xd_254_0 : xk_254_0.all (xdk xm_254.2.1) = true := by decide +kernel
theorem xd_255_0 : xk_255_0.all (xdk xm_255.2.1) = true := by decide +kernel
theorem xd_256_0 : xk_256_0.all (xdk xm_256.2.1) = true := by decide +kernel
theorem xd_257_0 : xk_257_0.all (xdk xm_257.2.1) = true := by decide +kernel
theorem xd_258_0 : xk_258_0.all (xdk xm_258.2.1) = true := by decide +kernel
theorem xd_259_0 : xk_259_0.all (xdk xm_259.2.1) = true := by decide +kernel
theorem xd_260_0 : xk_260_0.all (xdk xm_260.2.1) = true := by decide +kernel
theorem xd_261_0 : xk_261_0.all (xdk xm_261.2.1) = true := by decide +kernel
theorem xd_262_0 : xk_262_0.all (xdk xm_262.2.1) = true := by decide +kernel
theorem xd_263_0 : xk_263_0.all (xdk xm_263.2.1) = true := by decide +kernel
theorem xd_264_0 : xk_264_0.all (xdk xm_264.2.1) = true := by decide +kernel
theorem xd_265_0 : xk_265_0.all (xdk xm_265.2.1) = true := by decide +kernel
theorem xd_266_0 : xk_266_0.all (xdk xm_266.2.1) = true := by decide +kernel
theorem xd_267_0 : xk_267_0.all (xdk xm_267.2.1) = true := by decide +kernel
theorem xd_268_0 : xk_268_0.all (xdk xm_268.2.1) = true := by decide +kernel
theorem xd_269_0 : xk_269_0.all (xdk xm_269.2.1) = true := by decide +kernel
theorem xd_270_0 : xk_270_0.all (xdk xm_270.2.1) = true := by decide +kernel
theorem xd_271_0 : xk_271_0.all (xdk xm_271.2.1) = true := by decide +kernel
theorem xd_272_0 : xk_272_0.all (xdk xm_272.2.1) = true := by decide +kernel
theorem xd_273_0 : xk_273_0.all (xdk xm_273.2.1) = true := by decide +kernel
theorem xd_274_0 : xk_274_0.all (xdk xm_274.2.1) = true := by decide +kernel
theorem xd_275_0 : xk_275_0.all (xdk xm_275.2.1) = true := by decide +kernel
theorem xd_276_0 : xk_276_0.all (xdk xm_276.2.1) = true := by decide +kernel
theorem xd_277_0 : xk_277_0.all (xdk xm_277.2.1) = true := by decide +kernel
theorem xd_278_0 : xk_278_0.all (xdk xm_278.2.1) = true := by decide +kernel
theorem xd_278_1 : xk_278_1.all (xdk xm_278.2.1) = true := by decide +kernel
theorem xd_278_2 : xk_278_2.all (xdk xm_278.2.1) = true := by decide +kernel
theorem xd_278_3 : xk_278_3.all (xdk xm_278.2.1) = true := by decide +kernel
theorem xd_278_4 : xk_278_4.all (xdk xm_278.2.1) = true := by decide +kernel
theorem xd_278_5 : xk_278_5.all (xdk xm_278.2.1) = true := by decide +kernel
theorem xd_278_6 : xk_278_6.all (xdk xm_278.2.1) = true := by decide +kernel
theorem xd_278_7 : xk_278_7.all (xdk xm_278.2.1) = true := by decide +kernel
theorem xd_278_8 : xk_278_8.all (xdk xm_278.2.1) = true := by decide +kernel
theorem xd_278_9 : xk_278_9.all (xdk xm_278.2.1) = true := by decide +kernel
theorem xd_278_10 : xk_278_10.all (xdk xm_278.2.1) = true := by decide +kernel
theorem xd_278_11 : xk_278_11.all (xdk xm_278.2.1) = true := by decide +kernel
theorem xd_278_12 : xk_278_12.all (xdk xm_278.2.1) = true := by decide +kernel
theorem xd_278_13 : xk_278_13.all (xdk xm_278.2.1) = true := by decide +kernel
theorem xd_278_14 : xk_278_14.all (xdk xm_278.2.1) = true := by decide +kernel
theorem xd_278_15 : xk_278_15.all (xdk xm_278.2.1) = true := by decide +kernel
theorem xd_278_16 : xk_278_16.all (xdk xm_278.2.1) = true := by decide +kernel
theorem xd_278_17 : xk_278_17.all (xdk xm_278.2.1) = true := by decide +kernel
theorem xd_278_18 : xk_278_18.all (xdk xm_278.2.1) = true := by decide +kernel
theorem xd_278_19 : xk_278_19.all (xdk xm_278.2.1) = true := by decide +kernel
theorem xd_278_20 : xk_278_20.all (xdk xm_278.2.1) = true := by decide +kernel
theorem xd_278_21 : xk_278_21.all (xdk xm_278.2.1) = true := by decide +kernel
theorem xd_278_22 : xk_278_22.all (xdk xm_278.2.1) = true := by decide +kernel
theorem xd_278_23 : xk_278_23.all (xdk xm_278.2.1) = true := by decide +kernel
theorem xd_278_24 : xk_278_24.all (xdk xm_278.2.1) = true := by decide +kernel
theorem xd_278_25 : xk_278_25.all (xdk xm_278.2.1) = true := by decide +kernel
theorem xd_278_26 : xk_278_26.all (xdk xm_278.2.1) = true := by decide +kernel
theorem xd_278_27 : xk_278_27.all (xdk xm_278.2.1) = true := by decide +kernel
theorem xd_278_28 : xk_278_28.all (xdk xm_278.2.1) = true := by decide +kernel
theorem xd_278_29 : xk_278_29.all (xdk xm_278.2.1) = true := by decide +kernel
theorem xd_278_30 : xk_278_30.all (xdk xm_278.2.1) = true := by decide +kernel
theorem xd_278_31 : xk_278_31.all (xdk xm_278.2.1) = true := by decide +kernel
theorem xd_278_32 : xk_278_32.all (xdk xm_278.2.1) = true := by decide +kernel
theorem xd_278_33 : xk_278_33.all (xdk xm_278.2.1) = true := by decide +kernel
theorem xd_278_34 : xk_278_34.all (xdk xm_278.2.1) = true := by decide +kernel
theorem xd_278_35 : xk_278_35.all (xdk xm_278.2.1) = true := by decide +kernel
theorem xd_278_36 : xk_278_36.all (xdk xm_278.2.1) = true := by decide +kernel
theorem xd_278_37 : xk_278_37.all (xdk xm_278.2.1) = true := by decide +kernel
theorem xd_278_38 : xk_278_38.all (xdk xm_278.2.1) = true := by decide +kernel
theorem xd_278_39 : xk_278_39.all (xdk xm_278.2.1) = true := by decide +kernel
theorem xd_278_40 : xk_278_40.all (xdk xm_278.2.1) = true := by decide +kernel
theorem xd_278_41 : xk_278_41.all (xdk xm_278.2.1) = true := by decide +kernel
theorem xd_278_42 : xk_278_42.all (xdk xm_278.2.1) = true := by decide +kernel
theorem xd_278_43 : xk_278_43.all (xdk xm_278.2.1) = true := by decide +kernel
theorem xd_278_44 : xk_278_44.all (xdk xm_278.2.1) = true := by decide +kernel
theorem xd_278_45 : xk_278_45.all (xdk xm_278.2.1) = true := by decide +kernel
theorem xd_278_46 : xk_278_46.all (xdk xm_278.2.1) = true := by decide +kernel
theorem xd_278_47 : xk_278_47.all (xdk xm_278.2.1) = true := by decide +kernel
theorem xd_278_48 : xk_278_48.all (xdk xm_278.2.1) = true := by decide +kernel
theorem xd_278_49 : xk_278_49.all (xdk xm_278.2.1) = true := by decide +kernel
theorem xd_278_50 : xk_278_50.all (xdk xm_278.2.1) = true := by decide +kernel
theorem xd_278_51 : xk_278_51.all (xdk xm_278.2.1) = true := by decide +kernel
theorem xd_278_52 : xk_278_52.all (xdk xm_278.2.1) = true := by decide +kernel
theorem xd_278_53 : xk_278_53.all (xdk xm_278.2.1) = true := by decide +kernel
theorem xd_278_54 : xk_278_54.all (xdk xm_278.2.1) = true := by decide +kernel
theorem xd_278_55 : xk_278_55.all (xdk xm_278.2.1) = true := by decide +kernel
theorem xd_278_56 : xk_278_56.all (xdk xm_278.2.1) = true := by decide +kernel
theorem xd_278_57 : xk_278_57.all (xdk xm_278.2.1) = true := by decide +kernel
theorem xd_278_58 : xk_278_58.all (xdk xm_278.2.1) = true := by decide +kernel
theorem xd_278_59 : xk_278_59.all (xdk xm_278.2.1) = true := by decide +kernel
theorem xd_278_60 : xk_278_60.all (xdk xm_278.2.1) = true := by decide +kernel
theorem xd_278_61 : xk_278_61.all (xdk xm_278.2.1) = true := by decide +kernel
end XDEC
end
