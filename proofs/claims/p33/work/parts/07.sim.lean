set_option maxRecDepth 20000
section XSIM
/-- the addresses of names: those that were are as they were -/
def xAg (ad ad2 : xN) (h h2 : xH) : Prop := (∀ v, xlv h v → xlv h2 v ∧ xc ad2 v = xc ad v) ∧ ∀ z : Nat × Nat, z.1 = 0 → ad2 z = ad z
theorem xAg.rf {ad : xN} {h : xH} : xAg ad ad h h := ⟨fun _ hv => ⟨hv, rfl⟩, fun _ _ => rfl⟩
theorem xAg.tr {a1 a2 a3 : xN} {h1 h2 h3 : xH} (x : xAg a1 a2 h1 h2) (y : xAg a2 a3 h2 h3) : xAg a1 a3 h1 h3 :=
  ⟨fun v hv => ⟨(y.1 v (x.1 v hv).1).1, (y.1 v (x.1 v hv).1).2.trans (x.1 v hv).2⟩, fun z hz => (y.2 z hz).trans (x.2 z hz)⟩
theorem xAg.lm {a1 a2 : xN} {h1 h2 : xH} (x : xAg a1 a2 h1 h2) {l : xL} (hl : ∀ z ∈ l, xlv h1 z.2) : xlm a2 l = xlm a1 l :=
  List.map_congr_left (fun z hz => by rw [(x.1 _ (hl z hz)).2])
theorem xAg.st {a1 a2 : xN} {h1 h2 : xH} (x : xAg a1 a2 h1 h2) {st : List xV} (hl : ∀ v ∈ st, xlv h1 v) : st.map (xc a2) = st.map (xc a1) :=
  List.map_congr_left (fun z hz => (x.1 _ (hl z hz)).2)
theorem xAg.ok {a1 a2 : xN} {h1 h2 : xH} (x : xAg a1 a2 h1 h2) {l : xL} {st : List xV} (hk : xok (xlv h1) l st) : xok (xlv h2) l st := ⟨fun z hz => (x.1 _ (hk.1 z hz)).1, fun v hv => (x.1 v (hk.2 v hv)).1⟩
/-- texts of exceptions, and which classes aren't kinds of which -/
abbrev xSL : Type := List (String × Nat × String) × List (String × String)
/-- what else a run reads: two statics, and the texts of exceptions -/
def xZ (s : State) (B : Nat) (SL : xSL) : Prop := vx_Zq Bundle.tN "UNASSIGNED_STACK" Bundle.steD (fun q => B ≤ q) s s.heap ∧ vx_Zq Bundle.tN "SUPPRESSED_SENTINEL" Bundle.listD (fun q => B ≤ q) s s.heap ∧ (∀ z ∈ SL.1, ∃ sa, vk_R z.1 z.2.1 z.2.2 sa s) ∧ (∀ z ∈ SL.2, va_Nc z.1 z.2 s) ∧ ∃ mi : Nat, va_Mi "[Ljava/lang/Object;" mi s
theorem xZ.mv {s U : State} {B : Nat} {SL : xSL} {H : Heap} {locs : List Loc} (h : xZ s B SL) (hS : va_S (fun q => B ≤ q) s.heap H locs) (hU : U.heap = H) (hW : s.WarmedH U.vm) : xZ U B SL := by
  obtain ⟨h1, h2, h3, h4, mi, h5⟩ := h
  have hk : ∀ a : Nat, a < s.heap.size → ¬ B ≤ a → H[a]? = s.heap[a]? := hS.2.1
  refine ⟨?_, ?_, fun z hz => ?_, fun z hz => (h4 z hz).moved hW.alike, mi, h5.moved hW.alike⟩
  · rw [hU]; exact (h1.kept hk).moved hW.alike
  · rw [hU]; exact (h2.kept hk).moved hW.alike
  · obtain ⟨sa, hsa⟩ := h3 z hz
    exact ⟨sa, hsa.warm hW⟩
theorem xE.mv {s U : State} {B : Nat} {ad ad2 : xN} {h h2 : xH} {H : Heap} {locs : List Loc} (hE : xE s B ad h) (hg : xAg ad ad2 h h2) (hS : va_S (fun q => B ≤ q) s.heap H locs) (hU : U.heap = H) (hW : s.WarmedH U.vm) : xE U B ad2 h2 := by
  obtain ⟨h1, h3⟩ := hE
  refine ⟨(hg.1 (.inr (0, 1)) h1).1, ?_⟩
  rw [hg.2 (0, 1) rfl, hU]
  exact (h3.kept hS.2.1).moved hW.alike
theorem xE.ag {s : State} {B : Nat} {ad ad2 : xN} {h h2 : xH} (hE : xE s B ad h) (hg : xAg ad ad2 h h2) : xE s B ad2 h2 := by
  obtain ⟨h1, h3⟩ := hE
  refine ⟨(hg.1 (.inr (0, 1)) h1).1, ?_⟩
  rw [hg.2 (0, 1) rfl]
  exact h3
def xRm (d mc ms : Nat) : Room := { frames := d + 1, cells := mc, slots := ms, locals := 40 * (d + 1) }
/-- a method's start: the arguments, and all that a frame must know -/
def xPc (cl : List vw_C) (SL : xSL) (D : va_G) (B : Nat) (ad : xN) (A : xA) (args : List xV) : Array Value → State → Prop := fun a U =>
  a = (args.map (xc ad)).toArray ∧ xRep U D cl B ad A.2.2.2 U.heap ∧ B ≤ U.heap.size ∧ va_K D cl [] U ∧ xE U B ad A.2.2.2 ∧ xZ U B SL
def xQc (cl : List vw_C) (D : va_G) (B : Nat) (ad : xN) (A A2 : xA) (res : xR) : Array Value → State → Outcome → State → Prop := fun _ st o t =>
  (∃ (v : Option xV) (ad2 : xN), res = .inl v ∧ o = .returned (v.map (xc ad2)) ∧ xAg ad ad2 A.2.2.2 A2.2.2.2 ∧ xRep t D cl B ad2 A2.2.2.2 t.heap ∧ ∀ x, v = some x → xlv A2.2.2.2 x) ∧ va_F (fun q => B ≤ q) st t
def xXc (cl : List vw_C) (D : va_G) (B : Nat) (ad : xN) (A A2 : xA) (res : xR) : String → State → State → Prop := fun E st t =>
  res = .inr E ∧ (∃ ad2 : xN, xAg ad ad2 A.2.2.2 A2.2.2.2 ∧ xRep t D cl B ad2 A2.2.2.2 t.heap) ∧ va_F (fun q => B ≤ q) st t
/-- what is known of a call of a method: it ends so -/
def xMet (l0 : Launch) (P : xPr) (cl : List vw_C) (TS : List Cond) (SL : xSL) (d mid : Nat) (args : List xV) (A : xA) (res : xR) (A2 : xA) : Prop :=
  (A.2.1 ≤ A2.2.1 ∧ A.2.2.1 ≤ A2.2.2.1) ∧ ∀ (D : va_G) (B : Nat) (ad : xN), (∀ v ∈ args, xlv A.2.2.2 v) →
    vx_Met l0 (P.2.1 mid).1 (xcw (P.2.1 mid) :: TS) (xRm d (A2.2.1 - A.2.1) (A2.2.2.1 - A.2.2.1)) (xPc cl SL D B ad A args) (xQc cl D B ad A A2 res) (xXc cl D B ad A A2 res) (A2.2.1 - A.2.1) (A2.2.2.1 - A.2.2.1) (fun q => B ≤ q)
theorem xPc.blind {cl : List vw_C} {SL : xSL} {D : va_G} {B : Nat} {ad : xN} {A : xA} {args : List xV} : FrameBlind (xPc cl SL D B ad A args) := by
  intro a U g mk h
  obtain ⟨h1, h2, h3, h4, ⟨h5, h6⟩, h7, h8, h9, h10, mi, h11⟩ := h
  have hv : U.vm.Alike (U.calling g mk a).vm := Vm.Alike.refl U.vm
  exact ⟨h1, h2.moved hv, h3, va_K.moved (u := U) hv h4, ⟨h5, h6.moved hv⟩, h7.moved hv, h8.moved hv, fun z hz => by
    obtain ⟨sa, hsa⟩ := h9 z hz
    exact ⟨sa, vk_R.same (u := U) rfl hsa⟩, fun z hz => (h10 z hz).moved hv, mi, h11.moved hv⟩
variable {p : Program} {l0 : Launch} {e : Env} {R : Room} {s : State} {m : MethodId} {args : Array Value} {below : List Frame} {meth : Method} {c : Code} {H : Heap} {locs : List Loc} {cells slots : Nat} {Q : State → Prop}
variable {cc : ByteArray} {pc : Nat} {ls : Array Slot} {ad : xN} {D : va_G} {cl : List vw_C} {TS : List Cond} {own nm : String} {B : Nat} {SL : xSL} {P : xPr}
/-- behind a call -/
theorem xgo {A A2 : xA} {res : xR} {a : Array Value} {st0 : List Value} {rest : List Value} {mc ms : Nat} (hr : vx_Run p l0 e R s m args below meth c H locs cells slots mc ms (F0 m pc ls st0) rest (xQc cl D B ad A A2 res a) (xXc cl D B ad A A2 res) (fun q => B ≤ q)) (hI : xI s D cl B ad A.2.2.2 H locs)
    (kk : ∀ (v : Option xV) (ad2 : xN) (H1 : Heap) (locs1 : List Loc), res = .inl v → xAg ad ad2 A.2.2.2 A2.2.2.2 → xI s D cl B ad2 A2.2.2.2 H1 locs1 → (∀ x, v = some x → xlv A2.2.2.2 x) → W p l0 e R s m args below meth c H1 locs1 (cells + mc) (slots + ms) Q (F0 m (pc + 3) ls ((v.map (xc ad2)).toList ++ rest)))
    (kx : ∀ (E : String) (ce : Cell) (q9 : Addr) (ad2 : xN) (H1 : Heap) (locs1 : List Loc), res = .inr E → xAg ad ad2 A.2.2.2 A2.2.2.2 → xI s D cl B ad2 A2.2.2.2 H1 locs1 → H1[q9]? = some ce → ce.vm = .none → s.vm.findClass E = some ce.cls → vx_W p l0 e R s m args below meth c H1 locs1 (cells + mc) (slots + ms) Q (F0 m pc ls rest) q9) :
    W p l0 e R s m args below meth c H locs cells slots Q (F0 m pc ls st0) := by
  intro T hT X
  have keep : ∀ (st₀ t T2 : State) (L : List Loc), st₀.heap = H → T2.heap = t.heap → (∀ q ∈ L, B ≤ q.base) → va_F (fun q => B ≤ q) st₀ t → va_S (fun q => B ≤ q) s.heap T2.heap (locs ++ L) := by
    intro st₀ t T2 L h0 e1 hL hF
    exact (vx_keep (A1 := fun q => B ≤ q) (free := fun q => B ≤ q) h0 e1 hI.2.1 (fun _ _ z => z) (fun _ z => z) hL hF).2.2
  rcases hr T hT X with ⟨v, st₀, t, T', L, h0, X', hL, e1, e2, ⟨⟨v1, ad2, hres, hv, hg, hrep, hlv⟩, hF⟩, st⟩ | ⟨q, st₀, t, T', L, E, ce, h0, X', hL, e1, e2, ⟨hres, ⟨ad2, hg, hrep⟩, hF⟩, hce, hcv, hcl, st⟩
  · cases hv
    have hal : s.vm.Alike t.vm := by rw [← e2]; exact X'.warmed.alike
    obtain ⟨t2, a1, b1⟩ := kk v1 ad2 T'.heap (locs ++ L) hres hg ⟨by rw [e1]; exact hrep.moved hal.symm, keep st₀ t T' L h0 e1 hL hF, hI.2.2⟩ hlv T' rfl X'
    exact ⟨t2, st t2 a1, b1⟩
  · have hal : s.vm.Alike t.vm := by rw [← e2]; exact X'.warmed.alike
    obtain ⟨t2, a1, b1⟩ := kx E ce q ad2 T'.heap (locs ++ L) hres hg ⟨by rw [e1]; exact hrep.moved hal.symm, keep st₀ t T' L h0 e1 hL hF, hI.2.2⟩ (by rw [e1]; exact hce) hcv hcl T' rfl X'
    exact ⟨t2, st.trans a1, b1⟩
/-- a callee's start, out of the caller's frame -/
theorem xpre {A : xA} {as : List xV} (X : xCx p s m args meth c D cl TS own nm cc) (hI : xI s D cl B ad A.2.2.2 H locs) (hE : xE s B ad A.2.2.2) (hZ : xZ s B SL) {U : State} (hU : U.heap = H) (hW : s.WarmedH U.vm) : xPc cl SL D B ad A as (as.map (xc ad)).toArray U :=
  ⟨rfl, by rw [hU]; exact hI.1.moved hW.alike, by rw [hU]; exact Nat.le_trans hI.2.2 hI.2.1.1, va_K.moved hW.alike X.2.2.2.2.2.1, hE.mv xAg.rf hI.2.1 hU hW, hZ.mv hI.2.1 hU hW⟩
/-- what the tables must say of a method that is called -/
def xMF (P : xPr) (TS : List Cond) (mid n : Nat) : Prop := plainName (P.2.1 mid).1.cls = true ∧ ((P.2.1 mid).1.cls ≠ "java/lang/invoke/MethodHandle" ∧ (P.2.1 mid).1.cls ≠ "java/lang/invoke/VarHandle") ∧ (parseMethodDescriptor (P.2.1 mid).1.desc).map (fun d => d.parameters.length) = some n ∧ (P.2.1 mid).2.2.1 ≤ 21 ∧ xcw (P.2.1 mid) ∈ TS ∧ Cond.initialized (P.2.1 mid).1.cls ∈ TS
/-- .. of a virtual call -/
def xsV (P : xPr) (TS : List Cond) (cl : List vw_C) (own : String) (idx n ci mid : Nat) : Prop := xMF P TS mid n ∧ (P.2.1 mid).2.2.2.2 = [] ∧ Cond.instanceMethod (P.2.1 mid).1 ∈ TS ∧ ∃ r : vw_C, cl[ci]? = some r ∧
  ((Cond.methodLink own idx (P.2.1 mid).1 ∈ TS ∧ Cond.selects r.1 (P.2.1 mid).1 (P.2.1 mid).1 ∈ TS) ∨ (∃ host, Cond.methodLinkNest own idx (P.2.1 mid).1 host ∈ TS ∧ Cond.selects r.1 (P.2.1 mid).1 (P.2.1 mid).1 ∈ TS) ∨
    ∃ (x : MethodName) (owner : String), Cond.methodLink own idx x ∈ TS ∧ Cond.sameMethod x.cls owner x.name x.desc ∈ TS ∧ Cond.selects r.1 x (P.2.1 mid).1 ∈ TS ∧ ((P.2.1 mid).1 = ⟨owner, x.name, x.desc⟩ ∨ Cond.declares ⟨owner, x.name, x.desc⟩ ∈ TS) ∧ (owner ≠ "java/lang/invoke/MethodHandle" ∧ owner ≠ "java/lang/invoke/VarHandle") ∧ (parseMethodDescriptor x.desc).map (fun d => d.parameters.length) = some n)
/-- .. of a constructor's call -/
def xsI (P : xPr) (TS : List Cond) (own : String) (idx n mid : Nat) : Prop := xMF P TS mid n ∧ (P.2.1 mid).2.2.2.2 = [] ∧ (P.2.1 mid).2.2.2.1 = none ∧ (P.2.1 mid).1.name = "<init>" ∧ Cond.instanceMethod (P.2.1 mid).1 ∈ TS ∧ (Cond.methodLink own idx (P.2.1 mid).1 ∈ TS ∨ ∃ host, Cond.methodLinkNest own idx (P.2.1 mid).1 host ∈ TS)
/-- .. of a static call -/
def xsS (P : xPr) (TS : List Cond) (own : String) (idx n mid : Nat) : Prop := xMF P TS mid n ∧ Cond.static (P.2.1 mid).1 ∈ TS ∧ (Cond.methodLink own idx (P.2.1 mid).1 ∈ TS ∨ (P.2.1 mid).2.2.2.2 = [] ∧ ∃ host, Cond.methodLinkNest own idx (P.2.1 mid).1 host ∈ TS)
def xTc (P : xPr) (TS : List Cond) (cl : List vw_C) (own : String) (i : Instr) (ops : List Nat) : Prop := match i with
  | .invokevirtual idx => match ops with
    | n :: tb => ∀ ci mid, xpick ci tb = some mid → xsV P TS cl own idx n ci mid
    | _ => True
  | .invokespecial idx => match ops with
    | [n, mid] => xsI P TS own idx n mid
    | [] => Cond.methodLink own idx Lib.objectInit ∈ TS ∧ Cond.instanceMethod Lib.objectInit ∈ TS ∧ Cond.code Lib.objectInit ⟨#[0xb1]⟩ 1 none ∈ TS
    | _ => True
  | .invokestatic idx => match ops with
    | [n, mid] => xsS P TS own idx n mid
    | [81] => Cond.methodLink own idx Lib.Math.max.name ∈ TS ∧ Cond.static Lib.Math.max.name ∈ TS ∧ Cond.initialized "java/lang/Math" ∈ TS ∧ Cond.code Lib.Math.max.name Lib.Math.max.code 2 (some .int) ∈ TS
    | [82] => Cond.methodLink own idx Lib.Math.min.name ∈ TS ∧ Cond.static Lib.Math.min.name ∈ TS ∧ Cond.initialized "java/lang/Math" ∈ TS ∧ Cond.code Lib.Math.min.name Lib.Math.min.code 2 (some .int) ∈ TS
    | [83] => Cond.methodLink own idx Lib.Math.abs.name ∈ TS ∧ Cond.static Lib.Math.abs.name ∈ TS ∧ Cond.initialized "java/lang/Math" ∈ TS ∧ Cond.code Lib.Math.abs.name Lib.Math.abs.code 1 (some .int) ∈ TS
    | 90 :: _ :: _ :: cis => Cond.methodLink own idx arraycopyName ∈ TS ∧ Cond.native arraycopyName ∈ TS ∧ Cond.static arraycopyName ∈ TS ∧ Cond.initialized "java/lang/System" ∈ TS ∧ ∀ ci ∈ cis, ∀ r : vw_C, cl[ci]? = some r → Cond.castable r.1 "java/lang/Object" ∈ TS
    | _ => True
  | _ => True
theorem xkeep (hk : ∀ w ∈ TS, xkp w = true) (hts : ∀ w ∈ TS, w.before args s = true) {w0 : Cond} (h0 : w0 ∈ TS) : ∀ w ∈ w0 :: TS, ∀ (a2 : Array Value) (U : State), s.WarmedH U.vm → w.before a2 U = true := by
  intro w hw a2 U hW
  have hm : w ∈ TS := by
    rcases List.mem_cons.mp hw with rfl | h
    · exact h0
    · exact h
  exact xkp_ok (hk w hm) hW (hts w hm)
theorem xlenn {y : MethodName} {n : Nat} (h : (parseMethodDescriptor y.desc).map (fun d => d.parameters.length) = some n) : ∀ sig, parseMethodDescriptor y.desc = some sig → n = sig.parameters.length := by
  intro sig hs
  rw [hs] at h
  exact (Option.some.inj h).symm
end XSIM
