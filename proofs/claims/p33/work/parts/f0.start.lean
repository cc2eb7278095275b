set_option maxRecDepth 100000
section YSTART

/-- who returns the number 1 -/
theorem yret_one {rt : Option FieldType} {i : Instr} {st : List xV} (h : xret rt i st = some (some (.inl (.int 1)))) : i = .ireturn ∧ st = [.inl (.int 1)] := by
  unfold xret at h
  split at h
  next =>
    split at h
    next x =>
      split at h
      next => cases h; exact ⟨rfl, rfl⟩
      next =>
        split at h
        next => cases h; exact ⟨rfl, rfl⟩
        next => cases h
      next => cases h
    next => cases h
  all_goals (repeat' split at h)
  all_goals (cases h)
/-- the texts of the exceptions, among the words and among what the start gives -/
theorem ytx_ok : ∀ z ∈ xSLv.1, Cond.stringRef z.1 z.2.1 z.2.2 ∈ lw_tbl ∧ Cond.exactly (.string z.1 z.2.1) "java/lang/String" ∈ flatC (Jvm.Cond.and given_1 narrow_1) := by decide +kernel
theorem ync_ok : ∀ z ∈ xSLv.2, Cond.not (.castable z.1 z.2) ∈ flatC (Jvm.Cond.and given_1 narrow_1) := by decide +kernel
theorem ya_obj : Cond.arrayOver (.object "java/lang/Object") ∈ xTS := List.mem_filter.mpr ⟨by decide +kernel, by decide +kernel⟩
theorem xin_all : ∀ r ∈ xcl, Cond.instantiable r.1 r.2.2 ∈ xTS := by
  have h : ∀ r ∈ xcl, Cond.instantiable r.1 r.2.2 ∈ lw_tbl ∧ xkp (Cond.instantiable r.1 r.2.2) = true := by decide +kernel
  exact fun r hr => List.mem_filter.mpr (h r hr)
/-! THE CLAIM OUT OF ONE WALK OF THE LAW'S BODY. Your part is whole_start (and what it stands on); all else here is the same for every law, but numbers. -/
def R_law : String := "ViewFoundryLaw"
def lw_P (b : Addr) (xs : List Int32) (args : Array Value) (s : State) : Prop := args = #[.ref b] ∧ s.IntsAt b xs ∧ xs.length ≤ 260 ∧ (Jvm.Cond.and given_1 narrow_1).before args s = true
/-- what a walk over the start with the record d0 says of its end, said of the start itself -/
theorem lw_closed {s t : State} {o : Outcome} {d0 : Drawn} {L : List Loc} {k n : Nat} (hd0 : s.drawn.sameBut d0 lw_cs) (hv : ∃ v, o = .returned v) (hW : (s.setDrawn d0).WarmedH t.vm) (hs : (s.setDrawn d0).sameButNew ({ t with vm := s.vm } : State) L k n) : State.butDraws s t lw_cs (fun t1 => Framed s o t1 L k n) := by
  have h2 : t.drawn = d0 := congrArg State.drawn hs.1
  refine ⟨⟨hv, hW, State.sameButNew.setDrawn hs s.drawn⟩, ?_, by decide⟩
  rw [h2]
  exact hd0
def lw_Q (_ : Array Value) (s : State) (o : Outcome) (t : State) : Prop := o = .returned (some (.int 1)) ∧ State.butDraws s t lw_cs (fun t1 => Framed s o t1 [] 600074 7301550)
def lw_Z (below : List Frame) (a : Array Value) (s : State) : State → Prop := fun t => ∃ o, t.status = .running ∧ Ended t below o ∧ lw_Q a s o t
/-- the law's own end, with 1 on the stack, nothing written that was there before, its room as the claim has it; d0: the record of draws at this point (at the entry s.drawn: begin with 'refine W.base ?_' and 'have hd0 := Drawn.sameBut.refl s.drawn lw_cs') -/
theorem lw_ret {p : Program} {l : Launch} {e : Env} {s : State} {m : MethodId} {below : List Frame} {meth : Method} {c : Code} {b : Nat} {d0 : Drawn} (hd0 : s.drawn.sameBut d0 lw_cs) (hx : p.tables.exec = Jvm.exec) (hb : c.code = code) (hr : meth.sig.returnType = ret) (hlocks : meth.locks = false) {pc : Nat} {H : Heap} {ls : Array Slot} (hdg : decode code pc = .ok (.ireturn, 1)) : W p l e room_1 (s.setDrawn d0) m #[Value.ref b] below meth c H [] 600074 7301550 (lw_Z below #[Value.ref b] s) (F0 m pc ls [.int 1]) := by
  intro T hT X
  obtain ⟨fs, hret, hrun, hended, hW, hframe⟩ := X.leave (v := some (.int 1)) (hlocks := hlocks) (fun h => by rw [hr] at h; cases h)
  have hmeth' : T.vm.method? m = some meth := X.method'
  refine ⟨T.setFrames fs, ?_, .returned (some (.int 1)), hrun, hended, rfl, lw_closed hd0 ⟨_, rfl⟩ hW hframe⟩
  jvm_step X.here [X.here.top, hx, hb, hdg, hmeth', hr, ret, narrow_b1]
  (try refine ⟨rfl, ?_⟩); (try refine ⟨rfl, ?_⟩)
  first | (intro acts; rw [hret _ acts rfl rfl rfl]) | rw [hret _ _ rfl rfl rfl]
  exact Steps.refl _
/-- what holds at the law's entry: the machine, the code, the tables' words (any of lw_tbl by 'hts w (by decide +kernel)'), the script of L ints xs at the cell b, what the Statement gives of the start (any of its parts by flat_of_before) -/
def lw_At (p : Program) (s : State) (m : MethodId) (meth : Method) (c : Code) (b L : Nat) (xs : Nat → Int32) : Prop :=
  p.tables.exec = Jvm.exec ∧ c.code = code ∧ meth.sig.returnType = ret ∧ c.maxLocals = 15 ∧ s.vm.findClass R_law = some m.cls ∧ (∀ w ∈ lw_tbl, w.before #[Value.ref b] s = true) ∧ va_X b L xs s s.heap ∧ b < s.heap.size ∧ meth.locks = false ∧ (Jvm.Cond.and given_1 narrow_1).before #[Value.ref b] s = true ∧ meth.name = "law" ∧ c.exceptionTable.toList = []
/-- the objects at the law's entry as the small machine has them -/
def zh0 (f : Nat → Int32) (L : Nat) : xH := fun q => if q = (0, 0) then some (.inr (9, L, zI f)) else if q = (0, 1) then some (.inr (4, 0, fun _ => .inl .null)) else none
/-- an array with no elements -/
theorem ylen0 {args : Array Value} {first s : State} {o : Option Outcome} {idx : List Nat} {t : Term} {a : Addr} (ht : t.eval args first o idx s = some (.ref a)) (h : (Term.length t).eval args first o idx s = some (.int 0)) : ∃ cell, s.arrayAt? a = some cell ∧ cell.slots.size = 0 := by
  simp only [Term.eval, Option.bind_eq_bind, ht] at h
  simp at h
  obtain ⟨cell, hcell, h⟩ := Option.bind_eq_some_iff.mp h
  by_cases hn : cell.slots.size < 2147483648
  · rw [if_pos hn] at h
    have h2 : cell.slots.size.toInt32 = 0 := by
      have h3 := Option.some.inj h
      injection h3
    refine ⟨cell, hcell, ?_⟩
    have h4 : (Int32.ofNat cell.slots.size).toInt = (0 : Int32).toInt := congrArg Int32.toInt h2
    rw [Int32.toInt_ofNat_of_lt (by omega)] at h4
    have h5 : (0 : Int32).toInt = 0 := by decide
    omega
  · rw [if_neg hn] at h
    cases h
set_option maxHeartbeats 4000000 in
/-- from the entry, for every script of at most 260 ints, the law comes to its end with true -/
theorem whole_start {p : Program} {e : Env} {s : State} {m : MethodId} {below : List Frame} {meth : Method} {c : Code} (l : Launch) (hflags : l.flags = flags0) {b L : Nat} {xs : Nat → Int32} (hL : L ≤ 260) (C0 : lw_At p s m meth c b L xs) : W p l e room_1 s m #[Value.ref b] below meth c s.heap [] 0 0 (lw_Z below #[Value.ref b] s) (entryFrame m ([Value.ref b] : List Value).toArray 15) := by
  obtain ⟨hx, hb, hr, hml, hown, hts, hX, hbl, hlocks, hgv, hnm, htab⟩ := id C0
  have hflag : l.stackTraces = false := by
    unfold Launch.stackTraces
    rw [hflags]
    decide +kernel
  have hfl := flat_of_before _ hgv
  have htsx : ∀ w ∈ xTS, w.before #[Value.ref b] s = true := fun w hw => hts w (List.mem_filter.mp hw).1
  -- the classes
  have hkn : ∀ k : Nat, ∃ q : ClassId × (Nat → Nat), ∀ r, xcl[k]? = some r → u_Kn s r.1 r.2.1 r.2.2 q.1 q.2 := by
    intro k
    cases hk : xcl[k]? with
    | none => exact ⟨(0, fun _ => 0), fun r h => by cases h⟩
    | some r =>
      obtain ⟨c1, i1, h1⟩ := u_known (C := r.1) (T := r.2.1) (N := r.2.2) (n := r.2.2) htsx (xGv.2.1 k r hk).1 (htsx _ (xin_all r (List.mem_of_getElem? hk)))
      exact ⟨(c1, i1), fun r2 h => by cases h; exact h1⟩
  obtain ⟨D, hD⟩ : ∃ D : va_G, ∀ k r, xcl[k]? = some r → u_Kn s r.1 r.2.1 r.2.2 (D.1 k) (D.2 k) := ⟨(fun k => (Classical.choose (hkn k)).1, fun k => (Classical.choose (hkn k)).2), fun k r hr => Classical.choose_spec (hkn k) r hr⟩
  have hK : va_K D xcl [] s := ⟨hD, fun k q h => by simp at h⟩
  -- the list's own empty array
  have hA : ∀ a : Nat, a < s.heap.size → ¬ (fun q : Nat => s.heap.size ≤ q) a := fun a h => Nat.not_le.mpr h
  have hex := hfl (Cond.exactly (.static "java/util/ArrayList" "DEFAULTCAPACITY_EMPTY_ELEMENTDATA" "[Ljava/lang/Object;") "[Ljava/lang/Object;") (by decide +kernel)
  obtain ⟨a1, c1, cell1, k1, he1, hfc1, hcell1, hk1, hst1, hcls1, -⟩ := Cond.exactly_spec hex
  have har := hfl (Cond.arrayOf (.static "java/util/ArrayList" "DEFAULTCAPACITY_EMPTY_ELEMENTDATA" "[Ljava/lang/Object;") (.object "java/lang/Object")) (by decide +kernel)
  obtain ⟨hia, hunk⟩ := Cond.arrayOf_spec har he1 hcell1
  have hle := hfl (Cond.eq (.length (.static "java/util/ArrayList" "DEFAULTCAPACITY_EMPTY_ELEMENTDATA" "[Ljava/lang/Object;")) (.int 0)) (by decide +kernel)
  obtain ⟨y0, hy1, hy2⟩ := Cond.eq_one hle
  have hy2 : y0 = .int 0 := (Option.some.inj hy2).symm
  subst hy2
  obtain ⟨cell2, hc2, hsz2⟩ := ylen0 he1 hy1
  obtain ⟨hc2, -, -, -⟩ := State.arrayAt?_spec hc2
  cases Option.some.inj (hcell1.symm.trans hc2)
  obtain ⟨comp, cA, kA, ho1, ho2, ho3, ho4, ho5⟩ := Cond.arrayOver_spec (htsx (Cond.arrayOver (.object "java/lang/Object")) ya_obj)
  have hRA : va_RA s cell1.cls (xak 4) := by
    have ho5 : s.vm.findClass "[Ljava/lang/Object;" = some cA := ho5
    have hcA : c1 = cA := Option.some.inj (hfc1.symm.trans ho5)
    rw [hcls1, hcA]
    exact ⟨kA, comp, ho3, ho4, ho1, ho5⟩
  obtain ⟨scr, hs1, hs2, hs3, hs4, hs5⟩ := hX
  -- the run
  obtain ⟨us, n, r0, c9, s9, h9, hrun0, hr0, hb1, hb2⟩ : zX 13 174 0 [(0, .inr (0, 0))] [] 0 0 (zh0 xs L) (fun r c1 s1 _ => r = .inl (some (zi 1)) ∧ c1 ≤ 600074 ∧ s1 ≤ 7301550) := s_law (d := 1) (n := L) (f := xs) (by omega) zGd_i zIW_0 rfl rfl (fun a b hab => by
    unfold zh0
    rw [if_neg (fun z => by cases z; omega), if_neg (fun z => by cases z; omega)]) (fun c1 s1 h1 hc hs => ⟨rfl, by omega, by omega⟩)
  subst hr0
  have hrun := hrun0 []
  rw [List.append_nil] at hrun
  have hsim := xrun_ok xGv hflag (ct := zct) (zct_met hflag) n 13 174 0 _ _ _ _ _ hrun
  -- the frame at the entry
  have hl := lv_entry ([.ref b]) (n := 15) (Nat.le_of_ble_eq_true rfl)
  rw [lg_entry_eq]
  generalize (lg_sl ([.ref b]) ++ List.replicate (15 - (lg_sl ([.ref b])).length) Slot.unset).toArray = ls at hl ⊢
  have hl : lv_has ls 15 [(0, .ref b)] := hl
  refine W.base ?_
  have hd0 := Drawn.sameBut.refl s.drawn lw_cs
  let ad : xN := fun q => if q = (0, 0) then b else if q = (0, 1) then a1 else 0
  have ad0 : ad (0, 0) = b := if_pos rfl
  have ad1 : ad (0, 1) = a1 := (if_neg (fun z => Nat.noConfusion (congrArg Prod.snd z))).trans (if_pos rfl)
  have hdom : ∀ q, zh0 xs L q ≠ none → q = (0, 0) ∨ q = (0, 1) := by
    intro q hq
    unfold zh0 at hq
    by_cases h0 : q = (0, 0)
    · exact Or.inl h0
    · rw [if_neg h0] at hq
      by_cases h1 : q = (0, 1)
      · exact Or.inr h1
      · rw [if_neg h1] at hq
        exact absurd rfl hq
  have hne : b ≠ a1 := by
    intro hba
    rw [hba, hcell1] at hs1
    cases hs1
    obtain ⟨-, ka, hka, compa, hkinda⟩ := hia
    obtain ⟨-, kb, hkb, compb, hkindb⟩ := hs2
    cases Option.some.inj (hka.symm.trans hkb)
    rw [hkinda] at hkindb
    cases hkindb
  have hlt1 : a1 < s.heap.size := (Array.getElem?_eq_some_iff.mp hcell1).1
  have hrep : xRep (s.setDrawn s.drawn) D xcl s.heap.size ad (zh0 xs L) s.heap := by
    refine ⟨fun q o hq => ?_, fun q z hq hz haz => ?_, fun q hq h0 => ?_, fun q o hq => ?_⟩
    · rcases hdom q (by rw [hq]; exact Option.some_ne_none _) with rfl | rfl
      · have ho : o = (.inr (9, L, zI xs)) := (Option.some.inj ((if_pos rfl : zh0 xs L (0, 0) = _).symm.trans hq)).symm
        subst ho
        rw [ad0]
        refine ⟨scr, hs1, hs2, Or.inl rfl, hs3, hs4, fun j hj => ?_⟩
        exact hs5 j hj
      · have ho : o = (.inr (4, 0, fun _ => .inl .null)) := (Option.some.inj (((if_neg (fun z => Nat.noConfusion (congrArg Prod.snd z))).trans (if_pos rfl) : zh0 xs L (0, 1) = _).symm.trans hq)).symm
        subst ho
        rw [ad1]
        exact ⟨cell1, hcell1, hia, Or.inr hRA, hunk, hsz2, fun j hj => absurd hj (Nat.not_lt_zero j)⟩
    · rcases hdom q hq with rfl | rfl <;> rcases hdom z hz with rfl | rfl
      · rfl
      · rw [ad0, ad1] at haz
        exact absurd haz hne
      · rw [ad0, ad1] at haz
        exact absurd haz.symm hne
      · rfl
    · rcases hdom q hq with rfl | rfl
      · exact absurd rfl h0
      · exact absurd rfl h0
    · rcases hdom q (by rw [hq]; exact Option.some_ne_none _) with rfl | rfl
      · have ho : o = (.inr (9, L, zI xs)) := (Option.some.inj ((if_pos rfl : zh0 xs L (0, 0) = _).symm.trans hq)).symm
        subst ho
        intro j
        trivial
      · have ho : o = (.inr (4, 0, fun _ => .inl .null)) := (Option.some.inj (((if_neg (fun z => Nat.noConfusion (congrArg Prod.snd z))).trans (if_pos rfl) : zh0 xs L (0, 1) = _).symm.trans hq)).symm
        subst ho
        intro j
        trivial
  have hdomA : zh0 xs L (0, 1) ≠ none := by
    rw [show zh0 xs L (0, 1) = _ from (if_neg (fun z => Nat.noConfusion (congrArg Prod.snd z))).trans (if_pos rfl)]
    exact Option.some_ne_none _
  have hdom0 : zh0 xs L (0, 0) ≠ none := by
    rw [show zh0 xs L (0, 0) = _ from if_pos rfl]
    exact Option.some_ne_none _
  have hE : xE (s.setDrawn s.drawn) s.heap.size ad (((us, 0, 0, zh0 xs L) : xA)).2.2.2 := by
    refine ⟨hdomA, ?_⟩
    rw [ad1]
    exact va_Zof (hts (.laysStatic "java/util/ArrayList" "DEFAULTCAPACITY_EMPTY_ELEMENTDATA" "[Ljava/lang/Object;") (by decide +kernel)) (hts (.initialized "java/util/ArrayList") (by decide +kernel)) he1 hA
  have hZ : xZ (s.setDrawn s.drawn) s.heap.size xSLv := by
    refine ⟨vx_Zqof (hts (.laysStatic Bundle.tN "UNASSIGNED_STACK" Bundle.steD) (by decide +kernel)) (hts (.initialized Bundle.tN) (by decide +kernel)) (hfl (.isRef (.static Bundle.tN "UNASSIGNED_STACK" Bundle.steD)) (by decide +kernel)) hA,
      vx_Zqof (hts (.laysStatic Bundle.tN "SUPPRESSED_SENTINEL" Bundle.listD) (by decide +kernel)) (hts (.initialized Bundle.tN) (by decide +kernel)) (hfl (.isRef (.static Bundle.tN "SUPPRESSED_SENTINEL" Bundle.listD)) (by decide +kernel)) hA, fun z hz => ?_, fun z hz => ?_, va_Mi.of (hfl (.isRef (.mirror "[Ljava/lang/Object;")) (by decide +kernel))⟩
    · obtain ⟨w1, w2⟩ := ytx_ok z hz
      obtain ⟨sa, -, -, -, hsa, -⟩ := Cond.exactly_spec (hfl _ w2)
      exact ⟨sa, vk_R.of (hts _ w1) hsa⟩
    · exact va_Nc.of (hfl _ (ync_ok z hz))
  have hXc : xCx p (s.setDrawn s.drawn) m #[Value.ref b] meth c D xcl xTS (xPP.2.1 174).1.cls (xPP.2.1 174).1.name (xPP.2.1 174).2.1 := ⟨hx, hb, hown, dr_words htsx _, hnm, hK, xGv.2.1⟩
  refine hsim.2 p e room_1 (s.setDrawn s.drawn) m #[Value.ref b] below meth c s.heap [] 0 0 (lw_Z below #[Value.ref b] s) ls ad D s.heap.size hXc hml htab ?_ ⟨fun q hq => ?_, fun v hv => by cases hv⟩ ⟨hrep, va_S.rf, Nat.le_refl _⟩ hE hZ ⟨by decide, by decide⟩ ⟨?_, ?_⟩ ⟨?_, ?_, ?_⟩
  · show lv_has ls 15 [(0, Value.ref (ad (0, 0)))]
    rw [ad0]
    exact hl
  · cases List.mem_singleton.mp hq
    exact hdom0
  · exact Nat.le_trans (Nat.le_of_eq (Nat.zero_add _)) (Nat.le_trans hb1 (Nat.le_add_right _ _))
  · exact Nat.le_trans (Nat.le_of_eq (Nat.zero_add _)) (Nat.le_trans hb2 (Nat.le_add_right _ _))
  · intro pc2 i ops v ad2 H2 locs2 ls2 l2 st2 cells2 slots2 hP hv hres hgg hI hl2 hk2 hbd
    cases hres
    obtain ⟨⟨n1, hd, hn⟩, -⟩ := xGv.2.2.1 174 pc2 i ops hP
    obtain ⟨rfl, rfl⟩ := yret_one hv
    cases hn
    refine va_forget hI.2.1.2.2 (W.widen hbd.1 hbd.2 ?_)
    exact lw_ret hd0 hx hb hr hlocks hd
  · intro pc2 E ad2 H2 locs2 ls2 l2 st2 cells2 slots2 hP hres
    cases hres
  · intro pc2 E ce q9 ad2 H2 locs2 ls2 rest cells2 slots2 hres
    cases hres
set_option maxHeartbeats 4000000 in
theorem lw_walk (l : Launch) (hflags : l.flags = flags0) (b : Addr) (xs : List Int32) : MetFree l x (headSpec (Jvm.Cond.code x code maxLocals ret :: tables_1) room_1) (lw_P b xs) (fun _ _ _ _ _ => True) lw_Q := by
  refine MetFree.of_bodyS (code := code) (maxLocals := maxLocals) (ret := ret) (by decide) ?_ ?_
  · intro args s m h hn
    obtain ⟨meth, c, h1, h2, h3, h4, h5, h6, -, -⟩ := Cond.code_spec hn (atoms_spec (ws := Jvm.Cond.code x code maxLocals ret :: tables_1) h _ List.mem_cons_self)
    exact ⟨meth, c, h1, h2, h3, h4, h5, h6⟩
  · intro p e s m args below meth c s₁ B hml0 hP _
    obtain ⟨rfl, hx, hbd, hgv⟩ := hP
    obtain ⟨scr, harrAt, hlist, hof, hsmall⟩ := hx
    obtain ⟨hcb, hkn, -, -⟩ := State.arrayAt?_spec harrAt
    have hown : s.vm.findClass R_law = some m.cls := findClass_of_methodNamed B.named
    have hts0 : ∀ c ∈ (Jvm.Cond.code x code maxLocals ret :: tables_1), c.before #[Value.ref b] s = true := atoms_spec (ws := Jvm.Cond.code x code maxLocals ret :: tables_1) B.pre
    have hts : ∀ w ∈ lw_tbl, w.before #[Value.ref b] s = true := k2_hts_sels lw_privs (fun w hw => hts0 w (List.mem_cons_of_mem _ hw)) lw_privs_ok
    have htab : c.exceptionTable.toList = [] := by
      obtain ⟨meth9, c9, h1, h2, -, -, -, -, h7, -⟩ := Cond.code_spec B.named (hts0 _ List.mem_cons_self)
      cases Option.some.inj (h1.symm.trans B.method)
      cases Option.some.inj (h2.symm.trans (Stand.of_body B).code)
      rw [Array.isEmpty_iff.mp h7]
    have hml : c.maxLocals = 15 := B.maxLocals_eq (hts0 _ List.mem_cons_self)
    have X₀ : Stand p l e room_1 s m #[Value.ref b] below meth c s₁ [] 0 0 := Stand.of_body B
    have hh0 : s₁.heap = s.heap := by rw [B.state]; rfl
    have hsz : scr.slots.size = xs.length := by rw [← Array.length_toList, hlist, List.length_map]
    have hval : ∀ j : Nat, j < xs.length → scr.slots[j]? = some (.int (xs.getD j 0)) := fun j hj => by
      rw [← Array.getElem?_toList, hlist]
      simp [hj]
    have hbl : b < s.heap.size := (Array.getElem?_eq_some_iff.mp hcb).1
    have hX : va_X b xs.length (fun j => xs.getD j 0) s s.heap := ⟨scr, hcb, hof, hkn, hsz, hval⟩
    have K : W p l e room_1 s m #[Value.ref b] below meth c s₁.heap [] 0 0 (lw_Z below #[Value.ref b] s) (entryFrame m ([Value.ref b] : List Value).toArray 15) := by
      rw [hh0]
      exact whole_start l hflags hbd ⟨B.exec, B.bytes, B.returns, hml, hown, hts, hX, hbl, B.notSynchronized, hgv, (name_of_methodNamed B.named B.method).1, htab⟩
    obtain ⟨t, a1, o, b1, b2, b3⟩ := K s₁ rfl X₀
    exact ⟨t, o, a1, b1, b2, b3⟩
theorem lw_pre_spec {args : Array Value} {s : State} (h : (Jvm.Cond.and given_1 narrow_1).before args s = true) (hr : rest_1_c.before args s = true) : ∃ (b : Addr) (xs : List Int32), lw_P b xs args s := by
  have hs := flat_of_before _ h
  have hq := flat_of_before _ hr
  have hc : (Cond.count 1).before args s = true := hs _ (by decide +kernel)
  have harr : (Cond.arrayOf (.arg 0) .int).before args s = true := hs _ (by decide +kernel)
  have hle : (Cond.le (.length (.arg 0)) (.int 260)).before args s = true := hs _ (by decide +kernel)
  have hlen : (Cond.isInt (.length (.arg 0))).before args s = true := hq _ (by decide +kernel)
  have hall : (Cond.all (.arg 0) (.isInt (.elem (.arg 0) (.index 0)))).before args s = true := hq _ (by decide +kernel)
  obtain ⟨b, xs, hb, hx⟩ := State.ints_of_pre rfl harr hlen hall
  have hsm : xs.length < 2 ^ 31 := hx.choose_spec.2.2.2
  have hev : (Term.length (.arg 0)).eval args s none [] s = some (.int xs.length.toInt32) := hx.length_eval hb
  have hv := Cond.le_ints hev (show (Term.int 260).eval args s none [] s = some (.int 260) from rfl)
  have hd : xs.length.toInt32 ≤ 260 := by
    simpa [Cond.before, Cond.holds, hv] using hle
  have hN : xs.length ≤ 260 := (Int32.ofNat_le_ofNat hsm (by decide)).mp (show Int32.ofNat xs.length ≤ Int32.ofNat 260 from hd)
  exact ⟨b, xs, Cond.one_arg hc (show args[0]? = some (.ref b) from hb), hx, hN, h⟩
theorem lw_comes (l : Launch) (hflags : l.flags = flags0) : Comes l x (Jvm.Cond.code x code maxLocals ret :: tables_1) room_1 (fun tb e args s => Calls_1 tb e args s ∧ rest_1 tb e args s ∧ Pre_1 tb e args s)
    (fun _ _ args s o t => lw_Q args s o t) := by
  intro p e ha hc hk s m args below hf hfit hheap happ hpre
  obtain ⟨b, xs, hP⟩ := lw_pre_spec hpre.2.2 hpre.2.1
  obtain ⟨k, o, h1, h2, h3, hQ⟩ := lw_walk l hflags b xs p e ha hc hk s m args below hf ((Spec.applies_iff_loose hf).mp happ).1 hP trivial
  exact ⟨k, o, h1, h2, h3, hQ⟩
theorem lw_frame {s t : State} {o : Outcome} {args : Array Value} (h : State.butDraws s t lw_cs (fun t1 => Framed s o t1 [] 600074 7301550)) :
    State.butDraws s t [Jvm.Choice.named "NaN.bits"] (fun t1 => Framed s o t1 (fieldLocs frame_1_writes args s ++ arrayLocs frame_1_arrays args s ++ staticLocs frame_1_statics s) 600074 7301550) := h
theorem lw_limb (L : Cond) (hL : ∀ (args : Array Value) (s t : State), L.after args s (.returned (some (.int 1))) t = true) :
    ArmFor flags0 classFile x code maxLocals ret World_1 tables_1 room_1 Calls_1 rest_1 Pre_1
      (fun tb e a s o t => postC L tb e a s o t ∧ State.butDraws s t [Jvm.Choice.named "NaN.bits"] (fun t1 => Framed s o t1 (fieldLocs frame_1_writes a s ++ arrayLocs frame_1_arrays a s ++ staticLocs frame_1_statics s) 600074 7301550)) := by
  intro l hflags _ _ p e ha hc hk s m args below hf hfit hheap happ hpre
  obtain ⟨k, o, h1, h2, h3, rfl, hF⟩ := lw_comes l hflags p e ha hc hk s m args below hf hfit hheap happ hpre
  exact ⟨k, _, h1, h2, h3, hL args s _, lw_frame hF⟩
theorem i_vc : Claimed_1_1 ∧ Claimed_1_2 := ⟨lw_limb limb_1_1 (fun args s t => by simp [limb_1_1, Cond.after, Cond.holds, Cond.value]), lw_limb limb_1_2 (fun args s t => Cond.after_iff.mpr (by
  first | (rw [show limb_1_2 = Cond.eq .result (.int 1) from rfl, Cond.eq_ints (x := 1) (y := 1) rfl rfl]; simp; done) | (simp [limb_1_2, Cond.value, Term.eval]; done)))⟩

end YSTART
