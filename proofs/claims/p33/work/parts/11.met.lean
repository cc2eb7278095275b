set_option maxRecDepth 20000
section XMETOF
variable {p : Program} {l0 : Launch} {e : Env} {R : Room} {s : State} {m : MethodId} {args : Array Value} {below : List Frame} {meth : Method} {c : Code} {H : Heap} {locs : List Loc} {cells slots : Nat} {Q : State → Prop}
variable {cc : ByteArray} {pc : Nat} {ls : Array Slot} {ad : xN} {D : va_G} {cl : List vw_C} {TS : List Cond} {own nm : String} {B : Nat} {SL : xSL} {P : xPr}
theorem xRep.ext {h : xH} {H1 : Heap} (hR : xRep s D cl B ad h H) (hk : ∀ q, q < H.size → H1[q]? = H[q]?) : xRep s D cl B ad h H1 :=
  ⟨fun q o hq => (hR.1 q o hq).kept (hk _ (hR.1 q o hq).lt), hR.2⟩
/-- the end of a method by a return instruction -/
theorem xend {A A2 : xA} {res : xR} {i : Instr} {n : Nat} {rt : Option FieldType} {st2 : List xV} {v : Option xV} {ad2 : xN} (hx : p.tables.exec = Jvm.exec) (hb : c.code = cc) (hr : meth.sig.returnType = rt) (hlocks : meth.locks = false) (hd : decode cc pc = .ok (i, n)) (hn : xdok i n) (hv : xret rt i st2 = some v) (hres : res = .inl v) (hg : xAg ad ad2 A.2.2.2 A2.2.2.2) (hI : xI s D cl B ad2 A2.2.2.2 H locs) (hlv : ∀ u ∈ st2, xlv A2.2.2.2 u) :
    W p l0 e R s m args below meth c H locs cells slots (MQ below (xQc cl D B ad A A2 res) args s cells slots (fun q => B ≤ q)) (F0 m pc ls (st2.map (xc ad2))) := by
  have post : ∀ t : State, t.heap = H → s.WarmedH t.vm → (∀ x, v = some x → xlv A2.2.2.2 x) → xQc cl D B ad A A2 res args s (.returned (v.map (xc ad2))) t := fun t ht hW h3 =>
    ⟨⟨v, ad2, hres, rfl, hg, by rw [ht]; exact hI.1.moved hW.alike, h3⟩, hI.2.1.F ht⟩
  have hf : ∀ q ∈ locs, B ≤ q.base := hI.2.1.2.2
  unfold xret at hv
  split at hv
  next =>
    cases hn
    split at hv
    next x =>
      split at hv
      next =>
        cases hv
        exact W.iret hx hb hr (fun t ht hW => post t ht hW (fun y hy => by cases hy; trivial)) hf hd hlocks
      next =>
        split at hv
        next h01 =>
          cases hv
          refine W.zret hx hb hr (by rcases h01 with rfl | rfl <;> rfl) (fun t ht hW => post t ht hW (fun y hy => by cases hy; trivial)) hf hd hlocks
        next => cases hv
      next => cases hv
    next => cases hv
  next =>
    cases hn
    split at hv
    next x =>
      split at hv
      next hty =>
        cases hv
        exact W.lret hx hb (hr.trans hty) (fun t ht hW => post t ht hW (fun y hy => by cases hy; trivial)) hf hd hlocks
      next => cases hv
    next => cases hv
  next =>
    cases hn
    split at hv
    next x =>
      split at hv
      next hty =>
        cases hv
        exact W.fret hx hb (hr.trans hty) (fun t ht hW => post t ht hW (fun y hy => by cases hy; trivial)) hf hd hlocks
      next => cases hv
    next => cases hv
  next =>
    cases hn
    split at hv
    next x =>
      split at hv
      next hty =>
        cases hv
        exact W.dret hx hb (hr.trans hty) (fun t ht hW => post t ht hW (fun y hy => by cases hy; trivial)) hf hd hlocks
      next => cases hv
    next => cases hv
  next =>
    cases hn
    split at hv
    next C =>
      split at hv
      next =>
        cases hv
        exact W.aret hx hb hr (Or.inl ⟨_, rfl⟩) (Or.inl rfl) (fun t ht hW => post t ht hW (fun y hy => by cases hy; trivial)) hf hd hlocks
      next q =>
        cases hv
        exact W.aret hx hb hr (Or.inl ⟨_, rfl⟩) (Or.inr ⟨_, rfl⟩) (fun t ht hW => post t ht hW (fun y hy => by cases hy; exact hlv _ List.mem_cons_self)) hf hd hlocks
      next => cases hv
    next C =>
      split at hv
      next =>
        cases hv
        exact W.aret hx hb hr (Or.inr ⟨_, rfl⟩) (Or.inl rfl) (fun t ht hW => post t ht hW (fun y hy => by cases hy; trivial)) hf hd hlocks
      next q =>
        cases hv
        exact W.aret hx hb hr (Or.inr ⟨_, rfl⟩) (Or.inr ⟨_, rfl⟩) (fun t ht hW => post t ht hW (fun y hy => by cases hy; exact hlv _ List.mem_cons_self)) hf hd hlocks
      next => cases hv
    next => cases hv
  next =>
    cases hn
    split at hv
    next =>
      split at hv
      next =>
        cases hv
        exact W.vret hx hb hr (fun t ht hW => post t ht hW (fun y hy => by cases hy)) hf hd hlocks
      next => cases hv
    next => cases hv
  next => cases hv
set_option maxHeartbeats 4000000 in
/-- a run of a method from its entry is a contract of it -/
theorem xMet_of (G : xG P cl TS SL) (hflag : l0.stackTraces = false) {d mid n : Nat} {as : List xV} {A A2 : xA} {res : xR} (hmf : xMF P TS mid n) (hw : (as.map xcat).sum ≤ (P.2.1 mid).2.2.1) (h : xSim l0 P cl TS SL d mid 0 (xar 0 as) [] A res A2) : xMet l0 P cl TS SL d mid as A res A2 := by
  refine ⟨h.1, fun D B ad hlv => ?_⟩
  obtain ⟨hm1, hm2⟩ := h.1
  have body : ∀ (p : Program) (e : Env) (s : State) (m : MethodId) (args : Array Value) (below : List Frame) (meth : Method) (c : Code) (s₁ : State), BodyLoose p l0 (P.2.1 mid).1 (headSpec (xcw (P.2.1 mid) :: TS) (xRm d (A2.2.1 - A.2.1) (A2.2.2.1 - A.2.2.1))) (P.2.1 mid).2.1 (P.2.1 mid).2.2.1 (P.2.1 mid).2.2.2.1 e s m args below meth c s₁ → c.maxLocals = (P.2.1 mid).2.2.1 → c.exceptionTable.toList = tableOf (P.2.1 mid).2.2.2.2 → xPc cl SL D B ad A as args s →
      W p l0 e (xRm d (A2.2.1 - A.2.1) (A2.2.2.1 - A.2.2.1)) s m args below meth c s.heap [] 0 0 (vx_MQ below (xQc cl D B ad A A2 res) (xXc cl D B ad A A2 res) args s (A2.2.1 - A.2.1) (A2.2.2.1 - A.2.2.1) (fun q => B ≤ q)) (entryFrame m args (P.2.1 mid).2.2.1) := by
    intro p e s m args below meth c s₁ BB hml htab hv
    obtain ⟨rfl, hrep, hB, hK, hE, hZ⟩ := hv
    have hts := atoms_spec (ws := xcw (P.2.1 mid) :: TS) BB.pre
    have hlocks := BB.notSynchronized
    have X : xCx p s m (as.map (xc ad)).toArray meth c D cl TS (P.2.1 mid).1.cls (P.2.1 mid).1.name (P.2.1 mid).2.1 := ⟨BB.exec, BB.bytes, findClass_of_methodNamed BB.named, fun w hw => hts w (List.mem_cons_of_mem _ hw), (name_of_methodNamed BB.named BB.method).1, hK, G.2.1⟩
    obtain ⟨hx, hb, hown, hts2, -⟩ := id X
    have hl := lv_entry (as.map (xc ad)) (n := (P.2.1 mid).2.2.1) (by rw [xsl_len]; exact hw)
    rw [lg_entry_eq]
    generalize (lg_sl (as.map (xc ad)) ++ List.replicate ((P.2.1 mid).2.2.1 - (lg_sl (as.map (xc ad))).length) Slot.unset).toArray = ls at hl ⊢
    have hl : lv_has ls (P.2.1 mid).2.2.1 (xlm ad (xar 0 as)) := by rw [xar_lm]; exact hl
    refine h.2 p e _ s m _ below meth c s.heap [] 0 0 _ ls ad D B X hml htab hl ⟨xar_ok as 0 hlv, fun _ h => by cases h⟩ ⟨hrep, va_S.rf, hB⟩ hE hZ ⟨Nat.le_refl _, Nat.le_refl _⟩ ⟨?_, ?_⟩ ⟨?_, ?_, ?_⟩
    · show 0 + A2.2.1 ≤ (A2.2.1 - A.2.1) + A.2.1
      omega
    · show 0 + A2.2.2.1 ≤ (A2.2.2.1 - A.2.2.1) + A.2.2.1
      omega
    · intro pc2 i ops v ad2 H2 locs2 ls2 l2 st2 cells2 slots2 hP hv hres hg hI hl2 hk2 hbd
      obtain ⟨⟨n1, hd, hn⟩, -⟩ := G.2.2.1 mid pc2 i ops hP
      exact W.widen hbd.1 hbd.2 (vx_ret (xend hx hb BB.returns hlocks hd hn hv hres hg hI hk2.2))
    · intro pc2 E ad2 H2 locs2 ls2 l2 st2 cells2 slots2 hP hres hg hI hl2 hk2 hbd hd8 hsum
      obtain ⟨ik, is, ic, ix, k9, rx, text, names, d0, d3, dd, d9, ⟨x0, x1, x2, x5⟩, hfit, hfits, hcl1, hini, hstr, hat, hgood, hnl, hhh⟩ := G.2.2.2.1 mid pc2 E hP
      obtain ⟨sa, hsa⟩ := hZ.2.2.1 _ hstr
      have hfr : names.length + 3 < d + 1 := by omega
      have hlo : ((st2.map (xc ad2)).map fun v => v.category).sum + (13 * (names.length + 1) + 43) ≤ 40 * (d + 1) := by rw [xsum_c]; omega
      have hout : ∀ (k : Nat), ∀ x ∈ c.exceptionTable.toList, covers x k = false := by
        intro k x hx2
        rw [htab, hhh] at hx2
        cases hx2
      refine xx_makeS hx hb hflag x0 x1 x2 x5 hown hfit hfits (hts2 _ hcl1) (hts2 _ hini) hsa (fun w hw => hts2 _ (hat w hw)) hgood hZ.1 hZ.2.1 hI.2.1 (hl2.1.trans hml.symm) d0 d3 dd hfr hlo hbd.1 hbd.2 (fun q ce H1 hce hvm hcl2 hsz hk => ?_)
      refine vx_athrow hx hb d9 (vx_out (hout _) hlocks hce hvm hcl2 (fun t ht hal => ?_) hI.2.1.2.2 hbd.1 hbd.2)
      refine ⟨hres, ⟨ad2, hg, by rw [ht]; exact (hI.1.ext hk).moved hal⟩, by rw [ht]; exact Nat.le_trans hI.2.1.1 hsz, fun q h1 h2 => ?_⟩
      rw [ht, hk q (Nat.lt_of_lt_of_le h1 hI.2.1.1)]
      exact hI.2.1.2.1 q h1 h2
    · intro pc2 E ce q9 ad2 H2 locs2 ls2 rest cells2 slots2 hres hhh hg hI hcell hvm hcls hbd
      refine vx_out ?_ hlocks hcell hvm hcls ?_ hI.2.1.2.2 hbd.1 hbd.2
      · intro x hx2
        rw [htab, hhh] at hx2
        cases hx2
      · intro t ht hal
        exact ⟨hres, ⟨ad2, hg, by rw [ht]; exact hI.1.moved hal⟩, hI.2.1.F ht⟩
  by_cases hhh : (P.2.1 mid).2.2.2.2 = []
  · refine vx_ofW (cc := (P.2.1 mid).2.1) (maxL := (P.2.1 mid).2.2.1) (ret := (P.2.1 mid).2.2.2.1) hmf.1 (by rw [xcw_nil hhh]) ?_
    intro p e s m args below meth c s₁ BB hml htab hv
    refine body p e s m args below meth c s₁ BB hml ?_ hv
    rw [hhh]
    exact List.eq_nil_iff_forall_not_mem.mpr htab
  · refine vx_ofWH (cc := (P.2.1 mid).2.1) (maxL := (P.2.1 mid).2.2.1) (ret := (P.2.1 mid).2.2.2.1) (hh := (P.2.1 mid).2.2.2.2) hmf.1 (by rw [xcw_with hhh]) ?_
    intro p e s m args below meth c s₁ BB hml hv
    have hts := atoms_spec (ws := xcw (P.2.1 mid) :: TS) BB.pre
    exact body p e s m args below meth c s₁ BB hml (vx_table (x := (P.2.1 mid).1) BB (by rw [← xcw_with hhh]; exact hts _ List.mem_cons_self)) hv
end XMETOF
