set_option maxRecDepth 20000
section XCALL
variable {p : Program} {l0 : Launch} {e : Env} {R : Room} {s : State} {m : MethodId} {args : Array Value} {below : List Frame} {meth : Method} {c : Code} {H : Heap} {locs : List Loc} {cells slots : Nat} {Q : State → Prop}
variable {cc : ByteArray} {pc : Nat} {ls : Array Slot} {ad : xN} {D : va_G} {cl : List vw_C} {TS : List Cond} {own nm : String} {B : Nat} {SL : xSL} {P : xPr}
theorem xcw_nil {y : xM} (h : y.2.2.2.2 = []) : xcw y = .code y.1 y.2.1 y.2.2.1 y.2.2.2.1 := if_pos h
theorem xcw_with {y : xM} (h : ¬ y.2.2.2.2 = []) : xcw y = .codeWith y.1 y.2.1 y.2.2.1 y.2.2.2.1 y.2.2.2.2 := if_neg h
/-- a virtual call -/
theorem xrunV {A A2 : xA} {res : xR} {d2 mid idx n ci : Nat} {q : Nat × Nat} {fs as2 rest : List xV} (X : xCx p s m args meth c D cl TS own nm cc) (hml : c.maxLocals = ls.size) (hkp : ∀ w ∈ TS, xkp w = true) (hM : xMet l0 P cl TS SL d2 mid (.inr q :: as2) A res A2) (hs : xsV P TS cl own idx n ci mid) (hq : A.2.2.2 q = some (.inl (ci, fs))) (hn : as2.length = n) (hI : xI s D cl B ad A.2.2.2 H locs) (hE : xE s B ad A.2.2.2) (hZ : xZ s B SL) (hlv : ∀ v ∈ (.inr q :: as2), xlv A.2.2.2 v) (hR : d2 + 2 ≤ R.frames ∧ 40 * (d2 + 2) ≤ R.locals) (hW : ((rest.map (xc ad)).map fun v => v.category).sum ≤ 8) (hd : decode cc pc = .ok (.invokevirtual idx, 3)) (hf : cells + (A2.2.1 - A.2.1) ≤ R.cells ∧ slots + (A2.2.2.1 - A.2.2.1) ≤ R.slots) :
    vx_Run p l0 e R s m args below meth c H locs cells slots (A2.2.1 - A.2.1) (A2.2.2.1 - A.2.2.1) (F0 m pc ls ((as2.map (xc ad)).reverse ++ .ref (ad q) :: rest.map (xc ad))) (rest.map (xc ad)) (xQc cl D B ad A A2 res (Value.ref (ad q) :: as2.map (xc ad)).toArray) (xXc cl D B ad A A2 res) (fun q => B ≤ q) := by
  obtain ⟨hx, hb, hown, hts, hnm, hK, hcl⟩ := id X
  obtain ⟨⟨hpl, hmh, hlen, hmx, hcw, hini⟩, hhh, hin, w, hc, hlk⟩ := hs
  have hM2 := hM.2 D B ad hlv
  rw [xcw_nil hhh] at hM2 hcw
  have hkeep := xkeep hkp hts hcw
  obtain ⟨w2, h1, hlen2, cell, q1, q2, q3, q4⟩ := hI.1.1 q _ hq
  cases Option.some.inj (hc.symm.trans h1)
  have hrec : ∃ cellB : Cell, H[ad q]? = some cellB ∧ cellB.vm.isStatics = false ∧ s.vm.findClass w.1 = some cellB.cls := ⟨cell, q1, by rw [q3]; rfl, by rw [q2]; exact (hK.1 ci w hc).2.1⟩
  have hpre : PreV s H w.1 (ad q) (xPc cl SL D B ad A (.inr q :: as2)) (as2.map (xc ad)) := ⟨xPc.blind, hrec, fun U hU hWm => xpre X hI hE hZ hU hWm⟩
  have hl8 : 8 + ((P.2.1 mid).2.2.1 + 11) + (xRm d2 (A2.2.1 - A.2.1) (A2.2.2.1 - A.2.2.1)).locals ≤ R.locals := by
    show 8 + ((P.2.1 mid).2.2.1 + 11) + 40 * (d2 + 1) ≤ R.locals
    omega
  have hfr : (xRm d2 (A2.2.1 - A.2.1) (A2.2.2.1 - A.2.2.1)).frames + 1 ≤ R.frames := hR.1
  have hn2 : (as2.map (xc ad)).length = n := by rw [List.length_map]; exact hn
  have hroom : 2 * (F0 m pc ls ((as2.map (xc ad)).reverse ++ .ref (ad q) :: rest.map (xc ad))).monitorRoom + ((rest.map (xc ad)).map fun v => v.category).sum ≤ 8 := lv_room hW
  rcases hlk with ⟨hlk, hsel⟩ | ⟨host, hlk, hsel⟩ | ⟨x, owner, hlk, hsm, hsel, hdc, hmo, hlx⟩
  · exact vx_runV ⟨hx, hb, hml, hown, hts⟩ hM2 ⟨⟨rfl, rfl, hfr, hl8, hkeep, List.mem_cons_self, hts _ hcw, hts _ hini, hmh, xlenn hlen, hts _ hlk⟩, hts _ hin, hts _ hsel⟩ hpre rfl hn2 rfl rfl hroom hd hf
  · exact vx_runVN ⟨hx, hb, hml, hown, hts⟩ hM2 ⟨⟨⟨rfl, rfl, hfr, hl8, hkeep, List.mem_cons_self⟩, hts _ hcw, hts _ hini, hmh, xlenn hlen, hts _ hlk⟩, hts _ hin, hts _ hsel⟩ hpre rfl hn2 rfl rfl hroom hd hf
  · have hdecl : va_Decl s ⟨owner, x.name, x.desc⟩ := by
      rcases hdc with e | hdc
      · rw [← e]
        exact va_Decl.of (hts _ hin) (hts _ hcw)
      · exact va_Decl.abs (va_Nw.of rfl (hts _ hdc))
    exact vx_runU (x := x) (owner := owner) ⟨hx, hb, hml, hown, hts⟩ hM2 ⟨⟨rfl, rfl, hfr, hl8, hkeep, List.mem_cons_self⟩, hts _ hcw, hts _ hini, hmo, xlenn (y := x) hlx, hts _ hlk, hts _ hsm, hdecl, hts _ hsel, hts _ hin⟩ hpre rfl hn2 rfl rfl hroom hd hf
/-- a constructor's call -/
theorem xrunI {A A2 : xA} {res : xR} {d2 mid idx n : Nat} {q : Nat × Nat} {as2 rest : List xV} (X : xCx p s m args meth c D cl TS own nm cc) (hml : c.maxLocals = ls.size) (hkp : ∀ w ∈ TS, xkp w = true) (hM : xMet l0 P cl TS SL d2 mid (.inr q :: as2) A res A2) (hs : xsI P TS own idx n mid) (hn : as2.length = n) (hI : xI s D cl B ad A.2.2.2 H locs) (hE : xE s B ad A.2.2.2) (hZ : xZ s B SL) (hlv : ∀ v ∈ (.inr q :: as2), xlv A.2.2.2 v) (hR : d2 + 2 ≤ R.frames ∧ 40 * (d2 + 2) ≤ R.locals) (hW : ((rest.map (xc ad)).map fun v => v.category).sum ≤ 8) (hd : decode cc pc = .ok (.invokespecial idx, 3)) (hf : cells + (A2.2.1 - A.2.1) ≤ R.cells ∧ slots + (A2.2.2.1 - A.2.2.1) ≤ R.slots) :
    vx_Run p l0 e R s m args below meth c H locs cells slots (A2.2.1 - A.2.1) (A2.2.2.1 - A.2.2.1) (F0 m pc ls ((as2.map (xc ad)).reverse ++ .ref (ad q) :: rest.map (xc ad))) (rest.map (xc ad)) (xQc cl D B ad A A2 res (Value.ref (ad q) :: as2.map (xc ad)).toArray) (xXc cl D B ad A A2 res) (fun q => B ≤ q) := by
  obtain ⟨hx, hb, hown, hts, hnm, hK, hcl⟩ := id X
  obtain ⟨⟨hpl, hmh, hlen, hmx, hcw, hini⟩, hhh, hret, hname, hin, hlk⟩ := hs
  have hM2 := hM.2 D B ad hlv
  rw [xcw_nil hhh] at hM2 hcw
  rw [hret] at hM2 hcw
  have hkeep := xkeep hkp hts hcw
  have hpre : PreS s H (xPc cl SL D B ad A (.inr q :: as2)) (.ref (ad q) :: as2.map (xc ad)) := ⟨xPc.blind, fun U hU hWm => xpre X hI hE hZ hU hWm⟩
  have hl8 : 8 + ((P.2.1 mid).2.2.1 + 11) + (xRm d2 (A2.2.1 - A.2.1) (A2.2.2.1 - A.2.2.1)).locals ≤ R.locals := by
    show 8 + ((P.2.1 mid).2.2.1 + 11) + 40 * (d2 + 1) ≤ R.locals
    omega
  have hfr : (xRm d2 (A2.2.1 - A.2.1) (A2.2.2.1 - A.2.2.1)).frames + 1 ≤ R.frames := hR.1
  have hn2 : (as2.map (xc ad)).length = n := by rw [List.length_map]; exact hn
  have hroom : 2 * (F0 m pc ls ((as2.map (xc ad)).reverse ++ .ref (ad q) :: rest.map (xc ad))).monitorRoom + ((rest.map (xc ad)).map fun v => v.category).sum ≤ 8 := lv_room hW
  rcases hlk with hlk | ⟨host, hlk⟩
  · exact vx_runI ⟨hx, hb, hml, hown, hts⟩ hM2 ⟨⟨rfl, rfl, hfr, hl8, hkeep, List.mem_cons_self, hts _ hcw, hts _ hini, hmh, xlenn hlen, hts _ hlk⟩, hname, hts _ hin⟩ hpre rfl hn2 rfl rfl hroom hd hf
  · exact vx_runIN ⟨hx, hb, hml, hown, hts⟩ hM2 ⟨⟨⟨rfl, rfl, hfr, hl8, hkeep, List.mem_cons_self⟩, hts _ hcw, hts _ hini, hmh, xlenn hlen, hts _ hlk⟩, hname, hts _ hin⟩ hpre rfl hn2 rfl rfl hroom hd hf
/-- a static call -/
theorem xrunS {A A2 : xA} {res : xR} {d2 mid idx n : Nat} {as rest : List xV} (X : xCx p s m args meth c D cl TS own nm cc) (hml : c.maxLocals = ls.size) (hkp : ∀ w ∈ TS, xkp w = true) (hM : xMet l0 P cl TS SL d2 mid as A res A2) (hs : xsS P TS own idx n mid) (hn : as.length = n) (hI : xI s D cl B ad A.2.2.2 H locs) (hE : xE s B ad A.2.2.2) (hZ : xZ s B SL) (hlv : ∀ v ∈ as, xlv A.2.2.2 v) (hR : d2 + 2 ≤ R.frames ∧ 40 * (d2 + 2) ≤ R.locals) (hW : ((rest.map (xc ad)).map fun v => v.category).sum ≤ 8) (hd : decode cc pc = .ok (.invokestatic idx, 3)) (hf : cells + (A2.2.1 - A.2.1) ≤ R.cells ∧ slots + (A2.2.2.1 - A.2.2.1) ≤ R.slots) :
    vx_Run p l0 e R s m args below meth c H locs cells slots (A2.2.1 - A.2.1) (A2.2.2.1 - A.2.2.1) (F0 m pc ls ((as.map (xc ad)).reverse ++ rest.map (xc ad))) (rest.map (xc ad)) (xQc cl D B ad A A2 res (as.map (xc ad)).toArray) (xXc cl D B ad A A2 res) (fun q => B ≤ q) := by
  obtain ⟨hx, hb, hown, hts, hnm, hK, hcl⟩ := id X
  obtain ⟨⟨hpl, hmh, hlen, hmx, hcw, hini⟩, hstat, hlk⟩ := hs
  have hM2 := hM.2 D B ad hlv
  have hkeep := xkeep hkp hts hcw
  have hpre : PreS s H (xPc cl SL D B ad A as) (as.map (xc ad)) := ⟨xPc.blind, fun U hU hWm => xpre X hI hE hZ hU hWm⟩
  have hl8 : 8 + ((P.2.1 mid).2.2.1 + 11) + (xRm d2 (A2.2.1 - A.2.1) (A2.2.2.1 - A.2.2.1)).locals ≤ R.locals := by
    show 8 + ((P.2.1 mid).2.2.1 + 11) + 40 * (d2 + 1) ≤ R.locals
    omega
  have hfr : (xRm d2 (A2.2.1 - A.2.1) (A2.2.2.1 - A.2.2.1)).frames + 1 ≤ R.frames := hR.1
  have hn2 : (as.map (xc ad)).length = n := by rw [List.length_map]; exact hn
  have hroom : 2 * (F0 m pc ls ((as.map (xc ad)).reverse ++ rest.map (xc ad))).monitorRoom + ((rest.map (xc ad)).map fun v => v.category).sum ≤ 8 := lv_room hW
  by_cases hhh : (P.2.1 mid).2.2.2.2 = []
  · rw [xcw_nil hhh] at hM2 hcw hkeep
    rcases hlk with hlk | ⟨-, host, hlk⟩
    · exact vx_runS ⟨hx, hb, hml, hown, hts⟩ hM2 ⟨⟨rfl, rfl, hfr, hl8, hkeep, List.mem_cons_self, hts _ hcw, hts _ hini, hmh, xlenn hlen, hts _ hlk⟩, hts _ hstat⟩ hpre rfl hn2 rfl rfl hroom hd hf
    · exact vx_runSN ⟨hx, hb, hml, hown, hts⟩ hM2 ⟨⟨⟨rfl, rfl, hfr, hl8, hkeep, List.mem_cons_self⟩, hts _ hcw, hts _ hini, hmh, xlenn hlen, hts _ hlk⟩, hts _ hstat, trivial⟩ hpre rfl hn2 rfl rfl hroom hd hf
  · rw [xcw_with hhh] at hM2 hcw hkeep
    rcases hlk with hlk | ⟨h9, -⟩
    · exact vx_runSX ⟨hx, hb, hml, hown, hts⟩ hM2 ⟨⟨rfl, rfl, hfr, hl8, hkeep, List.mem_cons_self⟩, hts _ hcw, hts _ hini, hmh, xlenn hlen, hts _ hlk, hts _ hstat⟩ hpre rfl hn2 rfl rfl hroom hd hf
    · exact absurd h9 hhh
end XCALL
