set_option maxRecDepth 20000
section YE1
variable {l0 : Launch} {d2 k : Nat} {A A2 : xA} {z q : Nat × Nat} {x : Int32}
theorem cp_S : xsS xPP xTS "java/util/Arrays" 300 3 162 := (xGv.2.2.1 161 6 (.invokestatic 300) [3, 162] rfl).2.2
theorem cp_MF : xMF xPP xTS 161 2 := (show xsS xPP xTS "java/util/ArrayList" 66 2 161 from (xGv.2.2.1 148 37 (.invokestatic 66) [2, 161] rfl).2.2).1
theorem cw_ldc : (Cond.classLink "java/util/Arrays" 110 "[Ljava/lang/Object;") ∈ xTS := xw 173 (by decide +kernel) (by decide +kernel)
theorem cw_gl : (Cond.methodLink "java/util/Arrays" 86 ⟨"java/lang/Object", "getClass", "()Ljava/lang/Class;"⟩) ∈ xTS := xw 151 (by decide +kernel) (by decide +kernel)
theorem cw_gi : (Cond.instanceMethod ⟨"java/lang/Object", "getClass", "()Ljava/lang/Class;"⟩) ∈ xTS := xw 152 (by decide +kernel) (by decide +kernel)
theorem cw_gn : (Cond.native ⟨"java/lang/Object", "getClass", "()Ljava/lang/Class;"⟩) ∈ xTS := xw 169 (by decide +kernel) (by decide +kernel)
theorem cw_gs : (Cond.selects "[Ljava/lang/Object;" ⟨"java/lang/Object", "getClass", "()Ljava/lang/Class;"⟩ ⟨"java/lang/Object", "getClass", "()Ljava/lang/Class;"⟩) ∈ xTS := xw 1396 (by decide +kernel) (by decide +kernel)
theorem cw_gd : (Cond.declares ⟨"java/lang/Object", "getClass", "()Ljava/lang/Class;"⟩) ∈ xTS := xw 1397 (by decide +kernel) (by decide +kernel)
/-- copyOf with a class: the class is that of object arrays -/
def cpPc (D : va_G) (B : Nat) (ad : xN) (A : xA) (z : Nat × Nat) (x : Int32) (mi : Nat) : Array Value → State → Prop := fun a U => xPc xcl xSLv D B ad A [.inr z, .inl (.int x), .inl (.ref mi)] a U ∧ va_Mi "[Ljava/lang/Object;" mi U
theorem cpPc.blind {D : va_G} {B : Nat} {ad : xN} {mi : Nat} : FrameBlind (cpPc D B ad A z x mi) := by
  intro a U g mk h
  have hv : U.vm.Alike (U.calling g mk a).vm := Vm.Alike.refl U.vm
  exact ⟨xPc.blind a U g mk h.1, h.2.moved hv⟩
set_option maxHeartbeats 4000000 in
theorem cp_162 (hflag : l0.stackTraces = false) (hrun : xrun xPP (fun _ _ _ _ => none) k d2 162 6 [(0, .inr z), (1, .inl (.int x))] [] A = some (.inl (some (.inr q)), A2)) (D : va_G) (B : Nat) (ad : xN) (mi : Nat) (hlv : A.2.2.2 z ≠ none) :
    vx_Met l0 (xPP.2.1 162).1 (xcw (xPP.2.1 162) :: xTS) (xRm d2 (A2.2.1 - A.2.1) (A2.2.2.1 - A.2.2.1)) (cpPc D B ad A z x mi) (xQc xcl D B ad A A2 (.inl (some (.inr q)))) (xXc xcl D B ad A A2 (.inl (some (.inr q)))) (A2.2.1 - A.2.1) (A2.2.2.1 - A.2.2.1) (fun q => B ≤ q) := by
  have hsim := xrun_ok xGv hflag (ct := fun _ _ _ _ => none) (fun _ _ _ _ _ _ h => by cases h) k d2 162 6 _ _ _ _ _ hrun
  obtain ⟨hm1, hm2⟩ := hsim.1
  refine vx_ofW (cc := (xPP.2.1 162).2.1) (maxL := (xPP.2.1 162).2.2.1) (ret := (xPP.2.1 162).2.2.2.1) cp_S.1.1 (by rw [xcw_nil rfl]) ?_
  intro p e s m args below meth c s₁ BB hml htab hv
  obtain ⟨⟨rfl, hrep, hB, hK, hE, hZ⟩, hMi⟩ := hv
  have hts := atoms_spec (ws := xcw (xPP.2.1 162) :: xTS) BB.pre
  have hlocks := BB.notSynchronized
  have htb : c.exceptionTable.toList = tableOf (xPP.2.1 162).2.2.2.2 := List.eq_nil_iff_forall_not_mem.mpr htab
  have X : xCx p s m (([.inr z, .inl (.int x), .inl (.ref mi)] : List xV).map (xc ad)).toArray meth c D xcl xTS (xPP.2.1 162).1.cls (xPP.2.1 162).1.name (xPP.2.1 162).2.1 := ⟨BB.exec, BB.bytes, findClass_of_methodNamed BB.named, fun w hw => hts w (List.mem_cons_of_mem _ hw), (name_of_methodNamed BB.named BB.method).1, hK, xGv.2.1⟩
  obtain ⟨hx, hb, hown, hts2, -⟩ := id X
  have hl := lv_entry (([.inr z, .inl (.int x), .inl (.ref mi)] : List xV).map (xc ad)) (n := (xPP.2.1 162).2.2.1) (by rw [xsl_len]; exact Nat.le_of_ble_eq_true rfl)
  rw [lg_entry_eq]
  generalize (lg_sl (([.inr z, .inl (.int x), .inl (.ref mi)] : List xV).map (xc ad)) ++ List.replicate ((xPP.2.1 162).2.2.1 - (lg_sl (([.inr z, .inl (.int x), .inl (.ref mi)] : List xV).map (xc ad))).length) Slot.unset).toArray = ls at hl ⊢
  have hl : lv_has ls 4 [(0, .ref (ad z)), (1, .int x), (2, .ref mi)] := hl
  have hb2 : c.code = prog_33_method_120_code := hb
  refine lv_aload_n (k := 2) hx hb2 (by decide +kernel) rfl (lv_at hl 2 rfl) ?_
  refine va_ldcM hx hb2 hown (hts2 _ cw_ldc) hMi (by decide +kernel) ?_
  refine lv_acmp_ne (rx := some mi) (ry := some mi) (off := 10) (tgt := 13) hx hb2 (by decide +kernel) rfl (fun h => absurd rfl h) (fun _ => ?_)
  refine hsim.2 p e _ s m _ below meth c s.heap [] 0 0 _ ls ad D B X hml htb ⟨hl.1, hl.2.1, fun y hy => hl.2.2 y ?_⟩ ⟨fun y hy => ?_, fun _ h => by cases h⟩ ⟨hrep, va_S.rf, hB⟩ hE hZ ⟨Nat.le_refl _, Nat.le_refl _⟩ ⟨?_, ?_⟩ ⟨?_, ?_, ?_⟩
  · have hy : y ∈ [((0 : Nat), Value.ref (ad z)), (1, Value.int x)] := hy
    rcases List.mem_cons.mp hy with rfl | hy
    · exact List.mem_cons_self
    · rw [List.mem_singleton.mp hy]
      exact List.mem_cons_of_mem _ List.mem_cons_self
  · rcases List.mem_cons.mp hy with rfl | hy
    · exact hlv
    · rw [List.mem_singleton.mp hy]
      trivial
  · show 0 + A2.2.1 ≤ (A2.2.1 - A.2.1) + A.2.1
    omega
  · show 0 + A2.2.2.1 ≤ (A2.2.2.1 - A.2.2.1) + A.2.2.1
    omega
  · intro pc2 i ops v ad2 H2 locs2 ls2 l2 st2 cells2 slots2 hP hv hres hg hI hl2 hk2 hbd
    obtain ⟨⟨n1, hd, hn⟩, -⟩ := xGv.2.2.1 162 pc2 i ops hP
    exact W.widen hbd.1 hbd.2 (vx_ret (xend hx hb BB.returns hlocks hd hn hv hres hg hI hk2.2))
  · intro pc2 E ad2 H2 locs2 ls2 l2 st2 cells2 slots2 hP hres
    cases hres
  · intro pc2 E ce q9 ad2 H2 locs2 ls2 rest cells2 slots2 hres
    cases hres
set_option maxHeartbeats 4000000 in
theorem cp_161 (hflag : l0.stackTraces = false) {n0 : Nat} {f : Nat → xV} (hz : A.2.2.2 z = some (.inr (4, n0, f))) (hrun : xrun xPP (fun _ _ _ _ => none) k d2 162 6 [(0, .inr z), (1, .inl (.int x))] [] A = some (.inl (some (.inr q)), A2)) :
    xMet l0 xPP xcl xTS xSLv (d2 + 1) 161 [.inr z, .inl (.int x)] A (.inl (some (.inr q))) A2 := by
  have hsim := xrun_ok xGv hflag (ct := fun _ _ _ _ => none) (fun _ _ _ _ _ _ h => by cases h) k d2 162 6 _ _ _ _ _ hrun
  refine ⟨hsim.1, fun D B ad hlv => ?_⟩
  obtain ⟨hm1, hm2⟩ := hsim.1
  have hlz : A.2.2.2 z ≠ none := by rw [hz]; exact Option.some_ne_none _
  refine vx_ofW (cc := (xPP.2.1 161).2.1) (maxL := (xPP.2.1 161).2.2.1) (ret := (xPP.2.1 161).2.2.2.1) cp_MF.1 (by rw [xcw_nil rfl]) ?_
  intro p e s m args below meth c s₁ BB hml htab hv
  obtain ⟨rfl, hrep, hB, hK, hE, hZ⟩ := hv
  have hts := atoms_spec (ws := xcw (xPP.2.1 161) :: xTS) BB.pre
  have hlocks := BB.notSynchronized
  have X : xCx p s m (([.inr z, .inl (.int x)] : List xV).map (xc ad)).toArray meth c D xcl xTS (xPP.2.1 161).1.cls (xPP.2.1 161).1.name (xPP.2.1 161).2.1 := ⟨BB.exec, BB.bytes, findClass_of_methodNamed BB.named, fun w hw => hts w (List.mem_cons_of_mem _ hw), (name_of_methodNamed BB.named BB.method).1, hK, xGv.2.1⟩
  obtain ⟨hx, hb, hown, hts2, -⟩ := id X
  obtain ⟨mi, hMi⟩ := hZ.2.2.2.2
  have hl := lv_entry (([.inr z, .inl (.int x)] : List xV).map (xc ad)) (n := (xPP.2.1 161).2.2.1) (by rw [xsl_len]; exact Nat.le_of_ble_eq_true rfl)
  rw [lg_entry_eq]
  generalize (lg_sl (([.inr z, .inl (.int x)] : List xV).map (xc ad)) ++ List.replicate ((xPP.2.1 161).2.2.1 - (lg_sl (([.inr z, .inl (.int x)] : List xV).map (xc ad))).length) Slot.unset).toArray = ls at hl ⊢
  have hl : lv_has ls 2 [(0, .ref (ad z)), (1, .int x)] := hl
  have hml2 : c.maxLocals = ls.size := hml.trans hl.1.symm
  have hb2 : c.code = prog_33_method_119_code := hb
  have hI : xI s D xcl B ad A.2.2.2 s.heap [] := ⟨hrep, va_S.rf, hB⟩
  refine lv_aload_n (k := 0) hx hb2 (by decide +kernel) rfl (lv_at hl 0 rfl) ?_
  refine lv_iload_n (k := 1) hx hb2 (by decide +kernel) rfl (lv_at hl 1 rfl) ?_
  refine lv_aload_n (k := 0) hx hb2 (by decide +kernel) rfl (lv_at hl 0 rfl) ?_
  have hcell : ∃ cell : Cell, s.heap[ad z]? = some cell ∧ cell.vm.isStatics = false ∧ s.vm.findClass "[Ljava/lang/Object;" = some cell.cls := by
    obtain ⟨cs, a1, a2, a3, a4, a5, a6⟩ := hrep.1 z _ hz
    rcases a3 with a3 | a3
    · exact absurd (show (4 : Nat) = 9 from a3) (by decide)
    · have hst : cs.vm.isStatics = false := by
        have h9 := a2.1
        generalize cs.vm = w at h9
        cases w <;> first | rfl | exact absurd rfl (h9 _)
      exact ⟨cs, a1, hst, va_nmO a3 (by decide +kernel)⟩
  refine va_getC hx hb2 hml2 hown (hts2 _ cw_gl) (hts2 _ cw_gd) (hts2 _ cw_gs) (hts2 _ cw_gi) (hts2 _ cw_gn) hMi hcell (by show 1 ≤ d2 + 1 + 1; omega) (by show 1 + (1 + 0) + 14 ≤ 40 * (d2 + 1 + 1); omega) (by decide +kernel) ?_
  have hM2 := cp_162 hflag hrun D B ad mi hlz
  obtain ⟨⟨hpl, hmh, hlen, hmx, hcw, hini⟩, hstat, hlk⟩ := cp_S
  have hkeep := xkeep xGv.1 hts2 hcw
  rw [xcw_nil rfl] at hM2 hcw hkeep
  have hpre : PreS s s.heap (cpPc D B ad A z x mi) (([.inr z, .inl (.int x), .inl (.ref mi)] : List xV).map (xc ad)) := ⟨cpPc.blind, fun U hU hWm => ⟨xpre X hI hE hZ hU hWm, hMi.moved hWm.alike⟩⟩
  have hl8 : 8 + ((xPP.2.1 162).2.2.1 + 11) + (xRm d2 (A2.2.1 - A.2.1) (A2.2.2.1 - A.2.2.1)).locals ≤ (xRm (d2 + 1) (A2.2.1 - A.2.1) (A2.2.2.1 - A.2.2.1)).locals := by
    show 8 + (4 + 11) + 40 * (d2 + 1) ≤ 40 * (d2 + 1 + 1)
    omega
  have hfr : (xRm d2 (A2.2.1 - A.2.1) (A2.2.2.1 - A.2.2.1)).frames + 1 ≤ (xRm (d2 + 1) (A2.2.1 - A.2.1) (A2.2.2.1 - A.2.2.1)).frames := Nat.le_refl _
  have hf : 0 + (A2.2.1 - A.2.1) ≤ (xRm (d2 + 1) (A2.2.1 - A.2.1) (A2.2.2.1 - A.2.2.1)).cells ∧ 0 + (A2.2.2.1 - A.2.2.1) ≤ (xRm (d2 + 1) (A2.2.1 - A.2.1) (A2.2.2.1 - A.2.2.1)).slots := by
    show 0 + (A2.2.1 - A.2.1) ≤ A2.2.1 - A.2.1 ∧ 0 + (A2.2.2.1 - A.2.2.1) ≤ A2.2.2.1 - A.2.2.1
    omega
  have hd6 : decode (xPP.2.1 161).2.1 6 = .ok (.invokestatic 300, 3) := by
    show decode prog_33_method_119_code 6 = _
    decide +kernel
  have hrunS : vx_Run p l0 e (xRm (d2 + 1) (A2.2.1 - A.2.1) (A2.2.2.1 - A.2.2.1)) s m (([.inr z, .inl (.int x)] : List xV).map (xc ad)).toArray below meth c s.heap [] 0 0 (A2.2.1 - A.2.1) (A2.2.2.1 - A.2.2.1) (F0 m 6 ls ((([.inr z, .inl (.int x), .inl (.ref mi)] : List xV).map (xc ad)).reverse ++ [])) [] (xQc xcl D B ad A A2 (.inl (some (.inr q))) (([.inr z, .inl (.int x), .inl (.ref mi)] : List xV).map (xc ad)).toArray) (xXc xcl D B ad A A2 (.inl (some (.inr q)))) (fun q => B ≤ q) := by
    rcases hlk with hlk | ⟨-, host, hlk⟩
    · exact vx_runS ⟨hx, hb, hml2, hown, hts2⟩ hM2 ⟨⟨rfl, rfl, hfr, hl8, hkeep, List.mem_cons_self, hts2 _ hcw, hts2 _ hini, hmh, xlenn hlen, hts2 _ hlk⟩, hts2 _ hstat⟩ hpre rfl rfl rfl rfl (Nat.zero_le _) hd6 hf
    · exact vx_runSN ⟨hx, hb, hml2, hown, hts2⟩ hM2 ⟨⟨⟨rfl, rfl, hfr, hl8, hkeep, List.mem_cons_self⟩, hts2 _ hcw, hts2 _ hini, hmh, xlenn hlen, hts2 _ hlk⟩, hts2 _ hstat, trivial⟩ hpre rfl rfl rfl rfl (Nat.zero_le _) hd6 hf
  refine xgo hrunS hI (fun v2 ad2 H1 locs1 hres hg hI1 hlv1 => ?_) (fun E ce q9 ad2 H1 locs1 hres => by cases hres)
  cases hres
  obtain ⟨⟨n1, hd, hn⟩, -⟩ := xGv.2.2.1 161 9 .areturn [] rfl
  refine W.widen (by have := hf.1; exact this) (by have := hf.2; exact this) (vx_ret (xend (st2 := [.inr q]) (v := some (.inr q)) hx hb BB.returns hlocks hd hn rfl rfl hg hI1 (fun u hu => ?_)))
  rw [List.mem_singleton.mp hu]
  exact hlv1 _ rfl
/-- what is known beforehand of copyOf holds -/
theorem zct_met (hflag : l0.stackTraces = false) : ∀ (d mid : Nat) (as : List xV) (A : xA) (res : xR) (A2 : xA), zct d mid as A = some (res, A2) → xMet l0 xPP xcl xTS xSLv d mid as A res A2 := by
  intro d mid as A res A2 h
  unfold zct at h
  split at h
  next hmid =>
    have hmid := Nat.eq_of_beq_eq_true hmid
    subst hmid
    split at h
    next z x =>
      split at h
      next n0 f q nm hz hA =>
        split at h
        next hc =>
          obtain ⟨⟨c1, c2, c3⟩, ⟨c4, c5⟩, c6, c7⟩ := hc
          cases h
          obtain ⟨d2, rfl⟩ : ∃ d2, d = d2 + 1 := ⟨d - 1, by omega⟩
          obtain ⟨nms, c, s, hh⟩ := A
          dsimp only at hz hA c4 c7 ⊢
          subst hA
          have hx : x = Int32.ofInt ((x.toNatClampNeg : Nat) : Int) := by
            have h0 : (0 : Int) ≤ x.toInt := by
              have := Int32.not_lt.mp c2
              simpa using Int32.le_iff_toInt_le.mp this
            have h1 : ((x.toNatClampNeg : Nat) : Int) = x.toInt := by
              show ((x.toInt.toNat : Nat) : Int) = _
              omega
            rw [h1, Int32.ofInt_toInt]
          obtain ⟨k, hk⟩ := zU_cp (d := d2) (c := c) (s := s) (n := x.toNatClampNeg) hz (Option.isNone_iff_eq_none.mp c4) c5 c6 c3 c7
          have hk2 := hk nm
          have hzx : (zi ((x.toNatClampNeg : Nat) : Int) : xV) = .inl (.int x) := by
            show (.inl (.int (Int32.ofInt ((x.toNatClampNeg : Nat) : Int))) : xV) = _
            rw [← hx]
          rw [hzx] at hk2
          exact cp_161 (A := (q :: nm, c, s, hh)) hflag hz hk2
        next => cases h
      next => cases h
    next => cases h
  next => cases h
end YE1
