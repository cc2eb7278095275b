set_option maxRecDepth 20000
section XSTEP
def xln (i : Instr) : Nat := match i with
  | .invokevirtual _ => 3
  | .invokespecial _ => 3
  | .invokestatic _ => 3
  | i => match xlen i with
    | 0 => xlen2 i
    | k + 1 => k + 1
/-- the length that decoding an instruction must give -/
def xdok (i : Instr) (n : Nat) : Prop := match i with
  | .tableswitch _ _ _ _ => True
  | i => n = xln i
theorem xs1_len {nL pc n : Nat} {i : Instr} {l : xL} {st : List xV} {z : Nat × xL × List xV} (h : xs1 nL i pc l st = some z) (hn : xdok i n) : n = xlen i := by
  cases i
  case fconst f =>
    match f, h, hn with
    | 0, h, hn => exact hn
    | 1, h, hn => exact hn
    | 2, h, hn => exact hn
  case dconst f =>
    match f, h, hn with
    | 0, h, hn => exact hn
    | 1, h, hn => exact hn
  all_goals first | exact hn | (cases h; done)
set_option maxHeartbeats 4000000 in
theorem xs2_mono {i : Instr} {ops : List Nat} {pc : Nat} {l : xL} {st : List xV} {A : xA} {z : Nat × xL × List xV × xA} (h : xs2 i ops pc l st A = some z) : A.2.1 ≤ z.2.2.2.2.1 ∧ A.2.2.1 ≤ z.2.2.2.2.2.1 := by
  obtain ⟨pc2, l2, st2, A2⟩ := z
  show A.2.1 ≤ A2.2.1 ∧ A.2.2.1 ≤ A2.2.2.1
  have sto : ∀ {q : Nat × Nat} {kd n want : Nat} {j : Int32} {f : Nat → xV} {v : xV} {A1 : xA}, xsto A q kd j n f want v = some A1 → A.2.1 ≤ A1.2.1 ∧ A.2.2.1 ≤ A1.2.2.1 := by
    intro q kd n want j f v A1 h
    unfold xsto at h
    split at h
    · cases h; exact ⟨Nat.le_refl _, Nat.le_refl _⟩
    · cases h
  cases i <;> simp only [xs2] at h
  all_goals (repeat' split at h)
  all_goals first
    | (cases h; done)
    | (cases h; exact ⟨Nat.le_refl _, Nat.le_refl _⟩)
    | (cases h; exact ⟨Nat.le_succ _, Nat.le_add_right _ _⟩)
    | (cases h; exact sto (by assumption))
    | (obtain ⟨_, _, _, _, rfl, _⟩ := xbr_ok h; exact ⟨Nat.le_refl _, Nat.le_refl _⟩)
    | (obtain ⟨_, _, _, rfl⟩ := xjmp_ok h; exact ⟨Nat.le_refl _, Nat.le_refl _⟩)
theorem xs_mono {nL : Nat} {i : Instr} {ops : List Nat} {pc : Nat} {l : xL} {st : List xV} {A : xA} {z : Nat × xL × List xV × xA} (h : xs nL i ops pc l st A = some z) : A.2.1 ≤ z.2.2.2.2.1 ∧ A.2.2.1 ≤ z.2.2.2.2.2.1 := by
  unfold xs at h
  split at h
  next => cases h; exact ⟨Nat.le_refl _, Nat.le_refl _⟩
  next =>
    split at h
    next h2 => cases h; exact xs2_mono h2
    next =>
      split at h
      next =>
        split at h
        next => cases h; exact ⟨Nat.le_refl _, Nat.le_refl _⟩
        next => cases h
      next =>
        split at h
        next => cases h; exact ⟨Nat.le_refl _, Nat.le_refl _⟩
        next => cases h
      next =>
        split at h
        next => cases h; exact ⟨Nat.le_refl _, Nat.le_refl _⟩
        next => cases h
      next =>
        split at h
        next => cases h; exact ⟨Nat.le_refl _, Nat.le_refl _⟩
        next => cases h
      next =>
        split at h
        next =>
          split at h
          next => cases h; exact ⟨Nat.le_refl _, Nat.le_refl _⟩
          next => cases h
        next => cases h
      next => cases h
variable {p : Program} {l0 : Launch} {e : Env} {R : Room} {s : State} {m : MethodId} {args : Array Value} {below : List Frame} {meth : Method} {c : Code} {H : Heap} {locs : List Loc} {cells slots : Nat} {Q : State → Prop}
variable {cc : ByteArray} {pc : Nat} {ls : Array Slot} {ad : xN} {D : va_G} {cl : List vw_C} {TS : List Cond} {own nm : String} {B : Nat} {SL : xSL} {P : xPr}
set_option maxHeartbeats 4000000 in
theorem xs2_ok {l l2 : xL} {st st2 : List xV} {A A2 : xA} {nL pc2 n : Nat} {ops : List Nat} {i : Instr} (X : xCx p s m args meth c D cl TS own nm cc) (hd : decode cc pc = .ok (i, n)) (hn : xdok i n) (hT : xT TS cl own nm i ops) (hl : lv_has ls nL (xlm ad l)) (hk : xok (xlv A.2.2.2) l st) (hI : xI s D cl B ad A.2.2.2 H locs) (hE : xE s B ad A.2.2.2) (h : xs2 i ops pc l st A = some (pc2, l2, st2, A2)) (hbud : cells + A2.2.1 ≤ R.cells + A.2.1 ∧ slots + A2.2.2.1 ≤ R.slots + A.2.2.1)
    (k : xCont p l0 e R s m args below meth c D cl B ad A A2 l2 st2 nL pc2 cells slots Q) : W p l0 e R s m args below meth c H locs cells slots Q (F0 m pc ls (st.map (xc ad))) := by
  cases i
  case tableswitch a b c d => exact xt_tableswitch X hd hT hl hk hI hE h hbud k
  case ifCond o off => cases hn; exact xt_ifCond X hd hT hl hk hI hE h hbud k
  case if_icmp o off => cases hn; exact xt_if_icmp X hd hT hl hk hI hE h hbud k
  case if_acmp o off =>
    cases hn
    cases o
    · exact xt_if_acmp_eq X hd hT hl hk hI hE h hbud k
    · exact xt_if_acmp_ne X hd hT hl hk hI hE h hbud k
  case getfield => cases hn; exact xt_getfield X hd hT hl hk hI hE h hbud k
  case putfield => cases hn; exact xt_putfield X hd hT hl hk hI hE h hbud k
  case iaload => cases hn; exact xt_iaload X hd hT hl hk hI hE h hbud k
  case laload => cases hn; exact xt_laload X hd hT hl hk hI hE h hbud k
  case caload => cases hn; exact xt_caload X hd hT hl hk hI hE h hbud k
  case daload => cases hn; exact xt_daload X hd hT hl hk hI hE h hbud k
  case aaload => cases hn; exact xt_aaload X hd hT hl hk hI hE h hbud k
  case iastore => cases hn; exact xt_iastore X hd hT hl hk hI hE h hbud k
  case lastore => cases hn; exact xt_lastore X hd hT hl hk hI hE h hbud k
  case castore => cases hn; exact xt_castore X hd hT hl hk hI hE h hbud k
  case dastore => cases hn; exact xt_dastore X hd hT hl hk hI hE h hbud k
  case aastore => cases hn; exact xt_aastore X hd hT hl hk hI hE h hbud k
  case arraylength => cases hn; exact xt_arraylength X hd hT hl hk hI hE h hbud k
  case newarray => cases hn; exact xt_newarray X hd hT hl hk hI hE h hbud k
  case anewarray => cases hn; exact xt_anewarray X hd hT hl hk hI hE h hbud k
  case new => cases hn; exact xt_new X hd hT hl hk hI hE h hbud k
  case checkcast => cases hn; exact xt_checkcast X hd hT hl hk hI hE h hbud k
  case ldc => cases hn; exact xt_ldc X hd hT hl hk hI hE h hbud k
  case ldc_w => cases hn; exact xt_ldc_w X hd hT hl hk hI hE h hbud k
  case ldc2_w => cases hn; exact xt_ldc2_w X hd hT hl hk hI hE h hbud k
  case getstatic => cases hn; exact xt_getstatic X hd hT hl hk hI hE h hbud k
  all_goals (cases h; done)
/-- System.arraycopy between arrays of longs, or of objects -/
theorem xcopy_ok {l : xL} {r : List xV} {A : xA} {nL idx kd n0 n1 : Nat} {cis : List Nat} {f g : Nat → xV} {z q : Nat × Nat} {sp dp n : Int32} (X : xCx p s m args meth c D cl TS own nm cc) (hml : c.maxLocals = nL) (hd : decode cc pc = .ok (.invokestatic idx, 3))
    (hw1 : Cond.methodLink own idx arraycopyName ∈ TS) (hw2 : Cond.native arraycopyName ∈ TS) (hw3 : Cond.static arraycopyName ∈ TS) (hw4 : Cond.initialized "java/lang/System" ∈ TS) (hw5 : ∀ ci ∈ cis, ∀ r : vw_C, cl[ci]? = some r → Cond.castable r.1 "java/lang/Object" ∈ TS)
    (hR : 1 ≤ R.frames ∧ 40 ≤ R.locals) (hl : lv_has ls nL (xlm ad l)) (hk : xok (xlv A.2.2.2) l r) (hI : xI s D cl B ad A.2.2.2 H locs) (hz : A.2.2.2 z = some (.inr (kd, n0, f))) (hq : A.2.2.2 q = some (.inr (kd, n1, g))) (hk14 : kd = 1 ∨ kd = 4) (hq0 : q.1 ≠ 0) (h1 : ¬ sp < 0) (h2 : ¬ dp < 0) (h3 : ¬ n < 0) (h4 : sp.toNatClampNeg + n.toNatClampNeg ≤ n0) (h5 : dp.toNatClampNeg + n.toNatClampNeg ≤ n1) (hck : xcpk A.2.2.2 cis kd f sp.toNatClampNeg n.toNatClampNeg = true) (hsum : (r.map xcat).sum ≤ 8)
    (k : xCont p l0 e R s m args below meth c D cl B ad A (A.1, A.2.1, A.2.2.1, xup A.2.2.2 q (.inr (kd, n1, xcpy f g sp.toNatClampNeg dp.toNatClampNeg n.toNatClampNeg))) l r nL (pc + 3) cells slots Q) :
    W p l0 e R s m args below meth c H locs cells slots Q (F0 m pc ls (.int n :: .int dp :: .ref (ad q) :: .int sp :: .ref (ad z) :: r.map (xc ad))) := by
  obtain ⟨hx, hb, hown, hts, hnm, hK, hcl⟩ := id X
  have nn : ∀ y : Int32, ¬ y < 0 → y.toInt = (y.toNatClampNeg : Int) := by
    intro y hy
    have hy0 : (0 : Int) ≤ y.toInt := by
      have := Int32.not_lt.mp hy
      simpa using Int32.le_iff_toInt_le.mp this
    show y.toInt = ((y.toInt.toNat : Nat) : Int)
    omega
  obtain ⟨cs, a1, a2, a3, a4, a5, a6⟩ := hI.1.1 z _ hz
  obtain ⟨cd, b1, b2, b3, b4, b5, b6⟩ := hI.1.1 q _ hq
  dsimp only at a2 a3 a5 a6 b2 b3 b5 b6
  obtain ⟨a21, ks, a22, sComp, a23⟩ := a2
  obtain ⟨b21, kd2, b22, dComp, b23⟩ := b2
  intro T hT X2
  have h8 : ((r.map (xc ad)).map fun v => v.category).sum ≤ 8 := by
    rw [List.map_map]
    rw [show ((fun v : Value => v.category) ∘ xc ad) = xcat from funext fun v => xc_cat ad v]
    exact hsum
  have hty : ((refKind (xak kd) != refKind (xak kd)) || (!refKind (xak kd) && xak kd != xak kd)) = false := by
    rcases hk14 with rfl | rfl <;> rfl
  have val : ∀ i, i < n.toNatClampNeg → cs.slots.getD (sp.toNatClampNeg + i) .null = xc ad (f (sp.toNatClampNeg + i)) := by
    intro i hi
    rw [Array.getD_eq_getD_getElem?, a6 _ (by omega)]
    rfl
  obtain ⟨vm', X', step⟩ := X2.arraycopy hx hown (hts _ hw1) (hts _ hw2) (hts _ hw3) (hts _ hw4) (src := ad z) (dst := ad q) (cs := cs) (cd := cd) (srcPos := sp) (destPos := dp) (n := n) (by rw [hT]; exact a1) (by rw [hT]; exact b1)
    a21 b21 a4 b4 a22 b22 a23 b23 hty h1 h2 h3
    (by rw [nn sp h1, nn n h3, a5]; omega)
    (by rw [nn dp h2, nn n h3, b5]; omega)
    (fun vm₁ hal i hi => by
      rw [val i hi]
      have hv := List.all_eq_true.mp hck i (List.mem_range.mpr hi)
      unfold xcpv at hv
      split at hv
      next e =>
        rw [e, Nat.eq_of_beq_eq_true hv]
        exact ⟨rfl, trivial⟩
      next y e =>
        rw [e, Nat.eq_of_beq_eq_true hv]
        exact ⟨rfl, trivial⟩
      next z2 e =>
        rw [Bool.and_eq_true] at hv
        obtain ⟨hv1, hv2⟩ := hv
        have hk4 := Nat.eq_of_beq_eq_true hv1
        split at hv2
        next ci fs hz2 =>
          obtain ⟨w, hc, hlen, cv, q1, q2, q3, q4⟩ := hI.1.1 z2 _ hz2
          have hcls := (hK.1 ci w hc).2
          obtain ⟨kC, hkC, -⟩ := hcls.2
          have hob := hw5 ci (xelem hv2) w hc
          subst hk4
          obtain ⟨kA, comp, k1, k2, k3, k4⟩ := (b3.resolve_left (by decide) : va_RA s cd.cls (.object "java/lang/Object"))
          cases Option.some.inj (b22.symm.trans k1)
          cases b23.symm.trans k2
          obtain ⟨kE, hkE, -⟩ := Vm.findClass_spec k3
          obtain ⟨kC', hkC', -⟩ := hal.2.2 _ _ hkC
          obtain ⟨kE', hkE', -⟩ := hal.2.2 _ _ hkE
          obtain ⟨c0, t0, f1, f2, f3⟩ := Cond.castable_spec (hts _ hob)
          cases Option.some.inj (hcls.1.symm.trans f1)
          cases Option.some.inj (k3.symm.trans f2)
          rw [e]
          refine ⟨rfl, cv, (show T.heap[ad z2]? = some cv by rw [hT]; exact q1), (fun y hy => by rw [q3] at hy; cases hy), ⟨kC', by rw [q2]; exact hkC'⟩, ⟨kE', hkE'⟩, ?_⟩
          show vm₁.assignable _ _ = true
          rw [hal.assignable, q2]
          exact f3
        next => cases hv2
      next => cases hv)
    (g := F0 m pc ls (.int n :: .int dp :: .ref (ad q) :: .int sp :: .ref (ad z) :: r.map (xc ad))) rfl (by rw [hml]; exact hl.1) (rest := r.map (xc ad)) rfl (by rw [hb]; exact hd) hR.1 (by
      have e9 : nativeFrameWords "java/lang/System" "arraycopy" 5 = 7 := by decide
      rw [e9]
      show 2 * 0 + _ + (7 + 11) ≤ _
      omega)
  have hsz : (copied cs cd sp dp n).slots.size = n1 := by
    rw [show copied cs cd sp dp n = cd.storeRun dp.toNatClampNeg (cs.stretch sp.toNatClampNeg n.toNatClampNeg) from rfl, (Cell.storeRun_facts _ _ _).2.2.1]
    exact b5
  have hln : (cs.stretch sp.toNatClampNeg n.toNatClampNeg).length = n.toNatClampNeg := by
    unfold Cell.stretch
    rw [List.length_map, List.length_range]
  have hget : ∀ j, j < n1 → (copied cs cd sp dp n).slots[j]? = some (xc ad (xcpy f g sp.toNatClampNeg dp.toNatClampNeg n.toNatClampNeg j)) := by
    intro j hj
    rw [show copied cs cd sp dp n = cd.storeRun dp.toNatClampNeg (cs.stretch sp.toNatClampNeg n.toNatClampNeg) from rfl, Cell.storeRun_get _ _ _ _ (by rw [hln, b5]; exact h5), hln]
    unfold xcpy
    by_cases hj2 : dp.toNatClampNeg ≤ j ∧ j < dp.toNatClampNeg + n.toNatClampNeg
    · rw [if_pos hj2, if_pos hj2]
      unfold Cell.stretch
      rw [List.getElem?_map, List.getElem?_range (by omega)]
      show some (cs.slots.getD (sp.toNatClampNeg + (j - dp.toNatClampNeg)) .null) = _
      rw [val (j - dp.toNatClampNeg) (by omega)]
    · rw [if_neg hj2, if_neg hj2]
      exact b6 j hj
  have hlq : ad q < H.size := (Array.getElem?_eq_some_iff.mp b1).1
  have hheap : ((T.setVm vm').setCell (ad q) (copied cs cd sp dp n)).heap = H.setIfInBounds (ad q) (copied cs cd sp dp n) := by rw [← hT]; rfl
  have oq : ∀ a : Nat, a ≠ ad q → (H.setIfInBounds (ad q) (copied cs cd sp dp n))[a]? = H[a]? := fun a ha => by simp [Array.getElem?_setIfInBounds, Ne.symm ha]
  have hcell : xcell s D cl ad (ad q) (.inr (kd, n1, xcpy f g sp.toNatClampNeg dp.toNatClampNeg n.toNatClampNeg)) (H.setIfInBounds (ad q) (copied cs cd sp dp n)) := by
    obtain ⟨f1, f2, -, -, -⟩ := Cell.storeRun_facts cd dp.toNatClampNeg (cs.stretch sp.toNatClampNeg n.toNatClampNeg)
    have f1 : (copied cs cd sp dp n).cls = cd.cls := f1
    have f2 : (copied cs cd sp dp n).vm = cd.vm := f2
    refine ⟨copied cs cd sp dp n, by simp [Array.getElem?_setIfInBounds, hlq], ⟨by rw [f2]; exact b21, kd2, by rw [f1]; exact b22, dComp, b23⟩, by rw [f1]; exact b3, by rw [f2]; exact b4, hsz, hget⟩
  have hol : xOl A.2.2.2 (.inr (kd, n1, xcpy f g sp.toNatClampNeg dp.toNatClampNeg n.toNatClampNeg)) := by
    intro j
    show xlv A.2.2.2 (xcpy f g sp.toNatClampNeg dp.toNatClampNeg n.toNatClampNeg j)
    unfold xcpy
    split
    · exact hI.1.2.2.2 z _ hz _
    · exact hI.1.2.2.2 q _ hq j
  have hrep := hI.1.put hq hcell oq hol
  have hBq : B ≤ ad q := hI.1.2.2.1 q (by rw [hq]; exact Option.some_ne_none _) hq0
  have hS : va_S (fun a => B ≤ a) s.heap (H.setIfInBounds (ad q) (copied cs cd sp dp n)) (locs ++ (cs.stretch sp.toNatClampNeg n.toNatClampNeg).zipIdx.map fun y => ⟨ad q, dp.toNatClampNeg + y.2⟩) := by
    refine ⟨by simp; exact hI.2.1.1, fun a g1 g2 => ?_, fun y hy => ?_⟩
    · rw [oq a (fun e => g2 (by rw [e]; exact hBq))]
      exact hI.2.1.2.1 a g1 g2
    · rcases List.mem_append.mp hy with hy | hy
      · exact hI.2.1.2.2 y hy
      · obtain ⟨w, -, hw⟩ := List.mem_map.mp hy
        rw [← hw]
        exact hBq
  obtain ⟨t, t1, t2⟩ := k ad _ _ ls cells slots (fun v hv => ⟨xup_lv hv, rfl⟩) (fun _ _ => rfl) ⟨hrep, hS, hI.2.2⟩ hl (xok_up hk) rfl rfl _ hheap X'
  exact ⟨t, step t t1, t2⟩
/-- one instruction that stays in its method is the machine's own -/
theorem xs_ok {l l2 : xL} {st st2 : List xV} {A A2 : xA} {nL pc2 n : Nat} {ops : List Nat} {i : Instr} (X : xCx p s m args meth c D cl TS own nm cc) (hml : c.maxLocals = nL) (hd : decode cc pc = .ok (i, n)) (hn : xdok i n) (hT : xT TS cl own nm i ops) (hT2 : xTc P TS cl own i ops) (hR : 1 ≤ R.frames ∧ 40 ≤ R.locals) (hl : lv_has ls nL (xlm ad l)) (hk : xok (xlv A.2.2.2) l st) (hI : xI s D cl B ad A.2.2.2 H locs) (hE : xE s B ad A.2.2.2) (h : xs nL i ops pc l st A = some (pc2, l2, st2, A2)) (hbud : cells + A2.2.1 ≤ R.cells + A.2.1 ∧ slots + A2.2.2.1 ≤ R.slots + A.2.2.1)
    (k : xCont p l0 e R s m args below meth c D cl B ad A A2 l2 st2 nL pc2 cells slots Q) : W p l0 e R s m args below meth c H locs cells slots Q (F0 m pc ls (st.map (xc ad))) := by
  obtain ⟨hx, hb, hown, hts, hnm, hK, hcl⟩ := id X
  unfold xs at h
  split at h
  next z hz =>
    cases h
    have hn1 := xs1_len hz hn
    subst hn1
    exact xs1_ok (Lv := xlv A.2.2.2) (fun _ => trivial) hx hb hd hl hk hz (fun ls2 hl2 hk2 => k.same hl2 hk2 hI)
  next =>
    split at h
    next z hz =>
      cases h
      exact xs2_ok X hd hn hT hl hk hI hE hz hbud k
    next =>
      split at h
      next q r =>
        split at h
        next hsum =>
          cases h
          cases hn
          obtain ⟨g1, g2, g3⟩ := hT2
          refine W.objInit hx hb hown (hts _ g1) (hts _ g2) (hts _ g3) rfl (by rw [hml]; exact hl.1) rfl hd hR.1 ?_ ?_
          · have h8 : ((st2.map (xc ad)).map fun v => v.category).sum ≤ 8 := by
              rw [List.map_map]
              rw [show ((fun v : Value => v.category) ∘ xc ad) = xcat from funext fun v => xc_cat ad v]
              exact hsum
            exact Nat.le_trans (Nat.add_le_add_right (lv_room h8) 12) (by omega)
          · exact k.same hl (xok_tl hk) hI
        next => cases h
      next y x r _ _ =>
        split at h
        next hsum =>
          cases h
          cases hn
          obtain ⟨g1, g2, g3, g4⟩ := hT2
          have h8 : ((r.map (xc ad)).map fun v => v.category).sum ≤ 8 := by
            rw [List.map_map]
            rw [show ((fun v : Value => v.category) ∘ xc ad) = xcat from funext fun v => xc_cat ad v]
            exact hsum
          exact va_mmax hx hb (hml.trans hl.1.symm) hown (hts _ g1) (hts _ g2) (hts _ g3) (hts _ g4) hR.1 (by omega) (by omega) (by omega) hd (k.same hl (xok_push (xok_tl (xok_tl hk)) trivial) hI)
        next => cases h
      next y x r _ _ =>
        split at h
        next hsum =>
          cases h
          cases hn
          obtain ⟨g1, g2, g3, g4⟩ := hT2
          have h8 : ((r.map (xc ad)).map fun v => v.category).sum ≤ 8 := by
            rw [List.map_map]
            rw [show ((fun v : Value => v.category) ∘ xc ad) = xcat from funext fun v => xc_cat ad v]
            exact hsum
          exact va_mmin hx hb (hml.trans hl.1.symm) hown (hts _ g1) (hts _ g2) (hts _ g3) (hts _ g4) hR.1 (by omega) (by omega) (by omega) hd (k.same hl (xok_push (xok_tl (xok_tl hk)) trivial) hI)
        next => cases h
      next x r _ _ =>
        split at h
        next hsum =>
          cases h
          cases hn
          obtain ⟨g1, g2, g3, g4⟩ := hT2
          have h8 : ((r.map (xc ad)).map fun v => v.category).sum ≤ 8 := by
            rw [List.map_map]
            rw [show ((fun v : Value => v.category) ∘ xc ad) = xcat from funext fun v => xc_cat ad v]
            exact hsum
          exact va_mabs hx hb (hml.trans hl.1.symm) hown (hts _ g1) (hts _ g2) (hts _ g3) (hts _ g4) hR.1 (by omega) (by omega) (by omega) hd (k.same hl (xok_push (xok_tl hk) trivial) hI)
        next => cases h
      next n dp q sp z r _ _ =>
        split at h
        next kd n0 f kd1 n1 g hz hq =>
          split at h
          next hg =>
            cases h
            cases hn
            obtain ⟨⟨hkd, hk14, hq0⟩, ⟨h1, h2, h3⟩, ⟨h4, h5⟩, hck, hsum⟩ := hg
            subst hkd
            obtain ⟨g1, g2, g3, g4, g5⟩ := hT2
            exact xcopy_ok X hml hd g1 g2 g3 g4 g5 hR hl (xok_tl (xok_tl (xok_tl (xok_tl (xok_tl hk))))) hI hz hq hk14 hq0 h1 h2 h3 h4 h5 hck hsum k
          next => cases h
        next => cases h
      next => cases h
end XSTEP
