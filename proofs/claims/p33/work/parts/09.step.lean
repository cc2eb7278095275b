set_option maxRecDepth 20000
section XSTEP
def xln (i : Instr) : Nat := match i with
  | .invokevirtual _ => 3
  | .invokespecial _ => 3
  | .invokestatic _ => 3
  | i => match xlen i with
    | 0 => xlen2 i
    | k + 1 => k + 1
/-- the length that decoding an instruction must give -/
def xdok (i : Instr) (n : Nat) : Prop := match i with
  | .tableswitch _ _ _ _ => True
  | i => n = xln i
theorem xs1_len {nL pc n : Nat} {i : Instr} {l : xL} {st : List xV} {z : Nat × xL × List xV} (h : xs1 nL i pc l st = some z) (hn : xdok i n) : n = xlen i := by
  cases i
  case fconst f =>
    match f, h, hn with
    | 0, h, hn => exact hn
    | 1, h, hn => exact hn
    | 2, h, hn => exact hn
  case dconst f =>
    match f, h, hn with
    | 0, h, hn => exact hn
    | 1, h, hn => exact hn
  all_goals first | exact hn | (cases h; done)
set_option maxHeartbeats 4000000 in
theorem xs2_mono {i : Instr} {ops : List Nat} {pc : Nat} {l : xL} {st : List xV} {A : xA} {z : Nat × xL × List xV × xA} (h : xs2 i ops pc l st A = some z) : A.2.1 ≤ z.2.2.2.2.1 ∧ A.2.2.1 ≤ z.2.2.2.2.2.1 := by
  obtain ⟨pc2, l2, st2, A2⟩ := z
  show A.2.1 ≤ A2.2.1 ∧ A.2.2.1 ≤ A2.2.2.1
  have sto : ∀ {q : Nat × Nat} {kd n want : Nat} {j : Int32} {f : Nat → xV} {v : xV} {A1 : xA}, xsto A q kd j n f want v = some A1 → A.2.1 ≤ A1.2.1 ∧ A.2.2.1 ≤ A1.2.2.1 := by
    intro q kd n want j f v A1 h
    unfold xsto at h
    split at h
    · cases h; exact ⟨Nat.le_refl _, Nat.le_refl _⟩
    · cases h
  cases i <;> simp only [xs2] at h
  all_goals (repeat' split at h)
  all_goals first
    | (cases h; done)
    | (cases h; exact ⟨Nat.le_refl _, Nat.le_refl _⟩)
    | (cases h; exact ⟨Nat.le_succ _, Nat.le_add_right _ _⟩)
    | (cases h; exact sto (by assumption))
    | (obtain ⟨_, _, _, _, rfl, _⟩ := xbr_ok h; exact ⟨Nat.le_refl _, Nat.le_refl _⟩)
    | (obtain ⟨_, _, _, rfl⟩ := xjmp_ok h; exact ⟨Nat.le_refl _, Nat.le_refl _⟩)
theorem xs_mono {nL : Nat} {i : Instr} {ops : List Nat} {pc : Nat} {l : xL} {st : List xV} {A : xA} {z : Nat × xL × List xV × xA} (h : xs nL i ops pc l st A = some z) : A.2.1 ≤ z.2.2.2.2.1 ∧ A.2.2.1 ≤ z.2.2.2.2.2.1 := by
  unfold xs at h
  split at h
  next => cases h; exact ⟨Nat.le_refl _, Nat.le_refl _⟩
  next =>
    split at h
    next h2 => cases h; exact xs2_mono h2
    next =>
      split at h
      next =>
        split at h
        next => cases h; exact ⟨Nat.le_refl _, Nat.le_refl _⟩
        next => cases h
      next =>
        split at h
        next => cases h; exact ⟨Nat.le_refl _, Nat.le_refl _⟩
        next => cases h
      next =>
        split at h
        next => cases h; exact ⟨Nat.le_refl _, Nat.le_refl _⟩
        next => cases h
      next =>
        split at h
        next => cases h; exact ⟨Nat.le_refl _, Nat.le_refl _⟩
        next => cases h
      next => cases h
variable {p : Program} {l0 : Launch} {e : Env} {R : Room} {s : State} {m : MethodId} {args : Array Value} {below : List Frame} {meth : Method} {c : Code} {H : Heap} {locs : List Loc} {cells slots : Nat} {Q : State → Prop}
variable {cc : ByteArray} {pc : Nat} {ls : Array Slot} {ad : xN} {D : va_G} {cl : List vw_C} {TS : List Cond} {own nm : String} {B : Nat} {SL : xSL} {P : xPr}
set_option maxHeartbeats 4000000 in
theorem xs2_ok {l l2 : xL} {st st2 : List xV} {A A2 : xA} {nL pc2 n : Nat} {ops : List Nat} {i : Instr} (X : xCx p s m args meth c D cl TS own nm cc) (hd : decode cc pc = .ok (i, n)) (hn : xdok i n) (hT : xT TS cl own nm i ops) (hl : lv_has ls nL (xlm ad l)) (hk : xok (xlv A.2.2.2) l st) (hI : xI s D cl B ad A.2.2.2 H locs) (hE : xE s B ad A.2.2.2) (h : xs2 i ops pc l st A = some (pc2, l2, st2, A2)) (hbud : cells + A2.2.1 ≤ R.cells + A.2.1 ∧ slots + A2.2.2.1 ≤ R.slots + A.2.2.1)
    (k : xCont p l0 e R s m args below meth c D cl B ad A A2 l2 st2 nL pc2 cells slots Q) : W p l0 e R s m args below meth c H locs cells slots Q (F0 m pc ls (st.map (xc ad))) := by
  cases i
  case tableswitch a b c d => exact xt_tableswitch X hd hT hl hk hI hE h hbud k
  case ifCond o off => cases hn; exact xt_ifCond X hd hT hl hk hI hE h hbud k
  case if_icmp o off => cases hn; exact xt_if_icmp X hd hT hl hk hI hE h hbud k
  case if_acmp o off =>
    cases hn
    cases o
    · exact xt_if_acmp_eq X hd hT hl hk hI hE h hbud k
    · exact xt_if_acmp_ne X hd hT hl hk hI hE h hbud k
  case getfield => cases hn; exact xt_getfield X hd hT hl hk hI hE h hbud k
  case putfield => cases hn; exact xt_putfield X hd hT hl hk hI hE h hbud k
  case iaload => cases hn; exact xt_iaload X hd hT hl hk hI hE h hbud k
  case laload => cases hn; exact xt_laload X hd hT hl hk hI hE h hbud k
  case caload => cases hn; exact xt_caload X hd hT hl hk hI hE h hbud k
  case daload => cases hn; exact xt_daload X hd hT hl hk hI hE h hbud k
  case aaload => cases hn; exact xt_aaload X hd hT hl hk hI hE h hbud k
  case iastore => cases hn; exact xt_iastore X hd hT hl hk hI hE h hbud k
  case lastore => cases hn; exact xt_lastore X hd hT hl hk hI hE h hbud k
  case castore => cases hn; exact xt_castore X hd hT hl hk hI hE h hbud k
  case dastore => cases hn; exact xt_dastore X hd hT hl hk hI hE h hbud k
  case aastore => cases hn; exact xt_aastore X hd hT hl hk hI hE h hbud k
  case arraylength => cases hn; exact xt_arraylength X hd hT hl hk hI hE h hbud k
  case newarray => cases hn; exact xt_newarray X hd hT hl hk hI hE h hbud k
  case anewarray => cases hn; exact xt_anewarray X hd hT hl hk hI hE h hbud k
  case new => cases hn; exact xt_new X hd hT hl hk hI hE h hbud k
  case checkcast => cases hn; exact xt_checkcast X hd hT hl hk hI hE h hbud k
  case ldc => cases hn; exact xt_ldc X hd hT hl hk hI hE h hbud k
  case ldc_w => cases hn; exact xt_ldc_w X hd hT hl hk hI hE h hbud k
  case ldc2_w => cases hn; exact xt_ldc2_w X hd hT hl hk hI hE h hbud k
  case getstatic => cases hn; exact xt_getstatic X hd hT hl hk hI hE h hbud k
  all_goals (cases h; done)
/-- one instruction that stays in its method is the machine's own -/
theorem xs_ok {l l2 : xL} {st st2 : List xV} {A A2 : xA} {nL pc2 n : Nat} {ops : List Nat} {i : Instr} (X : xCx p s m args meth c D cl TS own nm cc) (hml : c.maxLocals = nL) (hd : decode cc pc = .ok (i, n)) (hn : xdok i n) (hT : xT TS cl own nm i ops) (hT2 : xTc P TS cl own i ops) (hR : 1 ≤ R.frames ∧ 40 ≤ R.locals) (hl : lv_has ls nL (xlm ad l)) (hk : xok (xlv A.2.2.2) l st) (hI : xI s D cl B ad A.2.2.2 H locs) (hE : xE s B ad A.2.2.2) (h : xs nL i ops pc l st A = some (pc2, l2, st2, A2)) (hbud : cells + A2.2.1 ≤ R.cells + A.2.1 ∧ slots + A2.2.2.1 ≤ R.slots + A.2.2.1)
    (k : xCont p l0 e R s m args below meth c D cl B ad A A2 l2 st2 nL pc2 cells slots Q) : W p l0 e R s m args below meth c H locs cells slots Q (F0 m pc ls (st.map (xc ad))) := by
  obtain ⟨hx, hb, hown, hts, hnm, hK, hcl⟩ := id X
  unfold xs at h
  split at h
  next z hz =>
    cases h
    have hn1 := xs1_len hz hn
    subst hn1
    exact xs1_ok (Lv := xlv A.2.2.2) (fun _ => trivial) hx hb hd hl hk hz (fun ls2 hl2 hk2 => k.same hl2 hk2 hI)
  next =>
    split at h
    next z hz =>
      cases h
      exact xs2_ok X hd hn hT hl hk hI hE hz hbud k
    next =>
      split at h
      next q r =>
        split at h
        next hsum =>
          cases h
          cases hn
          obtain ⟨g1, g2, g3⟩ := hT2
          refine W.objInit hx hb hown (hts _ g1) (hts _ g2) (hts _ g3) rfl (by rw [hml]; exact hl.1) rfl hd hR.1 ?_ ?_
          · have h8 : ((st2.map (xc ad)).map fun v => v.category).sum ≤ 8 := by
              rw [List.map_map]
              rw [show ((fun v : Value => v.category) ∘ xc ad) = xcat from funext fun v => xc_cat ad v]
              exact hsum
            exact Nat.le_trans (Nat.add_le_add_right (lv_room h8) 12) (by omega)
          · exact k.same hl (xok_tl hk) hI
        next => cases h
      next y x r _ _ =>
        split at h
        next hsum =>
          cases h
          cases hn
          obtain ⟨g1, g2, g3, g4⟩ := hT2
          have h8 : ((r.map (xc ad)).map fun v => v.category).sum ≤ 8 := by
            rw [List.map_map]
            rw [show ((fun v : Value => v.category) ∘ xc ad) = xcat from funext fun v => xc_cat ad v]
            exact hsum
          exact va_mmax hx hb (hml.trans hl.1.symm) hown (hts _ g1) (hts _ g2) (hts _ g3) (hts _ g4) hR.1 (by omega) (by omega) (by omega) hd (k.same hl (xok_push (xok_tl (xok_tl hk)) trivial) hI)
        next => cases h
      next y x r _ _ =>
        split at h
        next hsum =>
          cases h
          cases hn
          obtain ⟨g1, g2, g3, g4⟩ := hT2
          have h8 : ((r.map (xc ad)).map fun v => v.category).sum ≤ 8 := by
            rw [List.map_map]
            rw [show ((fun v : Value => v.category) ∘ xc ad) = xcat from funext fun v => xc_cat ad v]
            exact hsum
          exact va_mmin hx hb (hml.trans hl.1.symm) hown (hts _ g1) (hts _ g2) (hts _ g3) (hts _ g4) hR.1 (by omega) (by omega) (by omega) hd (k.same hl (xok_push (xok_tl (xok_tl hk)) trivial) hI)
        next => cases h
      next x r _ _ =>
        split at h
        next hsum =>
          cases h
          cases hn
          obtain ⟨g1, g2, g3, g4⟩ := hT2
          have h8 : ((r.map (xc ad)).map fun v => v.category).sum ≤ 8 := by
            rw [List.map_map]
            rw [show ((fun v : Value => v.category) ∘ xc ad) = xcat from funext fun v => xc_cat ad v]
            exact hsum
          exact va_mabs hx hb (hml.trans hl.1.symm) hown (hts _ g1) (hts _ g2) (hts _ g3) (hts _ g4) hR.1 (by omega) (by omega) (by omega) hd (k.same hl (xok_push (xok_tl hk) trivial) hI)
        next => cases h
      next => cases h
end XSTEP
