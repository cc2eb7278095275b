set_option maxRecDepth 20000
section YSOK
variable {g : Nat → Int32}
theorem xs_of1 {nL : Nat} {i : Instr} {ops : List Nat} {pc : Nat} {l : xL} {st : List xV} {A : xA} {z : Nat × xL × List xV} (h : xs1 nL i pc l st = some z) : xs nL i ops pc l st A = some (z.1, z.2.1, z.2.2, A) := by
  unfold xs
  rw [h]
theorem xs_of2 {nL : Nat} {i : Instr} {ops : List Nat} {pc : Nat} {l : xL} {st : List xV} {A : xA} {z : Nat × xL × List xV × xA} (h1 : xs1 nL i pc l st = none) (h : xs2 i ops pc l st A = some z) : xs nL i ops pc l st A = some z := by
  unfold xs
  rw [h1, h]
theorem yjb_ok {b : Bool} {pc : Nat} {off : Int} {l : xL} {st : List xV} {T : yT} {pc2 : Nat} {l2 : xL} {st2 : List xV} {T2 : yT} (h : yjb b pc off l st T = some (pc2, l2, st2, T2)) : l2 = l ∧ st2 = st ∧ T2 = T ∧ ∀ (l' : xL) (st' : List xV) (A : xA), xbr b pc off l' st' A = some (pc2, l', st', A) := by
  unfold yjb at h
  split at h
  next hg =>
    split at h
    next hb =>
      cases h
      refine ⟨rfl, rfl, rfl, fun l' st' A => ?_⟩
      unfold xbr
      rw [if_pos hg, if_pos hb]
    next hb =>
      cases h
      refine ⟨rfl, rfl, rfl, fun l' st' A => ?_⟩
      unfold xbr
      rw [if_pos hg, if_neg hb]
  next => cases h
theorem ysu_int {v : xV} (h : yint v = true) : ∃ x, ysu g v = .inl (.int x) := by
  unfold yint at h
  split at h
  · exact ⟨_, rfl⟩
  · exact ⟨_, rfl⟩
  · cases h
theorem ysu_ref {v : xV} (h : yref v = true) : (v = .inl .null ∨ ∃ q, v = .inr q) ∧ ysu g v = v := by
  unfold yref at h
  split at h
  · exact ⟨Or.inl rfl, rfl⟩
  · exact ⟨Or.inr ⟨_, rfl⟩, rfl⟩
  · cases h
theorem ychar {x : Int32} : 0 ≤ (x.toUInt32 % 65536).toInt32 ∧ (x.toUInt32 % 65536).toInt32 ≤ 65535 := by
  have h1 : (x.toUInt32 % 65536).toNat < 65536 := by
    rw [UInt32.toNat_mod]
    exact Nat.mod_lt _ (by decide)
  generalize x.toUInt32 % 65536 = u at h1
  have h2 : u.toInt32.toInt = (u.toNat : Int) := by
    have h3 : u.toInt32 = Int32.ofNat u.toNat := by
      apply Int32.toBitVec_inj.mp
      simp
    rw [h3]
    exact Int32.toInt_ofNat_of_lt (by omega)
  rw [Int32.le_iff_toInt_le, Int32.le_iff_toInt_le, h2]
  have h4 : (0 : Int32).toInt = 0 := by decide
  have h5 : (65535 : Int32).toInt = 65535 := by decide
  rw [h4, h5]
  omega
theorem ychr (hg : ygood g) (k : Nat) (h2 : 10 ≤ k) (h3 : k < 20) : 0 ≤ g k ∧ g k ≤ 65535 := by
  obtain ⟨j, rfl⟩ := Nat.exists_eq_add_of_le h2
  rw [(hg j (by omega)).1]
  exact ychar
theorem yfit_ok (hg : ygood g) {t : Nat} {v : xV} (h : yfit t v = true) : xfit t (ysu g v) = true := by
  unfold yfit at h
  split at h
  next k =>
    show xfit t (.inl (.int (g k))) = true
    rcases Bool.or_eq_true _ _ ▸ h with h1 | h1
    · rw [Nat.eq_of_beq_eq_true h1]
      rfl
    · rw [Bool.and_eq_true, Bool.and_eq_true] at h1
      obtain ⟨h1, h2, h3⟩ := h1
      rw [Nat.eq_of_beq_eq_true h1]
      exact decide_eq_true (ychr hg k (Nat.le_of_ble_eq_true h2) (Nat.le_of_ble_eq_true h3))
  next hne =>
    have : ysu g v = v := by
      unfold ysu
      split
      next k => exact absurd rfl (hne k)
      next => rfl
    rw [this]
    exact h
set_option maxHeartbeats 2000000 in
theorem yw_ok {nL : Nat} {i : Instr} {pc : Nat} {l : xL} {st : List xV} {z : Nat × xL × List xV} (hw : yw i = true) (h : xs1 nL i pc l st = some z) : xs1 nL i pc (yl g l) (ys_ g st) = some (z.1, yl g z.2.1, ys_ g z.2.2) := by
  cases i
  case fconst f =>
    match f, h with
    | 0, h => cases h; rfl
    | 1, h => cases h; rfl
    | 2, h => cases h; rfl
  case dconst f =>
    match f, h with
    | 0, h => cases h; rfl
    | 1, h => cases h; rfl
  case iinc n c =>
    simp only [xs1] at h ⊢
    split at h
    next x hx =>
      by_cases hn : n < nL
      · rw [if_pos hn] at h
        cases h
        rw [yl_xl, hx]
        show (if n < nL then some (pc + 3, xst1 (yl g l) n (ysu g (.inl (.int (x + Int32.ofInt c)))), ys_ g st) else none) = _
        rw [if_pos hn, yl_xst1]
      · rw [if_neg hn] at h
        cases h
    next => cases h
  case goto off =>
    simp only [xs1] at h ⊢
    split at h
    next hc => cases h; rw [if_pos hc]
    next => cases h
  case dup =>
    simp only [xs1] at h
    split at h
    next v r =>
      by_cases hc : xcat v = 1
      · rw [if_pos hc] at h
        cases h
        show (if xcat (ysu g v) = 1 then some (pc + 1, yl g l, ysu g v :: ysu g v :: ys_ g r) else none) = _
        rw [ysu_cat, if_pos hc]
        rfl
      · rw [if_neg hc] at h
        cases h
    next => cases h
  case pop =>
    simp only [xs1] at h
    split at h
    next v r =>
      by_cases hc : xcat v = 1
      · rw [if_pos hc] at h
        cases h
        show (if xcat (ysu g v) = 1 then some (pc + 1, yl g l, ys_ g r) else none) = _
        rw [ysu_cat, if_pos hc]
      · rw [if_neg hc] at h
        cases h
    next => cases h
  case dup_x1 =>
    simp only [xs1] at h
    split at h
    next v w r =>
      by_cases hc : xcat v = 1 ∧ xcat w = 1
      · rw [if_pos hc] at h
        cases h
        show (if xcat (ysu g v) = 1 ∧ xcat (ysu g w) = 1 then some (pc + 1, yl g l, ysu g v :: ysu g w :: ysu g v :: ys_ g r) else none) = _
        rw [ysu_cat, ysu_cat, if_pos hc]
        rfl
      · rw [if_neg hc] at h
        cases h
    next => cases h
  case dup2 =>
    simp only [xs1] at h
    split at h
    next v w r =>
      by_cases hc : xcat v = 1 ∧ xcat w = 1
      · rw [if_pos hc] at h
        cases h
        show (if xcat (ysu g v) = 1 ∧ xcat (ysu g w) = 1 then some (pc + 1, yl g l, ysu g v :: ysu g w :: ysu g v :: ysu g w :: ys_ g r) else none) = _
        rw [ysu_cat, ysu_cat, if_pos hc]
        rfl
      · rw [if_neg hc] at h
        cases h
    next => cases h
  case idiv =>
    simp only [xs1] at h
    split at h
    next y x r =>
      by_cases hc : ¬ y = 0
      · rw [if_pos hc] at h
        cases h
        show (if ¬ y = 0 then some (pc + 1, yl g l, .inl (.int (x / y)) :: ys_ g r) else none) = _
        rw [if_pos hc]
        rfl
      · rw [if_neg hc] at h
        cases h
    next => cases h
  case irem =>
    simp only [xs1] at h
    split at h
    next y x r =>
      by_cases hc : ¬ y = 0
      · rw [if_pos hc] at h
        cases h
        show (if ¬ y = 0 then some (pc + 1, yl g l, .inl (.int (x - x / y * y)) :: ys_ g r) else none) = _
        rw [if_pos hc]
        rfl
      · rw [if_neg hc] at h
        cases h
    next => cases h
  case fstore_n n =>
    simp only [xs1] at h
    split at h
    next x r =>
      by_cases hc : n.val < nL
      · rw [if_pos hc] at h
        cases h
        show (if n.val < nL then some (pc + 1, xst1 (yl g l) n.val (ysu g (.inl (.float x))), ys_ g r) else none) = _
        rw [if_pos hc, yl_xst1]
      · rw [if_neg hc] at h
        cases h
    next => cases h
  case fstore n =>
    simp only [xs1] at h
    split at h
    next x r =>
      by_cases hc : n < nL
      · rw [if_pos hc] at h
        cases h
        show (if n < nL then some (pc + 2, xst1 (yl g l) n (ysu g (.inl (.float x))), ys_ g r) else none) = _
        rw [if_pos hc, yl_xst1]
      · rw [if_neg hc] at h
        cases h
    next => cases h
  case dstore_n n =>
    simp only [xs1] at h
    split at h
    next x r =>
      by_cases hc : n.val + 1 < nL
      · rw [if_pos hc] at h
        cases h
        show (if n.val + 1 < nL then some (pc + 1, xst2 (yl g l) n.val (ysu g (.inl (.double x))), ys_ g r) else none) = _
        rw [if_pos hc, yl_xst2]
      · rw [if_neg hc] at h
        cases h
    next => cases h
  case dstore n =>
    simp only [xs1] at h
    split at h
    next x r =>
      by_cases hc : n + 1 < nL
      · rw [if_pos hc] at h
        cases h
        show (if n + 1 < nL then some (pc + 2, xst2 (yl g l) n (ysu g (.inl (.double x))), ys_ g r) else none) = _
        rw [if_pos hc, yl_xst2]
      · rw [if_neg hc] at h
        cases h
    next => cases h
  case astore_n n =>
    simp only [xs1] at h
    split at h
    next r =>
      by_cases hc : n.val < nL
      · rw [if_pos hc] at h
        cases h
        show (if n.val < nL then some (pc + 1, xst1 (yl g l) n.val (ysu g (.inl .null)), ys_ g r) else none) = _
        rw [if_pos hc, yl_xst1]
      · rw [if_neg hc] at h
        cases h
    next q r =>
      by_cases hc : n.val < nL
      · rw [if_pos hc] at h
        cases h
        show (if n.val < nL then some (pc + 1, xst1 (yl g l) n.val (ysu g (.inr q)), ys_ g r) else none) = _
        rw [if_pos hc, yl_xst1]
      · rw [if_neg hc] at h
        cases h
    next => cases h
  case astore n =>
    simp only [xs1] at h
    split at h
    next r =>
      by_cases hc : n < nL
      · rw [if_pos hc] at h
        cases h
        show (if n < nL then some (pc + 2, xst1 (yl g l) n (ysu g (.inl .null)), ys_ g r) else none) = _
        rw [if_pos hc, yl_xst1]
      · rw [if_neg hc] at h
        cases h
    next q r =>
      by_cases hc : n < nL
      · rw [if_pos hc] at h
        cases h
        show (if n < nL then some (pc + 2, xst1 (yl g l) n (ysu g (.inr q)), ys_ g r) else none) = _
        rw [if_pos hc, yl_xst1]
      · rw [if_neg hc] at h
        cases h
    next => cases h
  all_goals first
    | (cases hw; done)
    | (cases h; rfl)
    | (simp only [xs1] at h
       split at h
       next => cases h; rfl
       next => cases h)
theorem yal_ok {want : Nat} {pc : Nat} {l : xL} {st : List xV} {T : yT} {A : xA} {pc2 : Nat} {l2 : xL} {st2 : List xV} {T2 : yT} (h : yal want pc l st T = some (pc2, l2, st2, T2)) (hR : yR g T A) : ∃ (j : Int32) (q : Nat × Nat) (r : List xV) (kd n : Nat) (f : Nat → xV), ys_ g st = .inl (.int j) :: .inr q :: ys_ g r ∧ A.2.2.2 q = some (.inr (kd, n, f)) ∧ xarr kd j n f want = some (f j.toNatClampNeg) ∧ pc2 = pc + 1 ∧ l2 = l ∧ ys_ g st2 = f j.toNatClampNeg :: ys_ g r ∧ T2 = T := by
  unfold yal at h
  split at h
  next j q r =>
    split at h
    next kd n d us hq =>
      split at h
      next hc =>
        cases h
        refine ⟨j, q, r, kd, n, fun j => ysu g (yau d us j), rfl, hR.look hq, ?_, rfl, rfl, rfl, rfl⟩
        unfold xarr
        exact if_pos (of_decide_eq_true hc)
      next => cases h
    next => cases h
  next => cases h
theorem yls_ok {g : Nat → Int32} {T : yT} {A : xA} (hR : yR g T A) {k kd n : Nat} {d : xV} {us : List (Nat × xV)} {j : Int32} {want : Nat} {v : xV} (hq : ylook T.2.2.2 (1, k) = some (.inr (kd, n, d, us))) (hc : yinS kd j n want = true) :
    ∃ A2, xsto A (1, k) kd j n (fun j => ysu g (yau d us j)) want (ysu g v) = some A2 ∧ yR g (T.1, T.2.1, T.2.2.1, yput T.2.2.2 k (.inr (kd, n, d, (j.toNatClampNeg, v) :: us))) A2 := by
  have hc := of_decide_eq_true hc
  refine ⟨_, if_pos ⟨hc.1, Nat.one_ne_zero, hc.2⟩, ?_⟩
  refine hR.put hq ?_
  show Sum.inr (kd, n, xfu (fun j => ysu g (yau d us j)) j.toNatClampNeg (ysu g v)) = (Sum.inr (kd, n, fun i => ysu g (yau d ((j.toNatClampNeg, v) :: us) i)) : xO)
  rw [yau_set]
theorem yd0 (g : Nat → Int32) (kd : Nat) : ysu g (.inl (defaultValue (xak kd))) = .inl (defaultValue (xak kd)) := by
  unfold xak
  split <;> rfl
theorem yx0 (g : Nat → Int32) (tc : List Nat) : (tc.map xd0).map (ysu g) = tc.map xd0 := by
  rw [List.map_map]
  refine List.map_congr_left fun t _ => ?_
  show ysu g (xd0 t) = xd0 t
  unfold xd0
  split <;> rfl
set_option maxHeartbeats 4000000 in
/-- one instruction of the symbolic machine is the small machine's, whatever the unknown numbers are -/
theorem ys_ok (hg : ygood g) {nL : Nat} {i : Instr} {ops : List Nat} {pc : Nat} {l : xL} {st : List xV} {T : yT} {A : xA} {pc2 : Nat} {l2 : xL} {st2 : List xV} {T2 : yT} (h : ys nL i ops pc l st T = some (pc2, l2, st2, T2)) (hR : yR g T A) : ∃ A2, xs nL i ops pc (yl g l) (ys_ g st) A = some (pc2, yl g l2, ys_ g st2, A2) ∧ yR g T2 A2 := by
  have gen : (if yw i = true then (match xs1 nL i pc l st with
    | some z => some (z.1, z.2.1, z.2.2, T)
    | none => none) else none) = some (pc2, l2, st2, T2) → ∃ A2, xs nL i ops pc (yl g l) (ys_ g st) A = some (pc2, yl g l2, ys_ g st2, A2) ∧ yR g T2 A2 := by
    intro h
    split at h
    next hw =>
      split at h
      next z hz =>
        cases h
        exact ⟨A, xs_of1 (yw_ok hw hz), hR⟩
      next => cases h
    next => cases h
  have ild : ∀ (n p : Nat) (v : xV), xl l n = some v → yint v = true → ∃ x, ysu g v = .inl (.int x) ∧ xl (yl g l) n = some (.inl (.int x)) := by
    intro n p v hv hi
    obtain ⟨x, hx⟩ := ysu_int (g := g) hi
    exact ⟨x, hx, by rw [yl_xl, hv, Option.map_some, hx]⟩
  cases i
  case iload_n n =>
    simp only [ys] at h
    split at h
    next v hv =>
      split at h
      next hi =>
        cases h
        obtain ⟨x, hx, hl⟩ := ild n.val 0 v hv hi
        refine ⟨A, xs_of1 (z := (pc + 1, yl g l, ys_ g (v :: st))) ?_, hR⟩
        simp only [xs1]
        rw [hl]
        show some (pc + 1, yl g l, _ :: ys_ g st) = some (pc + 1, yl g l, ysu g v :: ys_ g st)
        rw [hx]
      next => cases h
    next => cases h
  case iload n =>
    simp only [ys] at h
    split at h
    next v hv =>
      split at h
      next hi =>
        cases h
        obtain ⟨x, hx, hl⟩ := ild n 0 v hv hi
        refine ⟨A, xs_of1 (z := (pc + 2, yl g l, ys_ g (v :: st))) ?_, hR⟩
        simp only [xs1]
        rw [hl]
        show some (pc + 2, yl g l, _ :: ys_ g st) = some (pc + 2, yl g l, ysu g v :: ys_ g st)
        rw [hx]
      next => cases h
    next => cases h
  case aload_n n =>
    simp only [ys] at h
    split at h
    next v hv =>
      split at h
      next hi =>
        cases h
        obtain ⟨hc, hx⟩ := ysu_ref (g := g) hi
        refine ⟨A, xs_of1 (z := (pc + 1, yl g l, ys_ g (v :: st))) ?_, hR⟩
        simp only [xs1]
        rw [yl_xl, hv, Option.map_some]
        show _ = some (pc + 1, yl g l, ysu g v :: ys_ g st)
        rw [hx]
        rcases hc with rfl | ⟨q, rfl⟩ <;> rfl
      next => cases h
    next => cases h
  case aload n =>
    simp only [ys] at h
    split at h
    next v hv =>
      split at h
      next hi =>
        cases h
        obtain ⟨hc, hx⟩ := ysu_ref (g := g) hi
        refine ⟨A, xs_of1 (z := (pc + 2, yl g l, ys_ g (v :: st))) ?_, hR⟩
        simp only [xs1]
        rw [yl_xl, hv, Option.map_some]
        show _ = some (pc + 2, yl g l, ysu g v :: ys_ g st)
        rw [hx]
        rcases hc with rfl | ⟨q, rfl⟩ <;> rfl
      next => cases h
    next => cases h
  case istore_n n =>
    simp only [ys] at h
    split at h
    next v r =>
      split at h
      next hi =>
        cases h
        obtain ⟨x, hx⟩ := ysu_int (g := g) hi.1
        refine ⟨A, xs_of1 (z := (pc + 1, yl g (xst1 l n.val v), ys_ g st2)) ?_, hR⟩
        simp only [xs1]
        show (match ysu g v :: ys_ g st2 with | .inl (.int x) :: r => if n.val < nL then some (pc + 1, xst1 (yl g l) n.val (.inl (.int x)), r) else none | _ => none) = _
        rw [← yl_xst1, hx]
        exact if_pos hi.2
      next => cases h
    next => cases h
  case istore n =>
    simp only [ys] at h
    split at h
    next v r =>
      split at h
      next hi =>
        cases h
        obtain ⟨x, hx⟩ := ysu_int (g := g) hi.1
        refine ⟨A, xs_of1 (z := (pc + 2, yl g (xst1 l n v), ys_ g st2)) ?_, hR⟩
        simp only [xs1]
        show (match ysu g v :: ys_ g st2 with | .inl (.int x) :: r => if n < nL then some (pc + 2, xst1 (yl g l) n (.inl (.int x)), r) else none | _ => none) = _
        rw [← yl_xst1, hx]
        exact if_pos hi.2
      next => cases h
    next => cases h
  case i2c =>
    simp only [ys] at h
    split at h
    next k r =>
      split at h
      next hk =>
        cases h
        refine ⟨A, xs_of1 (z := (pc + 1, yl g l, ys_ g (.inl (.ref (10 + k)) :: r))) ?_, hR⟩
        simp only [xs1]
        show some (pc + 1, yl g l, .inl (.int ((g k).toUInt32 % 65536).toInt32) :: ys_ g r) = some (pc + 1, yl g l, .inl (.int (g (10 + k))) :: ys_ g r)
        rw [(hg k hk).1]
      next => cases h
    next x r =>
      cases h
      exact ⟨A, xs_of1 (z := (pc + 1, yl g l, ys_ g (.inl (.int (x.toUInt32 % 65536).toInt32) :: r))) rfl, hR⟩
    next => cases h
  case iand =>
    simp only [ys] at h
    split at h
    next y k r =>
      split at h
      next hk =>
        cases h
        obtain ⟨rfl, hk⟩ := hk
        refine ⟨A, xs_of1 (z := (pc + 1, yl g l, ys_ g (.inl (.ref (20 + k)) :: r))) ?_, hR⟩
        simp only [xs1]
        show some (pc + 1, yl g l, .inl (.int (g k &&& 31)) :: ys_ g r) = some (pc + 1, yl g l, .inl (.int (g (20 + k))) :: ys_ g r)
        rw [(hg k hk).2]
      next => cases h
    next y x r =>
      cases h
      exact ⟨A, xs_of1 (z := (pc + 1, yl g l, ys_ g (.inl (.int (x &&& y)) :: r))) rfl, hR⟩
    next => cases h
  case ifCond o off =>
    simp only [ys] at h
    split at h
    next x r =>
      obtain ⟨rfl, rfl, rfl, hb⟩ := yjb_ok h
      exact ⟨A, xs_of2 rfl (hb _ _ A), hR⟩
    next => cases h
  case if_icmp o off =>
    simp only [ys] at h
    split at h
    next y x r =>
      obtain ⟨rfl, rfl, rfl, hb⟩ := yjb_ok h
      exact ⟨A, xs_of2 rfl (hb _ _ A), hR⟩
    next => cases h
  case if_acmp o off =>
    cases o
    · simp only [ys] at h
      split at h
      next q z r =>
        obtain ⟨rfl, rfl, rfl, hb⟩ := yjb_ok h
        exact ⟨A, xs_of2 rfl (hb _ _ A), hR⟩
      next => cases h
    · simp only [ys] at h
      split at h
      next q z r =>
        obtain ⟨rfl, rfl, rfl, hb⟩ := yjb_ok h
        exact ⟨A, xs_of2 rfl (hb _ _ A), hR⟩
      next => cases h
  case tableswitch dflt lo hi offs =>
    simp only [ys] at h
    split at h
    next x r =>
      split at h
      next hx =>
        split at h
        next hp =>
          cases h
          refine ⟨A, xs_of2 rfl ?_, hR⟩
          show (if x.toInt < lo ∨ hi < x.toInt then xjmp pc dflt (yl g l) (ys_ g st2) A else _) = _
          rw [if_pos hx]
          exact if_pos hp
        next => cases h
      next hx =>
        split at h
        next off ho =>
          split at h
          next hp =>
            cases h
            refine ⟨A, xs_of2 rfl ?_, hR⟩
            show (if x.toInt < lo ∨ hi < x.toInt then _ else (match offs[(x.toInt - lo).toNat]? with
              | some off => xjmp pc off (yl g l) (ys_ g st2) A
              | none => none)) = _
            rw [if_neg hx, ho]
            exact if_pos hp
          next => cases h
        next => cases h
    next => cases h
  case getfield idx =>
    simp only [ys] at h
    split at h
    next q r =>
      split at h
      next ci fs hq =>
        split at h
        next kx cis =>
          split at h
          next hc =>
            split at h
            next v hv =>
              split at h
              next => cases h
              next hh =>
                cases h
                refine ⟨A, xs_of2 rfl ?_, hR⟩
                obtain ⟨fs2, hA, hlen, hf⟩ := hR.lookO hq
                show (match A.2.2.2 q with
                  | some (.inl (ci, fs)) => if cis.elem ci = true then (match fs[kx]? with
                    | some v => some (pc + 3, yl g l, v :: ys_ g r, A)
                    | none => none) else none
                  | _ => none) = _
                rw [hA]
                show (if cis.elem ci = true then (match fs2[kx]? with
                    | some v => some (pc + 3, yl g l, v :: ys_ g r, A)
                    | none => none) else none) = _
                rw [yg_eq] at hv
                rw [if_pos hc, hf kx v hv (fun z => hh (by rw [z]; rfl))]
                rfl
            next => cases h
          next => cases h
        next => cases h
      next => cases h
    next => cases h
  case putfield idx =>
    simp only [ys] at h
    split at h
    next v k r =>
      split at h
      next ci fs hq =>
        split at h
        next kx t cis =>
          split at h
          next hc =>
            cases h
            obtain ⟨fs2, hA, hlen, hf⟩ := hR.lookO hq
            have hP := hR.put (o1 := .inl (ci, yp fs kx v)) (x1 := .inl (ci, fs2.set kx (ysu g v))) hq (by
              refine ⟨_, rfl, ?_, fun j u hj hu => ?_⟩
              · rw [yp_eq, List.length_set, List.length_set, hlen]
              · have hj : (yp fs kx v)[j]? = some u := hj
                rw [yp_eq] at hj
                by_cases e : kx = j
                · subst e
                  rw [List.getElem?_set_self'] at hj ⊢
                  cases hfx : fs[kx]? with
                  | none => rw [hfx] at hj; cases hj
                  | some y =>
                    rw [hfx] at hj
                    cases hj
                    have h1 : kx < fs2.length := by rw [hlen]; exact (List.getElem?_eq_some_iff.mp hfx).1
                    rw [List.getElem?_eq_getElem h1]
                    rfl
                · rw [List.getElem?_set_ne e] at hj ⊢
                  exact hf j u hj hu)
            refine ⟨_, xs_of2 rfl ?_, hP⟩
            show (match A.2.2.2 (1, k) with
              | some (.inl (ci, fs)) => if cis.elem ci = true ∧ ((1 : Nat), k).1 ≠ 0 ∧ xfit t (ysu g v) = true then some (pc + 3, yl g l, ys_ g st2, (A.1, A.2.1, A.2.2.1, xup A.2.2.2 (1, k) (.inl (ci, fs.set kx (ysu g v))))) else none
              | _ => none) = _
            rw [hA]
            show (if cis.elem ci = true ∧ ((1 : Nat), k).1 ≠ 0 ∧ xfit t (ysu g v) = true then some (pc + 3, yl g l, ys_ g st2, (A.1, A.2.1, A.2.2.1, xup A.2.2.2 (1, k) (.inl (ci, fs2.set kx (ysu g v))))) else none) = _
            rw [if_pos ⟨hc.1, Nat.one_ne_zero, yfit_ok hg hc.2⟩]
          next => cases h
        next => cases h
      next => cases h
    next => cases h
  case iaload =>
    obtain ⟨j, q, r, kd, n, f, e1, e2, e3, rfl, rfl, e4, rfl⟩ := yal_ok h hR
    refine ⟨A, xs_of2 (by rw [e1]; rfl) ?_, hR⟩
    rw [e1, e4]
    simp only [xs2]
    rw [e2]
    dsimp only
    rw [e3]
  case laload =>
    obtain ⟨j, q, r, kd, n, f, e1, e2, e3, rfl, rfl, e4, rfl⟩ := yal_ok h hR
    refine ⟨A, xs_of2 (by rw [e1]; rfl) ?_, hR⟩
    rw [e1, e4]
    simp only [xs2]
    rw [e2]
    dsimp only
    rw [e3]
  case caload =>
    obtain ⟨j, q, r, kd, n, f, e1, e2, e3, rfl, rfl, e4, rfl⟩ := yal_ok h hR
    refine ⟨A, xs_of2 (by rw [e1]; rfl) ?_, hR⟩
    rw [e1, e4]
    simp only [xs2]
    rw [e2]
    dsimp only
    rw [e3]
  case daload =>
    obtain ⟨j, q, r, kd, n, f, e1, e2, e3, rfl, rfl, e4, rfl⟩ := yal_ok h hR
    refine ⟨A, xs_of2 (by rw [e1]; rfl) ?_, hR⟩
    rw [e1, e4]
    simp only [xs2]
    rw [e2]
    dsimp only
    rw [e3]
  case aaload =>
    simp only [ys] at h
    split at h
    next j q r =>
      split at h
      next kd n d us hq =>
        by_cases hc : yin kd j n (if kd = 5 then 5 else 4) = true
        · rw [if_pos hc] at h
          cases h
          refine ⟨A, xs_of2 rfl ?_, hR⟩
          have hA := hR.look hq
          show (match A.2.2.2 q with
            | some (.inr (kd, n, f)) => match xarr kd j n f (if kd = 5 then 5 else 4) with
              | some v => some (pc + 1, yl g l, v :: ys_ g r, A)
              | none => none
            | _ => none) = _
          rw [hA]
          show (match xarr kd j n (fun j => ysu g (yau d us j)) (if kd = 5 then 5 else 4) with
              | some v => some (pc + 1, yl g l, v :: ys_ g r, A)
              | none => none) = _
          have e3 : xarr kd j n (fun j => ysu g (yau d us j)) (if kd = 5 then 5 else 4) = some (ysu g (yau d us j.toNatClampNeg)) := by
            unfold xarr
            exact if_pos (of_decide_eq_true hc)
          rw [e3]
          rfl
        · rw [if_neg hc] at h
          cases h
      next => cases h
    next => cases h
  case iastore =>
    simp only [ys] at h
    split at h
    next v j k r =>
      split at h
      next kd n d us hq =>
        split at h
        next hc =>
          cases h
          obtain ⟨A2, e1, hR2⟩ := yls_ok (v := v) hR hq hc.2
          refine ⟨A2, xs_of2 rfl ?_, hR2⟩
          obtain ⟨x, hx⟩ := ysu_int (g := g) hc.1
          show xs2 .iastore ops pc (yl g l) (ysu g v :: .inl (.int j) :: .inr (1, k) :: ys_ g st2) A = _
          rw [hx] at e1 ⊢
          simp only [xs2]
          rw [hR.look hq]
          show (match xsto A (1, k) kd j n (fun j => ysu g (yau d us j)) 0 (.inl (.int x)) with
            | some A1 => some (pc + 1, yl g l, ys_ g st2, A1)
            | none => none) = _
          rw [e1]
        next => cases h
      next => cases h
    next => cases h
  case lastore =>
    simp only [ys] at h
    split at h
    next x j k r =>
      split at h
      next kd n d us hq =>
        split at h
        next hc =>
          cases h
          obtain ⟨A2, e1, hR2⟩ := yls_ok (v := .inl (.long x)) hR hq hc
          refine ⟨A2, xs_of2 rfl ?_, hR2⟩
          show xs2 .lastore ops pc (yl g l) (.inl (.long x) :: .inl (.int j) :: .inr (1, k) :: ys_ g st2) A = _
          simp only [xs2]
          rw [hR.look hq]
          show (match xsto A (1, k) kd j n (fun j => ysu g (yau d us j)) 1 (ysu g (.inl (.long x))) with
            | some A1 => some (pc + 1, yl g l, ys_ g st2, A1)
            | none => none) = _
          rw [e1]
        next => cases h
      next => cases h
    next => cases h
  case castore =>
    simp only [ys] at h
    split at h
    next v j k r =>
      split at h
      next kd n d us hq =>
        split at h
        next hc =>
          cases h
          obtain ⟨A2, e1, hR2⟩ := yls_ok (v := v) hR hq hc.2
          refine ⟨A2, xs_of2 rfl ?_, hR2⟩
          have hf := yfit_ok hg hc.1
          obtain ⟨x, hx, hb⟩ : ∃ x, ysu g v = .inl (.int x) ∧ 0 ≤ x ∧ x ≤ 65535 := by
            generalize ysu g v = u at hf
            unfold xfit at hf
            split at hf
            all_goals first
              | (cases hf; done)
              | (rename_i h0; cases h0; done)
              | (rename_i x h0; exact ⟨x, rfl, of_decide_eq_true hf⟩)
              | exact ⟨_, rfl, of_decide_eq_true hf⟩
          show xs2 .castore ops pc (yl g l) (ysu g v :: .inl (.int j) :: .inr (1, k) :: ys_ g st2) A = _
          rw [hx] at e1 ⊢
          simp only [xs2]
          rw [hR.look hq]
          show (if 0 ≤ x ∧ x ≤ 65535 then (match xsto A (1, k) kd j n (fun j => ysu g (yau d us j)) 2 (.inl (.int x)) with
            | some A1 => some (pc + 1, yl g l, ys_ g st2, A1)
            | none => none) else none) = _
          rw [if_pos hb, e1]
        next => cases h
      next => cases h
    next => cases h
  case aastore =>
    simp only [ys] at h
    split at h
    next z j k r =>
      split at h
      next kd n d us ci fs hq hz =>
        split at h
        next hc =>
          cases h
          obtain ⟨A2, e1, hR2⟩ := yls_ok (v := .inr z) hR hq hc.2
          refine ⟨A2, xs_of2 rfl ?_, hR2⟩
          show xs2 .aastore ops pc (yl g l) (.inr z :: .inl (.int j) :: .inr (1, k) :: ys_ g st2) A = _
          simp only [xs2]
          obtain ⟨fz, hz2, -⟩ := hR.lookO hz
          rw [hR.look hq, hz2]
          show (if ops.elem ci = true ∧ (kd = 4 ∨ kd = 5 ∧ ops[0]? = some ci) then (match xsto A (1, k) kd j n (fun j => ysu g (yau d us j)) kd (ysu g (.inr z)) with
            | some A1 => some (pc + 1, yl g l, ys_ g st2, A1)
            | none => none) else none) = _
          rw [if_pos hc.1, e1]
        next => cases h
      next => cases h
    next => cases h
  case arraylength =>
    simp only [ys] at h
    split at h
    next q r =>
      split at h
      next kd n w hq =>
        cases h
        refine ⟨A, xs_of2 rfl ?_, hR⟩
        show xs2 .arraylength ops pc (yl g l) (.inr q :: ys_ g r) A = _
        simp only [xs2]
        rw [hR.look hq]
        rfl
      next => cases h
    next => cases h
  case newarray ty =>
    simp only [ys] at h
    split at h
    next n r kd =>
      split at h
      next hc =>
        cases h
        have hN := hR.new hc.2 (o1 := .inr (kd, n.toNatClampNeg, .inl (defaultValue (xak kd)), [])) (Nat.le_refl n.toNatClampNeg) (yrel_self g _)
        refine ⟨_, xs_of2 rfl ?_, hN⟩
        show xs2 (.newarray ty) [kd] pc (yl g l) (.inl (.int n) :: ys_ g r) A = _
        simp only [xs2]
        rw [hR.names hc.2]
        dsimp only
        rw [if_pos ⟨hc.1.1, hc.1.2, by rw [hR.2.2.2.2 _ (Nat.le_refl _)]; rfl, Nat.one_ne_zero⟩]
        unfold yOs yau
        dsimp only
        rw [yd0]
        rfl
      next => cases h
    next => cases h
  case anewarray ty =>
    simp only [ys] at h
    split at h
    next n r kd =>
      split at h
      next hc =>
        cases h
        have hN := hR.new hc.2 (o1 := .inr (kd, n.toNatClampNeg, .inl .null, [])) (Nat.le_refl n.toNatClampNeg) (yrel_self g _)
        refine ⟨_, xs_of2 rfl ?_, hN⟩
        show xs2 (.anewarray ty) [kd] pc (yl g l) (.inl (.int n) :: ys_ g r) A = _
        simp only [xs2]
        rw [hR.names hc.2]
        dsimp only
        rw [if_pos ⟨hc.1.1, hc.1.2, by rw [hR.2.2.2.2 _ (Nat.le_refl _)]; rfl, Nat.one_ne_zero⟩]
        rfl
      next => cases h
    next => cases h
  case new ty =>
    simp only [ys] at h
    split at h
    next ci tc =>
      split at h
      next hc =>
        cases h
        have hN := hR.new hc (o1 := .inl (ci, tc.map xd0)) (Nat.le_refl tc.length) (yrel_self g _)
        refine ⟨_, xs_of2 rfl ?_, hN⟩
        show xs2 (.new ty) (ci :: tc) pc (yl g l) (ys_ g st) A = _
        simp only [xs2]
        rw [hR.names hc]
        dsimp only
        rw [if_pos ⟨by rw [hR.2.2.2.2 _ (Nat.le_refl _)]; rfl, Nat.one_ne_zero⟩]
        unfold yOs
        dsimp only
        rw [yx0]
        rfl
      next => cases h
    next => cases h
  case checkcast ty =>
    simp only [ys] at h
    split at h
    next q r =>
      split at h
      next ci fs hq =>
        split at h
        next hc =>
          cases h
          refine ⟨A, xs_of2 rfl ?_, hR⟩
          show xs2 (.checkcast ty) ops pc (yl g l) (.inr q :: ys_ g r) A = _
          simp only [xs2]
          obtain ⟨f2, hq2, -⟩ := hR.lookO hq
          rw [hq2]
          exact if_pos hc
        next => cases h
      next => cases h
    next => cases h
  case getstatic ty =>
    simp only [ys] at h
    split at h
    next hc =>
      cases h
      exact ⟨A, xs_of2 rfl (if_pos hc), hR⟩
    next => cases h
  case invokespecial ty =>
    simp only [ys] at h
    split at h
    next q r =>
      split at h
      next hc =>
        cases h
        refine ⟨A, ?_, hR⟩
        show (if ((ys_ g st2).map xcat).sum ≤ 8 then some (pc + 3, yl g l, ys_ g st2, A) else none) = _
        exact if_pos (by rw [ys_sum]; exact hc)
      next => cases h
    next => cases h
  case invokestatic ty =>
    simp only [ys] at h
    split at h
    next y x r =>
      by_cases hc : (r.map xcat).sum ≤ 8
      · rw [if_pos hc] at h
        cases h
        refine ⟨A, ?_, hR⟩
        show (if ((ys_ g r).map xcat).sum ≤ 8 then some (pc + 3, yl g l, (Sum.inl (Value.int (if x < y then y else x)) : xV) :: ys_ g r, A) else none) = _
        rw [if_pos (by rw [ys_sum]; exact hc)]
        rfl
      · rw [if_neg hc] at h
        cases h
    next y x r =>
      by_cases hc : (r.map xcat).sum ≤ 8
      · rw [if_pos hc] at h
        cases h
        refine ⟨A, ?_, hR⟩
        show (if ((ys_ g r).map xcat).sum ≤ 8 then some (pc + 3, yl g l, (Sum.inl (Value.int (if y < x then y else x)) : xV) :: ys_ g r, A) else none) = _
        rw [if_pos (by rw [ys_sum]; exact hc)]
        rfl
      · rw [if_neg hc] at h
        cases h
    next => cases h
  all_goals exact gen h
end YSOK
