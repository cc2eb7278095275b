set_option maxRecDepth 20000
section YRUNOK
variable {g : Nat → Int32}
def yct : Nat → Nat → List xV → xA → Option (xR × xA) := fun _ _ _ _ => none
/-- more fuel does no harm -/
theorem xrun_more {P : xPr} : ∀ (n d mid pc : Nat) (l : xL) (st : List xV) (A : xA) (z : xR × xA), xrun P yct n d mid pc l st A = some z → xrun P yct (n + 1) d mid pc l st A = some z := by
  intro n
  induction n with
  | zero =>
    intro d mid pc l st A z h
    cases h
  | succ n ih =>
    intro d mid pc l st A z h
    unfold xrun at h ⊢
    split at h
    next => cases h
    next i ops hP =>
      try rw [hP]
      try dsimp only
      split at h
      next v hv =>
        first | exact h | (rw [hv]; exact h)
      next hv =>
        try rw [hv]
        try dsimp only
        split at h
        next E hE =>
          try rw [hE]
          exact h
        next hE =>
          try rw [hE]
          try dsimp only
          split at h
          next y hy =>
            try rw [hy]
            exact ih _ _ _ _ _ _ _ h
          next hy =>
            try rw [hy]
            try dsimp only
            split at h
            next mid2 as rest d2 hi =>
              try rw [hi]
              try dsimp only
              by_cases hw : (as.map xcat).sum ≤ (P.2.1 mid2).2.2.1 ∧ (rest.map xcat).sum ≤ 8
              · rw [if_pos hw] at h ⊢
                simp only [yct] at h ⊢
                split at h
                next v A2 hr =>
                  rw [ih _ _ _ _ _ _ _ hr]
                  exact ih _ _ _ _ _ _ _ h
                next E A2 hr =>
                  rw [ih _ _ _ _ _ _ _ hr]
                  try dsimp only
                  split at h
                  next hpc ln k hh =>
                    try rw [hh]
                    exact ih _ _ _ _ _ _ _ h
                  next hh =>
                    try rw [hh]
                    exact h
                next => cases h
              · rw [if_neg hw] at h
                cases h
            next hne =>
              cases h
theorem xrun_mono {P : xPr} {n k d mid pc : Nat} {l : xL} {st : List xV} {A : xA} {z : xR × xA} (h : xrun P yct n d mid pc l st A = some z) : xrun P yct (n + k) d mid pc l st A = some z := by
  induction k with
  | zero => exact h
  | succ k ih => exact xrun_more _ _ _ _ _ _ _ _ ih
theorem yret_ok {rt : Option FieldType} {i : Instr} {st : List xV} {v : Option xV} (h : yret rt i st = some v) : xret rt i (ys_ g st) = some (v.map (ysu g)) := by
  unfold yret at h
  split at h
  next =>
    split at h
    next k =>
      split at h
      next => cases h; rfl
      next => cases h
    next x =>
      split at h
      next => cases h; rfl
      next =>
        by_cases hx : x = 0 ∨ x = 1
        · rw [if_pos hx] at h
          cases h
          show (if x = 0 ∨ x = 1 then some (some (Sum.inl (Value.int x) : xV)) else none) = _
          rw [if_pos hx]
          rfl
        · rw [if_neg hx] at h
          cases h
      next => cases h
    next => cases h
  next hne =>
    unfold xret at h
    split at h
    next => exact absurd rfl hne
    next =>
      split at h
      next x =>
        by_cases hx : rt = some .long
        · rw [if_pos hx] at h
          cases h
          show (if rt = some FieldType.long then some (some (Sum.inl (Value.long x) : xV)) else none) = _
          rw [if_pos hx]
          rfl
        · rw [if_neg hx] at h
          cases h
      next => cases h
    next =>
      split at h
      next x =>
        by_cases hx : rt = some .float
        · rw [if_pos hx] at h
          cases h
          show (if rt = some FieldType.float then some (some (Sum.inl (Value.float x) : xV)) else none) = _
          rw [if_pos hx]
          rfl
        · rw [if_neg hx] at h
          cases h
      next => cases h
    next =>
      split at h
      next x =>
        by_cases hx : rt = some .double
        · rw [if_pos hx] at h
          cases h
          show (if rt = some FieldType.double then some (some (Sum.inl (Value.double x) : xV)) else none) = _
          rw [if_pos hx]
          rfl
        · rw [if_neg hx] at h
          cases h
      next => cases h
    next =>
      split at h
      next =>
        split at h
        next => cases h; rfl
        next => cases h; rfl
        next => cases h
      next =>
        split at h
        next => cases h; rfl
        next => cases h; rfl
        next => cases h
      next => cases h
    next =>
      split at h
      next =>
        split at h
        next => cases h; rfl
        next => cases h
      next => cases h
    next => cases h
/-- an instruction that goes on doesn't return -/
theorem ys_noret {nL : Nat} {i : Instr} {ops : List Nat} {pc : Nat} {l : xL} {st : List xV} {T : yT} {z : Nat × xL × List xV × yT} (h : ys nL i ops pc l st T = some z) (rt : Option FieldType) (st2 : List xV) : xret rt i st2 = none := by
  cases i
  all_goals first
    | rfl
    | (exact absurd h (by simp [ys, yw]))
theorem xinv_noret {i : Instr} {ops : List Nat} {st : List xV} {h : xH} {z : Nat × List xV × List xV} (e : xinv i ops st h = some z) (rt : Option FieldType) (st2 : List xV) : xret rt i st2 = none := by
  cases i
  all_goals first
    | rfl
    | (cases e; done)
theorem xinv_noxs {i : Instr} {ops : List Nat} {st : List xV} {h : xH} {z : Nat × List xV × List xV} (e : xinv i ops st h = some z) (nL pc : Nat) (l : xL) (st2 : List xV) (A : xA) : xs nL i ops pc l st2 A = none := by
  unfold xinv at e
  split at e
  next => rfl
  next =>
    split at e
    next => rfl
    next => cases e
  next =>
    split at e
    next => simp [xs, xs1, xs2]
    next => cases e
  next => cases e
theorem yinv_ok {i : Instr} {ops : List Nat} {st : List xV} {T : yT} {A : xA} {mid : Nat} {as rest : List xV} (hR : yR g T A) (e : xinv i ops st (yhx T) = some (mid, as, rest)) : xinv i ops (ys_ g st) A.2.2.2 = some (mid, ys_ g as, ys_ g rest) := by
  unfold xinv at e
  split at e
  next idx =>
    split at e
    next n tb =>
      split at e
      next q r2 hd =>
        split at e
        next ci fs hq =>
          split at e
          next mid3 hp =>
            cases e
            show (match (ys_ g st).drop n with
              | .inr q :: rest => match A.2.2.2 q with
                | some (.inl (ci, _)) => match xpick ci tb with
                  | some mid => some (mid, (Sum.inr q : xV) :: ((ys_ g st).take n).reverse, rest)
                  | none => none
                | _ => none
              | _ => none) = _
            have hh : ∃ fs2, A.2.2.2 q = some (.inl (ci, fs2)) := by
              unfold yhx at hq
              split at hq
              next w hw =>
                cases hq
                exact ⟨_, hR.look hw⟩
              next => cases hq
            obtain ⟨fs2, hh⟩ := hh
            rw [← List.map_drop, hd, List.map_cons]
            show (match A.2.2.2 q with
                | some (.inl (ci, _)) => match xpick ci tb with
                  | some mid => some (mid, (Sum.inr q : xV) :: ((ys_ g st).take n).reverse, ys_ g rest)
                  | none => none
                | _ => none) = _
            rw [hh]
            show (match xpick ci tb with
                  | some mid => some (mid, (Sum.inr q : xV) :: ((ys_ g st).take n).reverse, ys_ g rest)
                  | none => none) = _
            rw [hp]
            show some (mid, (Sum.inr q : xV) :: ((ys_ g st).take n).reverse, ys_ g rest) = some (mid, (Sum.inr q : xV) :: ys_ g (st.take n).reverse, ys_ g rest)
            rw [← List.map_take, ← List.map_reverse]
          next => cases e
        next => cases e
      next => cases e
    next => cases e
  next idx =>
    split at e
    next n mid3 =>
      split at e
      next q r2 hd =>
        cases e
        show (match (ys_ g st).drop n with
              | .inr q :: rest => some (mid, (Sum.inr q : xV) :: ((ys_ g st).take n).reverse, rest)
              | _ => none) = _
        rw [← List.map_drop, hd, List.map_cons]
        show some (mid, (Sum.inr q : xV) :: ((ys_ g st).take n).reverse, ys_ g rest) = some (mid, (Sum.inr q : xV) :: ys_ g (st.take n).reverse, ys_ g rest)
        rw [← List.map_take, ← List.map_reverse]
      next => cases e
    next => cases e
  next idx =>
    split at e
    next n mid3 =>
      split at e
      next hle =>
        cases e
        show (if n ≤ (ys_ g st).length then some (mid, ((ys_ g st).take n).reverse, (ys_ g st).drop n) else none) = _
        rw [List.length_map, if_pos hle, ← List.map_take, ← List.map_reverse, ← List.map_drop]
      next => cases e
    next => cases e
  next => cases e
/-- a narrower piece of what a number may be -/
theorem yok_in {E : yE} (h : yok g E) {k lo hi : Nat} (hb : lo ≤ yn (g k) ∧ yn (g k) < hi) : yok g ((k, lo, hi) :: E.1, E.2) := by
  refine ⟨fun j => ?_, h.2⟩
  show (match Nat.beq k j with | true => (lo, hi) | false => yiv E.1 j).1 ≤ _ ∧ _
  split
  next e =>
    have : k = j := Nat.eq_of_beq_eq_true e
    subst this
    show lo ≤ _ ∧ _ < (match Nat.beq k k with | true => (lo, hi) | false => yiv E.1 k).2
    rw [e]
    exact hb
  next e =>
    show (yiv E.1 j).1 ≤ _ ∧ _ < (match Nat.beq k j with | true => (lo, hi) | false => yiv E.1 j).2
    rw [e]
    exact h.1 j
theorem ypc_in {E : yE} (h : yok g E) {k lo hi : Nat} {b : Bool} (h1 : lo ≤ yn (g k)) (h2 : yn (g k) < hi) : ∃ z ∈ ypc E k lo hi b, yok g z.1 ∧ z.2 = b := by
  refine ⟨(((k, lo, hi) :: E.1, E.2), b), ?_, yok_in h ⟨h1, h2⟩, rfl⟩
  have : Nat.blt lo hi = true := Nat.ble_eq_true_of_le (Nat.lt_of_le_of_lt h1 h2)
  unfold ypc
  rw [this]
  exact List.mem_singleton.mpr rfl
theorem yc1_ok {E : yE} (h : yok g E) (o : Jvm.ClassFile.Cond) (k : Nat) (c : Int32) : ∃ z ∈ yc1 o E k (yn c), yok g z.1 ∧ xcd o (g k) c = z.2 := by
  have hb := h.1 k
  unfold yc1
  generalize yiv E.1 k = w at hb
  obtain ⟨lo, hi⟩ := w
  dsimp only at hb ⊢
  have lt : yn (g k) < yn c → Nat.min hi (yn c) > yn (g k) := fun z => Nat.lt_min.mpr ⟨hb.2, z⟩
  have ge : yn c ≤ yn (g k) → Nat.max lo (yn c) ≤ yn (g k) := fun z => Nat.max_le.mpr ⟨hb.1, z⟩
  have lt1 : yn (g k) < yn c + 1 → Nat.min hi (yn c + 1) > yn (g k) := fun z => Nat.lt_min.mpr ⟨hb.2, z⟩
  have ge1 : yn c + 1 ≤ yn (g k) → Nat.max lo (yn c + 1) ≤ yn (g k) := fun z => Nat.max_le.mpr ⟨hb.1, z⟩
  cases o
  case lt =>
    by_cases q : yn (g k) < yn c
    · obtain ⟨z, hz, h1, h2⟩ := ypc_in (b := true) h hb.1 (lt q)
      exact ⟨z, List.mem_append_left _ hz, h1, by rw [h2]; exact decide_eq_true (yn_lt_iff.mpr q)⟩
    · obtain ⟨z, hz, h1, h2⟩ := ypc_in (b := false) h (ge (Nat.le_of_not_lt q)) hb.2
      exact ⟨z, List.mem_append_right _ hz, h1, by rw [h2]; exact decide_eq_false (fun y => q (yn_lt_iff.mp y))⟩
  case ge =>
    by_cases q : yn (g k) < yn c
    · obtain ⟨z, hz, h1, h2⟩ := ypc_in (b := false) h hb.1 (lt q)
      exact ⟨z, List.mem_append_left _ hz, h1, by rw [h2]; exact decide_eq_false (fun y => absurd (yn_le_iff.mp y) (Nat.not_le_of_lt q))⟩
    · obtain ⟨z, hz, h1, h2⟩ := ypc_in (b := true) h (ge (Nat.le_of_not_lt q)) hb.2
      exact ⟨z, List.mem_append_right _ hz, h1, by rw [h2]; exact decide_eq_true (yn_le_iff.mpr (Nat.le_of_not_lt q))⟩
  case le =>
    by_cases q : yn (g k) < yn c + 1
    · obtain ⟨z, hz, h1, h2⟩ := ypc_in (b := true) h hb.1 (lt1 q)
      exact ⟨z, List.mem_append_left _ hz, h1, by rw [h2]; exact decide_eq_true (yn_le_iff.mpr (Nat.le_of_lt_succ q))⟩
    · obtain ⟨z, hz, h1, h2⟩ := ypc_in (b := false) h (ge1 (Nat.le_of_not_lt q)) hb.2
      exact ⟨z, List.mem_append_right _ hz, h1, by rw [h2]; exact decide_eq_false (fun y => q (Nat.lt_succ_of_le (yn_le_iff.mp y)))⟩
  case gt =>
    by_cases q : yn (g k) < yn c + 1
    · obtain ⟨z, hz, h1, h2⟩ := ypc_in (b := false) h hb.1 (lt1 q)
      exact ⟨z, List.mem_append_left _ hz, h1, by rw [h2]; exact decide_eq_false (fun y => absurd (yn_lt_iff.mp y) (Nat.not_lt_of_le (Nat.le_of_lt_succ q)))⟩
    · obtain ⟨z, hz, h1, h2⟩ := ypc_in (b := true) h (ge1 (Nat.le_of_not_lt q)) hb.2
      exact ⟨z, List.mem_append_right _ hz, h1, by rw [h2]; exact decide_eq_true (yn_lt_iff.mpr (Nat.le_of_not_lt q))⟩
  case eq =>
    by_cases q : yn (g k) < yn c
    · obtain ⟨z, hz, h1, h2⟩ := ypc_in (b := false) h hb.1 (lt q)
      exact ⟨z, List.mem_append_left _ hz, h1, by rw [h2]; exact decide_eq_false (fun y => absurd (yn_inj.mp y) (Nat.ne_of_lt q))⟩
    · by_cases q1 : yn (g k) < yn c + 1
      · obtain ⟨z, hz, h1, h2⟩ := ypc_in (b := true) h (ge (Nat.le_of_not_lt q)) (lt1 q1)
        exact ⟨z, List.mem_append_right _ (List.mem_append_left _ hz), h1, by rw [h2]; exact decide_eq_true (yn_inj.mpr (Nat.le_antisymm (Nat.le_of_lt_succ q1) (Nat.le_of_not_lt q)))⟩
      · obtain ⟨z, hz, h1, h2⟩ := ypc_in (b := false) h (ge1 (Nat.le_of_not_lt q1)) hb.2
        exact ⟨z, List.mem_append_right _ (List.mem_append_right _ hz), h1, by rw [h2]; exact decide_eq_false (fun y => q1 (by rw [yn_inj.mp y]; exact Nat.lt_succ_self _))⟩
  case ne =>
    by_cases q : yn (g k) < yn c
    · obtain ⟨z, hz, h1, h2⟩ := ypc_in (b := true) h hb.1 (lt q)
      exact ⟨z, List.mem_append_left _ hz, h1, by rw [h2]; exact decide_eq_true (fun y => absurd (yn_inj.mp y) (Nat.ne_of_lt q))⟩
    · by_cases q1 : yn (g k) < yn c + 1
      · obtain ⟨z, hz, h1, h2⟩ := ypc_in (b := false) h (ge (Nat.le_of_not_lt q)) (lt1 q1)
        exact ⟨z, List.mem_append_right _ (List.mem_append_left _ hz), h1, by rw [h2]; exact decide_eq_false (fun y => y (yn_inj.mpr (Nat.le_antisymm (Nat.le_of_lt_succ q1) (Nat.le_of_not_lt q))))⟩
      · obtain ⟨z, hz, h1, h2⟩ := ypc_in (b := true) h (ge1 (Nat.le_of_not_lt q1)) hb.2
        exact ⟨z, List.mem_append_right _ (List.mem_append_right _ hz), h1, by rw [h2]; exact decide_eq_true (fun y => q1 (by rw [yn_inj.mp y]; exact Nat.lt_succ_self _))⟩
theorem yfa_cons {E2 : List (Nat × Nat × Bool)} {a b x y : Nat} {v w : Bool} (h : yfa ((a, b, v) :: E2) x y = some w) : (a = x ∧ b = y ∧ v = w) ∨ yfa E2 x y = some w := by
  unfold yfa at h
  split at h
  next e1 e2 => exact Or.inl ⟨Nat.eq_of_beq_eq_true e1, Nat.eq_of_beq_eq_true e2, Option.some.inj h⟩
  next => exact Or.inr h
theorem yc2_ok {E : yE} (h : yok g E) (a b : Nat) (n : Bool) : ∃ z ∈ yc2 E a b n, yok g z.1 ∧ (decide (yn (g a) ≤ yn (g b)) != n) = z.2 := by
  unfold yc2
  split
  next v hv => exact ⟨_, List.mem_singleton.mpr rfl, h, by rw [h.2 a b v hv]⟩
  next =>
    have ha := h.1 a
    have hb := h.1 b
    generalize yiv E.1 a = u at ha
    generalize yiv E.1 b = w at hb
    obtain ⟨al, ah⟩ := u
    obtain ⟨bl, bh⟩ := w
    dsimp only at ha hb ⊢
    by_cases q : yn (g a) ≤ yn (g b)
    · have q1 : yn (g a) < Nat.min ah bh := Nat.lt_min.mpr ⟨ha.2, by omega⟩
      have q2 : Nat.max al bl ≤ yn (g b) := Nat.max_le.mpr ⟨by omega, hb.1⟩
      refine ⟨(((a, al, Nat.min ah bh) :: (b, Nat.max al bl, bh) :: E.1, (a, b, true) :: E.2), true != n), List.mem_append_left _ ?_, ?_, by rw [decide_eq_true q]⟩
      · rw [if_pos ⟨by omega, by omega⟩]
        exact List.mem_singleton.mpr rfl
      · have h1 : yok g ((b, Nat.max al bl, bh) :: E.1, E.2) := yok_in h ⟨q2, hb.2⟩
        have h2 := yok_in (k := a) (lo := al) (hi := Nat.min ah bh) h1 ⟨ha.1, q1⟩
        refine ⟨h2.1, fun x y v hv => ?_⟩
        rcases yfa_cons hv with ⟨rfl, rfl, rfl⟩ | hv
        · exact decide_eq_true q
        · exact h.2 x y v hv
    · have q1 : Nat.max al (bl + 1) ≤ yn (g a) := Nat.max_le.mpr ⟨ha.1, by omega⟩
      refine ⟨(((a, Nat.max al (bl + 1), ah) :: E.1, (a, b, false) :: E.2), false != n), List.mem_append_right _ ?_, ?_, by rw [decide_eq_false q]⟩
      · rw [if_pos (by omega)]
        exact List.mem_singleton.mpr rfl
      · have h2 := yok_in (k := a) (lo := Nat.max al (bl + 1)) (hi := ah) h ⟨q1, ha.2⟩
        refine ⟨h2.1, fun x y v hv => ?_⟩
        rcases yfa_cons hv with ⟨rfl, rfl, rfl⟩ | hv
        · exact decide_eq_false q
        · exact h.2 x y v hv
theorem xcd_flip (o : Jvm.ClassFile.Cond) (x y : Int32) : xcd (yflip o) y x = xcd o x y := by
  cases o
  · exact decide_eq_decide.mpr ⟨fun h => h.symm, fun h => h.symm⟩
  · exact decide_eq_decide.mpr ⟨fun h z => h z.symm, fun h z => h z.symm⟩
  all_goals rfl
theorem ycmp_ok {E : yE} (h : yok g E) {o : Jvm.ClassFile.Cond} {x y : xV} {bs : List (yE × Bool)} (e : ycmp o E x y = some bs) : ∃ (a b : Int32), ysu g x = .inl (.int a) ∧ ysu g y = .inl (.int b) ∧ ∃ z ∈ bs, yok g z.1 ∧ xcd o a b = z.2 := by
  unfold ycmp at e
  split at e
  next a c =>
    cases e
    exact ⟨g a, c, rfl, rfl, yc1_ok h o a c⟩
  next c a =>
    cases e
    obtain ⟨z, hz, h1, h2⟩ := yc1_ok h (yflip o) a c
    exact ⟨c, g a, rfl, rfl, z, hz, h1, by rw [← h2, xcd_flip]⟩
  next a b =>
    refine ⟨g a, g b, rfl, rfl, ?_⟩
    split at e
    next =>
      cases e
      obtain ⟨z, hz, h1, h2⟩ := yc2_ok h a b false
      refine ⟨z, hz, h1, ?_⟩
      rw [← h2, Bool.bne_false]
      exact decide_eq_decide.mpr yn_le_iff
    next =>
      cases e
      obtain ⟨z, hz, h1, h2⟩ := yc2_ok h a b true
      refine ⟨z, hz, h1, ?_⟩
      rw [← h2, Bool.bne_true, ← decide_not]
      exact decide_eq_decide.mpr (yn_lt_iff.trans Nat.not_le.symm)
    next =>
      cases e
      obtain ⟨z, hz, h1, h2⟩ := yc2_ok h b a false
      refine ⟨z, hz, h1, ?_⟩
      rw [← h2, Bool.bne_false]
      exact decide_eq_decide.mpr yn_le_iff
    next =>
      cases e
      obtain ⟨z, hz, h1, h2⟩ := yc2_ok h b a true
      refine ⟨z, hz, h1, ?_⟩
      rw [← h2, Bool.bne_true, ← decide_not]
      exact decide_eq_decide.mpr (yn_lt_iff.trans Nat.not_le.symm)
    next => cases e
  next => cases e
/-- a branch on unknown numbers is the small machine's, whatever they are -/
theorem ybr_ok {E : yE} (h : yok g E) {i : Instr} {pc : Nat} {st r : List xV} {tgt : Nat} {bs : List (yE × Bool)} (e : ybr i E pc st = some (r, tgt, bs)) : ∃ z ∈ bs, yok g z.1 ∧ (∀ (rt : Option FieldType) (st2 : List xV), xret rt i st2 = none) ∧ ∀ (nL : Nat) (ops : List Nat) (l : xL) (A : xA), xs nL i ops pc l (ys_ g st) A = some ((match z.2 with | true => tgt | false => pc + 3), l, ys_ g r, A) := by
  have br : ∀ {b : Bool} {off : Int} {l : xL} {A : xA} {r2 : List xV}, 0 ≤ (pc : Int) + off → xbr b pc off l r2 A = some ((match b with | true => ((pc : Int) + off).toNat | false => pc + 3), l, r2, A) := by
    intro b off l A r2 hp
    unfold xbr
    rw [if_pos hp]
    cases b <;> rfl
  unfold ybr at e
  split at e
  next o off =>
    split at e
    next x r2 =>
      split at e
      next hp =>
        split at e
        next bs2 hc =>
          cases e
          obtain ⟨a, b, h1, h2, z, hz, h3, h4⟩ := ycmp_ok h hc
          refine ⟨z, hz, h3, fun _ _ => rfl, fun nL ops l A => xs_of2 rfl ?_⟩
          cases h2
          show xs2 (.ifCond o off) ops pc l (ysu g x :: ys_ g r) A = _
          rw [h1]
          show xbr (xcd o a 0) pc off l (ys_ g r) A = _
          rw [h4]
          exact br hp
        next => cases e
      next => cases e
    next => cases e
  next o off =>
    split at e
    next y x r2 =>
      split at e
      next hp =>
        split at e
        next bs2 hc =>
          cases e
          obtain ⟨a, b, h1, h2, z, hz, h3, h4⟩ := ycmp_ok h hc
          refine ⟨z, hz, h3, fun _ _ => rfl, fun nL ops l A => xs_of2 rfl ?_⟩
          show xs2 (.if_icmp o off) ops pc l (ysu g y :: ysu g x :: ys_ g r) A = _
          rw [h1, h2]
          show xbr (xcd o a b) pc off l (ys_ g r) A = _
          rw [h4]
          exact br hp
        next => cases e
      next => cases e
    next => cases e
  next => cases e
theorem yfixl_in {E : yE} (h : yok g E) {k lo : Nat} : ∀ (n : Nat), lo ≤ yn (g k) → yn (g k) < lo + n → ∃ z ∈ yfixl E k lo n, yok g z.1 ∧ z.2 = g k
  | 0, h1, h2 => absurd h2 (by omega)
  | n + 1, h1, h2 => by
    by_cases q : yn (g k) = lo + n
    · refine ⟨(((k, lo + n, lo + n + 1) :: E.1, E.2), yi (lo + n)), List.mem_cons_self, yok_in h ⟨by omega, by omega⟩, ?_⟩
      show yi (lo + n) = g k
      rw [← q, yi_yn]
    · obtain ⟨z, hz, h3⟩ := yfixl_in h n h1 (by omega)
      exact ⟨z, List.mem_cons_of_mem _ hz, h3⟩
theorem yfix_ok {E : yE} (h : yok g E) : ∀ {st : List xV} {fs : List (yE × List xV)}, yfix E st = some fs → ∃ z ∈ fs, yok g z.1 ∧ ys_ g z.2 = ys_ g st
  | [], fs, e => by cases e
  | v :: r, fs, e => by
    unfold yfix at e
    split at e
    next k r2 heq =>
      cases heq
      have hb := h.1 k
      generalize yiv E.1 k = w at hb e
      obtain ⟨lo, hi⟩ := w
      dsimp only at hb e
      split at e
      next =>
        cases e
        obtain ⟨z, hz, h1, h2⟩ := yfixl_in h (hi - lo) hb.1 (by omega)
        refine ⟨_, List.mem_map.mpr ⟨z, hz, rfl⟩, h1, ?_⟩
        show .inl (.int z.2) :: ys_ g r = .inl (.int (g k)) :: ys_ g r
        rw [h2]
      next => cases e
    next v2 r2 _ heq =>
      cases heq
      split at e
      next zs hzs =>
        cases e
        obtain ⟨z, hz, h1, h2⟩ := yfix_ok h hzs
        refine ⟨_, List.mem_map.mpr ⟨z, hz, rfl⟩, h1, ?_⟩
        show ysu g v :: ys_ g z.2 = ysu g v :: ys_ g r
        rw [h2]
      next => cases e
    next heq => cases heq
theorem ybind_in {α β : Type} {f : α → Option (List β)} : ∀ {xs : List α} {ys : List β}, ybind f xs = some ys → ∀ a ∈ xs, ∃ zs, f a = some zs ∧ ∀ z ∈ zs, z ∈ ys
  | [], _, _, a, ha => by cases ha
  | x :: r, ys, h, a, ha => by
    unfold ybind at h
    split at h
    next u hu =>
      split at h
      next v hv =>
        cases h
        rcases List.mem_cons.mp ha with rfl | ha
        · exact ⟨u, hu, fun z hz => List.mem_append_left _ hz⟩
        · obtain ⟨zs, h1, h2⟩ := ybind_in hv a ha
          exact ⟨zs, h1, fun z hz => List.mem_append_right _ (h2 z hz)⟩
      next => cases h
    next => cases h
def yres (g : Nat → Int32) : xR → xR
  | .inl v => .inl (v.map (ysu g))
  | .inr E => .inr E
/-- what a symbolic run says of the small machine -/
def ysays (g : Nat → Int32) (P : xPr) (d mid pc : Nat) (l : xL) (st : List xV) (A : xA) (outs : List (yE × xR × yT)) : Prop :=
  ∃ o ∈ outs, yok g o.1 ∧ ∃ (m : Nat) (A2 : xA), xrun P yct m d mid pc (yl g l) (ys_ g st) A = some (yres g o.2.1, A2) ∧ yR g o.2.2 A2
set_option maxHeartbeats 8000000 in
/-- THE SYMBOLIC MACHINE IS THE SMALL MACHINE'S, whatever the unknown numbers are -/
theorem yrun_ok {P : xPr} (hg : ygood g) : ∀ (n d mid pc : Nat) (l : xL) (st : List xV) (T : yT) (E : yE) (outs : List (yE × xR × yT)), yrun P n d mid pc l st T E = some outs → yok g E → ∀ A : xA, yR g T A → ysays g P d mid pc l st A outs := by
  intro n
  induction n with
  | zero =>
    intro d mid pc l st T E outs h
    cases h
  | succ n ih =>
    intro d mid pc l st T E outs h hE A hR
    unfold yrun at h
    split at h
    next => cases h
    next i ops hP =>
      split at h
      next v hv =>
        cases h
        refine ⟨_, List.mem_singleton.mpr rfl, hE, 1, A, ?_, hR⟩
        unfold xrun
        rw [hP]
        dsimp only
        rw [yret_ok (g := g) hv]
        rfl
      next hv =>
        split at h
        next X hX =>
          split at h
          next idx =>
            split at h
            next hc =>
              cases h
              refine ⟨_, List.mem_singleton.mpr rfl, hE, 1, (A.1, A.2.1 + 1, A.2.2.1 + 6, A.2.2.2), ?_, ⟨hR.1, Nat.add_le_add_right hR.2.1 1, Nat.add_le_add_right hR.2.2.1 6, hR.2.2.2⟩⟩
              unfold xrun
              rw [hP]
              show (match P.2.2.1 mid pc with
                | some E => if 8 ≤ d ∧ ((ys_ g st).map xcat).sum ≤ 8 then some ((Sum.inr E : xR), ((A.1, A.2.1 + 1, A.2.2.1 + 6, A.2.2.2) : xA)) else none
                | none => _) = _
              rw [hX]
              show (if 8 ≤ d ∧ ((ys_ g st).map xcat).sum ≤ 8 then some ((Sum.inr X : xR), ((A.1, A.2.1 + 1, A.2.2.1 + 6, A.2.2.2) : xA)) else none) = _
              rw [ys_sum, if_pos hc]
              rfl
            next => cases h
          next => cases h
        next hX =>
          split at h
          next z hz =>
            obtain ⟨pc2, l2, st2, T2⟩ := z
            obtain ⟨A2, hs, hR2⟩ := ys_ok hg hz hR
            obtain ⟨o, ho, ho1, m, A3, hx, hR3⟩ := ih _ _ _ _ _ _ _ _ h hE A2 hR2
            refine ⟨o, ho, ho1, m + 1, A3, ?_, hR3⟩
            unfold xrun
            rw [hP]
            dsimp only
            rw [ys_noret hz, hX]
            dsimp only
            rw [hs]
            exact hx
          next hz =>
            split at h
            next mid2 as rest d2 hinv =>
              split at h
              next hw =>
                split at h
                next => cases h
                next outs1 hcall =>
                  obtain ⟨o1, ho1, hok1, m1, A1, hx1, hR1⟩ := ih _ _ _ _ _ _ _ _ hcall hE A hR
                  obtain ⟨zs, hzs, hsub⟩ := ybind_in h o1 ho1
                  have hinv2 := yinv_ok hR hinv
                  rw [yl_xar] at hx1
                  have hstep : ∀ (m : Nat), m1 ≤ m → xrun P yct (m + 1) (d2 + 1) mid pc (yl g l) (ys_ g st) A = (match (yres g o1.2.1, A1) with
                    | (.inl v, A2) => xrun P yct m (d2 + 1) mid (pc + 3) (yl g l) (v.toList ++ ys_ g rest) A2
                    | (.inr E, A2) => match P.2.2.2 mid pc E with
                      | some (hpc, ln, k) => xrun P yct m (d2 + 1) mid (hpc + ln) (xrm (yl g l) k) [] A2
                      | none => if (P.2.1 mid).2.2.2.2 = [] then some (.inr E, A2) else none) := by
                    intro m hm
                    obtain ⟨k, rfl⟩ := Nat.exists_eq_add_of_le hm
                    have hx2 : xrun P yct (m1 + k) d2 mid2 0 (xar 0 (ys_ g as)) [] A = some (yres g o1.2.1, A1) := xrun_mono (k := k) hx1
                    rw [xrun, hP]
                    dsimp only
                    rw [xinv_noret hinv, hX]
                    dsimp only
                    rw [xinv_noxs hinv, hinv2]
                    dsimp only
                    rw [if_pos ⟨by rw [ys_sum]; exact hw.1, by rw [ys_sum]; exact hw.2⟩]
                    simp only [yct]
                    rw [hx2]
                    generalize yres g o1.2.1 = w
                    cases w <;> rfl
                  generalize hres : o1.2.1 = res at hzs hstep
                  cases res with
                  | inl v =>
                    dsimp only at hzs
                    obtain ⟨o, ho, hok, m2, A3, hx3, hR3⟩ := ih _ _ _ _ _ _ _ _ hzs hok1 A1 hR1
                    refine ⟨o, hsub o ho, hok, (m1 + m2) + 1, A3, ?_, hR3⟩
                    rw [hstep _ (Nat.le_add_right _ _)]
                    show xrun P yct (m1 + m2) (d2 + 1) mid (pc + 3) (yl g l) ((v.map (ysu g)).toList ++ ys_ g rest) A1 = _
                    have e1 : (v.map (ysu g)).toList ++ ys_ g rest = ys_ g (v.toList ++ rest) := by
                      cases v <;> rfl
                    rw [e1, Nat.add_comm m1 m2]
                    exact xrun_mono hx3
                  | inr X =>
                    dsimp only at hzs
                    split at hzs
                    next hpc ln k hh =>
                      obtain ⟨o, ho, hok, m2, A3, hx3, hR3⟩ := ih _ _ _ _ _ _ _ _ hzs hok1 A1 hR1
                      refine ⟨o, hsub o ho, hok, (m1 + m2) + 1, A3, ?_, hR3⟩
                      rw [hstep _ (Nat.le_add_right _ _)]
                      show (match P.2.2.2 mid pc X with
                        | some (hpc, ln, k) => xrun P yct (m1 + m2) (d2 + 1) mid (hpc + ln) (xrm (yl g l) k) [] A1
                        | none => if (P.2.1 mid).2.2.2.2 = [] then some (.inr X, A1) else none) = _
                      rw [hh]
                      show xrun P yct (m1 + m2) (d2 + 1) mid (hpc + ln) (xrm (yl g l) k) [] A1 = _
                      rw [yl_xrm, Nat.add_comm m1 m2]
                      exact xrun_mono hx3
                    next hh =>
                      split at hzs
                      next hnil =>
                        cases hzs
                        refine ⟨_, hsub _ (List.mem_singleton.mpr rfl), hok1, m1 + 1, A1, ?_, hR1⟩
                        rw [hstep _ (Nat.le_refl _)]
                        show (match P.2.2.2 mid pc X with
                          | some (hpc, ln, k) => xrun P yct m1 (d2 + 1) mid (hpc + ln) (xrm (yl g l) k) [] A1
                          | none => if (P.2.1 mid).2.2.2.2 = [] then some (.inr X, A1) else none) = _
                        rw [hh]
                        exact if_pos hnil
                      next => cases hzs
              next => cases h
            next =>
              split at h
              next z hz2 =>
                obtain ⟨r, tgt, bs⟩ := z
                obtain ⟨b, hb, hok, hnr, hs⟩ := ybr_ok hE hz2
                obtain ⟨zs, hzs, hsub⟩ := ybind_in h b hb
                obtain ⟨o, ho, ho1, m, A3, hx, hR3⟩ := ih _ _ _ _ _ _ _ _ hzs hok A hR
                refine ⟨o, hsub o ho, ho1, m + 1, A3, ?_, hR3⟩
                unfold xrun
                rw [hP]
                dsimp only
                rw [hnr, hX]
                dsimp only
                rw [hs]
                exact hx
              next =>
                split at h
                next fs hfs =>
                  obtain ⟨z, hz3, hok, hst⟩ := yfix_ok hE hfs
                  obtain ⟨zs, hzs, hsub⟩ := ybind_in h z hz3
                  obtain ⟨o, ho, ho1, m, A3, hx, hR3⟩ := ih _ _ _ _ _ _ _ _ hzs hok A hR
                  exact ⟨o, hsub o ho, ho1, m, A3, by rw [← hst]; exact hx, hR3⟩
                next => cases h
end YRUNOK
