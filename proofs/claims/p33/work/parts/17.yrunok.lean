set_option maxRecDepth 20000
section YRUNOK
variable {g : Nat → Int32}
def yct : Nat → Nat → List xV → xA → Option (xR × xA) := fun _ _ _ _ => none
/-- more fuel does no harm -/
theorem xrun_more {P : xPr} : ∀ (n d mid pc : Nat) (l : xL) (st : List xV) (A : xA) (z : xR × xA), xrun P yct n d mid pc l st A = some z → xrun P yct (n + 1) d mid pc l st A = some z := by
  intro n
  induction n with
  | zero =>
    intro d mid pc l st A z h
    cases h
  | succ n ih =>
    intro d mid pc l st A z h
    unfold xrun at h ⊢
    split at h
    next => cases h
    next i ops hP =>
      try rw [hP]
      try dsimp only
      split at h
      next v hv =>
        first | exact h | (rw [hv]; exact h)
      next hv =>
        try rw [hv]
        try dsimp only
        split at h
        next E hE =>
          try rw [hE]
          exact h
        next hE =>
          try rw [hE]
          try dsimp only
          split at h
          next y hy =>
            try rw [hy]
            exact ih _ _ _ _ _ _ _ h
          next hy =>
            try rw [hy]
            try dsimp only
            split at h
            next mid2 as rest d2 hi =>
              try rw [hi]
              try dsimp only
              by_cases hw : (as.map xcat).sum ≤ (P.2.1 mid2).2.2.1 ∧ (rest.map xcat).sum ≤ 8
              · rw [if_pos hw] at h ⊢
                simp only [yct] at h ⊢
                split at h
                next v A2 hr =>
                  rw [ih _ _ _ _ _ _ _ hr]
                  exact ih _ _ _ _ _ _ _ h
                next E A2 hr =>
                  rw [ih _ _ _ _ _ _ _ hr]
                  try dsimp only
                  split at h
                  next hpc ln k hh =>
                    try rw [hh]
                    exact ih _ _ _ _ _ _ _ h
                  next hh =>
                    try rw [hh]
                    exact h
                next => cases h
              · rw [if_neg hw] at h
                cases h
            next hne =>
              cases h
theorem xrun_mono {P : xPr} {n k d mid pc : Nat} {l : xL} {st : List xV} {A : xA} {z : xR × xA} (h : xrun P yct n d mid pc l st A = some z) : xrun P yct (n + k) d mid pc l st A = some z := by
  induction k with
  | zero => exact h
  | succ k ih => exact xrun_more _ _ _ _ _ _ _ _ ih
theorem yret_ok {rt : Option FieldType} {i : Instr} {st : List xV} {v : Option xV} (h : yret rt i st = some v) : xret rt i (ys_ g st) = some (v.map (ysu g)) := by
  unfold yret at h
  split at h
  next =>
    split at h
    next k =>
      split at h
      next => cases h; rfl
      next => cases h
    next x =>
      split at h
      next => cases h; rfl
      next =>
        by_cases hx : x = 0 ∨ x = 1
        · rw [if_pos hx] at h
          cases h
          show (if x = 0 ∨ x = 1 then some (some (Sum.inl (Value.int x) : xV)) else none) = _
          rw [if_pos hx]
          rfl
        · rw [if_neg hx] at h
          cases h
      next => cases h
    next => cases h
  next hne =>
    unfold xret at h
    split at h
    next => exact absurd rfl hne
    next =>
      split at h
      next x =>
        by_cases hx : rt = some .long
        · rw [if_pos hx] at h
          cases h
          show (if rt = some FieldType.long then some (some (Sum.inl (Value.long x) : xV)) else none) = _
          rw [if_pos hx]
          rfl
        · rw [if_neg hx] at h
          cases h
      next => cases h
    next =>
      split at h
      next x =>
        by_cases hx : rt = some .float
        · rw [if_pos hx] at h
          cases h
          show (if rt = some FieldType.float then some (some (Sum.inl (Value.float x) : xV)) else none) = _
          rw [if_pos hx]
          rfl
        · rw [if_neg hx] at h
          cases h
      next => cases h
    next =>
      split at h
      next x =>
        by_cases hx : rt = some .double
        · rw [if_pos hx] at h
          cases h
          show (if rt = some FieldType.double then some (some (Sum.inl (Value.double x) : xV)) else none) = _
          rw [if_pos hx]
          rfl
        · rw [if_neg hx] at h
          cases h
      next => cases h
    next =>
      split at h
      next =>
        split at h
        next => cases h; rfl
        next => cases h; rfl
        next => cases h
      next =>
        split at h
        next => cases h; rfl
        next => cases h; rfl
        next => cases h
      next => cases h
    next =>
      split at h
      next =>
        split at h
        next => cases h; rfl
        next => cases h
      next => cases h
    next => cases h
/-- an instruction that goes on doesn't return -/
theorem ys_noret {nL : Nat} {i : Instr} {ops : List Nat} {pc : Nat} {l : xL} {st : List xV} {T : yT} {z : Nat × xL × List xV × yT} (h : ys nL i ops pc l st T = some z) (rt : Option FieldType) (st2 : List xV) : xret rt i st2 = none := by
  cases i
  all_goals first
    | rfl
    | (exact absurd h (by simp [ys, yw]))
theorem xinv_noret {i : Instr} {ops : List Nat} {st : List xV} {h : xH} {z : Nat × List xV × List xV} (e : xinv i ops st h = some z) (rt : Option FieldType) (st2 : List xV) : xret rt i st2 = none := by
  cases i
  all_goals first
    | rfl
    | (cases e; done)
theorem xinv_noxs {i : Instr} {ops : List Nat} {st : List xV} {h : xH} {z : Nat × List xV × List xV} (e : xinv i ops st h = some z) (nL pc : Nat) (l : xL) (st2 : List xV) (A : xA) : xs nL i ops pc l st2 A = none := by
  unfold xinv at e
  split at e
  next => rfl
  next =>
    split at e
    next => rfl
    next => cases e
  next =>
    split at e
    next => simp [xs, xs1, xs2]
    next => cases e
  next => cases e
theorem yinv_ok {i : Instr} {ops : List Nat} {st : List xV} {T : yT} {A : xA} {mid : Nat} {as rest : List xV} (hR : yR g T A) (e : xinv i ops st (yhx T) = some (mid, as, rest)) : xinv i ops (ys_ g st) A.2.2.2 = some (mid, ys_ g as, ys_ g rest) := by
  unfold xinv at e
  split at e
  next idx =>
    split at e
    next n tb =>
      split at e
      next q r2 hd =>
        split at e
        next ci fs hq =>
          split at e
          next mid3 hp =>
            cases e
            show (match (ys_ g st).drop n with
              | .inr q :: rest => match A.2.2.2 q with
                | some (.inl (ci, _)) => match xpick ci tb with
                  | some mid => some (mid, (Sum.inr q : xV) :: ((ys_ g st).take n).reverse, rest)
                  | none => none
                | _ => none
              | _ => none) = _
            have hh : ∃ fs2, A.2.2.2 q = some (.inl (ci, fs2)) := by
              unfold yhx at hq
              split at hq
              next w hw =>
                cases hq
                obtain ⟨f2, h2, -⟩ := hR.lookO hw
                exact ⟨f2, h2⟩
              next => cases hq
            obtain ⟨fs2, hh⟩ := hh
            rw [← List.map_drop, hd, List.map_cons]
            show (match A.2.2.2 q with
                | some (.inl (ci, _)) => match xpick ci tb with
                  | some mid => some (mid, (Sum.inr q : xV) :: ((ys_ g st).take n).reverse, ys_ g rest)
                  | none => none
                | _ => none) = _
            rw [hh]
            show (match xpick ci tb with
                  | some mid => some (mid, (Sum.inr q : xV) :: ((ys_ g st).take n).reverse, ys_ g rest)
                  | none => none) = _
            rw [hp]
            show some (mid, (Sum.inr q : xV) :: ((ys_ g st).take n).reverse, ys_ g rest) = some (mid, (Sum.inr q : xV) :: ys_ g (st.take n).reverse, ys_ g rest)
            rw [← List.map_take, ← List.map_reverse]
          next => cases e
        next => cases e
      next => cases e
    next => cases e
  next idx =>
    split at e
    next n mid3 =>
      split at e
      next q r2 hd =>
        cases e
        show (match (ys_ g st).drop n with
              | .inr q :: rest => some (mid, (Sum.inr q : xV) :: ((ys_ g st).take n).reverse, rest)
              | _ => none) = _
        rw [← List.map_drop, hd, List.map_cons]
        show some (mid, (Sum.inr q : xV) :: ((ys_ g st).take n).reverse, ys_ g rest) = some (mid, (Sum.inr q : xV) :: ys_ g (st.take n).reverse, ys_ g rest)
        rw [← List.map_take, ← List.map_reverse]
      next => cases e
    next => cases e
  next idx =>
    split at e
    next n mid3 =>
      split at e
      next hle =>
        cases e
        show (if n ≤ (ys_ g st).length then some (mid, ((ys_ g st).take n).reverse, (ys_ g st).drop n) else none) = _
        rw [List.length_map, if_pos hle, ← List.map_take, ← List.map_reverse, ← List.map_drop]
      next => cases e
    next => cases e
  next => cases e
/-- a narrower piece of what a number may be -/
theorem yok_in {E : yE} (h : yok g E) {k : Nat} {d : List (Nat × Nat)} (hb : yinD (yn (g k)) d) : yok g ((k, d) :: E.1, E.2) := by
  refine ⟨fun j => ?_, h.2⟩
  show yinD _ (match Nat.beq k j with | true => d | false => yiv E.1 j)
  split
  next e =>
    have : k = j := Nat.eq_of_beq_eq_true e
    subst this
    exact hb
  next e => exact h.1 j
theorem ycl_in {n c : Nat} (hn : n < c) : ∀ {d : List (Nat × Nat)}, yinD n d → yinD n (ycl c d)
  | [], h => h
  | p :: r, h => by
    obtain ⟨q, hq, h1, h2⟩ := h
    unfold ycl
    rcases List.mem_cons.mp hq with rfl | hq
    · have h3 : n < Nat.min q.2 c := Nat.lt_min.mpr ⟨h2, hn⟩
      rw [show Nat.blt q.1 (Nat.min q.2 c) = true from Nat.ble_eq_true_of_le (Nat.lt_of_le_of_lt h1 h3)]
      exact ⟨_, List.mem_cons_self, h1, h3⟩
    · have ih := ycl_in hn (d := r) ⟨q, hq, h1, h2⟩
      split
      · obtain ⟨z, hz, h3⟩ := ih
        exact ⟨z, List.mem_cons_of_mem _ hz, h3⟩
      · exact ih
theorem ycr_in {n c : Nat} (hn : c ≤ n) : ∀ {d : List (Nat × Nat)}, yinD n d → yinD n (ycr c d)
  | [], h => h
  | p :: r, h => by
    obtain ⟨q, hq, h1, h2⟩ := h
    unfold ycr
    rcases List.mem_cons.mp hq with rfl | hq
    · have h3 : Nat.max q.1 c ≤ n := Nat.max_le.mpr ⟨h1, hn⟩
      rw [show Nat.blt (Nat.max q.1 c) q.2 = true from Nat.ble_eq_true_of_le (Nat.lt_of_le_of_lt h3 h2)]
      exact ⟨_, List.mem_cons_self, h3, h2⟩
    · have ih := ycr_in hn (d := r) ⟨q, hq, h1, h2⟩
      split
      · obtain ⟨z, hz, h3⟩ := ih
        exact ⟨z, List.mem_cons_of_mem _ hz, h3⟩
      · exact ih
theorem yinD_app {n : Nat} {a b : List (Nat × Nat)} (h : yinD n a ∨ yinD n b) : yinD n (a ++ b) := by
  rcases h with ⟨z, hz, h⟩ | ⟨z, hz, h⟩
  · exact ⟨z, List.mem_append_left _ hz, h⟩
  · exact ⟨z, List.mem_append_right _ hz, h⟩
theorem yp2_ok {E : yE} (h : yok g E) {k : Nat} {dt df : List (Nat × Nat)} {b : Bool} (h1 : b = true → yinD (yn (g k)) dt) (h2 : b = false → yinD (yn (g k)) df) : ∃ z ∈ yp2 E k dt df, yok g z.1 ∧ b = z.2 := by
  have nn : ∀ {n : Nat}, ¬ yinD n [] := fun ⟨_, hz, _⟩ => by cases hz
  unfold yp2
  split
  next => cases b
          · exact absurd (h2 rfl) nn
          · exact absurd (h1 rfl) nn
  next => cases b
          · exact ⟨_, List.mem_singleton.mpr rfl, h, rfl⟩
          · exact absurd (h1 rfl) nn
  next => cases b
          · exact absurd (h2 rfl) nn
          · exact ⟨_, List.mem_singleton.mpr rfl, h, rfl⟩
  next => cases b
          · exact ⟨_, List.mem_cons_of_mem _ (List.mem_singleton.mpr rfl), yok_in h (h2 rfl), rfl⟩
          · exact ⟨_, List.mem_cons_self, yok_in h (h1 rfl), rfl⟩
theorem yc1_ok {E : yE} (h : yok g E) (o : Jvm.ClassFile.Cond) (k : Nat) (c : Int32) : ∃ z ∈ yc1 o E k (yn c), yok g z.1 ∧ xcd o (g k) c = z.2 := by
  have hb := h.1 k
  unfold yc1
  cases o
  case lt =>
    refine yp2_ok h (fun e => ycl_in ?_ hb) (fun e => ycr_in ?_ hb)
    · exact yn_lt_iff.mp (of_decide_eq_true e)
    · exact Nat.le_of_not_lt (fun q => of_decide_eq_false e (yn_lt_iff.mpr q))
  case ge =>
    refine yp2_ok h (fun e => ycr_in ?_ hb) (fun e => ycl_in ?_ hb)
    · exact yn_le_iff.mp (of_decide_eq_true e)
    · exact Nat.lt_of_not_le (fun q => of_decide_eq_false e (yn_le_iff.mpr q))
  case le =>
    refine yp2_ok h (fun e => ycl_in ?_ hb) (fun e => ycr_in ?_ hb)
    · exact Nat.lt_succ_of_le (yn_le_iff.mp (of_decide_eq_true e))
    · exact Nat.lt_of_not_le (fun q => of_decide_eq_false e (yn_le_iff.mpr q))
  case gt =>
    refine yp2_ok h (fun e => ycr_in ?_ hb) (fun e => ycl_in ?_ hb)
    · exact yn_lt_iff.mp (of_decide_eq_true e)
    · exact Nat.lt_succ_of_le (Nat.le_of_not_lt (fun q => of_decide_eq_false e (yn_lt_iff.mpr q)))
  case eq =>
    refine yp2_ok h (fun e => ?_) (fun e => ?_)
    · have e1 := yn_inj.mp (of_decide_eq_true e)
      exact ycl_in (by omega) (ycr_in (by omega) hb)
    · have e1 : yn (g k) ≠ yn c := fun q => of_decide_eq_false e (yn_inj.mpr q)
      refine yinD_app ?_
      rcases Nat.lt_or_gt_of_ne e1 with q | q
      · exact Or.inl (ycl_in q hb)
      · exact Or.inr (ycr_in q hb)
  case ne =>
    refine yp2_ok h (fun e => ?_) (fun e => ?_)
    · have e1 : yn (g k) ≠ yn c := fun q => of_decide_eq_true e (yn_inj.mpr q)
      refine yinD_app ?_
      rcases Nat.lt_or_gt_of_ne e1 with q | q
      · exact Or.inl (ycl_in q hb)
      · exact Or.inr (ycr_in q hb)
    · have e1 : yn (g k) = yn c := Classical.not_not.mp (fun q => of_decide_eq_false e (fun y => q (yn_inj.mp y)))
      exact ycl_in (by omega) (ycr_in (by omega) hb)
theorem yfa_cons {E2 : List (Nat × Nat × Bool)} {a b x y : Nat} {v w : Bool} (h : yfa ((a, b, v) :: E2) x y = some w) : (a = x ∧ b = y ∧ v = w) ∨ yfa E2 x y = some w := by
  unfold yfa at h
  split at h
  next e1 e2 => exact Or.inl ⟨Nat.eq_of_beq_eq_true e1, Nat.eq_of_beq_eq_true e2, Option.some.inj h⟩
  next => exact Or.inr h
theorem ymx_lt {n : Nat} : ∀ {d : List (Nat × Nat)}, yinD n d → n < ymx d
  | [], ⟨_, hz, _⟩ => by cases hz
  | p :: r, ⟨q, hq, h1, h2⟩ => by
    unfold ymx
    rcases List.mem_cons.mp hq with rfl | hq
    · exact Nat.lt_of_lt_of_le h2 (Nat.le_max_left _ _)
    · exact Nat.lt_of_lt_of_le (ymx_lt ⟨q, hq, h1, h2⟩) (Nat.le_max_right _ _)
theorem ymn_le {n : Nat} : ∀ {d : List (Nat × Nat)}, yinD n d → ymn d ≤ n
  | [], ⟨_, hz, _⟩ => by cases hz
  | p :: r, ⟨q, hq, h1, h2⟩ => by
    unfold ymn
    rcases List.mem_cons.mp hq with rfl | hq
    · exact Nat.le_trans (Nat.min_le_left _ _) h1
    · exact Nat.le_trans (Nat.min_le_right _ _) (ymn_le ⟨q, hq, h1, h2⟩)
theorem yc2_ok {E : yE} (h : yok g E) (a b : Nat) (n : Bool) : ∃ z ∈ yc2 E a b n, yok g z.1 ∧ (decide (yn (g a) ≤ yn (g b)) != n) = z.2 := by
  unfold yc2
  split
  next v hv => exact ⟨_, List.mem_singleton.mpr rfl, h, by rw [h.2 a b v hv]⟩
  next =>
    have ha := h.1 a
    have hb := h.1 b
    by_cases q : yn (g a) ≤ yn (g b)
    · refine ⟨_, List.mem_cons_self, ?_, by rw [decide_eq_true q]⟩
      have h1 : yok g ((b, ycr (ymn (yiv E.1 a)) (yiv E.1 b)) :: E.1, E.2) := yok_in h (ycr_in (Nat.le_trans (ymn_le ha) q) hb)
      have h2 := yok_in (k := a) (d := ycl (ymx (yiv E.1 b)) (yiv E.1 a)) h1 (ycl_in (Nat.lt_of_le_of_lt q (ymx_lt hb)) ha)
      refine ⟨h2.1, fun x y v hv => ?_⟩
      rcases yfa_cons hv with ⟨rfl, rfl, rfl⟩ | hv
      · exact decide_eq_true q
      · exact h.2 x y v hv
    · refine ⟨_, List.mem_cons_of_mem _ (List.mem_singleton.mpr rfl), ?_, by rw [decide_eq_false q]⟩
      have h2 := yok_in (k := a) (d := ycr (ymn (yiv E.1 b) + 1) (yiv E.1 a)) h (ycr_in (Nat.lt_of_le_of_lt (ymn_le hb) (Nat.lt_of_not_le q)) ha)
      refine ⟨h2.1, fun x y v hv => ?_⟩
      rcases yfa_cons hv with ⟨rfl, rfl, rfl⟩ | hv
      · exact decide_eq_false q
      · exact h.2 x y v hv
theorem xcd_flip (o : Jvm.ClassFile.Cond) (x y : Int32) : xcd (yflip o) y x = xcd o x y := by
  cases o
  · exact decide_eq_decide.mpr ⟨fun h => h.symm, fun h => h.symm⟩
  · exact decide_eq_decide.mpr ⟨fun h z => h z.symm, fun h z => h z.symm⟩
  all_goals rfl
theorem ycmp_ok {E : yE} (h : yok g E) {o : Jvm.ClassFile.Cond} {x y : xV} {bs : List (yE × Bool)} (e : ycmp o E x y = some bs) : ∃ (a b : Int32), ysu g x = .inl (.int a) ∧ ysu g y = .inl (.int b) ∧ ∃ z ∈ bs, yok g z.1 ∧ xcd o a b = z.2 := by
  unfold ycmp at e
  split at e
  next a c =>
    cases e
    exact ⟨g a, c, rfl, rfl, yc1_ok h o a c⟩
  next c a =>
    cases e
    obtain ⟨z, hz, h1, h2⟩ := yc1_ok h (yflip o) a c
    exact ⟨c, g a, rfl, rfl, z, hz, h1, by rw [← h2, xcd_flip]⟩
  next a b =>
    refine ⟨g a, g b, rfl, rfl, ?_⟩
    split at e
    next =>
      cases e
      obtain ⟨z, hz, h1, h2⟩ := yc2_ok h a b false
      refine ⟨z, hz, h1, ?_⟩
      rw [← h2, Bool.bne_false]
      exact decide_eq_decide.mpr yn_le_iff
    next =>
      cases e
      obtain ⟨z, hz, h1, h2⟩ := yc2_ok h a b true
      refine ⟨z, hz, h1, ?_⟩
      rw [← h2, Bool.bne_true, ← decide_not]
      exact decide_eq_decide.mpr (yn_lt_iff.trans Nat.not_le.symm)
    next =>
      cases e
      obtain ⟨z, hz, h1, h2⟩ := yc2_ok h b a false
      refine ⟨z, hz, h1, ?_⟩
      rw [← h2, Bool.bne_false]
      exact decide_eq_decide.mpr yn_le_iff
    next =>
      cases e
      obtain ⟨z, hz, h1, h2⟩ := yc2_ok h b a true
      refine ⟨z, hz, h1, ?_⟩
      rw [← h2, Bool.bne_true, ← decide_not]
      exact decide_eq_decide.mpr (yn_lt_iff.trans Nat.not_le.symm)
    next => cases e
  next => cases e
/-- a branch on unknown numbers is the small machine's, whatever they are -/
theorem ybr_ok {E : yE} (h : yok g E) {i : Instr} {pc : Nat} {st r : List xV} {tgt : Nat} {bs : List (yE × Bool)} (e : ybr i E pc st = some (r, tgt, bs)) : ∃ z ∈ bs, yok g z.1 ∧ (∀ (rt : Option FieldType) (st2 : List xV), xret rt i st2 = none) ∧ ∀ (nL : Nat) (ops : List Nat) (l : xL) (A : xA), xs nL i ops pc l (ys_ g st) A = some ((match z.2 with | true => tgt | false => pc + 3), l, ys_ g r, A) := by
  have br : ∀ {b : Bool} {off : Int} {l : xL} {A : xA} {r2 : List xV}, 0 ≤ (pc : Int) + off → xbr b pc off l r2 A = some ((match b with | true => ((pc : Int) + off).toNat | false => pc + 3), l, r2, A) := by
    intro b off l A r2 hp
    unfold xbr
    rw [if_pos hp]
    cases b <;> rfl
  unfold ybr at e
  split at e
  next o off =>
    split at e
    next x r2 =>
      split at e
      next hp =>
        split at e
        next bs2 hc =>
          cases e
          obtain ⟨a, b, h1, h2, z, hz, h3, h4⟩ := ycmp_ok h hc
          refine ⟨z, hz, h3, fun _ _ => rfl, fun nL ops l A => xs_of2 rfl ?_⟩
          cases h2
          show xs2 (.ifCond o off) ops pc l (ysu g x :: ys_ g r) A = _
          rw [h1]
          show xbr (xcd o a 0) pc off l (ys_ g r) A = _
          rw [h4]
          exact br hp
        next => cases e
      next => cases e
    next => cases e
  next o off =>
    split at e
    next y x r2 =>
      split at e
      next hp =>
        split at e
        next bs2 hc =>
          cases e
          obtain ⟨a, b, h1, h2, z, hz, h3, h4⟩ := ycmp_ok h hc
          refine ⟨z, hz, h3, fun _ _ => rfl, fun nL ops l A => xs_of2 rfl ?_⟩
          show xs2 (.if_icmp o off) ops pc l (ysu g y :: ysu g x :: ys_ g r) A = _
          rw [h1, h2]
          show xbr (xcd o a b) pc off l (ys_ g r) A = _
          rw [h4]
          exact br hp
        next => cases e
      next => cases e
    next => cases e
  next => cases e
theorem yfixl_in {E : yE} (h : yok g E) {k lo : Nat} : ∀ (n : Nat), lo ≤ yn (g k) → yn (g k) < lo + n → ∃ z ∈ yfixl E k lo n, yok g z.1 ∧ z.2 = g k
  | 0, h1, h2 => absurd h2 (by omega)
  | n + 1, h1, h2 => by
    by_cases q : yn (g k) = lo + n
    · refine ⟨(((k, [(lo + n, lo + n + 1)]) :: E.1, E.2), yi (lo + n)), List.mem_cons_self, yok_in h ⟨_, List.mem_singleton.mpr rfl, by dsimp only; omega, by dsimp only; omega⟩, ?_⟩
      show yi (lo + n) = g k
      rw [← q, yi_yn]
    · obtain ⟨z, hz, h3⟩ := yfixl_in h n h1 (by omega)
      exact ⟨z, List.mem_cons_of_mem _ hz, h3⟩
theorem yfixd_in {E : yE} (h : yok g E) {k : Nat} : ∀ {d : List (Nat × Nat)}, yinD (yn (g k)) d → ∃ z ∈ yfixd E k d, yok g z.1 ∧ z.2 = g k
  | [], ⟨_, hz, _⟩ => by cases hz
  | p :: r, ⟨q, hq, h1, h2⟩ => by
    rcases List.mem_cons.mp hq with rfl | hq
    · obtain ⟨z, hz, h3⟩ := yfixl_in h (q.2 - q.1) h1 (by omega)
      exact ⟨z, List.mem_append_left _ hz, h3⟩
    · obtain ⟨z, hz, h3⟩ := yfixd_in h ⟨q, hq, h1, h2⟩
      exact ⟨z, List.mem_append_right _ hz, h3⟩
theorem yfix_ok {E : yE} (h : yok g E) : ∀ {st : List xV} {fs : List (yE × List xV)}, yfix E st = some fs → ∃ z ∈ fs, yok g z.1 ∧ ys_ g z.2 = ys_ g st
  | [], fs, e => by cases e
  | v :: r, fs, e => by
    unfold yfix at e
    split at e
    next k r2 heq =>
      cases heq
      split at e
      next =>
        cases e
        obtain ⟨z, hz, h1, h2⟩ := yfixd_in h (h.1 k)
        refine ⟨_, List.mem_map.mpr ⟨z, hz, rfl⟩, h1, ?_⟩
        show .inl (.int z.2) :: ys_ g r = .inl (.int (g k)) :: ys_ g r
        rw [h2]
      next => cases e
    next v2 r2 _ heq =>
      cases heq
      split at e
      next zs hzs =>
        cases e
        obtain ⟨z, hz, h1, h2⟩ := yfix_ok h hzs
        refine ⟨_, List.mem_map.mpr ⟨z, hz, rfl⟩, h1, ?_⟩
        show ysu g v :: ys_ g z.2 = ysu g v :: ys_ g r
        rw [h2]
      next => cases e
    next heq => cases heq
/-! ends put together -/
theorem yveq_ok {a b : xV} (h : yveq a b = true) : a = b := by
  unfold yveq at h
  split at h
  · rw [of_decide_eq_true h]
  · rw [of_decide_eq_true h]
  · rfl
  · rw [Nat.eq_of_beq_eq_true h]
  next x y =>
    rw [Bool.and_eq_true] at h
    rw [show x = y from Prod.ext (Nat.eq_of_beq_eq_true h.1) (Nat.eq_of_beq_eq_true h.2)]
  · cases h
theorem yveql_ok : ∀ {a b : List xV}, yveql a b = true → a = b
  | [], [], _ => rfl
  | a :: r, b :: t, h => by
    unfold yveql at h
    rw [Bool.and_eq_true] at h
    rw [yveq_ok h.1, yveql_ok h.2]
  | [], _ :: _, h => by cases h
  | _ :: _, [], h => by cases h
theorem yueql_ok : ∀ {a b : List (Nat × xV)}, yueql a b = true → a = b
  | [], [], _ => rfl
  | (a, v) :: r, (b, w) :: t, h => by
    unfold yueql at h
    rw [Bool.and_eq_true, Bool.and_eq_true] at h
    have h1 : a = b := Nat.eq_of_beq_eq_true h.1
    have h2 : v = w := yveq_ok h.2.1
    rw [h1, h2, yueql_ok h.2.2]
  | [], _ :: _, h => by cases h
  | _ :: _, [], h => by cases h
theorem yoeq_ok {a b : yO} (h : yoeq a b = true) : a = b := by
  unfold yoeq at h
  split at h
  next x y =>
    rw [Bool.and_eq_true] at h
    obtain ⟨x1, x2⟩ := x
    obtain ⟨y1, y2⟩ := y
    have h1 : x1 = y1 := Nat.eq_of_beq_eq_true h.1
    have h2 : x2 = y2 := yveql_ok h.2
    rw [h1, h2]
  next x y =>
    rw [Bool.and_eq_true, Bool.and_eq_true, Bool.and_eq_true] at h
    obtain ⟨x1, x2, x3, x4⟩ := x
    obtain ⟨y1, y2, y3, y4⟩ := y
    have h1 : x1 = y1 := Nat.eq_of_beq_eq_true h.1
    have h2 : x2 = y2 := Nat.eq_of_beq_eq_true h.2.1
    have h3 : x3 = y3 := yveq_ok h.2.2.1
    have h4 : x4 = y4 := yueql_ok h.2.2.2
    rw [h1, h2, h3, h4]
  next => cases h
theorem yreq_ok {a b : xR} (h : yreq a b = true) : a = b := by
  unfold yreq at h
  split at h
  · rfl
  · rw [yveq_ok h]
  · cases h
theorem ymb_ok : ∀ {a b : List yO} {k : Nat} {o : yO}, (ymb a b)[k]? = some o → a[k]? = some o ∧ b[k]? = some o
  | a :: r, b :: t, k, o, h => by
    unfold ymb at h
    split at h
    next e =>
      cases k with
      | zero =>
        cases h
        exact ⟨rfl, by rw [← yoeq_ok e]; rfl⟩
      | succ k => exact ymb_ok (a := r) (b := t) (k := k) h
    next => cases h
  | [], _, _, _, h => by cases h
  | _ :: _, [], _, _, h => by cases h
theorem ymf_ok : ∀ {a b : List xV} {k : Nat} {v : xV}, (ymf a b)[k]? = some v → v ≠ yhole → a[k]? = some v ∧ b[k]? = some v
  | a :: r, b :: t, k, v, h, hv => by
    unfold ymf at h
    cases k with
    | zero =>
      have h := Option.some.inj h
      split at h
      next e =>
        subst h
        exact ⟨rfl, by rw [← yveq_ok e]; rfl⟩
      next => exact absurd h.symm hv
    | succ k => exact ymf_ok (a := r) (b := t) (k := k) h hv
  | [], _, _, _, h, _ => by cases h
  | _ :: _, [], _, _, h, _ => by cases h
theorem ymf_len : ∀ {a b : List xV}, a.length = b.length → (ymf a b).length = a.length
  | [], [], _ => rfl
  | a :: r, b :: t, h => by
    show (ymf r t).length + 1 = r.length + 1
    rw [ymf_len (Nat.succ.inj h)]
  | [], _ :: _, h => by cases h
  | _ :: _, [], h => by cases h
theorem yom_ok {a b o : yO} (h : yom a b = some o) (g : Nat → Int32) (x : xO) : (yrel g a x → yrel g o x) ∧ (yrel g b x → yrel g o x) := by
  unfold yom at h
  split at h
  next a1 b1 =>
    split at h
    next e =>
      cases h
      rw [Bool.and_eq_true] at e
      have e1 := Nat.eq_of_beq_eq_true e.1
      have e2 := Nat.eq_of_beq_eq_true e.2
      refine ⟨fun hx => ?_, fun hx => ?_⟩
      · obtain ⟨fs, h1, h2, h3⟩ := hx
        exact ⟨fs, h1, by rw [ymf_len e2]; exact h2, fun k v hk hv => h3 k v (ymf_ok hk hv).1 hv⟩
      · obtain ⟨fs, h1, h2, h3⟩ := hx
        exact ⟨fs, by rw [e1]; exact h1, by rw [ymf_len e2, e2]; exact h2, fun k v hk hv => h3 k v (ymf_ok hk hv).2 hv⟩
    next => cases h
  next a1 b1 =>
    split at h
    next e =>
      cases h
      have e1 := yoeq_ok e
      exact ⟨id, fun hx => by rw [e1]; exact hx⟩
    next => cases h
  next => cases h
theorem ymo_ok : ∀ {a b : List (Option yO)} {k : Nat} {o : yO}, (ymo a b)[k]? = some (some o) → ∃ o1 o2, a[k]? = some (some o1) ∧ b[k]? = some (some o2) ∧ yom o1 o2 = some o
  | x :: r, y :: t, k, o, h => by
    unfold ymo at h
    split at h
    next a r2 b t2 e1 e2 =>
      cases e1
      cases e2
      cases k with
      | zero => exact ⟨a, b, rfl, rfl, Option.some.inj h⟩
      | succ k => exact ymo_ok (a := r) (b := t) (k := k) h
    next e1 e2 =>
      cases e1
      cases e2
      cases k with
      | zero => cases h
      | succ k => exact ymo_ok (a := r) (b := t) (k := k) h
    next => cases h
  | [], _, _, _, h => by cases h
  | x :: _, [], _, _, h => by cases x <;> cases h
theorem ymr_ok : ∀ {a b : List (List (Option yO))} {k : Nat} {r : List (Option yO)}, (ymr a b)[k]? = some r → ∃ r1 r2, a[k]? = some r1 ∧ b[k]? = some r2 ∧ r = ymo r1 r2
  | x :: a, y :: b, k, r, h => by
    cases k with
    | zero =>
      cases h
      exact ⟨x, y, rfl, rfl, rfl⟩
    | succ k => exact ymr_ok (a := a) (b := b) (k := k) h
  | [], _, _, _, h => by cases h
  | _ :: _, [], _, _, h => by cases h
theorem ymeet_ok {h1 h2 : yH} {q : Nat × Nat} {o : yO} (h : ylook (ymeet h1 h2) q = some o) : (∃ o1, ylook h1 q = some o1 ∧ ∀ g x, yrel g o1 x → yrel g o x) ∧ ∃ o2, ylook h2 q = some o2 ∧ ∀ g x, yrel g o2 x → yrel g o x := by
  obtain ⟨a, k⟩ := q
  match a, h with
  | 0, h =>
    have h : yg (ymb h1.1 h2.1) k = some o := h
    rw [yg_eq] at h
    have h3 := ymb_ok h
    refine ⟨⟨o, ?_, fun _ _ z => z⟩, ⟨o, ?_, fun _ _ z => z⟩⟩
    · show yg h1.1 k = some o
      rw [yg_eq]
      exact h3.1
    · show yg h2.1 k = some o
      rw [yg_eq]
      exact h3.2
  | 1, h =>
    rw [ylook1] at h
    rw [ylook1, ylook1]
    split at h
    next r hr =>
      obtain ⟨r1, r2, e1, e2, e3⟩ := ymr_ok hr
      rw [e1, e2]
      split at h
      next o2 ho =>
        cases h
        rw [e3] at ho
        obtain ⟨x1, x2, e4, e5, e6⟩ := ymo_ok ho
        dsimp only
        rw [e4, e5]
        exact ⟨⟨x1, rfl, fun g x => (yom_ok e6 g x).1⟩, ⟨x2, rfl, fun g x => (yom_ok e6 g x).2⟩⟩
      next => cases h
    next => cases h
  | _ + 2, h => cases h
theorem yR.less {T U : yT} {A : xA} (h : yR g T A) (h1 : U.1 = T.1) (h2 : T.2.1 ≤ U.2.1) (h3 : T.2.2.1 ≤ U.2.2.1) (h4 : ∀ q o, ylook U.2.2.2 q = some o → ∃ o1, ylook T.2.2.2 q = some o1 ∧ ∀ g x, yrel g o1 x → yrel g o x) : yR g U A := by
  refine ⟨by rw [h1]; exact h.1, Nat.le_trans h.2.1 h2, Nat.le_trans h.2.2.1 h3, fun q o e => ?_, fun k hk => h.2.2.2.2 k (by rw [← h1]; exact hk)⟩
  obtain ⟨o1, e1, e2⟩ := h4 q o e
  obtain ⟨x, e3, e4⟩ := h.2.2.2.1 q o1 e1
  exact ⟨x, e3, e2 g x e4⟩
/-- one group is among others -/
def ycov (x : yGr) (ys : List yGr) : Prop := ∃ y ∈ ys, y.2.1 = x.2.1 ∧ (∀ n, yinD n x.1 → yinD n y.1) ∧ ∀ (g : Nat → Int32) (A : xA), yR g x.2.2 A → yR g y.2.2 A
theorem ycov_self {x : yGr} {ys : List yGr} (h : x ∈ ys) : ycov x ys := ⟨x, h, rfl, fun _ z => z, fun _ _ z => z⟩
theorem yins_ok (x : yGr) : ∀ (ys : List yGr), ycov x (yins x ys) ∧ ∀ y ∈ ys, ycov y (yins x ys)
  | [] => ⟨ycov_self (List.mem_singleton.mpr rfl), fun y hy => by cases hy⟩
  | y :: r => by
    unfold yins
    split
    next e =>
      rw [Bool.and_eq_true] at e
      have e1 := yreq_ok e.1
      have e2 := Nat.eq_of_beq_eq_true e.2
      refine ⟨⟨_, List.mem_cons_self, rfl, fun n h => yinD_app (Or.inl h), fun g A h => h.less rfl (Nat.le_max_left _ _) (Nat.le_max_left _ _) (fun q o z => (ymeet_ok z).1)⟩, fun z hz => ?_⟩
      rcases List.mem_cons.mp hz with rfl | hz
      · exact ⟨_, List.mem_cons_self, e1, fun n h => yinD_app (Or.inr h), fun g A h => h.less e2 (Nat.le_max_right _ _) (Nat.le_max_right _ _) (fun q o z => (ymeet_ok z).2)⟩
      · exact ycov_self (List.mem_cons_of_mem _ hz)
    next =>
      obtain ⟨⟨w, hw, h1⟩, h2⟩ := yins_ok x r
      refine ⟨⟨w, List.mem_cons_of_mem _ hw, h1⟩, fun z hz => ?_⟩
      rcases List.mem_cons.mp hz with rfl | hz
      · exact ycov_self List.mem_cons_self
      · obtain ⟨w, hw, h1⟩ := h2 z hz
        exact ⟨w, List.mem_cons_of_mem _ hw, h1⟩
theorem ycov_tr {x : yGr} {ys zs : List yGr} (h : ycov x ys) (h2 : ∀ y ∈ ys, ycov y zs) : ycov x zs := by
  obtain ⟨y, hy, a1, a2, a3⟩ := h
  obtain ⟨z, hz, b1, b2, b3⟩ := h2 y hy
  exact ⟨z, hz, b1.trans a1, fun n h => b2 n (a2 n h), fun g A h => b3 g A (a3 g A h)⟩
theorem ygrp_ok (k : Nat) : ∀ (os : List (yE × xR × yT)), ∀ o ∈ os, ycov (yiv o.1.1 k, o.2.1, o.2.2) (ygrp k os)
  | [], o, h => by cases h
  | x :: r, o, h => by
    unfold ygrp
    obtain ⟨h1, h2⟩ := yins_ok (yiv x.1.1 k, x.2.1, x.2.2) (ygrp k r)
    rcases List.mem_cons.mp h with rfl | h
    · exact h1
    · exact ycov_tr (ygrp_ok k r o h) h2
theorem yjoin_ok {E : yE} (hE : yok g E) {c : Nat} {args : List xV} {outs : List (yE × xR × yT)} {o : yE × xR × yT} (ho : o ∈ outs) (hok : yok g o.1) {A : xA} (hR : yR g o.2.2 A) : ∃ o2 ∈ yjoin c E args outs, yok g o2.1 ∧ o2.2.1 = o.2.1 ∧ yR g o2.2.2 A := by
  have same : o ∈ outs → ∃ o2 ∈ outs, yok g o2.1 ∧ o2.2.1 = o.2.1 ∧ yR g o2.2.2 A := fun h => ⟨o, h, hok, rfl, hR⟩
  unfold yjoin
  split
  next => cases ho
  next => exact same ho
  next os _ _ =>
    split
    next => exact same ho
    next =>
      split
      next k hk =>
        obtain ⟨G, hG, e1, e2, e3⟩ := ygrp_ok k outs o ho
        exact ⟨_, List.mem_map.mpr ⟨G, hG, rfl⟩, yok_in hE (e2 _ (hok.1 k)), e1, e3 g A hR⟩
      next => exact same ho
    next =>
      obtain ⟨G, hG, e1, e2, e3⟩ := ygrp_ok 0 outs o ho
      exact ⟨_, List.mem_map.mpr ⟨G, hG, rfl⟩, hE, e1, e3 g A hR⟩
theorem ybind_in {α β : Type} {f : α → Option (List β)} : ∀ {xs : List α} {ys : List β}, ybind f xs = some ys → ∀ a ∈ xs, ∃ zs, f a = some zs ∧ ∀ z ∈ zs, z ∈ ys
  | [], _, _, a, ha => by cases ha
  | x :: r, ys, h, a, ha => by
    unfold ybind at h
    split at h
    next u hu =>
      split at h
      next v hv =>
        cases h
        rcases List.mem_cons.mp ha with rfl | ha
        · exact ⟨u, hu, fun z hz => List.mem_append_left _ hz⟩
        · obtain ⟨zs, h1, h2⟩ := ybind_in hv a ha
          exact ⟨zs, h1, fun z hz => List.mem_append_right _ (h2 z hz)⟩
      next => cases h
    next => cases h
def yres (g : Nat → Int32) : xR → xR
  | .inl v => .inl (v.map (ysu g))
  | .inr E => .inr E
/-- what a symbolic run says of the small machine -/
def ysays (g : Nat → Int32) (P : xPr) (d mid pc : Nat) (l : xL) (st : List xV) (A : xA) (outs : List (yE × xR × yT)) : Prop :=
  ∃ o ∈ outs, yok g o.1 ∧ ∃ (m : Nat) (A2 : xA), xrun P yct m d mid pc (yl g l) (ys_ g st) A = some (yres g o.2.1, A2) ∧ yR g o.2.2 A2
set_option maxHeartbeats 8000000 in
/-- THE SYMBOLIC MACHINE IS THE SMALL MACHINE'S, whatever the unknown numbers are -/
theorem yrun_ok {P : xPr} {J : Nat → Nat} (hg : ygood g) : ∀ (n d mid pc : Nat) (l : xL) (st : List xV) (T : yT) (E : yE) (outs : List (yE × xR × yT)), yrun P J n d mid pc l st T E = some outs → yok g E → ∀ A : xA, yR g T A → ysays g P d mid pc l st A outs := by
  intro n
  induction n with
  | zero =>
    intro d mid pc l st T E outs h
    cases h
  | succ n ih =>
    intro d mid pc l st T E outs h hE A hR
    unfold yrun at h
    split at h
    next => cases h
    next i ops hP =>
      split at h
      next v hv =>
        cases h
        refine ⟨_, List.mem_singleton.mpr rfl, hE, 1, A, ?_, hR⟩
        unfold xrun
        rw [hP]
        dsimp only
        rw [yret_ok (g := g) hv]
        rfl
      next hv =>
        split at h
        next X hX =>
          split at h
          next idx =>
            split at h
            next hc =>
              cases h
              refine ⟨_, List.mem_singleton.mpr rfl, hE, 1, (A.1, A.2.1 + 1, A.2.2.1 + 6, A.2.2.2), ?_, ⟨hR.1, Nat.add_le_add_right hR.2.1 1, Nat.add_le_add_right hR.2.2.1 6, hR.2.2.2⟩⟩
              unfold xrun
              rw [hP]
              show (match P.2.2.1 mid pc with
                | some E => if 8 ≤ d ∧ ((ys_ g st).map xcat).sum ≤ 8 then some ((Sum.inr E : xR), ((A.1, A.2.1 + 1, A.2.2.1 + 6, A.2.2.2) : xA)) else none
                | none => _) = _
              rw [hX]
              show (if 8 ≤ d ∧ ((ys_ g st).map xcat).sum ≤ 8 then some ((Sum.inr X : xR), ((A.1, A.2.1 + 1, A.2.2.1 + 6, A.2.2.2) : xA)) else none) = _
              rw [ys_sum, if_pos hc]
              rfl
            next => cases h
          next => cases h
        next hX =>
          split at h
          next z hz =>
            obtain ⟨pc2, l2, st2, T2⟩ := z
            obtain ⟨A2, hs, hR2⟩ := ys_ok hg hz hR
            obtain ⟨o, ho, ho1, m, A3, hx, hR3⟩ := ih _ _ _ _ _ _ _ _ h hE A2 hR2
            refine ⟨o, ho, ho1, m + 1, A3, ?_, hR3⟩
            unfold xrun
            rw [hP]
            dsimp only
            rw [ys_noret hz, hX]
            dsimp only
            rw [hs]
            exact hx
          next hz =>
            split at h
            next mid2 as rest d2 hinv =>
              split at h
              next hw =>
                split at h
                next => cases h
                next outs1 hcall =>
                  obtain ⟨o1, ho1, hok1, m1, A1, hx1, hR1⟩ := ih _ _ _ _ _ _ _ _ hcall hE A hR
                  have hinv2 := yinv_ok hR hinv
                  obtain ⟨o2, ho2, hok2, hres2, hR2⟩ := yjoin_ok hE (c := J mid2) (args := as) ho1 hok1 hR1
                  rw [← hres2] at hx1
                  clear hR1 hok1 ho1 hres2
                  obtain ⟨zs, hzs, hsub⟩ := ybind_in h o2 ho2
                  rw [yl_xar] at hx1
                  have hstep : ∀ (m : Nat), m1 ≤ m → xrun P yct (m + 1) (d2 + 1) mid pc (yl g l) (ys_ g st) A = (match (yres g o2.2.1, A1) with
                    | (.inl v, A2) => xrun P yct m (d2 + 1) mid (pc + 3) (yl g l) (v.toList ++ ys_ g rest) A2
                    | (.inr E, A2) => match P.2.2.2 mid pc E with
                      | some (hpc, ln, k) => xrun P yct m (d2 + 1) mid (hpc + ln) (xrm (yl g l) k) [] A2
                      | none => if (P.2.1 mid).2.2.2.2 = [] then some (.inr E, A2) else none) := by
                    intro m hm
                    obtain ⟨k, rfl⟩ := Nat.exists_eq_add_of_le hm
                    have hx2 : xrun P yct (m1 + k) d2 mid2 0 (xar 0 (ys_ g as)) [] A = some (yres g o2.2.1, A1) := xrun_mono (k := k) hx1
                    rw [xrun, hP]
                    dsimp only
                    rw [xinv_noret hinv, hX]
                    dsimp only
                    rw [xinv_noxs hinv, hinv2]
                    dsimp only
                    rw [if_pos ⟨by rw [ys_sum]; exact hw.1, by rw [ys_sum]; exact hw.2⟩]
                    simp only [yct]
                    rw [hx2]
                    generalize yres g o2.2.1 = w
                    cases w <;> rfl
                  generalize hres : o2.2.1 = res at hzs hstep
                  cases res with
                  | inl v =>
                    dsimp only at hzs
                    obtain ⟨o, ho, hok, m2, A3, hx3, hR3⟩ := ih _ _ _ _ _ _ _ _ hzs hok2 A1 hR2
                    refine ⟨o, hsub o ho, hok, (m1 + m2) + 1, A3, ?_, hR3⟩
                    rw [hstep _ (Nat.le_add_right _ _)]
                    show xrun P yct (m1 + m2) (d2 + 1) mid (pc + 3) (yl g l) ((v.map (ysu g)).toList ++ ys_ g rest) A1 = _
                    have e1 : (v.map (ysu g)).toList ++ ys_ g rest = ys_ g (v.toList ++ rest) := by
                      cases v <;> rfl
                    rw [e1, Nat.add_comm m1 m2]
                    exact xrun_mono hx3
                  | inr X =>
                    dsimp only at hzs
                    split at hzs
                    next hpc ln k hh =>
                      obtain ⟨o, ho, hok, m2, A3, hx3, hR3⟩ := ih _ _ _ _ _ _ _ _ hzs hok2 A1 hR2
                      refine ⟨o, hsub o ho, hok, (m1 + m2) + 1, A3, ?_, hR3⟩
                      rw [hstep _ (Nat.le_add_right _ _)]
                      show (match P.2.2.2 mid pc X with
                        | some (hpc, ln, k) => xrun P yct (m1 + m2) (d2 + 1) mid (hpc + ln) (xrm (yl g l) k) [] A1
                        | none => if (P.2.1 mid).2.2.2.2 = [] then some (.inr X, A1) else none) = _
                      rw [hh]
                      show xrun P yct (m1 + m2) (d2 + 1) mid (hpc + ln) (xrm (yl g l) k) [] A1 = _
                      rw [yl_xrm, Nat.add_comm m1 m2]
                      exact xrun_mono hx3
                    next hh =>
                      split at hzs
                      next hnil =>
                        cases hzs
                        refine ⟨_, hsub _ (List.mem_singleton.mpr rfl), hok2, m1 + 1, A1, ?_, hR2⟩
                        rw [hstep _ (Nat.le_refl _)]
                        show (match P.2.2.2 mid pc X with
                          | some (hpc, ln, k) => xrun P yct m1 (d2 + 1) mid (hpc + ln) (xrm (yl g l) k) [] A1
                          | none => if (P.2.1 mid).2.2.2.2 = [] then some (.inr X, A1) else none) = _
                        rw [hh]
                        exact if_pos hnil
                      next => cases hzs
              next => cases h
            next =>
              split at h
              next z hz2 =>
                obtain ⟨r, tgt, bs⟩ := z
                obtain ⟨b, hb, hok, hnr, hs⟩ := ybr_ok hE hz2
                obtain ⟨zs, hzs, hsub⟩ := ybind_in h b hb
                obtain ⟨o, ho, ho1, m, A3, hx, hR3⟩ := ih _ _ _ _ _ _ _ _ hzs hok A hR
                refine ⟨o, hsub o ho, ho1, m + 1, A3, ?_, hR3⟩
                unfold xrun
                rw [hP]
                dsimp only
                rw [hnr, hX]
                dsimp only
                rw [hs]
                exact hx
              next =>
                split at h
                next fs hfs =>
                  obtain ⟨z, hz3, hok, hst⟩ := yfix_ok hE hfs
                  obtain ⟨zs, hzs, hsub⟩ := ybind_in h z hz3
                  obtain ⟨o, ho, ho1, m, A3, hx, hR3⟩ := ih _ _ _ _ _ _ _ _ hzs hok A hR
                  exact ⟨o, hsub o ho, ho1, m, A3, by rw [← hst]; exact hx, hR3⟩
                next => cases h
end YRUNOK
