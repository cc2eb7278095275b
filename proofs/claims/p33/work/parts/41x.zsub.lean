set_option maxRecDepth 20000
section ZSUB
/-- the second knows all that the first knows of a frame's slots -/
def zSub (l l2 : xL) : Prop := (∀ p ∈ l, p ∈ l2) ∧ (l2.map (fun p => p.1)).Nodup
theorem zuniq {l : xL} (hu : (l.map (fun p => p.1)).Nodup) {i : Nat} {v w : xV} (hv : (i, v) ∈ l) (hw : (i, w) ∈ l) : v = w := by
  induction l with
  | nil => cases hv
  | cons q r ih =>
    rw [List.map_cons, List.nodup_cons] at hu
    have no : ∀ x : xV, (i, x) ∈ r → q.1 ≠ i := fun x hx e => hu.1 (List.mem_map.mpr ⟨(i, x), hx, e.symm⟩)
    rcases List.mem_cons.mp hv with e | hv <;> rcases List.mem_cons.mp hw with e2 | hw
    · exact congrArg Prod.snd (e.trans e2.symm)
    · exact absurd (congrArg Prod.fst e).symm (no _ hw)
    · exact absurd (congrArg Prod.fst e2).symm (no _ hv)
    · exact ih hu.2 hv hw
theorem xl_of {l : xL} (hu : (l.map (fun p => p.1)).Nodup) {i : Nat} {v : xV} (h : (i, v) ∈ l) : xl l i = some v := by
  induction l with
  | nil => cases h
  | cons q r ih =>
    unfold xl
    split
    next e =>
      have hq : (i, q.2) ∈ q :: r := by rw [← e]; exact List.mem_cons_self
      rw [zuniq hu h hq]
    next e =>
      rcases List.mem_cons.mp h with e2 | h
      · exact absurd (congrArg Prod.fst e2).symm e
      · exact ih (List.nodup_cons.mp hu).2 h
theorem zSub.at {l l2 : xL} (hs : zSub l l2) {i : Nat} {v : xV} (h : xl l i = some v) : xl l2 i = some v := xl_of hs.2 (hs.1 _ (xl_mem h))
theorem zSub.cut {l l2 : xL} (hs : zSub l l2) (p : Nat × xV → Bool) : zSub (l.filter p) (l2.filter p) := by
  refine ⟨fun q hq => ?_, ?_⟩
  · obtain ⟨h1, h2⟩ := List.mem_filter.mp hq
    exact List.mem_filter.mpr ⟨hs.1 q h1, h2⟩
  · exact List.Nodup.sublist (List.Sublist.map _ List.filter_sublist) hs.2
theorem zSub.put {l l2 : xL} (hs : zSub l l2) {i : Nat} {v : xV} {p : Nat × xV → Bool} (hp : ∀ w, p (i, w) = false) : zSub ((i, v) :: l.filter p) ((i, v) :: l2.filter p) := by
  have hc := hs.cut p
  refine ⟨fun q hq => ?_, ?_⟩
  · rcases List.mem_cons.mp hq with e | h
    · rw [e]; exact List.mem_cons_self
    · exact List.mem_cons_of_mem _ (hc.1 q h)
  · rw [List.map_cons, List.nodup_cons]
    refine ⟨fun h => ?_, hc.2⟩
    obtain ⟨q, hq, e⟩ := List.mem_map.mp h
    obtain ⟨a, b⟩ := q
    have e : a = i := e
    subst e
    have := (List.mem_filter.mp hq).2
    rw [hp b] at this
    cases this
theorem zSub.st1 {l l2 : xL} (hs : zSub l l2) (i : Nat) (v : xV) : zSub (xst1 l i v) (xst1 l2 i v) := hs.put (fun w => by simp)
theorem zSub.st2 {l l2 : xL} (hs : zSub l l2) (i : Nat) (v : xV) : zSub (xst2 l i v) (xst2 l2 i v) := hs.put (fun w => by simp)
set_option maxHeartbeats 8000000 in
theorem xs1_sub {nL : Nat} {i : Instr} {pc pc2 : Nat} {l l2 l3 : xL} {st st2 : List xV} (hs : zSub l l2) (h : xs1 nL i pc l st = some (pc2, l3, st2)) : ∃ l4, xs1 nL i pc l2 st = some (pc2, l4, st2) ∧ zSub l3 l4 := by
  unfold xs1 at h
  split at h
  all_goals (repeat' split at h)
  all_goals first
    | (cases h; done)
    | (cases h; exact ⟨l2, rfl, hs⟩)
    | (rename_i hx; cases h; exact ⟨l2, if_pos hx, hs⟩)
    | (rename_i hx; cases h; refine ⟨l2, ?_, hs⟩; simp only [xs1]; rw [hs.at hx]; done)
    | (rename_i hx; cases h; exact ⟨_, if_pos hx, hs.st1 _ _⟩)
    | (rename_i hx; cases h; exact ⟨_, if_pos hx, hs.st2 _ _⟩)
    | (rename_i hx hy; cases h; refine ⟨_, ?_, hs.st1 _ _⟩; simp only [xs1]; rw [hs.at hx]; exact if_pos hy)
theorem xbr_l {b : Bool} {pc : Nat} {off : Int} {l : xL} {st : List xV} {A : xA} {z : Nat × xL × List xV × xA} (h : xbr b pc off l st A = some z) (l2 : xL) : z.2.1 = l ∧ xbr b pc off l2 st A = some (z.1, l2, z.2.2) := by
  unfold xbr at h ⊢
  split at h
  next h1 =>
    rw [if_pos h1]
    split at h
    next h2 => rw [if_pos h2]; cases h; exact ⟨rfl, rfl⟩
    next h2 => rw [if_neg h2]; cases h; exact ⟨rfl, rfl⟩
  next => cases h
theorem xjmp_l {pc : Nat} {off : Int} {l : xL} {st : List xV} {A : xA} {z : Nat × xL × List xV × xA} (h : xjmp pc off l st A = some z) (l2 : xL) : z.2.1 = l ∧ xjmp pc off l2 st A = some (z.1, l2, z.2.2) := by
  unfold xjmp at h ⊢
  split at h
  next h1 => rw [if_pos h1]; cases h; exact ⟨rfl, rfl⟩
  next => cases h
set_option maxHeartbeats 8000000 in
theorem xs2_l {i : Instr} {ops : List Nat} {pc : Nat} {l : xL} {st : List xV} {A : xA} {z : Nat × xL × List xV × xA} (h : xs2 i ops pc l st A = some z) (l2 : xL) : z.2.1 = l ∧ xs2 i ops pc l2 st A = some (z.1, l2, z.2.2) := by
  unfold xs2 at h
  split at h
  all_goals (repeat' split at h)
  all_goals first
    | (cases h; done)
    | exact xbr_l h l2
    | (cases h; exact ⟨rfl, rfl⟩)
    | (rename_i hx; cases h; exact ⟨rfl, if_pos hx⟩)
    | (rename_i hx; cases h; refine ⟨rfl, ?_⟩; simp only [xs2]; rw [hx]; done)
    | (rename_i hx hy; cases h; refine ⟨rfl, ?_⟩; simp only [xs2]; rw [hx]; exact if_pos hy)
    | (rename_i hx hy; cases h; refine ⟨rfl, ?_⟩; simp only [xs2]; rw [if_neg hx, hy]; done)
    | (rename_i hx hy; cases h; refine ⟨rfl, ?_⟩; simp only [xs2]; rw [hx]; dsimp only; rw [hy]; done)
    | (rename_i hx; obtain ⟨e1, e2⟩ := xjmp_l h l2; refine ⟨e1, ?_⟩; simp only [xs2]; rw [if_pos hx]; exact e2)
    | (rename_i hx y off hy; obtain ⟨e1, e2⟩ := xjmp_l h l2; refine ⟨e1, ?_⟩; simp only [xs2]; rw [if_neg hx, hy]; exact e2)
    | (cases h; refine ⟨rfl, ?_⟩; simp only [xs2]; simp_all; done)
theorem xs2_no1 {i : Instr} {ops : List Nat} {pc : Nat} {l : xL} {st : List xV} {A : xA} {z : Nat × xL × List xV × xA} (h : xs2 i ops pc l st A = some z) (nL : Nat) (l2 : xL) : xs1 nL i pc l2 st = none := by
  unfold xs2 at h
  split at h
  all_goals first
    | rfl
    | (cases h; done)
theorem xs_sub {nL : Nat} {i : Instr} {ops : List Nat} {pc pc2 : Nat} {l l2 l3 : xL} {st st2 : List xV} {A A2 : xA} (hs : zSub l l2) (h : xs nL i ops pc l st A = some (pc2, l3, st2, A2)) : ∃ l4, xs nL i ops pc l2 st A = some (pc2, l4, st2, A2) ∧ zSub l3 l4 := by
  unfold xs at h
  split at h
  next z hz =>
    obtain ⟨a, b, e⟩ := z
    cases h
    obtain ⟨l4, h1, h2⟩ := xs1_sub hs hz
    exact ⟨l4, xs_of1 h1, h2⟩
  next hz =>
    split at h
    next z hz2 =>
      cases h
      obtain ⟨h1, h2⟩ := xs2_l hz2 l2
      have h1 : l3 = l := h1
      subst h1
      exact ⟨l2, xs_of2 (xs2_no1 hz2 nL l2) h2, hs⟩
    next hz2 =>
      split at h
      all_goals (repeat' split at h)
      all_goals first
        | (cases h; done)
        | (rename_i hx; cases h; exact ⟨l2, if_pos hx, hs⟩)
        | (rename_i hx hy; cases h; refine ⟨l2, ?_, hs⟩; refine (if_pos hx).trans ?_; rw [if_pos hy]; done)
        | (rename_i hx hy; cases h; refine ⟨l2, ?_, hs⟩; refine (if_pos hx).trans ?_; rw [if_neg hy]; done)
        | (rename_i hx hy hw; cases h; refine ⟨l2, ?_, hs⟩; unfold xs; dsimp only [xs1, xs2]; simp only [hx, hy]; exact if_pos hw)
set_option maxHeartbeats 8000000 in
/-- who knows more of the slots comes to the same -/
theorem zrun_sub {P : xPr} {ct : zCt} : ∀ (n d mid pc : Nat) (l l2 : xL) (st : List xV) (A : xA) (z : xR × xA), zSub l l2 → xrun P ct n d mid pc l st A = some z → xrun P ct n d mid pc l2 st A = some z := by
  intro n
  induction n with
  | zero =>
    intro d mid pc l l2 st A z hs h
    cases h
  | succ n ih =>
    intro d mid pc l l2 st A z hs h
    unfold xrun at h ⊢
    split at h
    next => cases h
    next i ops hP =>
      split at h
      next v hv => exact h
      next hv =>
        split at h
        next E hE => exact h
        next hE =>
          split at h
          next y hy =>
            obtain ⟨a, l3, b, A2⟩ := y
            obtain ⟨l4, h1, h2⟩ := xs_sub hs hy
            rw [h1]
            exact ih _ _ _ _ _ _ _ _ h2 h
          next hy =>
            split at h
            next mid2 as rest d2 hi =>
              rw [xinv_noxs hi]
              dsimp only
              by_cases hw : (as.map xcat).sum ≤ (P.2.1 mid2).2.2.1 ∧ (rest.map xcat).sum ≤ 8
              · rw [if_pos hw] at h ⊢
                split at h
                next v A2 hm => exact ih _ _ _ _ _ _ _ _ hs h
                next E A2 hm =>
                  split at h
                  next hpc ln k hh => exact ih _ _ _ _ _ _ _ _ (hs.cut _) h
                  next hh => exact h
                next => cases h
              · rw [if_neg hw] at h
                cases h
            next hne => cases h
theorem zX.sub {P : xPr} {ct : zCt} {d mid pc : Nat} {l l2 : xL} {st : List xV} {c s : Nat} {h : xH} {Q : xR → Nat → Nat → xH → Prop} (h1 : ∀ p ∈ l, p ∈ l2) (h2 : (l2.map (fun p => p.1)).Nodup) (k : zXc P ct d mid pc l st c s h Q) : zXc P ct d mid pc l2 st c s h Q := by
  obtain ⟨us, n, r, c1, s1, h3, e, hq⟩ := k
  exact ⟨us, n, r, c1, s1, h3, fun N => zrun_sub _ _ _ _ _ _ _ _ _ ⟨h1, h2⟩ (e N), hq⟩
/-- the slots by their places in the other list -/
theorem zX.re {P : xPr} {ct : zCt} {d mid pc : Nat} {l2 : xL} {st : List xV} {c s : Nat} {h : xH} {Q : xR → Nat → Nat → xH → Prop} (l : xL) (is ks : List Nat) (h1 : is.map (fun i => l2[i]?) = l.map some) (h2 : l2.map (fun p => p.1) = ks) (h3 : ks.Nodup) (k : zXc P ct d mid pc l st c s h Q) : zXc P ct d mid pc l2 st c s h Q := by
  refine zX.sub (fun p hp => ?_) (by rw [h2]; exact h3) k
  have : some p ∈ l.map some := List.mem_map.mpr ⟨p, hp, rfl⟩
  rw [← h1] at this
  obtain ⟨i, -, e⟩ := List.mem_map.mp this
  exact List.mem_of_getElem? e
end ZSUB
