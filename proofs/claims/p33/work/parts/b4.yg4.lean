set_option maxRecDepth 100000
section YB4
variable {v gr : Nat} {fi m b : Int}
theorem zJo.at {J : List zE} (hJ : zJo J) {x : zE} (hx : x ∈ J) : J[zeO x]? = some x := by
  obtain ⟨i, hi⟩ := List.getElem?_of_mem hx
  rw [hJ i x hi]
  exact hi
theorem zvA1_at {Vs : List zE} {k : Nat} {T : (Nat → Int64) × List Int64} {x : zE} (j : Nat) : (zvA1 v Vs k T x).1 j = if j = zeO x ∧ zeK x = k ∧ ¬ T.1 (zeO x) = 0 then zvRes v Vs x else T.1 j := by
  unfold zvA1
  by_cases h : zeK x = k ∧ ¬ T.1 (zeO x) = 0
  · rw [if_pos h]
    show zanF T.1 (zeO x) (zeO x) _ j = _
    rw [zanF_at]
    by_cases hj : j = zeO x
    · rw [if_pos hj, if_pos ⟨hj, h⟩]
    · rw [if_neg hj, if_neg (fun z => hj z.1)]
  · rw [if_neg h, if_neg (fun z => h z.2)]
theorem zvAn_at {J Vs : List zE} {k : Nat} (hJ : zJo J) : ∀ (L : List zE) (T : (Nat → Int64) × List Int64), (∀ o ∈ L, o ∈ J) → (∀ j o, J[j]? = some o → o ∈ L → zeK o = k → ¬ T.1 j = 0 → (zvAn v Vs k L T).1 j = zvRes v Vs o) ∧ (∀ j, (∀ o, J[j]? = some o → ¬ (o ∈ L ∧ zeK o = k ∧ ¬ T.1 j = 0)) → (zvAn v Vs k L T).1 j = T.1 j) := by
  intro L
  induction L with
  | nil => intro T _; exact ⟨fun j o _ ho => (by cases ho), fun j _ => rfl⟩
  | cons x r ih =>
    intro T hL
    obtain ⟨i1, i2⟩ := ih (zvA1 v Vs k T x) (fun o ho => hL o (List.mem_cons_of_mem _ ho))
    have hxJ := hJ.at (hL x List.mem_cons_self)
    have h1 := fun j => zvA1_at (v := v) (Vs := Vs) (k := k) (T := T) (x := x) j
    have stp : zvAn v Vs k (x :: r) T = zvAn v Vs k r (zvA1 v Vs k T x) := rfl
    rw [stp]
    refine ⟨fun j o hj ho hk h0 => ?_, fun j hn => ?_⟩
    · by_cases hox : o = x
      · subst hox
        have hjo := hJ j o hj
        have ht : (zvA1 v Vs k T o).1 j = zvRes v Vs o := by
          rw [h1, if_pos ⟨hjo.symm, hk, by rw [hjo]; exact h0⟩]
        by_cases hor : o ∈ r
        · exact i1 j o hj hor hk (by rw [ht]; exact zvRes_nz)
        · rw [i2 j (fun o2 h2 z => ?_), ht]
          rw [hj] at h2
          cases h2
          exact hor z.1
      · have hor : o ∈ r := by
          rcases List.mem_cons.mp ho with z | z
          · exact absurd z hox
          · exact z
        refine i1 j o hj hor hk ?_
        rw [h1, if_neg (fun z => hox ?_)]
        · exact h0
        · rw [z.1, hxJ] at hj
          exact (Option.some.inj hj).symm
    · have ht : (zvA1 v Vs k T x).1 j = T.1 j := by
        rw [h1, if_neg (fun z => hn x (by rw [z.1]; exact hxJ) ⟨List.mem_cons_self, z.2.1, by rw [z.1]; exact z.2.2⟩)]
      rw [i2 j (fun o ho z => hn o ho ⟨List.mem_cons_of_mem _ z.1, z.2.1, by rw [← ht]; exact z.2.2⟩), ht]
theorem zvAn_ts {Vs : List zE} {k : Nat} (hv : v < 5) : ∀ (L : List zE) (T : (Nat → Int64) × List Int64), (∀ o ∈ L, zeO o < 240) → zTs v 240 (2 * L.length) T (zvAn v Vs k L T) := by
  intro L
  induction L with
  | nil => intro T _; exact zTs.rf
  | cons x r ih =>
    intro T hL
    have h1 : zTs v 240 2 T (zvA1 v Vs k T x) := by
      unfold zvA1
      split
      · exact zTs.anew (hL x List.mem_cons_self) (hL x List.mem_cons_self) (Or.inl rfl) (zvRes_gd hv)
      · exact zTs.rf.le (Nat.zero_le _)
    have h2 := ih (zvA1 v Vs k T x) (fun o ho => hL o (List.mem_cons_of_mem _ ho))
    have hl : (x :: r).length = r.length + 1 := rfl
    exact (h1.tr h2).le (by omega)
/-- who is told next -/
theorem zvNe_p {fa : Nat → Int64} : ∀ (L : List zE) (b : Option zE), (∀ e, L.foldl (zvN1 m fa) b = some e → b = some e ∨ e ∈ L ∧ (zeT e : Int) < m ∧ fa (zeO e) = 0) ∧ (L.foldl (zvN1 m fa) b = none → b = none ∧ ∀ o ∈ L, ¬ ((zeT o : Int) < m ∧ fa (zeO o) = 0)) := by
  intro L
  induction L with
  | nil => intro b; exact ⟨fun e h => Or.inl h, fun h => ⟨h, fun o ho => by cases ho⟩⟩
  | cons x r ih =>
    intro b
    obtain ⟨i1, i2⟩ := ih (zvN1 m fa b x)
    refine ⟨fun e h => ?_, fun h => ?_⟩
    · rcases i1 e h with z | ⟨z1, z2⟩
      · unfold zvN1 at z
        split at z
        next hc =>
          cases z
          exact Or.inr ⟨List.mem_cons_self, hc.1, hc.2.1⟩
        next => exact Or.inl z
      · exact Or.inr ⟨List.mem_cons_of_mem _ z1, z2⟩
    · obtain ⟨z1, z2⟩ := i2 h
      unfold zvN1 at z1
      split at z1
      next => cases z1
      next hc =>
        subst z1
        refine ⟨rfl, fun o ho => ?_⟩
        rcases List.mem_cons.mp ho with rfl | ho
        · exact fun z => hc ⟨z.1, z.2, rfl⟩
        · exact z2 o ho
/-- how many are still to be told -/
def zun (m : Int) (fa : Nat → Int64) : List zE → Nat
  | [] => 0
  | e :: r => (if (zeT e : Int) < m ∧ fa (zeO e) = 0 then 1 else 0) + zun m fa r
theorem zun_le {fa : Nat → Int64} : ∀ (L : List zE), zun m fa L ≤ L.length := by
  intro L
  induction L with
  | nil => exact Nat.le_refl _
  | cons e r ih =>
    show (if _ then 1 else 0) + zun m fa r ≤ r.length + 1
    split <;> omega
theorem zun_mono {fa fb : Nat → Int64} (h : ∀ j, fb j = 0 → fa j = 0) : ∀ (L : List zE), zun m fb L ≤ zun m fa L := by
  intro L
  induction L with
  | nil => exact Nat.le_refl _
  | cons e r ih =>
    show (if (zeT e : Int) < m ∧ fb (zeO e) = 0 then 1 else 0) + zun m fb r ≤ (if (zeT e : Int) < m ∧ fa (zeO e) = 0 then 1 else 0) + zun m fa r
    by_cases h1 : (zeT e : Int) < m ∧ fb (zeO e) = 0
    · rw [if_pos h1, if_pos ⟨h1.1, h _ h1.2⟩]; omega
    · rw [if_neg h1]; omega
theorem zun_lt {fa : Nat → Int64} {e : zE} {y : Int64} (hy : ¬ y = 0) (ht : (zeT e : Int) < m) (h0 : fa (zeO e) = 0) : ∀ (L : List zE), e ∈ L → zun m (zfi fa (zeO e) y) L < zun m fa L := by
  have hmono : ∀ j, zfi fa (zeO e) y j = 0 → fa j = 0 := fun j hj => by
    have hj : (if j = zeO e then y else fa j) = 0 := hj
    split at hj
    · exact absurd hj hy
    · exact hj
  intro L
  induction L with
  | nil => intro h; cases h
  | cons x r ih =>
    intro h
    have hm := zun_mono (m := m) hmono r
    show (if (zeT x : Int) < m ∧ zfi fa (zeO e) y (zeO x) = 0 then 1 else 0) + zun m (zfi fa (zeO e) y) r < (if (zeT x : Int) < m ∧ fa (zeO x) = 0 then 1 else 0) + zun m fa r
    by_cases hx : zeO x = zeO e ∧ (zeT x : Int) < m
    · have h2 : ¬ ((zeT x : Int) < m ∧ zfi fa (zeO e) y (zeO x) = 0) := fun z => by
        have z2 : (if zeO x = zeO e then y else fa (zeO x)) = 0 := z.2
        rw [if_pos hx.1] at z2
        exact hy z2
      rw [if_neg h2, if_pos ⟨hx.2, by rw [hx.1]; exact h0⟩]
      omega
    · have hr : e ∈ r := by
        rcases List.mem_cons.mp h with z | z
        · subst z; exact absurd ⟨rfl, ht⟩ hx
        · exact z
      have := ih hr
      by_cases h1 : (zeT x : Int) < m ∧ zfi fa (zeO e) y (zeO x) = 0
      · rw [if_pos h1, if_pos ⟨h1.1, hmono _ h1.2⟩]
        omega
      · rw [if_neg h1]
        omega
theorem zun_0 {fa : Nat → Int64} : ∀ {L : List zE}, zun m fa L = 0 → ∀ o ∈ L, ¬ ((zeT o : Int) < m ∧ fa (zeO o) = 0) := by
  intro L
  induction L with
  | nil => intro _ o ho; cases ho
  | cons x r ih =>
    intro h o ho
    have h : (if (zeT x : Int) < m ∧ fa (zeO x) = 0 then 1 else 0) + zun m fa r = 0 := h
    rcases List.mem_cons.mp ho with rfl | ho
    · intro z
      rw [if_pos z] at h
      omega
    · exact ih (by omega) o ho
theorem zvD_ok {J Lf Vs : List zE} (hv : v < 5) (hJ : zJo J) (hL : ∀ o ∈ Lf, o ∈ J) (h240 : ∀ o ∈ Lf, zeO o < 240) : ∀ (n : Nat) (T : (Nat → Int64) × List Int64), zun m T.1 Lf ≤ n → (∀ j o, J[j]? = some o → o ∈ Lf → (zeT o : Int) < m → T.1 j = 0 → (zvD v m Lf Vs n (zvNext m T.1 Lf) T).1 j = zvRes v Vs o) ∧ (∀ j, (∀ o, J[j]? = some o → ¬ (o ∈ Lf ∧ (zeT o : Int) < m ∧ T.1 j = 0)) → (zvD v m Lf Vs n (zvNext m T.1 Lf) T).1 j = T.1 j) ∧ zTs v 240 (zun m T.1 Lf) T (zvD v m Lf Vs n (zvNext m T.1 Lf) T) := by
  intro n
  induction n with
  | zero =>
    intro T hn
    have h0 := zun_0 (Nat.le_zero.mp hn)
    refine ⟨fun j o hj ho ht hz => ?_, fun j _ => rfl, zTs.rf.le (Nat.zero_le _)⟩
    have hjo := hJ j o hj
    exact absurd ⟨ht, by rw [hjo]; exact hz⟩ (h0 o ho)
  | succ n ih =>
    intro T hn
    cases hb : zvNext m T.1 Lf with
    | none =>
      have h0 := ((zvNe_p (m := m) (fa := T.1) Lf none).2 hb).2
      refine ⟨fun j o hj ho ht hz => ?_, fun j _ => rfl, zTs.rf.le (Nat.zero_le _)⟩
      have hjo := hJ j o hj
      exact absurd ⟨ht, by rw [hjo]; exact hz⟩ (h0 o ho)
    | some e =>
      obtain ⟨e1, e2, e3⟩ : e ∈ Lf ∧ (zeT e : Int) < m ∧ T.1 (zeO e) = 0 := by
        rcases (zvNe_p (m := m) (fa := T.1) Lf none).1 e hb with z | z
        · cases z
        · exact z
      have hlt := zun_lt (m := m) (y := zvRes v Vs e) zvRes_nz e2 e3 Lf e1
      obtain ⟨i1, i2, i3⟩ := ih (zfi T.1 (zeO e) (zvRes v Vs e), T.2 ++ [zvRes v Vs e]) (by show zun m (zfi T.1 (zeO e) (zvRes v Vs e)) Lf ≤ n; omega)
      have heJ := hJ.at (hL e e1)
      have hT : ∀ j, zfi T.1 (zeO e) (zvRes v Vs e) j = if j = zeO e then zvRes v Vs e else T.1 j := fun _ => rfl
      show (∀ j o, J[j]? = some o → o ∈ Lf → (zeT o : Int) < m → T.1 j = 0 → (zvD v m Lf Vs n (zvNext m (zfi T.1 (zeO e) (zvRes v Vs e)) Lf) (zfi T.1 (zeO e) (zvRes v Vs e), T.2 ++ [zvRes v Vs e])).1 j = zvRes v Vs o) ∧ _
      refine ⟨fun j o hj ho ht hz => ?_, fun j hn2 => ?_, ?_⟩
      · by_cases hje : j = zeO e
        · have hoe : o = e := by
            rw [hje, heJ] at hj
            exact (Option.some.inj hj).symm
          subst hoe
          rw [i2 j (fun o2 h2 z => ?_)]
          · show zfi T.1 (zeO o) (zvRes v Vs o) j = _
            rw [hT, if_pos hje]
          · have z2 : zfi T.1 (zeO o) (zvRes v Vs o) j = 0 := z.2.2
            rw [hT, if_pos hje] at z2
            exact zvRes_nz z2
        · refine i1 j o hj ho ht ?_
          show zfi T.1 (zeO e) (zvRes v Vs e) j = 0
          rw [hT, if_neg hje]
          exact hz
      · have hje : j ≠ zeO e := fun z => hn2 e (by rw [z]; exact heJ) ⟨e1, e2, by rw [z]; exact e3⟩
        have hTj : zfi T.1 (zeO e) (zvRes v Vs e) j = T.1 j := by rw [hT, if_neg hje]
        have := i2 j (fun o ho z => hn2 o ho ⟨z.1, z.2.1, by rw [← hTj]; exact z.2.2⟩)
        exact this.trans hTj
      · have h1 : zTs v 240 1 T (zfi T.1 (zeO e) (zvRes v Vs e), T.2 ++ [zvRes v Vs e]) := zTs.tell (h240 e e1) e3 (zvRes_gd hv)
        exact (h1.tr i3).le (by show 1 + zun m (zfi T.1 (zeO e) (zvRes v Vs e)) Lf ≤ _; omega)
end YB4
