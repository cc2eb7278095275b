set_option maxRecDepth 100000
section YD4
variable {v : Nat} {C : zCf} {m b : Int} {S : zSt} {J : List zE} {e : zE} {Cs : List zCf} {A : Nat → List zE × Int} {B : Nat} {G : zVL × List Int64} {P P2 : Nat → zPT}
/-- outputs are put behind -/
theorem zGI.t1p {i : Nat} (hC : Cs.length ≤ 5) (hJ : J.length < 72) (hw : zJz (J ++ [e])) (hm : zeA e = m) (hA : A i = (J, m)) (h : zGI Cs A B G) : ∃ o, (zaT1 e i G).2 = G.2 ++ o := by
  unfold zaT1
  cases hx : G.1[i]? with
  | none => exact ⟨[], (List.append_nil _).symm⟩
  | some X =>
    obtain ⟨C, S⟩ := X
    have hlt := (List.getElem?_eq_some_iff.mp hx).1
    obtain ⟨g1, g2, g3, g4⟩ := h.2.2 i C S hx
    have hv : i < 5 := by have := h.1; omega
    rw [hA] at g2
    show ∃ o, (if zLet (zbs C) C.2.1 e = true then (G.1.set i (C, (zuTake i C e (S, G.2)).1), (zuTake i C e (S, G.2)).2) else G).2 = G.2 ++ o
    by_cases hl : zLet (zbs C) C.2.1 e = true
    · rw [if_pos hl]
      obtain ⟨-, o, o1, -⟩ := (zuIv.take (out := G.2) hv hJ hw hl hm g2).2 g3
      exact ⟨o, o1⟩
    · rw [if_neg hl]
      exact ⟨[], (List.append_nil _).symm⟩
theorem zGI.tnp (hC : Cs.length ≤ 5) (hJ : J.length < 72) (hw : zJz (J ++ [e])) (hm : zeA e = m) : ∀ (n i : Nat) (A : Nat → List zE × Int) (B : Nat) (G : zVL × List Int64), (∀ j, i ≤ j → A j = (J, m)) → zGI Cs A B G → ∃ o, (zaT e n i G).2 = G.2 ++ o := by
  intro n
  induction n with
  | zero => intro i A B G _ h; exact ⟨[], (List.append_nil _).symm⟩
  | succ n ih =>
    intro i A B G hA h
    obtain ⟨o1, h1⟩ := h.t1p (i := i) hC hJ hw hm (hA i (Nat.le_refl _))
    obtain ⟨o2, h2⟩ := ih (i + 1) (fun j => if j = i then (J ++ [e], m) else A j) (B + 182) (zaT1 e i G) (fun j hj => by
      show (if j = i then (J ++ [e], m) else A j) = _
      rw [if_neg (by omega)]
      exact hA j (by omega)) (h.t1 (i := i) hC hJ hw hm (hA i (Nat.le_refl _)))
    exact ⟨o1 ++ o2, by show (zaT e n (i + 1) (zaT1 e i G)).2 = _; rw [h2, h1, List.append_assoc]⟩
theorem zGI.d1p {i : Nat} (hC : Cs.length ≤ 5) (hJ : J.length ≤ 72) (hw : zJz J) (hb : -1 ≤ b) (hbm : b ≤ m) (hA : A i = (J, b)) (h : zGI Cs A B G) : ∃ o, (zaD1 b m i G).2 = G.2 ++ o := by
  unfold zaD1
  cases hx : G.1[i]? with
  | none => exact ⟨[], (List.append_nil _).symm⟩
  | some X =>
    obtain ⟨C, S⟩ := X
    have hlt := (List.getElem?_eq_some_iff.mp hx).1
    obtain ⟨g1, g2, g3, g4⟩ := h.2.2 i C S hx
    have hv : i < 5 := by have := h.1; omega
    rw [hA] at g2
    obtain ⟨-, o, o1, -⟩ := (zuIv.dg (out := G.2) hv hJ hw hb hbm g2).2.1 g3
    exact ⟨o, o1⟩
theorem zGI.dnp (hC : Cs.length ≤ 5) (hJ : J.length ≤ 72) (hw : zJz J) (hb : -1 ≤ b) (hbm : b ≤ m) : ∀ (n i : Nat) (A : Nat → List zE × Int) (B : Nat) (G : zVL × List Int64), (∀ j, i ≤ j → A j = (J, b)) → zGI Cs A B G → ∃ o, (zaD b m n i G).2 = G.2 ++ o := by
  intro n
  induction n with
  | zero => intro i A B G _ h; exact ⟨[], (List.append_nil _).symm⟩
  | succ n ih =>
    intro i A B G hA h
    obtain ⟨o1, h1⟩ := h.d1p (i := i) (m := m) hC hJ hw hb hbm (hA i (Nat.le_refl _))
    obtain ⟨o2, h2⟩ := ih (i + 1) (fun j => if j = i then (J, m) else A j) (B + (72 + 16 * (m - b).toNat)) (zaD1 b m i G) (fun j hj => by
      show (if j = i then (J, m) else A j) = _
      rw [if_neg (by omega)]
      exact hA j (by omega)) (h.d1 (i := i) (m := m) hC hJ hw hb hbm (hA i (Nat.le_refl _)))
    exact ⟨o1 ++ o2, by show (zaD b m n (i + 1) (zaD1 b m i G)).2 = _; rw [h2, h1, List.append_assoc]⟩
theorem zGJ.stepp (hC : Cs.length ≤ 5) (hJ : J.length < 72) (hw : zJz (J ++ [e])) (hA : zJA (J ++ [e])) (hP : zPm P J) (h : zGJ Cs J G) : ∃ o, (zaAp e P G).2 = G.2 ++ o := by
  have hl := hA.last
  have hr1 := zMk_r hA.pre
  have hlm : zlm (zaP P e) 3 0 1000 = zMk (J ++ [e]) := hP.ap.lm
  have hmo := zMk_mono (J := J) (e := e)
  have hlen : (J ++ [e]).length = J.length + 1 := zlen1
  have hT2 : zGI Cs (fun _ => (J ++ [e], zMk J)) (zGb J + 182 * G.1.length) (zaT e G.1.length 0 G) := (zGI.tn hC hJ hw hl.1 G.1.length 0 (fun _ => (J, zMk J)) (zGb J) G (fun _ _ => rfl) h).cg (fun i hi => (if_pos (by have := h.1; omega)).symm) (Nat.le_refl _)
  obtain ⟨o1, h1⟩ := zGI.tnp hC hJ hw hl.1 G.1.length 0 (fun _ => (J, zMk J)) (zGb J) G (fun _ _ => rfl) h
  unfold zaAp
  rw [hlm, hl.1]
  by_cases hc : zMk J < zMk (J ++ [e])
  · rw [if_pos hc]
    obtain ⟨o2, h2⟩ := zGI.dnp hC (by omega) hw hr1.1 hmo (zaT e G.1.length 0 G).1.length 0 (fun _ => (J ++ [e], zMk J)) _ (zaT e G.1.length 0 G) (fun _ _ => rfl) hT2
    exact ⟨o1 ++ o2, by rw [h2, h1, List.append_assoc]⟩
  · rw [if_neg hc]
    exact ⟨o1, h1⟩
/-- the views as they begin -/
def zX0 (Cs : List zCf) : zcX := (fun _ => zP0, (Cs.map (fun C => (C, zS0)), []))
/-- the views and outputs that a journal comes to -/
noncomputable def zGs (Cs : List zCf) (J : List zE) : zVL × List Int64 := (zcF J (zX0 Cs)).2
theorem zMk_0 : zMk [] = -1 := by decide
theorem zX0_ok (hV : ∀ C ∈ Cs, zCv C) : zPm (zX0 Cs).1 [] ∧ zGJ Cs [] (zX0 Cs).2 := by
  refine ⟨fun p _ => ⟨rfl, rfl⟩, List.length_map _, Nat.zero_le _, fun i C S hi => ?_⟩
  have hi : (Cs.map (fun C => (C, zS0)))[i]? = some (C, S) := hi
  rw [List.getElem?_map] at hi
  cases hx : Cs[i]? with
  | none => rw [hx] at hi; cases hi
  | some C2 =>
    rw [hx] at hi
    cases hi
    refine ⟨rfl, zuIv_0 (hV _ (List.mem_of_getElem? hx)), fun k => Or.inl rfl, ?_⟩
    show (0 : Int) = (zcnt (fun _ => 0) (zuL C) : Int)
    rw [zcnt_0]
    rfl
theorem zGs_ok (hC : Cs.length ≤ 5) (hV : ∀ C ∈ Cs, zCv C) (hJ : J.length ≤ 72) (hw : zJz J) (hA : zJA J) : zPm (zcF J (zX0 Cs)).1 J ∧ zGJ Cs J (zGs Cs J) := zGJ.run hC (zX0_ok hV).1 (zX0_ok hV).2 J hJ hw hA
theorem zGs_take (hC : Cs.length ≤ 5) (hV : ∀ C ∈ Cs, zCv C) : ∀ (J : List zE), J.length ≤ 72 → zJz J → zJA J → ∀ n, ∃ o, (zGs Cs J).2 = (zGs Cs (J.take n)).2 ++ o := by
  refine zsnoc (fun _ _ _ n => ⟨[], by rw [List.take_nil, List.append_nil]⟩) (fun J e ih hl hw hA n => ?_)
  have hl2 := hl
  rw [zlen1] at hl2
  by_cases hn : n ≤ J.length
  · obtain ⟨o1, h1⟩ := ih (by omega) hw.pre hA.pre n
    obtain ⟨k1, k2⟩ := zGs_ok hC hV (by omega) hw.pre hA.pre
    obtain ⟨o2, h2⟩ := k2.stepp hC (by omega) hw hA k1
    have h3 : (zGs Cs (J ++ [e])).2 = (zGs Cs J).2 ++ o2 := by
      unfold zGs at h2 ⊢
      rw [zcF_app]
      exact h2
    rw [ztk_app hn]
    exact ⟨o1 ++ o2, by rw [h3, h1, List.append_assoc]⟩
  · rw [List.take_of_length_le (by rw [zlen1]; omega)]
    exact ⟨[], (List.append_nil _).symm⟩
/-- places only grow -/
theorem zPf_mono (K : List zE) (p : Nat) : ∀ (r : List zE), (zPf K p).1 ≤ (zPf (K ++ r) p).1 := by
  refine zsnoc (by rw [List.append_nil]; exact Nat.le_refl _) (fun r e ih => ?_)
  rw [← List.append_assoc, zPf_app]
  exact Nat.le_trans ih (zaP_mono _ e p).2
theorem zPf_up : (zPf (J ++ [e]) (zeP e)).1 = (zPf J (zeP e)).1 + 1 := by
  rw [zPf_app]
  unfold zaP
  rw [if_pos rfl]
theorem zPf_sum : ∀ (J : List zE), (∀ x ∈ J, zeP x < 3) → (zPf J 0).1 + (zPf J 1).1 + (zPf J 2).1 = J.length := by
  refine zsnoc (fun _ => rfl) (fun J e ih h => ?_)
  have h1 := ih (fun x hx => h x (List.mem_append_left _ hx))
  have h2 := h e (List.mem_append_right _ List.mem_cons_self)
  rw [zlen1, zPf_app, ← h1]
  have hz : ∀ p, (zaP (zPf J) e p).1 = (zPf J p).1 + (if p = zeP e then 1 else 0) := fun p => by
    unfold zaP
    by_cases hp : p = zeP e
    · rw [if_pos hp, if_pos hp]
    · rw [if_neg hp, if_neg hp]
      rfl
  rw [hz, hz, hz]
  have : zeP e = 0 ∨ zeP e = 1 ∨ zeP e = 2 := by omega
  rcases this with z | z | z <;> rw [z] <;> simp <;> omega
/-- names of a journal's entries -/
def zJN (J : List zE) : Prop := ∀ (j : Nat) (e : zE), J[j]? = some e → zeN e = 8 * (zPf (J.take j) (zeP e)).1 + zeP e
theorem zJN.take (h : zJN J) (n : Nat) : zJN (J.take n) := fun j x hx => by
  rw [List.getElem?_take] at hx
  split at hx
  next hlt =>
    have := h j x hx
    rw [List.take_take, Nat.min_eq_left (by omega)]
    exact this
  next => cases hx
theorem zsnoc_at {j : Nat} {x : zE} (h : (J ++ [e])[j]? = some x) : J[j]? = some x ∧ j < J.length ∨ j = J.length ∧ x = e := by
  by_cases hj : j < J.length
  · rw [List.getElem?_append_left hj] at h
    exact Or.inl ⟨h, hj⟩
  · rw [List.getElem?_append_right (by omega)] at h
    have h0 : j - J.length = 0 := by
      have := (List.getElem?_eq_some_iff.mp h).1
      simp only [List.length_cons, List.length_nil] at this
      omega
    rw [h0] at h
    cases h
    exact Or.inr ⟨by omega, rfl⟩
theorem zJN.snoc (h : zJN J) (he : zeN e = 8 * (zPf J (zeP e)).1 + zeP e) : zJN (J ++ [e]) := fun j x hx => by
  rcases zsnoc_at hx with ⟨h1, h2⟩ | ⟨h1, h2⟩
  · rw [ztk_app (by omega)]
    exact h j x h1
  · subst h1 h2
    rw [ztk_app (Nat.le_refl _), List.take_length]
    exact he
theorem zJz.snoc (h : zJz J) (he : zeP e < 3 ∧ zeK e < 8 ∧ zeT e < 90 ∧ (-99 ≤ zeV e ∧ zeV e ≤ 99) ∧ zeO e = J.length) : zJz (J ++ [e]) := fun j x hx => by
  rcases zsnoc_at hx with ⟨h1, h2⟩ | ⟨h1, h2⟩
  · exact h j x h1
  · subst h1 h2
    exact he
theorem zJA.snoc (h : zJA J) (he : zeA e = zMk J ∧ -12 ≤ zeB e ∧ zeB e < 90) : zJA (J ++ [e]) := fun j x hx => by
  rcases zsnoc_at hx with ⟨h1, h2⟩ | ⟨h1, h2⟩
  · rw [ztk_app (by omega)]
    exact h j x h1
  · subst h1 h2
    rw [ztk_app (Nat.le_refl _), List.take_length]
    exact he
/-- another name than all -/
theorem zJN.ne (h : zJN J) (hw : zJz J) {p : Nat} (hp : p < 3) {y : zE} (hy : y ∈ J) : zeN y ≠ 8 * (zPf J p).1 + p := by
  obtain ⟨j, hj⟩ := List.getElem?_of_mem hy
  have h1 := h j y hj
  have h2 := (hw j y hj).1
  intro hn
  have hpp : zeP y = p := by omega
  have hlt := (List.getElem?_eq_some_iff.mp hj)
  obtain ⟨l1, l2⟩ := hlt
  have h3 : J = (J.take j ++ [y]) ++ J.drop (j + 1) := by
    have h4 := List.drop_eq_getElem_cons l1
    rw [l2] at h4
    rw [List.append_assoc]
    show J = J.take j ++ (y :: J.drop (j + 1))
    rw [← h4, List.take_append_drop]
  have h4 := zPf_mono (J.take j ++ [y]) (zeP y) (J.drop (j + 1))
  rw [← h3, zPf_up, hpp] at h4
  rw [hpp] at h1
  omega
/-- a replay may go on -/
theorem zcAll_ok (hC : Cs.length ≤ 5) : ∀ (r K : List zE) (X : zcX), zPm X.1 K → zGJ Cs K X.2 → (K ++ r).length ≤ 72 → zJz (K ++ r) → zJA (K ++ r) → (∀ p, p < 3 → (zPf (K ++ r) p).1 ≤ (X.1 p).2.2.2.2.length) → zcAll r X := by
  intro r
  induction r with
  | nil => intro K X _ _ _ _ _ _; exact trivial
  | cons e r ih =>
    intro K X hP hG hl hw hA hp
    have hs : K ++ e :: r = (K ++ [e]) ++ r := by rw [List.append_assoc]; rfl
    rw [hs] at hl hw hA hp
    have htk : ((K ++ [e]) ++ r).take (K ++ [e]).length = K ++ [e] := List.take_left
    have hw1 := hw.take (K ++ [e]).length
    have hA1 := hA.take (K ++ [e]).length
    rw [htk] at hw1 hA1
    have hl1 : ((K ++ [e]) ++ r).length = K.length + 1 + r.length := by rw [List.length_append, zlen1]
    obtain ⟨s1, s2, s3⟩ := hG.step hC (by omega) hw1 hA1 hP
    have hB := hA1.last
    have hz := hw1.last
    have h1 := hp (zeP e) hz.1
    have h2 := zPf_mono (K ++ [e]) (zeP e) r
    rw [zPf_up] at h2
    have h3 := (hP (zeP e) hz.1).1
    refine ⟨⟨by omega, by omega, s1, s2⟩, ih (K ++ [e]) (zcF1 X e) hP.ap s3 hl hw hA (fun p hp3 => ?_)⟩
    have h4 := hp p hp3
    show _ ≤ (zaP X.1 e p).2.2.2.2.length
    unfold zaP
    by_cases hpe : p = zeP e
    · rw [if_pos hpe]
      subst hpe
      exact h4
    · rw [if_neg hpe]
      exact h4
end YD4
