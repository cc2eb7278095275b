set_option maxRecDepth 100000
section YD1
variable {v : Nat} {C : zCf} {m b : Int} {S : zSt} {J : List zE} {e : zE} {out : List Int64} {Cs : List zCf} {A A2 : Nat → List zE × Int} {B : Nat} {G : zVL × List Int64}
theorem zTs.len {L B : Nat} {T T1 : (Nat → Int64) × List Int64} (h : zTs v L B T T1) (hg : zGo v T.1) : T1.2.length ≤ T.2.length + B := by
  obtain ⟨-, o, o1, o2, -⟩ := h hg
  rw [o1, List.length_append]
  omega
/-- what due ones may cost, also where they are told already -/
theorem zuIv.du {m2 : Int} (hv : v < 5) (hJ : J.length ≤ 72) (hw : zJz J) (hb : -1 ≤ b) (hbm : b ≤ m) (hm2 : m2 ≤ m) (hg : zGo v S.1) (h : zuIv v C J m2 S) : (zuDue v C b m (S, out)).2.length ≤ out.length + (72 + 16 * (m - b).toNat) ∧ zuA (zuDue v C b m (S, out)).1 = zuA S ∧ zuB (zuDue v C b m (S, out)).1 = zuB S ∧ (C.1 = 2 → (zuDue v C b m (S, out)).1.1 = S.1) := by
  rcases h with ⟨c, hs, ⟨h1, h3⟩, hA, hB⟩ | ⟨c, h, hA, hB⟩ | ⟨c, h, hB⟩ | ⟨c, h, hB⟩
  · unfold zuDue
    rw [if_pos c]
    refine ⟨?_, rfl, rfl, fun z => by omega⟩
    have hspan := zwSpan (sz := C.2.2.1) (t := 0) hs hb hbm
    have hst : zwStop C.2.2.1 C.2.2.2.2.2 m ≤ zwi C.2.2.2.2.2 := zwStop_le
    by_cases hle : zfe C.2.2.1 C.2.2.2.2.2 b ≤ zwStop C.2.2.1 C.2.2.2.2.2 m
    · have a2 := (zwTW_at (v := v) (sz := C.2.2.1) (sp := C.2.2.2.2.2) (me := C.2.2.2.2.1) (fn := (zuW (S, out)).2.2.2.1) (fs := (zuW (S, out)).2.2.2.2.1) (zwStop C.2.2.1 C.2.2.2.2.2 m - zfe C.2.2.1 C.2.2.2.2.2 b) (zfe C.2.2.1 C.2.2.2.2.2 b) ((zuW (S, out)).1, (zuW (S, out)).2.2.2.2.2) (by omega)).2 hv
      have := (a2.le (B2 := 72 + 16 * (m - b).toNat) (by omega)).len hg
      exact this
    · have h0 : zwStop C.2.2.1 C.2.2.2.2.2 m - zfe C.2.2.1 C.2.2.2.2.2 b = 0 := by omega
      unfold zwDue
      rw [h0]
      exact Nat.le_add_right _ _
  · have c9 : ¬ C.1 = 9 := by omega
    unfold zuDue
    rw [if_neg c9, if_pos c]
    refine ⟨?_, rfl, rfl, fun z => by omega⟩
    obtain ⟨n1, en1, n11, n12, n13⟩ := zsStop_r (m := m) (b := b) (st := C.2.2.1)
    unfold zsDue
    rw [en1]
    have hn := n12 hbm
    rcases n11 with n0 | n0
    · rw [n0]
      exact Nat.le_add_right _ _
    · have a2 := (zsTL_at (v := v) (me := C.2.2.2.2.1) (fn := (zuS (S, out)).2.2.2.1) (fs := (zuS (S, out)).2.2.2.2.1) (ff := (zuS (S, out)).2.2.2.2.2.1) n1 (b - (C.2.2.1 : Int)).toNat ((zuS (S, out)).1, (zuS (S, out)).2.2.2.2.2.2) n0).2 hv
      have := (a2.le (B2 := 72 + 16 * (m - b).toNat) (by omega)).len hg
      exact this
  · have c9 : ¬ C.1 = 9 := by omega
    have c6 : ¬ C.1 = 6 := by omega
    unfold zuDue
    rw [if_neg c9, if_neg c6, if_pos c]
    exact ⟨Nat.le_add_right _ _, rfl, rfl, fun _ => rfl⟩
  · have hiv : zvIv v C.2.2.2.1 C.2.1 J m2 (zuV (S, out)) := h
    obtain ⟨a1, a2⟩ := zvDG_iv hv hJ hw.jo hm2 hiv
    have c9 : ¬ C.1 = 9 := by omega
    have c6 : ¬ C.1 = 6 := by omega
    have c2 : ¬ C.1 = 2 := by omega
    unfold zuDue
    rw [if_neg c9, if_neg c6, if_neg c2]
    refine ⟨?_, rfl, rfl, fun z => absurd z c2⟩
    have := (a2.le (B2 := 72 + 16 * (m - b).toNat) (by omega)).len hg
    exact this
/-- all views, each behind its journal -/
def zGI (Cs : List zCf) (A : Nat → List zE × Int) (B : Nat) (G : zVL × List Int64) : Prop := G.1.length = Cs.length ∧ G.2.length ≤ B ∧ ∀ (i : Nat) (C : zCf) (S : zSt), G.1[i]? = some (C, S) → Cs[i]? = some C ∧ zuIv i C (A i).1 (A i).2 S ∧ zGo i S.1 ∧ zsS i G.2 = (zcnt S.1 (zuL C) : Int)
theorem zGI.cg {B2 : Nat} (h : zGI Cs A B G) (hA : ∀ i, i < Cs.length → A2 i = A i) (hB : B ≤ B2) : zGI Cs A2 B2 G := by
  obtain ⟨h1, h2, h3⟩ := h
  refine ⟨h1, by omega, fun i C S hi => ?_⟩
  have hlt := (List.getElem?_eq_some_iff.mp hi).1
  rw [hA i (by omega)]
  exact h3 i C S hi
theorem zGI.set {i c : Nat} {T1 : zSt × List Int64} {J1 : List zE} {m1 : Int} (h : zGI Cs A B G) (hi : G.1[i]? = some (C, S)) (hiv : zuIv i C J1 m1 T1.1) (ts : zTs i (zuL C) c (S.1, G.2) (T1.1.1, T1.2)) : zGI Cs (fun j => if j = i then (J1, m1) else A j) (B + c) (G.1.set i (C, T1.1), T1.2) := by
  obtain ⟨h1, h2, h3⟩ := h
  obtain ⟨g1, g2, g3, g4⟩ := h3 i C S hi
  obtain ⟨t1, o, t2, t3, t4, t5⟩ := ts g3
  have hlt := (List.getElem?_eq_some_iff.mp hi).1
  have t2 : T1.2 = G.2 ++ o := t2
  refine ⟨by rw [List.length_set]; exact h1, ?_, fun j C2 S2 hj => ?_⟩
  · show T1.2.length ≤ _
    rw [t2, List.length_append]
    omega
  · have hj : (G.1.set i (C, T1.1))[j]? = some (C2, S2) := hj
    show _ ∧ zuIv j C2 (if j = i then (J1, m1) else A j).1 (if j = i then (J1, m1) else A j).2 S2 ∧ _ ∧ zsS j T1.2 = _
    by_cases hji : j = i
    · subst hji
      rw [List.getElem?_set_self hlt] at hj
      cases hj
      rw [if_pos rfl]
      refine ⟨g1, hiv, t1, ?_⟩
      rw [t2, zsS_app]
      have t5 : zsS j o + (zcnt S.1 (zuL C) : Int) = (zcnt T1.1.1 (zuL C) : Int) := t5
      omega
    · rw [List.getElem?_set_ne (fun z => hji z.symm)] at hj
      obtain ⟨a1, a2, a3, a4⟩ := h3 j C2 S2 hj
      rw [if_neg hji]
      refine ⟨a1, a2, a3, ?_⟩
      rw [t2, zsS_app, t4 j hji]
      omega
theorem zGI.t1 {i : Nat} (hC : Cs.length ≤ 5) (hJ : J.length < 72) (hw : zJz (J ++ [e])) (hm : zeA e = m) (hA : A i = (J, m)) (h : zGI Cs A B G) : zGI Cs (fun j => if j = i then (J ++ [e], m) else A j) (B + 182) (zaT1 e i G) := by
  unfold zaT1
  cases hx : G.1[i]? with
  | none =>
    have := List.getElem?_eq_none_iff.mp hx
    exact h.cg (fun j hj => if_neg (by have := h.1; omega)) (by omega)
  | some X =>
    obtain ⟨C, S⟩ := X
    have hlt := (List.getElem?_eq_some_iff.mp hx).1
    obtain ⟨g1, g2, g3, g4⟩ := h.2.2 i C S hx
    have hv : i < 5 := by have := h.1; omega
    rw [hA] at g2
    show zGI Cs _ _ (if zLet (zbs C) C.2.1 e = true then (G.1.set i (C, (zuTake i C e (S, G.2)).1), (zuTake i C e (S, G.2)).2) else G)
    by_cases hl : zLet (zbs C) C.2.1 e = true
    · rw [if_pos hl]
      obtain ⟨a1, a2⟩ := zuIv.take (out := G.2) hv hJ hw hl hm g2
      exact h.set hx a1 a2
    · rw [if_neg hl]
      have hl : zLet (zbs C) C.2.1 e = false := by
        cases hz : zLet (zbs C) C.2.1 e with
        | true => exact absurd hz hl
        | false => rfl
      have a1 := zuIv.no hl g2
      obtain ⟨h1, h2, h3⟩ := h
      refine ⟨h1, by omega, fun j C2 S2 hj => ?_⟩
      obtain ⟨b1, b2, b3, b4⟩ := h3 j C2 S2 hj
      show _ ∧ zuIv j C2 (if j = i then (J ++ [e], m) else A j).1 (if j = i then (J ++ [e], m) else A j).2 S2 ∧ _
      by_cases hji : j = i
      · subst hji
        rw [hx] at hj
        cases hj
        rw [if_pos rfl]
        exact ⟨b1, a1, b3, b4⟩
      · rw [if_neg hji]
        exact ⟨b1, b2, b3, b4⟩
theorem zGI.tn (hC : Cs.length ≤ 5) (hJ : J.length < 72) (hw : zJz (J ++ [e])) (hm : zeA e = m) : ∀ (n i : Nat) (A : Nat → List zE × Int) (B : Nat) (G : zVL × List Int64), (∀ j, i ≤ j → A j = (J, m)) → zGI Cs A B G → zGI Cs (fun j => if i ≤ j ∧ j < i + n then (J ++ [e], m) else A j) (B + 182 * n) (zaT e n i G) := by
  intro n
  induction n with
  | zero =>
    intro i A B G _ h
    exact h.cg (fun j _ => if_neg (by omega)) (by omega)
  | succ n ih =>
    intro i A B G hA h
    have h1 := h.t1 (i := i) hC hJ hw hm (hA i (Nat.le_refl _))
    have h2 := ih (i + 1) (fun j => if j = i then (J ++ [e], m) else A j) (B + 182) (zaT1 e i G) (fun j hj => by
      show (if j = i then (J ++ [e], m) else A j) = _
      rw [if_neg (by omega)]
      exact hA j (by omega)) h1
    refine h2.cg (fun j _ => ?_) (by omega)
    show (if i ≤ j ∧ j < i + (n + 1) then _ else _) = (if i + 1 ≤ j ∧ j < i + 1 + n then _ else if j = i then _ else _)
    by_cases c1 : j = i
    · rw [if_pos (by omega), if_neg (by omega), if_pos c1]
    · by_cases c2 : i ≤ j ∧ j < i + (n + 1)
      · rw [if_pos c2, if_pos (by omega)]
      · rw [if_neg c2, if_neg (by omega), if_neg c1]
theorem zGI.d1 {i : Nat} (hC : Cs.length ≤ 5) (hJ : J.length ≤ 72) (hw : zJz J) (hb : -1 ≤ b) (hbm : b ≤ m) (hA : A i = (J, b)) (h : zGI Cs A B G) : zGI Cs (fun j => if j = i then (J, m) else A j) (B + (72 + 16 * (m - b).toNat)) (zaD1 b m i G) := by
  unfold zaD1
  cases hx : G.1[i]? with
  | none =>
    have := List.getElem?_eq_none_iff.mp hx
    exact h.cg (fun j hj => if_neg (by have := h.1; omega)) (by omega)
  | some X =>
    obtain ⟨C, S⟩ := X
    have hlt := (List.getElem?_eq_some_iff.mp hx).1
    obtain ⟨g1, g2, g3, g4⟩ := h.2.2 i C S hx
    have hv : i < 5 := by have := h.1; omega
    rw [hA] at g2
    obtain ⟨a1, a2, -⟩ := zuIv.dg (out := G.2) hv hJ hw hb hbm g2
    exact h.set hx a1 a2
theorem zGI.dn (hC : Cs.length ≤ 5) (hJ : J.length ≤ 72) (hw : zJz J) (hb : -1 ≤ b) (hbm : b ≤ m) : ∀ (n i : Nat) (A : Nat → List zE × Int) (B : Nat) (G : zVL × List Int64), (∀ j, i ≤ j → A j = (J, b)) → zGI Cs A B G → zGI Cs (fun j => if i ≤ j ∧ j < i + n then (J, m) else A j) (B + (72 + 16 * (m - b).toNat) * n) (zaD b m n i G) := by
  intro n
  induction n with
  | zero =>
    intro i A B G _ h
    exact h.cg (fun j _ => if_neg (by omega)) (by omega)
  | succ n ih =>
    intro i A B G hA h
    have h1 := h.d1 (i := i) (m := m) hC hJ hw hb hbm (hA i (Nat.le_refl _))
    have h2 := ih (i + 1) (fun j => if j = i then (J, m) else A j) (B + (72 + 16 * (m - b).toNat)) (zaD1 b m i G) (fun j hj => by
      show (if j = i then (J, m) else A j) = _
      rw [if_neg (by omega)]
      exact hA j (by omega)) h1
    refine h2.cg (fun j _ => ?_) (by rw [Nat.mul_succ]; omega)
    show (if i ≤ j ∧ j < i + (n + 1) then _ else _) = (if i + 1 ≤ j ∧ j < i + 1 + n then _ else if j = i then _ else _)
    by_cases c1 : j = i
    · rw [if_pos (by omega), if_neg (by omega), if_pos c1]
    · by_cases c2 : i ≤ j ∧ j < i + (n + 1)
      · rw [if_pos c2, if_pos (by omega)]
      · rw [if_neg c2, if_neg (by omega), if_neg c1]
/-- what every step wants -/
theorem zGI.ok (hC : Cs.length ≤ 5) (hB : B < 170000) (hA : ∀ i, (A i).1.length ≤ 72) (h : zGI Cs A B G) : zaOk G := fun i C S hi => by
  have hlt := (List.getElem?_eq_some_iff.mp hi).1
  obtain ⟨g1, g2, g3, g4⟩ := h.2.2 i C S hi
  have hls := g2.ls
  have hv : i < 5 := by have := h.1; omega
  have := hA i
  have h2 := h.2.1
  exact ⟨by show G.2.length < _; omega, by show (zuA S).length ≤ _; omega, by show (zuB S).length ≤ _; omega, g2.cnt hv (hA i)⟩
theorem zGI.okd (hC : Cs.length ≤ 5) (hb : -1 ≤ b) (hbm : b ≤ m) (hB : B + (72 + 16 * (m - b).toNat) < 170000) (hA : ∀ i, (A i).1.length ≤ 72 ∧ zJz (A i).1 ∧ (A i).2 ≤ m) (h : zGI Cs A B G) : zaOkD b m G := fun i C S hi => by
  have hlt := (List.getElem?_eq_some_iff.mp hi).1
  obtain ⟨g1, g2, g3, g4⟩ := h.2.2 i C S hi
  have hls := g2.ls
  have hv : i < 5 := by have := h.1; omega
  obtain ⟨x1, x2, x3⟩ := hA i
  have h2 := h.2.1
  obtain ⟨d1, d2, d3, d4⟩ := zuIv.du (out := G.2) hv x1 x2 hb hbm x3 g3 g2
  refine ⟨h.ok hC (by omega) (fun i => (hA i).1) i C S hi, ?_, ?_, ?_, fun z => ?_⟩
  · omega
  · rw [d2]; omega
  · rw [d3]; omega
  · show zcnt (zuDue i C b m (S, G.2)).1.1 12800 < _
    rw [d4 z]
    exact g2.cnt hv x1 z
end YD1
