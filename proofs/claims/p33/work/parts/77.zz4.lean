set_option maxRecDepth 100000
section ZZ77
variable {d v sz gr : Nat} {fi : Int} {Q : xR → Nat → Nat → xH → Prop}
/-- a left row of a key that is told, told anew -/
def zvA1 (v : Nat) (Vs : List zE) (k : Nat) (T : (Nat → Int64) × List Int64) (o : zE) : (Nat → Int64) × List Int64 := if zeK o = k ∧ ¬ T.1 (zeO o) = 0 then (zanF T.1 (zeO o) (zeO o) (zvRes v Vs o), T.2 ++ zanL T.1 (zeO o) (zvRes v Vs o)) else T
def zvAn (v : Nat) (Vs : List zE) (k : Nat) (L : List zE) (T : (Nat → Int64) × List Int64) : (Nat → Int64) × List Int64 := L.foldl (zvA1 v Vs k) T
theorem zvA1_len {Vs : List zE} {k : Nat} {T : (Nat → Int64) × List Int64} {o : zE} : (zvA1 v Vs k T o).2.length ≤ T.2.length + 2 := by
  unfold zvA1
  split
  · dsimp only
    rw [List.length_append]
    have := zanL_le T.1 (zeO o) (zvRes v Vs o)
    omega
  · omega
theorem l_vla {k cap1 cap2 : Nat} {dr : Int32} {Lf Vs : List zE} (hr : zVr v fi sz gr) (hk : k < 8) (hLl : Lf.length ≤ 240) (hVl : Vs.length ≤ 240) : ∀ (n j : Nat) (T : (Nat → Int64) × List Int64) (h : xH) (N c s : Nat), j + n = Lf.length → T.2.length + 2 * n < 190000 → zVo h 8 v true fi sz gr dr [.inr (36, v), .inr (38, v), .inr (40, v)] → zAL h 36 v cap1 (zNm Lf) → zAL h 38 v cap2 (zNm Vs) → zKs h Lf → zKs h Vs → zRes h 21 v 240 T.1 → zOut h N T.2 →
    (∀ h1 N1 c1 s1, zRes h1 21 v 240 (zvAn v Vs k (Lf.drop j) T).1 → zOut h1 N1 (zvAn v Vs k (Lf.drop j) T).2 → zFt v h h1 → zCo N c s N1 c1 s1 → Q (.inl none) c1 s1 h1) → zX (d + 5) 67 2 [(0, .inr (20, v)), (1, zi (k : Int)), (2, zi (j : Int))] [] c s h Q := by
  obtain ⟨r1, r2, r3, r4⟩ := id hr
  have hll : (zNm Lf).length = Lf.length := List.length_map _
  intro n
  induction n with
  | zero =>
    intro j T h N c s hj ho hV hA hB hkL hkV hR hO q
    refine r_vlae (d := d + 4) (Lf := Lf) (Vs := []) (cap2 := 0) hr r1 r3 r4 (by omega) (by omega) hV hA (q h N c s ?_ ?_ (fun _ _ _ => rfl) zCo.rf)
    · rw [List.drop_of_length_le (by omega)]; exact hR
    · rw [List.drop_of_length_le (by omega)]; exact hO
  | succ n ih =>
    intro j T h N c s hj ho hV hA hB hkL hkV hR hO q
    have hlt : j < Lf.length := by omega
    have hx := List.getElem?_eq_getElem hlt
    obtain ⟨hP, hp⟩ := hkL _ (List.getElem_mem hlt)
    obtain ⟨o1, o2, o3, o4, o5, o6⟩ := id hP
    have stp : zvAn v Vs k (Lf.drop j) T = zvAn v Vs k (Lf.drop (j + 1)) (zvA1 v Vs k T Lf[j]) := by
      rw [List.drop_eq_getElem_cons hlt]
      rfl
    rw [stp] at q
    have hc := zvA1_len (v := v) (Vs := Vs) (k := k) (T := T) (o := Lf[j])
    have no : ¬ (zeK Lf[j] = k ∧ ¬ T.1 (zeO Lf[j]) = 0) → zX (d + 5) 67 2 [(0, .inr (20, v)), (1, zi (k : Int)), (2, zi ((j : Int) + 1))] [] c s h Q := fun z => by
      rw [show zvA1 v Vs k T Lf[j] = T from if_neg z] at q
      exact ih (j + 1) T h N c s (by omega) (by omega) hV hA hB hkL hkV hR hO q
    refine r_vla (o := Lf[j]) (Lf := Lf) (Vs := Vs) hr r1 r3 r4 hP o2 o3 o4 o6 o5 (zbi_r _) (zbi_r _) hVl hkV hk (by omega) (by omega) (zmap_at hx) (by omega) hV hp hA hB hR hO (fun z => no (fun y => z (by omega))) (fun _ z => no (fun y => y.2 z)) (fun z z2 N1 c1 s1 hb h1 a1 a2 a3 => ?_)
    have hx1 : zvA1 v Vs k T Lf[j] = _ := if_pos ⟨by omega, z2⟩
    have hF : zFv v h h1 := fun a b hn => a3 a b (by omega)
    exact ih (j + 1) (zvA1 v Vs k T Lf[j]) h1 N1 c1 s1 (by omega) (by omega) ((a3 _ _ (by omega)).trans hV) (hA.fr (fun a b z => a3 a b (by omega))) (hB.fr (fun a b z => a3 a b (by omega))) (hkL.fr hF) (hkV.fr hF) (by rw [hx1]; exact a1) (by rw [hx1]; exact a2) (fun h2 N2 c2 s2 b1 b2 b3 b4 => q h2 N2 c2 s2 b1 b2 (fun a b hn => (b3 a b hn).trans (a3 a b hn)) (hb.tr b4))
theorem s_vla {k cap1 cap2 N c s : Nat} {dr : Int32} {h : xH} {Lf Vs : List zE} {fa : Nat → Int64} {out : List Int64} (hr : zVr v fi sz gr) (hk : k < 8) (hLl : Lf.length ≤ 240) (hVl : Vs.length ≤ 240) (ho : out.length < 180000) (hV : zVo h 8 v true fi sz gr dr [.inr (36, v), .inr (38, v), .inr (40, v)]) (hA : zAL h 36 v cap1 (zNm Lf)) (hB : zAL h 38 v cap2 (zNm Vs)) (hkL : zKs h Lf) (hkV : zKs h Vs) (hR : zRes h 21 v 240 fa) (hO : zOut h N out)
    (q : ∀ h1 N1 c1 s1, zRes h1 21 v 240 (zvAn v Vs k Lf (fa, out)).1 → zOut h1 N1 (zvAn v Vs k Lf (fa, out)).2 → zFt v h h1 → zCo N c s N1 c1 s1 → Q (.inl none) c1 s1 h1) : zX (d + 5) 67 0 [(0, .inr (20, v)), (1, zi (k : Int))] [] c s h Q := by
  obtain ⟨r1, r2, r3, r4⟩ := id hr
  refine r_vla0 (d := d + 5) hr r1 r3 r4 hV ?_
  exact l_vla hr hk hLl hVl Lf.length 0 (fa, out) h N c s (by omega) (by dsimp only; omega) hV hA hB hkL hkV hR hO (by rw [List.drop_zero]; exact q)
/-- does one come sooner than the one found so far -/
def zvSo (b : Option zE) (o : zE) : Bool := match b with
  | none => true
  | some e => decide (zeT o < zeT e) || (decide (zeT o = zeT e) && decide (zeK o < zeK e))
def zvN1 (m : Int) (fa : Nat → Int64) (b : Option zE) (o : zE) : Option zE := if (zeT o : Int) < m ∧ fa (zeO o) = 0 ∧ zvSo b o = true then some o else b
/-- the left row that is told next -/
def zvNext (m : Int) (fa : Nat → Int64) (L : List zE) : Option zE := L.foldl (zvN1 m fa) none
theorem zvNext_mem {m : Int} {fa : Nat → Int64} {L : List zE} {e : zE} (h : zvNext m fa L = some e) : e ∈ L ∧ (zeT e : Int) < m ∧ fa (zeO e) = 0 := by
  have key : ∀ (L : List zE) (b : Option zE), L.foldl (zvN1 m fa) b = some e → b = some e ∨ e ∈ L ∧ (zeT e : Int) < m ∧ fa (zeO e) = 0 := by
    intro L
    induction L with
    | nil => intro b hb; exact Or.inl hb
    | cons o r ih =>
      intro b hb
      rcases ih _ hb with h1 | h1
      · unfold zvN1 at h1
        split at h1
        next z =>
          cases h1
          exact Or.inr ⟨List.mem_cons_self, z.1, z.2.1⟩
        next => exact Or.inl h1
      · exact Or.inr ⟨List.mem_cons_of_mem _ h1.1, h1.2⟩
  rcases key L none h with h1 | h1
  · cases h1
  · exact h1
theorem l_next {cap c s : Nat} {m : Int} {dr : Int32} {L : List zE} {fa : Nat → Int64} {h : xH} (hr : zVr v fi sz gr) (hm : -1 ≤ m ∧ m < 1000) (hL : L.length ≤ 240) (hV : zVo h 8 v true fi sz gr dr [.inr (36, v), .inr (38, v), .inr (40, v)]) (hA : zAL h 36 v cap (zNm L)) (hks : zKs h L) (hR : zRes h 21 v 240 fa) : ∀ (n j : Nat) (b : Option zE), j + n = L.length → (∀ e, b = some e → zEr e ∧ zEn h e) →
    Q (.inl (some (zob ((L.drop j).foldl (zvN1 m fa) b)))) c s h → zX (d + 3) 69 4 [(0, .inr (20, v)), (1, zi m), (2, zob b), (3, zi (j : Int))] [] c s h Q := by
  obtain ⟨r1, r2, r3, r4⟩ := id hr
  have hll : (zNm L).length = L.length := List.length_map _
  intro n
  induction n with
  | zero =>
    intro j b hj hb q
    rw [List.drop_of_length_le (by omega)] at q
    cases b with
    | none => exact r_vne0 (d := d + 2) (Lf := L) (Vs := []) (cap2 := 0) hr r1 r3 r4 hm (by omega) (by omega) hV hA q
    | some e => exact r_vne1 (d := d + 2) (Lf := L) (Vs := []) (cap2 := 0) hr r1 r3 r4 hm (by omega) (by omega) hV hA q
  | succ n ih =>
    intro j b hj hb q
    have hlt : j < L.length := by omega
    have hx := List.getElem?_eq_getElem hlt
    obtain ⟨hP, hp⟩ := hks _ (List.getElem_mem hlt)
    obtain ⟨o1, o2, o3, o4, o5, o6⟩ := id hP
    rw [List.drop_eq_getElem_cons hlt, List.foldl_cons] at q
    have no : ¬ ((zeT L[j] : Int) < m ∧ fa (zeO L[j]) = 0 ∧ zvSo b L[j] = true) → zX (d + 3) 69 4 [(0, .inr (20, v)), (1, zi m), (2, zob b), (3, zi ((j : Int) + 1))] [] c s h Q := fun z => by
      rw [show zvN1 m fa b L[j] = b from if_neg z] at q
      exact ih (j + 1) b (by omega) hb q
    have ys : ((zeT L[j] : Int) < m ∧ fa (zeO L[j]) = 0 ∧ zvSo b L[j] = true) → zX (d + 3) 69 4 [(0, .inr (20, v)), (1, zi m), (2, .inr (8, zeN L[j])), (3, zi ((j : Int) + 1))] [] c s h Q := fun z => by
      rw [show zvN1 m fa b L[j] = some L[j] from if_pos z] at q
      exact ih (j + 1) (some L[j]) (by omega) (fun e he => by cases he; exact ⟨hP, hp⟩) q
    cases b with
    | none =>
      exact r_vnn (o := L[j]) (Lf := L) (Vs := []) (cap2 := 0) hr r1 r3 r4 hP o2 o3 o4 o6 o5 (zbi_r _) (zbi_r _) hm (by omega) (by omega) (zmap_at hx) hV hp hA hR (fun z => no (fun y => by omega)) (fun z1 z2 => ys ⟨z1, z2, rfl⟩) (fun _ z => no (fun y => z y.2.1))
    | some e =>
      obtain ⟨hE, he⟩ := hb e rfl
      obtain ⟨e1, e2, e3, e4, e5, e6⟩ := id hE
      have so : zvSo (some e) L[j] = (decide (zeT L[j] < zeT e) || (decide (zeT L[j] = zeT e) && decide (zeK L[j] < zeK e))) := rfl
      refine r_vns (e := e) (o := L[j]) (Lf := L) (Vs := []) (cap2 := 0) hr r1 r3 r4 hE e2 e3 e4 e6 e5 (zbi_r _) (zbi_r _) hP o2 o3 o4 o6 o5 (zbi_r _) (zbi_r _) hm (by omega) (by omega) (zmap_at hx) hV he hp hA hR (fun z => no (fun y => by omega)) (fun z1 z2 z3 => ys ⟨z1, z2, ?_⟩) (fun _ _ z3 z4 => no (fun y => ?_)) (fun _ _ z3 z4 z5 => no (fun y => ?_)) (fun z1 z2 z3 z4 z5 => ys ⟨z1, z2, ?_⟩) (fun _ z => no (fun y => z y.2.1))
      · rw [so, decide_eq_true (show zeT L[j] < zeT e by omega)]
        rfl
      · have y3 := y.2.2
        rw [so, decide_eq_false (show ¬ zeT L[j] < zeT e by omega), decide_eq_false (show ¬ zeT L[j] = zeT e by omega)] at y3
        cases y3
      · have y3 := y.2.2
        rw [so, decide_eq_false (show ¬ zeT L[j] < zeT e by omega), decide_eq_false (show ¬ zeK L[j] < zeK e by omega)] at y3
        simp at y3
      · rw [so, decide_eq_true (show zeT L[j] = zeT e by omega), decide_eq_true (show zeK L[j] < zeK e by omega)]
        simp
theorem s_next {cap c s : Nat} {m : Int} {dr : Int32} {L : List zE} {fa : Nat → Int64} {h : xH} (hr : zVr v fi sz gr) (hm : -1 ≤ m ∧ m < 1000) (hL : L.length ≤ 240) (hV : zVo h 8 v true fi sz gr dr [.inr (36, v), .inr (38, v), .inr (40, v)]) (hA : zAL h 36 v cap (zNm L)) (hks : zKs h L) (hR : zRes h 21 v 240 fa)
    (q0 : zvNext m fa L = none → Q (.inl (some (.inl .null))) c s h) (q1 : ∀ e, zvNext m fa L = some e → zEr e → zEn h e → Q (.inl (some (.inr (8, zeN e)))) c s h) : zX (d + 3) 69 0 [(0, .inr (20, v)), (1, zi m)] [] c s h Q := by
  obtain ⟨r1, r2, r3, r4⟩ := id hr
  refine r_vn0 (d := d + 3) hr r1 r3 r4 hm hV ?_
  refine l_next hr hm hL hV hA hks hR L.length 0 none (by omega) (fun e he => by cases he) ?_
  rw [List.drop_zero]
  show Q (.inl (some (zob (zvNext m fa L)))) c s h
  cases hb : zvNext m fa L with
  | none => exact q0 hb
  | some e => exact q1 e hb (hks e (zvNext_mem hb).1).1 (hks e (zvNext_mem hb).1).2
end ZZ77
